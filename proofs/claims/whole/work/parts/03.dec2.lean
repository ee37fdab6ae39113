theorem dX5_startAnew_32 : decode cX5_startAnew 32 = .ok (.return_, 1) := by decide +kernel
theorem dX5_has_0 : decode cX5_has 0 = .ok (.iload_n 1, 1) := by decide +kernel
theorem dX5_has_1 : decode cX5_has 1 = .ok (.iconst 0, 1) := by decide +kernel
theorem dX5_has_2 : decode cX5_has 2 = .ok (.aload_n 0, 1) := by decide +kernel
theorem dX5_has_3 : decode cX5_has 3 = .ok (.getfield 28, 3) := by decide +kernel
theorem dX5_has_6 : decode cX5_has 6 = .ok (.iconst 1, 1) := by decide +kernel
theorem dX5_has_7 : decode cX5_has 7 = .ok (.isub, 1) := by decide +kernel
theorem dX5_has_8 : decode cX5_has 8 = .ok (.invokestatic 41, 3) := by decide +kernel
theorem dX5_has_11 : decode cX5_has 11 = .ok (.ireturn, 1) := by decide +kernel
theorem dX5_holds_0 : decode cX5_holds 0 = .ok (.iload_n 2, 1) := by decide +kernel
theorem dX5_holds_1 : decode cX5_holds 1 = .ok (.aload_n 0, 1) := by decide +kernel
theorem dX5_holds_2 : decode cX5_holds 2 = .ok (.getfield 21, 3) := by decide +kernel
theorem dX5_holds_5 : decode cX5_holds 5 = .ok (.aload_n 0, 1) := by decide +kernel
theorem dX5_holds_6 : decode cX5_holds 6 = .ok (.getfield 21, 3) := by decide +kernel
theorem dX5_holds_9 : decode cX5_holds 9 = .ok (.aload_n 0, 1) := by decide +kernel
theorem dX5_holds_10 : decode cX5_holds 10 = .ok (.getfield 25, 3) := by decide +kernel
theorem dX5_holds_13 : decode cX5_holds 13 = .ok (.iadd, 1) := by decide +kernel
theorem dX5_holds_14 : decode cX5_holds 14 = .ok (.invokestatic 41, 3) := by decide +kernel
theorem dX5_holds_17 : decode cX5_holds 17 = .ok (.ifCond .eq 19, 3) := by decide +kernel
theorem dX5_holds_20 : decode cX5_holds 20 = .ok (.iconst 2, 1) := by decide +kernel
theorem dX5_holds_21 : decode cX5_holds 21 = .ok (.iload_n 3, 1) := by decide +kernel
theorem dX5_holds_22 : decode cX5_holds 22 = .ok (.imul, 1) := by decide +kernel
theorem dX5_holds_23 : decode cX5_holds 23 = .ok (.aload_n 0, 1) := by decide +kernel
theorem dX5_holds_24 : decode cX5_holds 24 = .ok (.getfield 9, 3) := by decide +kernel
theorem dX5_holds_27 : decode cX5_holds 27 = .ok (.iload_n 1, 1) := by decide +kernel
theorem dX5_holds_28 : decode cX5_holds 28 = .ok (.iaload, 1) := by decide +kernel
theorem dX5_holds_29 : decode cX5_holds 29 = .ok (.if_icmp .lt 7, 3) := by decide +kernel
theorem dX5_holds_32 : decode cX5_holds 32 = .ok (.iconst 1, 1) := by decide +kernel
theorem dX5_holds_33 : decode cX5_holds 33 = .ok (.goto 4, 3) := by decide +kernel
theorem dX5_holds_36 : decode cX5_holds 36 = .ok (.iconst 0, 1) := by decide +kernel
theorem dX5_holds_37 : decode cX5_holds 37 = .ok (.ireturn, 1) := by decide +kernel
theorem dX5_addPerson_0 : decode cX5_addPerson 0 = .ok (.aload_n 0, 1) := by decide +kernel
theorem dX5_addPerson_1 : decode cX5_addPerson 1 = .ok (.getfield 28, 3) := by decide +kernel
theorem dX5_addPerson_4 : decode cX5_addPerson 4 = .ok (.bipush 6, 2) := by decide +kernel
theorem dX5_addPerson_6 : decode cX5_addPerson 6 = .ok (.if_icmp .ge 33, 3) := by decide +kernel
theorem dX5_addPerson_9 : decode cX5_addPerson 9 = .ok (.aload_n 0, 1) := by decide +kernel
theorem dX5_addPerson_10 : decode cX5_addPerson 10 = .ok (.getfield 9, 3) := by decide +kernel
theorem dX5_addPerson_13 : decode cX5_addPerson 13 = .ok (.aload_n 0, 1) := by decide +kernel
theorem dX5_addPerson_14 : decode cX5_addPerson 14 = .ok (.getfield 28, 3) := by decide +kernel
theorem dX5_addPerson_17 : decode cX5_addPerson 17 = .ok (.iload_n 1, 1) := by decide +kernel
theorem dX5_addPerson_18 : decode cX5_addPerson 18 = .ok (.iastore, 1) := by decide +kernel
theorem dX5_addPerson_19 : decode cX5_addPerson 19 = .ok (.aload_n 0, 1) := by decide +kernel
theorem dX5_addPerson_20 : decode cX5_addPerson 20 = .ok (.getfield 15, 3) := by decide +kernel
theorem dX5_addPerson_23 : decode cX5_addPerson 23 = .ok (.aload_n 0, 1) := by decide +kernel
theorem dX5_addPerson_24 : decode cX5_addPerson 24 = .ok (.getfield 28, 3) := by decide +kernel
theorem dX5_addPerson_27 : decode cX5_addPerson 27 = .ok (.iload_n 2, 1) := by decide +kernel
theorem dX5_addPerson_28 : decode cX5_addPerson 28 = .ok (.iastore, 1) := by decide +kernel
theorem dX5_addPerson_29 : decode cX5_addPerson 29 = .ok (.aload_n 0, 1) := by decide +kernel
theorem dX5_addPerson_30 : decode cX5_addPerson 30 = .ok (.dup, 1) := by decide +kernel
theorem dX5_addPerson_31 : decode cX5_addPerson 31 = .ok (.getfield 28, 3) := by decide +kernel
theorem dX5_addPerson_34 : decode cX5_addPerson 34 = .ok (.iconst 1, 1) := by decide +kernel
theorem dX5_addPerson_35 : decode cX5_addPerson 35 = .ok (.iadd, 1) := by decide +kernel
theorem dX5_addPerson_36 : decode cX5_addPerson 36 = .ok (.putfield 28, 3) := by decide +kernel
theorem dX5_addPerson_39 : decode cX5_addPerson 39 = .ok (.return_, 1) := by decide +kernel
theorem dX5_addRows_0 : decode cX5_addRows 0 = .ok (.iconst 0, 1) := by decide +kernel
theorem dX5_addRows_1 : decode cX5_addRows 1 = .ok (.istore_n 3, 1) := by decide +kernel
theorem dX5_addRows_2 : decode cX5_addRows 2 = .ok (.iload_n 3, 1) := by decide +kernel
theorem dX5_addRows_3 : decode cX5_addRows 3 = .ok (.iload_n 2, 1) := by decide +kernel
theorem dX5_addRows_4 : decode cX5_addRows 4 = .ok (.if_icmp .ge 38, 3) := by decide +kernel
theorem dX5_addRows_7 : decode cX5_addRows 7 = .ok (.aload_n 0, 1) := by decide +kernel
theorem dX5_addRows_8 : decode cX5_addRows 8 = .ok (.getfield 31, 3) := by decide +kernel
theorem dX5_addRows_11 : decode cX5_addRows 11 = .ok (.bipush 40, 2) := by decide +kernel
theorem dX5_addRows_13 : decode cX5_addRows 13 = .ok (.if_icmp .ge 29, 3) := by decide +kernel
theorem dX5_addRows_16 : decode cX5_addRows 16 = .ok (.aload_n 0, 1) := by decide +kernel
theorem dX5_addRows_17 : decode cX5_addRows 17 = .ok (.getfield 18, 3) := by decide +kernel
theorem dX5_addRows_20 : decode cX5_addRows 20 = .ok (.aload_n 0, 1) := by decide +kernel
theorem dX5_addRows_21 : decode cX5_addRows 21 = .ok (.getfield 31, 3) := by decide +kernel
theorem dX5_addRows_24 : decode cX5_addRows 24 = .ok (.iload_n 1, 1) := by decide +kernel
theorem dX5_addRows_25 : decode cX5_addRows 25 = .ok (.iastore, 1) := by decide +kernel
theorem dX5_addRows_26 : decode cX5_addRows 26 = .ok (.aload_n 0, 1) := by decide +kernel
theorem dX5_addRows_27 : decode cX5_addRows 27 = .ok (.dup, 1) := by decide +kernel
theorem dX5_addRows_28 : decode cX5_addRows 28 = .ok (.getfield 31, 3) := by decide +kernel
theorem dX5_addRows_31 : decode cX5_addRows 31 = .ok (.iconst 1, 1) := by decide +kernel
theorem dX5_addRows_32 : decode cX5_addRows 32 = .ok (.iadd, 1) := by decide +kernel
theorem dX5_addRows_33 : decode cX5_addRows 33 = .ok (.putfield 31, 3) := by decide +kernel
theorem dX5_addRows_36 : decode cX5_addRows 36 = .ok (.iinc 3 1, 3) := by decide +kernel
theorem dX5_addRows_39 : decode cX5_addRows 39 = .ok (.goto (-37), 3) := by decide +kernel
theorem dX5_addRows_42 : decode cX5_addRows 42 = .ok (.return_, 1) := by decide +kernel
theorem dX6_init_0 : decode cX6_init 0 = .ok (.aload_n 0, 1) := by decide +kernel
theorem dX6_init_1 : decode cX6_init 1 = .ok (.invokespecial 1, 3) := by decide +kernel
theorem dX6_init_4 : decode cX6_init 4 = .ok (.aload_n 0, 1) := by decide +kernel
theorem dX6_init_5 : decode cX6_init 5 = .ok (.new 7, 3) := by decide +kernel
theorem dX6_init_8 : decode cX6_init 8 = .ok (.dup, 1) := by decide +kernel
theorem dX6_init_9 : decode cX6_init 9 = .ok (.invokespecial 9, 3) := by decide +kernel
theorem dX6_init_12 : decode cX6_init 12 = .ok (.putfield 10, 3) := by decide +kernel
theorem dX6_init_15 : decode cX6_init 15 = .ok (.aload_n 0, 1) := by decide +kernel
theorem dX6_init_16 : decode cX6_init 16 = .ok (.new 16, 3) := by decide +kernel
theorem dX6_init_19 : decode cX6_init 19 = .ok (.dup, 1) := by decide +kernel
theorem dX6_init_20 : decode cX6_init 20 = .ok (.invokespecial 18, 3) := by decide +kernel
theorem dX6_init_23 : decode cX6_init 23 = .ok (.putfield 19, 3) := by decide +kernel
theorem dX6_init_26 : decode cX6_init 26 = .ok (.aload_n 0, 1) := by decide +kernel
theorem dX6_init_27 : decode cX6_init 27 = .ok (.iconst 2, 1) := by decide +kernel
theorem dX6_init_28 : decode cX6_init 28 = .ok (.anewarray 16, 3) := by decide +kernel
theorem dX6_init_31 : decode cX6_init 31 = .ok (.putfield 23, 3) := by decide +kernel
theorem dX6_init_34 : decode cX6_init 34 = .ok (.iconst 0, 1) := by decide +kernel
theorem dX6_init_35 : decode cX6_init 35 = .ok (.istore_n 1, 1) := by decide +kernel
theorem dX6_init_36 : decode cX6_init 36 = .ok (.iload_n 1, 1) := by decide +kernel
theorem dX6_init_37 : decode cX6_init 37 = .ok (.iconst 2, 1) := by decide +kernel
theorem dX6_init_38 : decode cX6_init 38 = .ok (.if_icmp .ge 22, 3) := by decide +kernel
theorem dX6_init_41 : decode cX6_init 41 = .ok (.aload_n 0, 1) := by decide +kernel
theorem dX6_init_42 : decode cX6_init 42 = .ok (.getfield 23, 3) := by decide +kernel
theorem dX6_init_45 : decode cX6_init 45 = .ok (.iload_n 1, 1) := by decide +kernel
theorem dX6_init_46 : decode cX6_init 46 = .ok (.new 16, 3) := by decide +kernel
theorem dX6_init_49 : decode cX6_init 49 = .ok (.dup, 1) := by decide +kernel
theorem dX6_init_50 : decode cX6_init 50 = .ok (.invokespecial 18, 3) := by decide +kernel
theorem dX6_init_53 : decode cX6_init 53 = .ok (.aastore, 1) := by decide +kernel
theorem dX6_init_54 : decode cX6_init 54 = .ok (.iinc 1 1, 3) := by decide +kernel
theorem dX6_init_57 : decode cX6_init 57 = .ok (.goto (-21), 3) := by decide +kernel
theorem dX6_init_60 : decode cX6_init 60 = .ok (.aload_n 0, 1) := by decide +kernel
theorem dX6_init_61 : decode cX6_init 61 = .ok (.iconst 2, 1) := by decide +kernel
theorem dX6_init_62 : decode cX6_init 62 = .ok (.newarray .boolean, 2) := by decide +kernel
theorem dX6_init_64 : decode cX6_init 64 = .ok (.putfield 27, 3) := by decide +kernel
theorem dX6_init_67 : decode cX6_init 67 = .ok (.aload_n 0, 1) := by decide +kernel
theorem dX6_init_68 : decode cX6_init 68 = .ok (.new 31, 3) := by decide +kernel
theorem dX6_init_71 : decode cX6_init 71 = .ok (.dup, 1) := by decide +kernel
theorem dX6_init_72 : decode cX6_init 72 = .ok (.invokespecial 33, 3) := by decide +kernel
theorem dX6_init_75 : decode cX6_init 75 = .ok (.putfield 34, 3) := by decide +kernel
theorem dX6_init_78 : decode cX6_init 78 = .ok (.aload_n 0, 1) := by decide +kernel
theorem dX6_init_79 : decode cX6_init 79 = .ok (.new 38, 3) := by decide +kernel
theorem dX6_init_82 : decode cX6_init 82 = .ok (.dup, 1) := by decide +kernel
theorem dX6_init_83 : decode cX6_init 83 = .ok (.invokespecial 40, 3) := by decide +kernel
theorem dX6_init_86 : decode cX6_init 86 = .ok (.putfield 41, 3) := by decide +kernel
theorem dX6_init_89 : decode cX6_init 89 = .ok (.aload_n 0, 1) := by decide +kernel
theorem dX6_init_90 : decode cX6_init 90 = .ok (.new 45, 3) := by decide +kernel
theorem dX6_init_93 : decode cX6_init 93 = .ok (.dup, 1) := by decide +kernel
theorem dX6_init_94 : decode cX6_init 94 = .ok (.invokespecial 47, 3) := by decide +kernel
theorem dX6_init_97 : decode cX6_init 97 = .ok (.putfield 48, 3) := by decide +kernel
theorem dX6_init_100 : decode cX6_init 100 = .ok (.aload_n 0, 1) := by decide +kernel
theorem dX6_init_101 : decode cX6_init 101 = .ok (.new 45, 3) := by decide +kernel
theorem dX6_init_104 : decode cX6_init 104 = .ok (.dup, 1) := by decide +kernel
theorem dX6_init_105 : decode cX6_init 105 = .ok (.invokespecial 47, 3) := by decide +kernel
theorem dX6_init_108 : decode cX6_init 108 = .ok (.putfield 52, 3) := by decide +kernel
theorem dX6_init_111 : decode cX6_init 111 = .ok (.return_, 1) := by decide +kernel
theorem dX6_type_0 : decode cX6_type 0 = .ok (.iload_n 1, 1) := by decide +kernel
theorem dX6_type_1 : decode cX6_type 1 = .ok (.iconst 0, 1) := by decide +kernel
theorem dX6_type_2 : decode cX6_type 2 = .ok (.sipush 255, 3) := by decide +kernel
theorem dX6_type_5 : decode cX6_type 5 = .ok (.invokestatic 55, 3) := by decide +kernel
theorem dX6_type_8 : decode cX6_type 8 = .ok (.ifCond .ne 5, 3) := by decide +kernel
theorem dX6_type_11 : decode cX6_type 11 = .ok (.iconst (-1), 1) := by decide +kernel
theorem dX6_type_12 : decode cX6_type 12 = .ok (.ireturn, 1) := by decide +kernel
theorem dX6_type_13 : decode cX6_type 13 = .ok (.aload_n 0, 1) := by decide +kernel
theorem dX6_type_14 : decode cX6_type 14 = .ok (.getfield 10, 3) := by decide +kernel
theorem dX6_type_17 : decode cX6_type 17 = .ok (.iload_n 1, 1) := by decide +kernel
theorem dX6_type_18 : decode cX6_type 18 = .ok (.invokevirtual 59, 3) := by decide +kernel
theorem dX6_type_21 : decode cX6_type 21 = .ok (.ifCond .eq 13, 3) := by decide +kernel
theorem dX6_type_24 : decode cX6_type 24 = .ok (.aload_n 0, 1) := by decide +kernel
theorem dX6_type_25 : decode cX6_type 25 = .ok (.getfield 10, 3) := by decide +kernel
theorem dX6_type_28 : decode cX6_type 28 = .ok (.getfield 63, 3) := by decide +kernel
theorem dX6_type_31 : decode cX6_type 31 = .ok (.goto 5, 3) := by decide +kernel
theorem dX6_type_34 : decode cX6_type 34 = .ok (.bipush (-3), 2) := by decide +kernel
theorem dX6_type_36 : decode cX6_type 36 = .ok (.ireturn, 1) := by decide +kernel
theorem dX6_clear_0 : decode cX6_clear 0 = .ok (.aload_n 0, 1) := by decide +kernel
theorem dX6_clear_1 : decode cX6_clear 1 = .ok (.getfield 10, 3) := by decide +kernel
theorem dX6_clear_4 : decode cX6_clear 4 = .ok (.invokevirtual 67, 3) := by decide +kernel
theorem dX6_clear_7 : decode cX6_clear 7 = .ok (.ireturn, 1) := by decide +kernel
theorem dX6_gorge_0 : decode cX6_gorge 0 = .ok (.aload_n 0, 1) := by decide +kernel
theorem dX6_gorge_1 : decode cX6_gorge 1 = .ok (.getfield 10, 3) := by decide +kernel
theorem dX6_gorge_4 : decode cX6_gorge 4 = .ok (.aload_n 0, 1) := by decide +kernel
theorem dX6_gorge_5 : decode cX6_gorge 5 = .ok (.getfield 52, 3) := by decide +kernel
theorem dX6_gorge_8 : decode cX6_gorge 8 = .ok (.invokevirtual 71, 3) := by decide +kernel
theorem dX6_gorge_11 : decode cX6_gorge 11 = .ok (.istore_n 1, 1) := by decide +kernel
theorem dX6_gorge_12 : decode cX6_gorge 12 = .ok (.iload_n 1, 1) := by decide +kernel
theorem dX6_gorge_13 : decode cX6_gorge 13 = .ok (.ifCond .ge 5, 3) := by decide +kernel
theorem dX6_gorge_16 : decode cX6_gorge 16 = .ok (.iload_n 1, 1) := by decide +kernel
theorem dX6_gorge_17 : decode cX6_gorge 17 = .ok (.ireturn, 1) := by decide +kernel
theorem dX6_gorge_18 : decode cX6_gorge 18 = .ok (.aload_n 0, 1) := by decide +kernel
theorem dX6_gorge_19 : decode cX6_gorge 19 = .ok (.getfield 48, 3) := by decide +kernel
theorem dX6_gorge_22 : decode cX6_gorge 22 = .ok (.astore_n 2, 1) := by decide +kernel
theorem dX6_gorge_23 : decode cX6_gorge 23 = .ok (.aload_n 0, 1) := by decide +kernel
theorem dX6_gorge_24 : decode cX6_gorge 24 = .ok (.aload_n 0, 1) := by decide +kernel
theorem dX6_gorge_25 : decode cX6_gorge 25 = .ok (.getfield 52, 3) := by decide +kernel
theorem dX6_gorge_28 : decode cX6_gorge 28 = .ok (.putfield 48, 3) := by decide +kernel
theorem dX6_gorge_31 : decode cX6_gorge 31 = .ok (.aload_n 0, 1) := by decide +kernel
theorem dX6_gorge_32 : decode cX6_gorge 32 = .ok (.aload_n 2, 1) := by decide +kernel
theorem dX6_gorge_33 : decode cX6_gorge 33 = .ok (.putfield 52, 3) := by decide +kernel
theorem dX6_gorge_36 : decode cX6_gorge 36 = .ok (.aload_n 0, 1) := by decide +kernel
theorem dX6_gorge_37 : decode cX6_gorge 37 = .ok (.getfield 10, 3) := by decide +kernel
theorem dX6_gorge_40 : decode cX6_gorge 40 = .ok (.invokevirtual 67, 3) := by decide +kernel
theorem dX6_gorge_43 : decode cX6_gorge 43 = .ok (.pop, 1) := by decide +kernel
theorem dX6_gorge_44 : decode cX6_gorge 44 = .ok (.aload_n 0, 1) := by decide +kernel
theorem dX6_gorge_45 : decode cX6_gorge 45 = .ok (.getfield 19, 3) := by decide +kernel
theorem dX6_gorge_48 : decode cX6_gorge 48 = .ok (.aload_n 0, 1) := by decide +kernel
theorem dX6_gorge_49 : decode cX6_gorge 49 = .ok (.getfield 48, 3) := by decide +kernel
theorem dX6_gorge_52 : decode cX6_gorge 52 = .ok (.invokevirtual 75, 3) := by decide +kernel
theorem dX6_gorge_55 : decode cX6_gorge 55 = .ok (.aload_n 0, 1) := by decide +kernel
theorem dX6_gorge_56 : decode cX6_gorge 56 = .ok (.getfield 34, 3) := by decide +kernel
theorem dX6_gorge_59 : decode cX6_gorge 59 = .ok (.invokevirtual 79, 3) := by decide +kernel
theorem dX6_gorge_62 : decode cX6_gorge 62 = .ok (.pop, 1) := by decide +kernel
theorem dX6_gorge_63 : decode cX6_gorge 63 = .ok (.iconst 0, 1) := by decide +kernel
theorem dX6_gorge_64 : decode cX6_gorge 64 = .ok (.istore_n 3, 1) := by decide +kernel
theorem dX6_gorge_65 : decode cX6_gorge 65 = .ok (.iload_n 3, 1) := by decide +kernel
theorem dX6_gorge_66 : decode cX6_gorge 66 = .ok (.iconst 2, 1) := by decide +kernel
theorem dX6_gorge_67 : decode cX6_gorge 67 = .ok (.if_icmp .ge 16, 3) := by decide +kernel
theorem dX6_gorge_70 : decode cX6_gorge 70 = .ok (.aload_n 0, 1) := by decide +kernel
theorem dX6_gorge_71 : decode cX6_gorge 71 = .ok (.getfield 27, 3) := by decide +kernel
theorem dX6_gorge_74 : decode cX6_gorge 74 = .ok (.iload_n 3, 1) := by decide +kernel
theorem dX6_gorge_75 : decode cX6_gorge 75 = .ok (.iconst 0, 1) := by decide +kernel
theorem dX6_gorge_76 : decode cX6_gorge 76 = .ok (.bastore, 1) := by decide +kernel
theorem dX6_gorge_77 : decode cX6_gorge 77 = .ok (.iinc 3 1, 3) := by decide +kernel
theorem dX6_gorge_80 : decode cX6_gorge 80 = .ok (.goto (-15), 3) := by decide +kernel
theorem dX6_gorge_83 : decode cX6_gorge 83 = .ok (.iload_n 1, 1) := by decide +kernel
theorem dX6_gorge_84 : decode cX6_gorge 84 = .ok (.ireturn, 1) := by decide +kernel
theorem dX6_person_0 : decode cX6_person 0 = .ok (.aload_n 0, 1) := by decide +kernel
theorem dX6_person_1 : decode cX6_person 1 = .ok (.getfield 48, 3) := by decide +kernel
theorem dX6_person_4 : decode cX6_person 4 = .ok (.iload_n 1, 1) := by decide +kernel
theorem dX6_person_5 : decode cX6_person 5 = .ok (.invokevirtual 80, 3) := by decide +kernel
theorem dX6_person_8 : decode cX6_person 8 = .ok (.ifCond .ne 5, 3) := by decide +kernel
theorem dX6_person_11 : decode cX6_person 11 = .ok (.iconst (-1), 1) := by decide +kernel
theorem dX6_person_12 : decode cX6_person 12 = .ok (.ireturn, 1) := by decide +kernel
theorem dX6_person_13 : decode cX6_person 13 = .ok (.iload_n 2, 1) := by decide +kernel
theorem dX6_person_14 : decode cX6_person 14 = .ok (.tableswitch 55 0 2 #[26, 36, 46], 26) := by decide +kernel
theorem dX6_person_40 : decode cX6_person 40 = .ok (.aload_n 0, 1) := by decide +kernel
theorem dX6_person_41 : decode cX6_person 41 = .ok (.getfield 48, 3) := by decide +kernel
theorem dX6_person_44 : decode cX6_person 44 = .ok (.getfield 83, 3) := by decide +kernel
theorem dX6_person_47 : decode cX6_person 47 = .ok (.iload_n 1, 1) := by decide +kernel
theorem dX6_person_48 : decode cX6_person 48 = .ok (.iaload, 1) := by decide +kernel
theorem dX6_person_49 : decode cX6_person 49 = .ok (.ireturn, 1) := by decide +kernel
theorem dX6_person_50 : decode cX6_person 50 = .ok (.aload_n 0, 1) := by decide +kernel
theorem dX6_person_51 : decode cX6_person 51 = .ok (.getfield 48, 3) := by decide +kernel
theorem dX6_person_54 : decode cX6_person 54 = .ok (.getfield 87, 3) := by decide +kernel
theorem dX6_person_57 : decode cX6_person 57 = .ok (.iload_n 1, 1) := by decide +kernel
theorem dX6_person_58 : decode cX6_person 58 = .ok (.iaload, 1) := by decide +kernel
theorem dX6_person_59 : decode cX6_person 59 = .ok (.ireturn, 1) := by decide +kernel
theorem dX6_person_60 : decode cX6_person 60 = .ok (.aload_n 0, 1) := by decide +kernel
theorem dX6_person_61 : decode cX6_person 61 = .ok (.invokevirtual 90, 3) := by decide +kernel
theorem dX6_person_64 : decode cX6_person 64 = .ok (.iload_n 1, 1) := by decide +kernel
theorem dX6_person_65 : decode cX6_person 65 = .ok (.invokevirtual 94, 3) := by decide +kernel
theorem dX6_person_68 : decode cX6_person 68 = .ok (.ireturn, 1) := by decide +kernel
theorem dX6_person_69 : decode cX6_person 69 = .ok (.iconst (-1), 1) := by decide +kernel
theorem dX6_person_70 : decode cX6_person 70 = .ok (.ireturn, 1) := by decide +kernel
theorem dX6_row_0 : decode cX6_row 0 = .ok (.aload_n 0, 1) := by decide +kernel
theorem dX6_row_1 : decode cX6_row 1 = .ok (.invokevirtual 90, 3) := by decide +kernel
theorem dX6_row_4 : decode cX6_row 4 = .ok (.astore_n 3, 1) := by decide +kernel
theorem dX6_row_5 : decode cX6_row 5 = .ok (.aload_n 3, 1) := by decide +kernel
theorem dX6_row_6 : decode cX6_row 6 = .ok (.iload_n 1, 1) := by decide +kernel
theorem dX6_row_7 : decode cX6_row 7 = .ok (.invokevirtual 100, 3) := by decide +kernel
theorem dX6_row_10 : decode cX6_row 10 = .ok (.ifCond .ne 5, 3) := by decide +kernel
theorem dX6_row_13 : decode cX6_row 13 = .ok (.iconst (-1), 1) := by decide +kernel
theorem dX6_row_14 : decode cX6_row 14 = .ok (.ireturn, 1) := by decide +kernel
theorem dX6_row_15 : decode cX6_row 15 = .ok (.iload_n 2, 1) := by decide +kernel
theorem dX6_row_16 : decode cX6_row 16 = .ok (.tableswitch 59 0 3 #[32, 39, 46, 53], 32) := by decide +kernel
theorem dX6_row_48 : decode cX6_row 48 = .ok (.aload_n 3, 1) := by decide +kernel
theorem dX6_row_49 : decode cX6_row 49 = .ok (.getfield 101, 3) := by decide +kernel
theorem dX6_row_52 : decode cX6_row 52 = .ok (.iload_n 1, 1) := by decide +kernel
theorem dX6_row_53 : decode cX6_row 53 = .ok (.iaload, 1) := by decide +kernel
theorem dX6_row_54 : decode cX6_row 54 = .ok (.ireturn, 1) := by decide +kernel
theorem dX6_row_55 : decode cX6_row 55 = .ok (.aload_n 3, 1) := by decide +kernel
theorem dX6_row_56 : decode cX6_row 56 = .ok (.getfield 104, 3) := by decide +kernel
theorem dX6_row_59 : decode cX6_row 59 = .ok (.iload_n 1, 1) := by decide +kernel
theorem dX6_row_60 : decode cX6_row 60 = .ok (.iaload, 1) := by decide +kernel
theorem dX6_row_61 : decode cX6_row 61 = .ok (.ireturn, 1) := by decide +kernel
theorem dX6_row_62 : decode cX6_row 62 = .ok (.aload_n 3, 1) := by decide +kernel
theorem dX6_row_63 : decode cX6_row 63 = .ok (.getfield 105, 3) := by decide +kernel
theorem dX6_row_66 : decode cX6_row 66 = .ok (.iload_n 1, 1) := by decide +kernel
theorem dX6_row_67 : decode cX6_row 67 = .ok (.iaload, 1) := by decide +kernel
theorem dX6_row_68 : decode cX6_row 68 = .ok (.ireturn, 1) := by decide +kernel
theorem dX6_row_69 : decode cX6_row 69 = .ok (.aload_n 3, 1) := by decide +kernel
theorem dX6_row_70 : decode cX6_row 70 = .ok (.iload_n 1, 1) := by decide +kernel
theorem dX6_row_71 : decode cX6_row 71 = .ok (.invokevirtual 108, 3) := by decide +kernel
theorem dX6_row_74 : decode cX6_row 74 = .ok (.ireturn, 1) := by decide +kernel
theorem dX6_row_75 : decode cX6_row 75 = .ok (.iconst (-1), 1) := by decide +kernel
theorem dX6_row_76 : decode cX6_row 76 = .ok (.ireturn, 1) := by decide +kernel
theorem dX6_crosses_0 : decode cX6_crosses 0 = .ok (.aload_n 0, 1) := by decide +kernel
theorem dX6_crosses_1 : decode cX6_crosses 1 = .ok (.getfield 48, 3) := by decide +kernel
theorem dX6_crosses_4 : decode cX6_crosses 4 = .ok (.iload_n 1, 1) := by decide +kernel
theorem dX6_crosses_5 : decode cX6_crosses 5 = .ok (.invokevirtual 80, 3) := by decide +kernel
theorem dX6_crosses_8 : decode cX6_crosses 8 = .ok (.ifCond .ne 5, 3) := by decide +kernel
theorem dX6_crosses_11 : decode cX6_crosses 11 = .ok (.iconst (-1), 1) := by decide +kernel
theorem dX6_crosses_12 : decode cX6_crosses 12 = .ok (.ireturn, 1) := by decide +kernel
theorem dX6_crosses_13 : decode cX6_crosses 13 = .ok (.aload_n 0, 1) := by decide +kernel
theorem dX6_crosses_14 : decode cX6_crosses 14 = .ok (.iload_n 1, 1) := by decide +kernel
theorem dX6_crosses_15 : decode cX6_crosses 15 = .ok (.invokevirtual 111, 3) := by decide +kernel
theorem dX6_crosses_18 : decode cX6_crosses 18 = .ok (.ifCond .ne 6, 3) := by decide +kernel
theorem dX6_crosses_21 : decode cX6_crosses 21 = .ok (.bipush (-2), 2) := by decide +kernel
theorem dX6_crosses_23 : decode cX6_crosses 23 = .ok (.ireturn, 1) := by decide +kernel
theorem dX6_crosses_24 : decode cX6_crosses 24 = .ok (.aload_n 0, 1) := by decide +kernel
theorem dX6_crosses_25 : decode cX6_crosses 25 = .ok (.getfield 19, 3) := by decide +kernel
theorem dX6_crosses_28 : decode cX6_crosses 28 = .ok (.invokevirtual 114, 3) := by decide +kernel
theorem dX6_crosses_31 : decode cX6_crosses 31 = .ok (.astore_n 2, 1) := by decide +kernel
theorem dX6_crosses_32 : decode cX6_crosses 32 = .ok (.aload_n 2, 1) := by decide +kernel
theorem dX6_crosses_33 : decode cX6_crosses 33 = .ok (.iload_n 1, 1) := by decide +kernel
theorem dX6_crosses_34 : decode cX6_crosses 34 = .ok (.aload_n 0, 1) := by decide +kernel
theorem dX6_crosses_35 : decode cX6_crosses 35 = .ok (.getfield 48, 3) := by decide +kernel
theorem dX6_crosses_38 : decode cX6_crosses 38 = .ok (.getfield 83, 3) := by decide +kernel
theorem dX6_crosses_41 : decode cX6_crosses 41 = .ok (.iload_n 1, 1) := by decide +kernel
theorem dX6_crosses_42 : decode cX6_crosses 42 = .ok (.iaload, 1) := by decide +kernel
theorem dX6_crosses_43 : decode cX6_crosses 43 = .ok (.aload_n 0, 1) := by decide +kernel
theorem dX6_crosses_44 : decode cX6_crosses 44 = .ok (.getfield 48, 3) := by decide +kernel
theorem dX6_crosses_47 : decode cX6_crosses 47 = .ok (.getfield 87, 3) := by decide +kernel
theorem dX6_crosses_50 : decode cX6_crosses 50 = .ok (.iload_n 1, 1) := by decide +kernel
theorem dX6_crosses_51 : decode cX6_crosses 51 = .ok (.iaload, 1) := by decide +kernel
theorem dX6_crosses_52 : decode cX6_crosses 52 = .ok (.invokevirtual 117, 3) := by decide +kernel
theorem dX6_crosses_55 : decode cX6_crosses 55 = .ok (.aload_n 2, 1) := by decide +kernel
theorem dX6_crosses_56 : decode cX6_crosses 56 = .ok (.getfield 121, 3) := by decide +kernel
theorem dX6_crosses_59 : decode cX6_crosses 59 = .ok (.ireturn, 1) := by decide +kernel
theorem dX6_turnsBack_0 : decode cX6_turnsBack 0 = .ok (.aload_n 0, 1) := by decide +kernel
theorem dX6_turnsBack_1 : decode cX6_turnsBack 1 = .ok (.invokevirtual 90, 3) := by decide +kernel
theorem dX6_turnsBack_4 : decode cX6_turnsBack 4 = .ok (.getfield 121, 3) := by decide +kernel
theorem dX6_turnsBack_7 : decode cX6_turnsBack 7 = .ok (.ifCond .ne 6, 3) := by decide +kernel
theorem dX6_turnsBack_10 : decode cX6_turnsBack 10 = .ok (.bipush (-2), 2) := by decide +kernel
theorem dX6_turnsBack_12 : decode cX6_turnsBack 12 = .ok (.ireturn, 1) := by decide +kernel
theorem dX6_turnsBack_13 : decode cX6_turnsBack 13 = .ok (.aload_n 0, 1) := by decide +kernel
theorem dX6_turnsBack_14 : decode cX6_turnsBack 14 = .ok (.getfield 19, 3) := by decide +kernel
theorem dX6_turnsBack_17 : decode cX6_turnsBack 17 = .ok (.invokevirtual 114, 3) := by decide +kernel
theorem dX6_turnsBack_20 : decode cX6_turnsBack 20 = .ok (.invokevirtual 124, 3) := by decide +kernel
theorem dX6_turnsBack_23 : decode cX6_turnsBack 23 = .ok (.ireturn, 1) := by decide +kernel
theorem dX6_drops_0 : decode cX6_drops 0 = .ok (.aload_n 0, 1) := by decide +kernel
theorem dX6_drops_1 : decode cX6_drops 1 = .ok (.invokevirtual 90, 3) := by decide +kernel
theorem dX6_drops_4 : decode cX6_drops 4 = .ok (.iload_n 1, 1) := by decide +kernel
theorem dX6_drops_5 : decode cX6_drops 5 = .ok (.invokevirtual 100, 3) := by decide +kernel
theorem dX6_drops_8 : decode cX6_drops 8 = .ok (.ifCond .ne 5, 3) := by decide +kernel
theorem dX6_drops_11 : decode cX6_drops 11 = .ok (.iconst (-1), 1) := by decide +kernel
theorem dX6_drops_12 : decode cX6_drops 12 = .ok (.ireturn, 1) := by decide +kernel
theorem dX6_drops_13 : decode cX6_drops 13 = .ok (.aload_n 0, 1) := by decide +kernel
theorem dX6_drops_14 : decode cX6_drops 14 = .ok (.getfield 19, 3) := by decide +kernel
theorem dX6_drops_17 : decode cX6_drops 17 = .ok (.invokevirtual 114, 3) := by decide +kernel
theorem dX6_drops_20 : decode cX6_drops 20 = .ok (.astore_n 2, 1) := by decide +kernel
theorem dX6_drops_21 : decode cX6_drops 21 = .ok (.aload_n 2, 1) := by decide +kernel
theorem dX6_drops_22 : decode cX6_drops 22 = .ok (.iload_n 1, 1) := by decide +kernel
theorem dX6_drops_23 : decode cX6_drops 23 = .ok (.iconst 1, 1) := by decide +kernel
theorem dX6_drops_24 : decode cX6_drops 24 = .ok (.invokevirtual 127, 3) := by decide +kernel
theorem dX6_drops_27 : decode cX6_drops 27 = .ok (.aload_n 2, 1) := by decide +kernel
theorem dX6_drops_28 : decode cX6_drops 28 = .ok (.getfield 121, 3) := by decide +kernel
theorem dX6_drops_31 : decode cX6_drops 31 = .ok (.ireturn, 1) := by decide +kernel
theorem dX6_draws_0 : decode cX6_draws 0 = .ok (.aload_n 0, 1) := by decide +kernel
theorem dX6_draws_1 : decode cX6_draws 1 = .ok (.invokevirtual 90, 3) := by decide +kernel
theorem dX6_draws_4 : decode cX6_draws 4 = .ok (.iload_n 1, 1) := by decide +kernel
theorem dX6_draws_5 : decode cX6_draws 5 = .ok (.invokevirtual 100, 3) := by decide +kernel
theorem dX6_draws_8 : decode cX6_draws 8 = .ok (.ifCond .ne 5, 3) := by decide +kernel
theorem dX6_draws_11 : decode cX6_draws 11 = .ok (.iconst (-1), 1) := by decide +kernel
theorem dX6_draws_12 : decode cX6_draws 12 = .ok (.ireturn, 1) := by decide +kernel
theorem dX6_draws_13 : decode cX6_draws 13 = .ok (.aload_n 0, 1) := by decide +kernel
theorem dX6_draws_14 : decode cX6_draws 14 = .ok (.invokevirtual 90, 3) := by decide +kernel
theorem dX6_draws_17 : decode cX6_draws 17 = .ok (.getfield 104, 3) := by decide +kernel
theorem dX6_draws_20 : decode cX6_draws 20 = .ok (.iload_n 1, 1) := by decide +kernel
theorem dX6_draws_21 : decode cX6_draws 21 = .ok (.iaload, 1) := by decide +kernel
theorem dX6_draws_22 : decode cX6_draws 22 = .ok (.ifCond .ne 6, 3) := by decide +kernel
theorem dX6_draws_25 : decode cX6_draws 25 = .ok (.bipush (-2), 2) := by decide +kernel
theorem dX6_draws_27 : decode cX6_draws 27 = .ok (.ireturn, 1) := by decide +kernel
theorem dX6_draws_28 : decode cX6_draws 28 = .ok (.aload_n 0, 1) := by decide +kernel
theorem dX6_draws_29 : decode cX6_draws 29 = .ok (.getfield 19, 3) := by decide +kernel
theorem dX6_draws_32 : decode cX6_draws 32 = .ok (.invokevirtual 114, 3) := by decide +kernel
theorem dX6_draws_35 : decode cX6_draws 35 = .ok (.astore_n 2, 1) := by decide +kernel
theorem dX6_draws_36 : decode cX6_draws 36 = .ok (.aload_n 2, 1) := by decide +kernel
theorem dX6_draws_37 : decode cX6_draws 37 = .ok (.getfield 104, 3) := by decide +kernel
theorem dX6_draws_40 : decode cX6_draws 40 = .ok (.iload_n 1, 1) := by decide +kernel
theorem dX6_draws_41 : decode cX6_draws 41 = .ok (.dup2, 1) := by decide +kernel
theorem dX6_draws_42 : decode cX6_draws 42 = .ok (.iaload, 1) := by decide +kernel
theorem dX6_draws_43 : decode cX6_draws 43 = .ok (.iconst 1, 1) := by decide +kernel
theorem dX6_draws_44 : decode cX6_draws 44 = .ok (.isub, 1) := by decide +kernel
theorem dX6_draws_45 : decode cX6_draws 45 = .ok (.iastore, 1) := by decide +kernel
theorem dX6_draws_46 : decode cX6_draws 46 = .ok (.aload_n 2, 1) := by decide +kernel
theorem dX6_draws_47 : decode cX6_draws 47 = .ok (.iload_n 1, 1) := by decide +kernel
theorem dX6_draws_48 : decode cX6_draws 48 = .ok (.invokevirtual 108, 3) := by decide +kernel
theorem dX6_draws_51 : decode cX6_draws 51 = .ok (.ireturn, 1) := by decide +kernel
theorem dX6_rains_0 : decode cX6_rains 0 = .ok (.iload_n 1, 1) := by decide +kernel
theorem dX6_rains_1 : decode cX6_rains 1 = .ok (.iconst 0, 1) := by decide +kernel
theorem dX6_rains_2 : decode cX6_rains 2 = .ok (.iconst 1, 1) := by decide +kernel
theorem dX6_rains_3 : decode cX6_rains 3 = .ok (.invokestatic 55, 3) := by decide +kernel
theorem dX6_rains_6 : decode cX6_rains 6 = .ok (.ifCond .ne 5, 3) := by decide +kernel
theorem dX6_rains_9 : decode cX6_rains 9 = .ok (.iconst (-1), 1) := by decide +kernel
theorem dX6_rains_10 : decode cX6_rains 10 = .ok (.ireturn, 1) := by decide +kernel
theorem dX6_rains_11 : decode cX6_rains 11 = .ok (.iload_n 1, 1) := by decide +kernel
theorem dX6_rains_12 : decode cX6_rains 12 = .ok (.iconst 1, 1) := by decide +kernel
theorem dX6_rains_13 : decode cX6_rains 13 = .ok (.if_icmp .ne 7, 3) := by decide +kernel
theorem dX6_rains_16 : decode cX6_rains 16 = .ok (.iconst 1, 1) := by decide +kernel
theorem dX6_rains_17 : decode cX6_rains 17 = .ok (.goto 4, 3) := by decide +kernel
theorem dX6_rains_20 : decode cX6_rains 20 = .ok (.iconst 0, 1) := by decide +kernel
theorem dX6_rains_21 : decode cX6_rains 21 = .ok (.istore_n 2, 1) := by decide +kernel
theorem dX6_rains_22 : decode cX6_rains 22 = .ok (.aload_n 0, 1) := by decide +kernel
theorem dX6_rains_23 : decode cX6_rains 23 = .ok (.invokevirtual 90, 3) := by decide +kernel
theorem dX6_rains_26 : decode cX6_rains 26 = .ok (.getfield 131, 3) := by decide +kernel
theorem dX6_rains_29 : decode cX6_rains 29 = .ok (.iload_n 2, 1) := by decide +kernel
theorem dX6_rains_30 : decode cX6_rains 30 = .ok (.if_icmp .ne 6, 3) := by decide +kernel
theorem dX6_rains_33 : decode cX6_rains 33 = .ok (.bipush (-2), 2) := by decide +kernel
theorem dX6_rains_35 : decode cX6_rains 35 = .ok (.ireturn, 1) := by decide +kernel
theorem dX6_rains_36 : decode cX6_rains 36 = .ok (.aload_n 0, 1) := by decide +kernel
theorem dX6_rains_37 : decode cX6_rains 37 = .ok (.getfield 19, 3) := by decide +kernel
theorem dX6_rains_40 : decode cX6_rains 40 = .ok (.invokevirtual 114, 3) := by decide +kernel
theorem dX6_rains_43 : decode cX6_rains 43 = .ok (.astore_n 3, 1) := by decide +kernel
theorem dX6_rains_44 : decode cX6_rains 44 = .ok (.aload_n 3, 1) := by decide +kernel
theorem dX6_rains_45 : decode cX6_rains 45 = .ok (.iload_n 2, 1) := by decide +kernel
theorem dX6_rains_46 : decode cX6_rains 46 = .ok (.putfield 131, 3) := by decide +kernel
theorem dX6_rains_49 : decode cX6_rains 49 = .ok (.aload_n 3, 1) := by decide +kernel
theorem dX6_rains_50 : decode cX6_rains 50 = .ok (.invokevirtual 135, 3) := by decide +kernel
theorem dX6_rains_53 : decode cX6_rains 53 = .ok (.ireturn, 1) := by decide +kernel
theorem dX6_year_0 : decode cX6_year 0 = .ok (.aload_n 0, 1) := by decide +kernel
theorem dX6_year_1 : decode cX6_year 1 = .ok (.invokevirtual 90, 3) := by decide +kernel
theorem dX6_year_4 : decode cX6_year 4 = .ok (.getfield 138, 3) := by decide +kernel
theorem dX6_year_7 : decode cX6_year 7 = .ok (.sipush 200, 3) := by decide +kernel
theorem dX6_year_10 : decode cX6_year 10 = .ok (.if_icmp .lt 6, 3) := by decide +kernel
theorem dX6_year_13 : decode cX6_year 13 = .ok (.bipush (-2), 2) := by decide +kernel
theorem dX6_year_15 : decode cX6_year 15 = .ok (.ireturn, 1) := by decide +kernel
theorem dX6_year_16 : decode cX6_year 16 = .ok (.aload_n 0, 1) := by decide +kernel
theorem dX6_year_17 : decode cX6_year 17 = .ok (.getfield 19, 3) := by decide +kernel
theorem dX6_year_20 : decode cX6_year 20 = .ok (.invokevirtual 114, 3) := by decide +kernel
theorem dX6_year_23 : decode cX6_year 23 = .ok (.astore_n 1, 1) := by decide +kernel
theorem dX6_year_24 : decode cX6_year 24 = .ok (.aload_n 1, 1) := by decide +kernel
theorem dX6_year_25 : decode cX6_year 25 = .ok (.invokevirtual 141, 3) := by decide +kernel
theorem dX6_year_28 : decode cX6_year 28 = .ok (.aload_n 1, 1) := by decide +kernel
theorem dX6_year_29 : decode cX6_year 29 = .ok (.invokevirtual 144, 3) := by decide +kernel
theorem dX6_year_32 : decode cX6_year 32 = .ok (.ireturn, 1) := by decide +kernel
theorem dX6_undo_0 : decode cX6_undo 0 = .ok (.aload_n 0, 1) := by decide +kernel
theorem dX6_undo_1 : decode cX6_undo 1 = .ok (.getfield 19, 3) := by decide +kernel
theorem dX6_undo_4 : decode cX6_undo 4 = .ok (.getfield 147, 3) := by decide +kernel
theorem dX6_undo_7 : decode cX6_undo 7 = .ok (.ifCond .ne 6, 3) := by decide +kernel
theorem dX6_undo_10 : decode cX6_undo 10 = .ok (.bipush (-2), 2) := by decide +kernel
theorem dX6_undo_12 : decode cX6_undo 12 = .ok (.ireturn, 1) := by decide +kernel
theorem dX6_undo_13 : decode cX6_undo 13 = .ok (.aload_n 0, 1) := by decide +kernel
theorem dX6_undo_14 : decode cX6_undo 14 = .ok (.getfield 19, 3) := by decide +kernel
theorem dX6_undo_17 : decode cX6_undo 17 = .ok (.invokevirtual 150, 3) := by decide +kernel
theorem dX6_undo_20 : decode cX6_undo 20 = .ok (.aload_n 0, 1) := by decide +kernel
theorem dX6_undo_21 : decode cX6_undo 21 = .ok (.getfield 19, 3) := by decide +kernel
theorem dX6_undo_24 : decode cX6_undo 24 = .ok (.getfield 147, 3) := by decide +kernel
theorem dX6_undo_27 : decode cX6_undo 27 = .ok (.ireturn, 1) := by decide +kernel
theorem dX6_now_0 : decode cX6_now 0 = .ok (.aload_n 0, 1) := by decide +kernel
theorem dX6_now_1 : decode cX6_now 1 = .ok (.invokevirtual 90, 3) := by decide +kernel
theorem dX6_now_4 : decode cX6_now 4 = .ok (.astore_n 2, 1) := by decide +kernel
theorem dX6_now_5 : decode cX6_now 5 = .ok (.iload_n 1, 1) := by decide +kernel
theorem dX6_now_6 : decode cX6_now 6 = .ok (.tableswitch 103 0 8 #[50, 55, 60, 65, 78, 83, 88, 93, 98], 50) := by decide +kernel
theorem dX6_now_56 : decode cX6_now 56 = .ok (.aload_n 2, 1) := by decide +kernel
theorem dX6_now_57 : decode cX6_now 57 = .ok (.getfield 138, 3) := by decide +kernel
theorem dX6_now_60 : decode cX6_now 60 = .ok (.ireturn, 1) := by decide +kernel
theorem dX6_now_61 : decode cX6_now 61 = .ok (.aload_n 2, 1) := by decide +kernel
theorem dX6_now_62 : decode cX6_now 62 = .ok (.getfield 121, 3) := by decide +kernel
theorem dX6_now_65 : decode cX6_now 65 = .ok (.ireturn, 1) := by decide +kernel
theorem dX6_now_66 : decode cX6_now 66 = .ok (.aload_n 2, 1) := by decide +kernel
theorem dX6_now_67 : decode cX6_now 67 = .ok (.invokevirtual 135, 3) := by decide +kernel
theorem dX6_now_70 : decode cX6_now 70 = .ok (.ireturn, 1) := by decide +kernel
theorem dX6_now_71 : decode cX6_now 71 = .ok (.aload_n 2, 1) := by decide +kernel
theorem dX6_now_72 : decode cX6_now 72 = .ok (.getfield 131, 3) := by decide +kernel
theorem dX6_now_75 : decode cX6_now 75 = .ok (.ifCond .eq 7, 3) := by decide +kernel
theorem dX6_now_78 : decode cX6_now 78 = .ok (.iconst 1, 1) := by decide +kernel
theorem dX6_now_79 : decode cX6_now 79 = .ok (.goto 4, 3) := by decide +kernel
theorem dX6_now_82 : decode cX6_now 82 = .ok (.iconst 0, 1) := by decide +kernel
theorem dX6_now_83 : decode cX6_now 83 = .ok (.ireturn, 1) := by decide +kernel
theorem dX6_now_84 : decode cX6_now 84 = .ok (.aload_n 2, 1) := by decide +kernel
theorem dX6_now_85 : decode cX6_now 85 = .ok (.invokevirtual 144, 3) := by decide +kernel
theorem dX6_now_88 : decode cX6_now 88 = .ok (.ireturn, 1) := by decide +kernel
theorem dX6_now_89 : decode cX6_now 89 = .ok (.aload_n 0, 1) := by decide +kernel
theorem dX6_now_90 : decode cX6_now 90 = .ok (.invokevirtual 153, 3) := by decide +kernel
theorem dX6_now_93 : decode cX6_now 93 = .ok (.ireturn, 1) := by decide +kernel
theorem dX6_now_94 : decode cX6_now 94 = .ok (.aload_n 2, 1) := by decide +kernel
theorem dX6_now_95 : decode cX6_now 95 = .ok (.invokevirtual 156, 3) := by decide +kernel
theorem dX6_now_98 : decode cX6_now 98 = .ok (.ireturn, 1) := by decide +kernel
theorem dX6_now_99 : decode cX6_now 99 = .ok (.aload_n 2, 1) := by decide +kernel
theorem dX6_now_100 : decode cX6_now 100 = .ok (.invokevirtual 159, 3) := by decide +kernel
theorem dX6_now_103 : decode cX6_now 103 = .ok (.ireturn, 1) := by decide +kernel
theorem dX6_now_104 : decode cX6_now 104 = .ok (.aload_n 2, 1) := by decide +kernel
theorem dX6_now_105 : decode cX6_now 105 = .ok (.invokevirtual 162, 3) := by decide +kernel
theorem dX6_now_108 : decode cX6_now 108 = .ok (.ireturn, 1) := by decide +kernel
theorem dX6_now_109 : decode cX6_now 109 = .ok (.iconst (-1), 1) := by decide +kernel
theorem dX6_now_110 : decode cX6_now 110 = .ok (.ireturn, 1) := by decide +kernel
theorem dX6_order_0 : decode cX6_order 0 = .ok (.iload_n 1, 1) := by decide +kernel
theorem dX6_order_1 : decode cX6_order 1 = .ok (.iconst (-1), 1) := by decide +kernel
theorem dX6_order_2 : decode cX6_order 2 = .ok (.if_icmp .eq 14, 3) := by decide +kernel
theorem dX6_order_5 : decode cX6_order 5 = .ok (.aload_n 0, 1) := by decide +kernel
theorem dX6_order_6 : decode cX6_order 6 = .ok (.getfield 48, 3) := by decide +kernel
theorem dX6_order_9 : decode cX6_order 9 = .ok (.iload_n 1, 1) := by decide +kernel
theorem dX6_order_10 : decode cX6_order 10 = .ok (.invokevirtual 80, 3) := by decide +kernel
theorem dX6_order_13 : decode cX6_order 13 = .ok (.ifCond .eq 14, 3) := by decide +kernel
theorem dX6_order_16 : decode cX6_order 16 = .ok (.aload_n 0, 1) := by decide +kernel
theorem dX6_order_17 : decode cX6_order 17 = .ok (.getfield 48, 3) := by decide +kernel
theorem dX6_order_20 : decode cX6_order 20 = .ok (.iload_n 2, 1) := by decide +kernel
theorem dX6_order_21 : decode cX6_order 21 = .ok (.invokevirtual 80, 3) := by decide +kernel
theorem dX6_order_24 : decode cX6_order 24 = .ok (.ifCond .ne 5, 3) := by decide +kernel
theorem dX6_order_27 : decode cX6_order 27 = .ok (.iconst (-1), 1) := by decide +kernel
theorem dX6_order_28 : decode cX6_order 28 = .ok (.ireturn, 1) := by decide +kernel
theorem dX6_order_29 : decode cX6_order 29 = .ok (.aload_n 0, 1) := by decide +kernel
theorem dX6_order_30 : decode cX6_order 30 = .ok (.getfield 41, 3) := by decide +kernel
theorem dX6_order_33 : decode cX6_order 33 = .ok (.aload_n 0, 1) := by decide +kernel
theorem dX6_order_34 : decode cX6_order 34 = .ok (.invokevirtual 90, 3) := by decide +kernel
theorem dX6_order_37 : decode cX6_order 37 = .ok (.invokevirtual 165, 3) := by decide +kernel
theorem dX6_order_40 : decode cX6_order 40 = .ok (.aload_n 0, 1) := by decide +kernel
theorem dX6_order_41 : decode cX6_order 41 = .ok (.getfield 41, 3) := by decide +kernel
theorem dX6_order_44 : decode cX6_order 44 = .ok (.aload_n 0, 1) := by decide +kernel
theorem dX6_order_45 : decode cX6_order 45 = .ok (.getfield 48, 3) := by decide +kernel
theorem dX6_order_48 : decode cX6_order 48 = .ok (.iload_n 1, 1) := by decide +kernel
theorem dX6_order_49 : decode cX6_order 49 = .ok (.invokevirtual 168, 3) := by decide +kernel
theorem dX6_order_52 : decode cX6_order 52 = .ok (.ifCond .eq 15, 3) := by decide +kernel
theorem dX6_order_55 : decode cX6_order 55 = .ok (.aload_n 0, 1) := by decide +kernel
theorem dX6_order_56 : decode cX6_order 56 = .ok (.getfield 41, 3) := by decide +kernel
theorem dX6_order_59 : decode cX6_order 59 = .ok (.getfield 172, 3) := by decide +kernel
theorem dX6_order_62 : decode cX6_order 62 = .ok (.iload_n 2, 1) := by decide +kernel
theorem dX6_order_63 : decode cX6_order 63 = .ok (.iaload, 1) := by decide +kernel
theorem dX6_order_64 : decode cX6_order 64 = .ok (.goto 5, 3) := by decide +kernel
theorem dX6_order_67 : decode cX6_order 67 = .ok (.bipush (-9), 2) := by decide +kernel
theorem dX6_order_69 : decode cX6_order 69 = .ok (.ireturn, 1) := by decide +kernel
theorem dX6_lastOne_0 : decode cX6_lastOne 0 = .ok (.aload_n 0, 1) := by decide +kernel
theorem dX6_lastOne_1 : decode cX6_lastOne 1 = .ok (.getfield 41, 3) := by decide +kernel
theorem dX6_lastOne_4 : decode cX6_lastOne 4 = .ok (.aload_n 0, 1) := by decide +kernel
theorem dX6_lastOne_5 : decode cX6_lastOne 5 = .ok (.invokevirtual 90, 3) := by decide +kernel
theorem dX6_lastOne_8 : decode cX6_lastOne 8 = .ok (.invokevirtual 165, 3) := by decide +kernel
theorem dX6_lastOne_11 : decode cX6_lastOne 11 = .ok (.iconst 0, 1) := by decide +kernel
theorem dX6_lastOne_12 : decode cX6_lastOne 12 = .ok (.istore_n 1, 1) := by decide +kernel
theorem dX6_lastOne_13 : decode cX6_lastOne 13 = .ok (.iload_n 1, 1) := by decide +kernel
theorem dX6_lastOne_14 : decode cX6_lastOne 14 = .ok (.aload_n 0, 1) := by decide +kernel
theorem dX6_lastOne_15 : decode cX6_lastOne 15 = .ok (.getfield 48, 3) := by decide +kernel
theorem dX6_lastOne_18 : decode cX6_lastOne 18 = .ok (.getfield 175, 3) := by decide +kernel
theorem dX6_lastOne_21 : decode cX6_lastOne 21 = .ok (.if_icmp .ge 26, 3) := by decide +kernel
theorem dX6_lastOne_24 : decode cX6_lastOne 24 = .ok (.aload_n 0, 1) := by decide +kernel
theorem dX6_lastOne_25 : decode cX6_lastOne 25 = .ok (.getfield 41, 3) := by decide +kernel
theorem dX6_lastOne_28 : decode cX6_lastOne 28 = .ok (.aload_n 0, 1) := by decide +kernel
theorem dX6_lastOne_29 : decode cX6_lastOne 29 = .ok (.getfield 48, 3) := by decide +kernel
theorem dX6_lastOne_32 : decode cX6_lastOne 32 = .ok (.iload_n 1, 1) := by decide +kernel
theorem dX6_lastOne_33 : decode cX6_lastOne 33 = .ok (.invokevirtual 178, 3) := by decide +kernel
theorem dX6_lastOne_36 : decode cX6_lastOne 36 = .ok (.ifCond .ne 5, 3) := by decide +kernel
theorem dX6_lastOne_39 : decode cX6_lastOne 39 = .ok (.iload_n 1, 1) := by decide +kernel
theorem dX6_lastOne_40 : decode cX6_lastOne 40 = .ok (.ireturn, 1) := by decide +kernel
theorem dX6_lastOne_41 : decode cX6_lastOne 41 = .ok (.iinc 1 1, 3) := by decide +kernel
theorem dX6_lastOne_44 : decode cX6_lastOne 44 = .ok (.goto (-31), 3) := by decide +kernel
theorem dX6_lastOne_47 : decode cX6_lastOne 47 = .ok (.bipush (-9), 2) := by decide +kernel
theorem dX6_lastOne_49 : decode cX6_lastOne 49 = .ok (.ireturn, 1) := by decide +kernel
theorem dX6_crossings_0 : decode cX6_crossings 0 = .ok (.aload_n 0, 1) := by decide +kernel
theorem dX6_crossings_1 : decode cX6_crossings 1 = .ok (.getfield 48, 3) := by decide +kernel
theorem dX6_crossings_4 : decode cX6_crossings 4 = .ok (.iload_n 1, 1) := by decide +kernel
theorem dX6_crossings_5 : decode cX6_crossings 5 = .ok (.invokevirtual 80, 3) := by decide +kernel
theorem dX6_crossings_8 : decode cX6_crossings 8 = .ok (.ifCond .ne 5, 3) := by decide +kernel
theorem dX6_crossings_11 : decode cX6_crossings 11 = .ok (.iconst (-1), 1) := by decide +kernel
theorem dX6_crossings_12 : decode cX6_crossings 12 = .ok (.ireturn, 1) := by decide +kernel
theorem dX6_crossings_13 : decode cX6_crossings 13 = .ok (.aload_n 0, 1) := by decide +kernel
theorem dX6_crossings_14 : decode cX6_crossings 14 = .ok (.getfield 41, 3) := by decide +kernel
theorem dX6_crossings_17 : decode cX6_crossings 17 = .ok (.aload_n 0, 1) := by decide +kernel
theorem dX6_crossings_18 : decode cX6_crossings 18 = .ok (.invokevirtual 90, 3) := by decide +kernel
theorem dX6_crossings_21 : decode cX6_crossings 21 = .ok (.invokevirtual 165, 3) := by decide +kernel
theorem dX6_crossings_24 : decode cX6_crossings 24 = .ok (.iconst 0, 1) := by decide +kernel
theorem dX6_crossings_25 : decode cX6_crossings 25 = .ok (.istore_n 2, 1) := by decide +kernel
theorem dX6_crossings_26 : decode cX6_crossings 26 = .ok (.iload_n 2, 1) := by decide +kernel
theorem dX6_crossings_27 : decode cX6_crossings 27 = .ok (.bipush 30, 2) := by decide +kernel
theorem dX6_crossings_29 : decode cX6_crossings 29 = .ok (.if_icmp .ge 24, 3) := by decide +kernel
theorem dX6_crossings_32 : decode cX6_crossings 32 = .ok (.aload_n 0, 1) := by decide +kernel
theorem dX6_crossings_33 : decode cX6_crossings 33 = .ok (.getfield 41, 3) := by decide +kernel
theorem dX6_crossings_36 : decode cX6_crossings 36 = .ok (.aload_n 0, 1) := by decide +kernel
theorem dX6_crossings_37 : decode cX6_crossings 37 = .ok (.getfield 48, 3) := by decide +kernel
theorem dX6_crossings_40 : decode cX6_crossings 40 = .ok (.iload_n 1, 1) := by decide +kernel
theorem dX6_crossings_41 : decode cX6_crossings 41 = .ok (.invokevirtual 178, 3) := by decide +kernel
theorem dX6_crossings_44 : decode cX6_crossings 44 = .ok (.ifCond .eq 9, 3) := by decide +kernel
theorem dX6_crossings_47 : decode cX6_crossings 47 = .ok (.iinc 2 1, 3) := by decide +kernel
theorem dX6_crossings_50 : decode cX6_crossings 50 = .ok (.goto (-24), 3) := by decide +kernel
theorem dX6_crossings_53 : decode cX6_crossings 53 = .ok (.iload_n 2, 1) := by decide +kernel
theorem dX6_crossings_54 : decode cX6_crossings 54 = .ok (.ireturn, 1) := by decide +kernel
theorem dX6_over_0 : decode cX6_over 0 = .ok (.aload_n 0, 1) := by decide +kernel
theorem dX6_over_1 : decode cX6_over 1 = .ok (.getfield 48, 3) := by decide +kernel
theorem dX6_over_4 : decode cX6_over 4 = .ok (.iload_n 1, 1) := by decide +kernel
theorem dX6_over_5 : decode cX6_over 5 = .ok (.invokevirtual 80, 3) := by decide +kernel
theorem dX6_over_8 : decode cX6_over 8 = .ok (.ifCond .ne 5, 3) := by decide +kernel
theorem dX6_over_11 : decode cX6_over 11 = .ok (.iconst (-1), 1) := by decide +kernel
theorem dX6_over_12 : decode cX6_over 12 = .ok (.ireturn, 1) := by decide +kernel
theorem dX6_over_13 : decode cX6_over 13 = .ok (.aload_n 0, 1) := by decide +kernel
theorem dX6_over_14 : decode cX6_over 14 = .ok (.invokevirtual 90, 3) := by decide +kernel
theorem dX6_over_17 : decode cX6_over 17 = .ok (.astore_n 2, 1) := by decide +kernel
theorem dX6_over_18 : decode cX6_over 18 = .ok (.iconst 0, 1) := by decide +kernel
theorem dX6_over_19 : decode cX6_over 19 = .ok (.istore_n 3, 1) := by decide +kernel
theorem dX6_over_20 : decode cX6_over 20 = .ok (.iload_n 3, 1) := by decide +kernel
theorem dX6_over_21 : decode cX6_over 21 = .ok (.bipush 60, 2) := by decide +kernel
theorem dX6_over_23 : decode cX6_over 23 = .ok (.if_icmp .gt 31, 3) := by decide +kernel
theorem dX6_over_26 : decode cX6_over 26 = .ok (.aload_n 0, 1) := by decide +kernel
theorem dX6_over_27 : decode cX6_over 27 = .ok (.getfield 48, 3) := by decide +kernel
theorem dX6_over_30 : decode cX6_over 30 = .ok (.iload_n 1, 1) := by decide +kernel
theorem dX6_over_31 : decode cX6_over 31 = .ok (.aload_n 2, 1) := by decide +kernel
theorem dX6_over_32 : decode cX6_over 32 = .ok (.invokevirtual 135, 3) := by decide +kernel
theorem dX6_over_35 : decode cX6_over 35 = .ok (.aload_n 2, 1) := by decide +kernel
theorem dX6_over_36 : decode cX6_over 36 = .ok (.iload_n 3, 1) := by decide +kernel
theorem dX6_over_37 : decode cX6_over 37 = .ok (.invokevirtual 181, 3) := by decide +kernel
theorem dX6_over_40 : decode cX6_over 40 = .ok (.invokevirtual 184, 3) := by decide +kernel
theorem dX6_over_43 : decode cX6_over 43 = .ok (.ifCond .ne 5, 3) := by decide +kernel
theorem dX6_over_46 : decode cX6_over 46 = .ok (.iload_n 3, 1) := by decide +kernel
theorem dX6_over_47 : decode cX6_over 47 = .ok (.ireturn, 1) := by decide +kernel
theorem dX6_over_48 : decode cX6_over 48 = .ok (.iinc 3 1, 3) := by decide +kernel
theorem dX6_over_51 : decode cX6_over 51 = .ok (.goto (-31), 3) := by decide +kernel
theorem dX6_over_54 : decode cX6_over 54 = .ok (.bipush (-9), 2) := by decide +kernel
theorem dX6_over_56 : decode cX6_over 56 = .ok (.ireturn, 1) := by decide +kernel
theorem dX6_mend_0 : decode cX6_mend 0 = .ok (.aload_n 0, 1) := by decide +kernel
theorem dX6_mend_1 : decode cX6_mend 1 = .ok (.getfield 48, 3) := by decide +kernel
theorem dX6_mend_4 : decode cX6_mend 4 = .ok (.iload_n 1, 1) := by decide +kernel
theorem dX6_mend_5 : decode cX6_mend 5 = .ok (.invokevirtual 80, 3) := by decide +kernel
theorem dX6_mend_8 : decode cX6_mend 8 = .ok (.ifCond .eq 12, 3) := by decide +kernel
theorem dX6_mend_11 : decode cX6_mend 11 = .ok (.iload_n 2, 1) := by decide +kernel
theorem dX6_mend_12 : decode cX6_mend 12 = .ok (.iconst 0, 1) := by decide +kernel
theorem dX6_mend_13 : decode cX6_mend 13 = .ok (.iconst 1, 1) := by decide +kernel
theorem dX6_mend_14 : decode cX6_mend 14 = .ok (.invokestatic 55, 3) := by decide +kernel
theorem dX6_mend_17 : decode cX6_mend 17 = .ok (.ifCond .ne 5, 3) := by decide +kernel
theorem dX6_mend_20 : decode cX6_mend 20 = .ok (.iconst (-1), 1) := by decide +kernel
theorem dX6_mend_21 : decode cX6_mend 21 = .ok (.ireturn, 1) := by decide +kernel
theorem dX6_mend_22 : decode cX6_mend 22 = .ok (.aload_n 0, 1) := by decide +kernel
theorem dX6_mend_23 : decode cX6_mend 23 = .ok (.invokevirtual 90, 3) := by decide +kernel
theorem dX6_mend_26 : decode cX6_mend 26 = .ok (.astore_n 3, 1) := by decide +kernel
theorem dX6_mend_27 : decode cX6_mend 27 = .ok (.aload_n 0, 1) := by decide +kernel
theorem dX6_mend_28 : decode cX6_mend 28 = .ok (.aload_n 3, 1) := by decide +kernel
theorem dX6_mend_29 : decode cX6_mend 29 = .ok (.invokevirtual 187, 3) := by decide +kernel
theorem dX6_mend_32 : decode cX6_mend 32 = .ok (.istore 4, 2) := by decide +kernel
theorem dX6_mend_34 : decode cX6_mend 34 = .ok (.aload_n 3, 1) := by decide +kernel
theorem dX6_mend_35 : decode cX6_mend 35 = .ok (.aload_n 3, 1) := by decide +kernel
theorem dX6_mend_36 : decode cX6_mend 36 = .ok (.getfield 121, 3) := by decide +kernel
theorem dX6_mend_39 : decode cX6_mend 39 = .ok (.iload 4, 2) := by decide +kernel
theorem dX6_mend_41 : decode cX6_mend 41 = .ok (.iadd, 1) := by decide +kernel
theorem dX6_mend_42 : decode cX6_mend 42 = .ok (.invokevirtual 191, 3) := by decide +kernel
theorem dX6_mend_45 : decode cX6_mend 45 = .ok (.aload_n 0, 1) := by decide +kernel
theorem dX6_mend_46 : decode cX6_mend 46 = .ok (.getfield 48, 3) := by decide +kernel
theorem dX6_mend_49 : decode cX6_mend 49 = .ok (.getfield 194, 3) := by decide +kernel
theorem dX6_mend_52 : decode cX6_mend 52 = .ok (.aload_n 0, 1) := by decide +kernel
theorem dX6_mend_53 : decode cX6_mend 53 = .ok (.getfield 48, 3) := by decide +kernel
theorem dX6_mend_56 : decode cX6_mend 56 = .ok (.getfield 197, 3) := by decide +kernel
theorem dX6_mend_59 : decode cX6_mend 59 = .ok (.iadd, 1) := by decide +kernel
theorem dX6_mend_60 : decode cX6_mend 60 = .ok (.if_icmp .le 6, 3) := by decide +kernel
theorem dX6_mend_63 : decode cX6_mend 63 = .ok (.bipush (-5), 2) := by decide +kernel
theorem dX6_mend_65 : decode cX6_mend 65 = .ok (.ireturn, 1) := by decide +kernel
theorem dX6_mend_66 : decode cX6_mend 66 = .ok (.aload_n 0, 1) := by decide +kernel
theorem dX6_mend_67 : decode cX6_mend 67 = .ok (.getfield 48, 3) := by decide +kernel
theorem dX6_mend_70 : decode cX6_mend 70 = .ok (.getfield 83, 3) := by decide +kernel
theorem dX6_mend_73 : decode cX6_mend 73 = .ok (.iload_n 1, 1) := by decide +kernel
theorem dX6_mend_74 : decode cX6_mend 74 = .ok (.iaload, 1) := by decide +kernel
theorem dX6_mend_75 : decode cX6_mend 75 = .ok (.iconst 1, 1) := by decide +kernel
theorem dX6_mend_76 : decode cX6_mend 76 = .ok (.iadd, 1) := by decide +kernel
theorem dX6_mend_77 : decode cX6_mend 77 = .ok (.iconst 2, 1) := by decide +kernel
theorem dX6_mend_78 : decode cX6_mend 78 = .ok (.idiv, 1) := by decide +kernel
theorem dX6_mend_79 : decode cX6_mend 79 = .ok (.istore 5, 2) := by decide +kernel
theorem dX6_mend_81 : decode cX6_mend 81 = .ok (.iload_n 2, 1) := by decide +kernel
theorem dX6_mend_82 : decode cX6_mend 82 = .ok (.iconst 1, 1) := by decide +kernel
theorem dX6_mend_83 : decode cX6_mend 83 = .ok (.if_icmp .ne 8, 3) := by decide +kernel
theorem dX6_mend_86 : decode cX6_mend 86 = .ok (.iload 4, 2) := by decide +kernel
theorem dX6_mend_88 : decode cX6_mend 88 = .ok (.goto 15, 3) := by decide +kernel
theorem dX6_mend_91 : decode cX6_mend 91 = .ok (.aload_n 3, 1) := by decide +kernel
theorem dX6_mend_92 : decode cX6_mend 92 = .ok (.iload 5, 2) := by decide +kernel
theorem dX6_mend_94 : decode cX6_mend 94 = .ok (.invokevirtual 200, 3) := by decide +kernel
theorem dX6_mend_97 : decode cX6_mend 97 = .ok (.iload 4, 2) := by decide +kernel
theorem dX6_mend_99 : decode cX6_mend 99 = .ok (.iload 5, 2) := by decide +kernel
theorem dX6_mend_101 : decode cX6_mend 101 = .ok (.imul, 1) := by decide +kernel
theorem dX6_mend_102 : decode cX6_mend 102 = .ok (.iadd, 1) := by decide +kernel
theorem dX6_mend_103 : decode cX6_mend 103 = .ok (.ireturn, 1) := by decide +kernel
theorem dX6_odds_0 : decode cX6_odds 0 = .ok (.aload_n 0, 1) := by decide +kernel
theorem dX6_odds_1 : decode cX6_odds 1 = .ok (.getfield 48, 3) := by decide +kernel
theorem dX6_odds_4 : decode cX6_odds 4 = .ok (.iload_n 1, 1) := by decide +kernel
theorem dX6_odds_5 : decode cX6_odds 5 = .ok (.invokevirtual 80, 3) := by decide +kernel
theorem dX6_odds_8 : decode cX6_odds 8 = .ok (.ifCond .eq 33, 3) := by decide +kernel
theorem dX6_odds_11 : decode cX6_odds 11 = .ok (.iload_n 2, 1) := by decide +kernel
theorem dX6_odds_12 : decode cX6_odds 12 = .ok (.iconst 0, 1) := by decide +kernel
theorem dX6_odds_13 : decode cX6_odds 13 = .ok (.bipush 10, 2) := by decide +kernel
theorem dX6_odds_15 : decode cX6_odds 15 = .ok (.invokestatic 55, 3) := by decide +kernel
theorem dX6_odds_18 : decode cX6_odds 18 = .ok (.ifCond .eq 23, 3) := by decide +kernel
theorem dX6_odds_21 : decode cX6_odds 21 = .ok (.iload_n 3, 1) := by decide +kernel
theorem dX6_odds_22 : decode cX6_odds 22 = .ok (.iconst 0, 1) := by decide +kernel
theorem dX6_odds_23 : decode cX6_odds 23 = .ok (.bipush 6, 2) := by decide +kernel
theorem dX6_odds_25 : decode cX6_odds 25 = .ok (.invokestatic 55, 3) := by decide +kernel
theorem dX6_odds_28 : decode cX6_odds 28 = .ok (.ifCond .eq 13, 3) := by decide +kernel
theorem dX6_odds_31 : decode cX6_odds 31 = .ok (.iload 4, 2) := by decide +kernel
theorem dX6_odds_33 : decode cX6_odds 33 = .ok (.iconst 0, 1) := by decide +kernel
theorem dX6_odds_34 : decode cX6_odds 34 = .ok (.iconst 1, 1) := by decide +kernel
theorem dX6_odds_35 : decode cX6_odds 35 = .ok (.invokestatic 55, 3) := by decide +kernel
theorem dX6_odds_38 : decode cX6_odds 38 = .ok (.ifCond .ne 5, 3) := by decide +kernel
theorem dX6_odds_41 : decode cX6_odds 41 = .ok (.iconst (-1), 1) := by decide +kernel
theorem dX6_odds_42 : decode cX6_odds 42 = .ok (.ireturn, 1) := by decide +kernel
theorem dX6_odds_43 : decode cX6_odds 43 = .ok (.iconst 1, 1) := by decide +kernel
theorem dX6_odds_44 : decode cX6_odds 44 = .ok (.istore 5, 2) := by decide +kernel
theorem dX6_odds_46 : decode cX6_odds 46 = .ok (.iconst 1, 1) := by decide +kernel
theorem dX6_odds_47 : decode cX6_odds 47 = .ok (.istore 6, 2) := by decide +kernel
theorem dX6_odds_49 : decode cX6_odds 49 = .ok (.iconst 1, 1) := by decide +kernel
theorem dX6_odds_50 : decode cX6_odds 50 = .ok (.istore 7, 2) := by decide +kernel
theorem dX6_odds_52 : decode cX6_odds 52 = .ok (.iload 7, 2) := by decide +kernel
theorem dX6_odds_54 : decode cX6_odds 54 = .ok (.iload_n 3, 1) := by decide +kernel
theorem dX6_odds_55 : decode cX6_odds 55 = .ok (.if_icmp .gt 29, 3) := by decide +kernel
theorem dX6_odds_58 : decode cX6_odds 58 = .ok (.iload 5, 2) := by decide +kernel
theorem dX6_odds_60 : decode cX6_odds 60 = .ok (.aload_n 0, 1) := by decide +kernel
theorem dX6_odds_61 : decode cX6_odds 61 = .ok (.iload 7, 2) := by decide +kernel
theorem dX6_odds_63 : decode cX6_odds 63 = .ok (.iload_n 1, 1) := by decide +kernel
theorem dX6_odds_64 : decode cX6_odds 64 = .ok (.iload_n 2, 1) := by decide +kernel
theorem dX6_odds_65 : decode cX6_odds 65 = .ok (.invokevirtual 203, 3) := by decide +kernel
theorem dX6_odds_68 : decode cX6_odds 68 = .ok (.imul, 1) := by decide +kernel
theorem dX6_odds_69 : decode cX6_odds 69 = .ok (.istore 5, 2) := by decide +kernel
theorem dX6_odds_71 : decode cX6_odds 71 = .ok (.iload 6, 2) := by decide +kernel
theorem dX6_odds_73 : decode cX6_odds 73 = .ok (.bipush 10, 2) := by decide +kernel
theorem dX6_odds_75 : decode cX6_odds 75 = .ok (.imul, 1) := by decide +kernel
theorem dX6_odds_76 : decode cX6_odds 76 = .ok (.istore 6, 2) := by decide +kernel
theorem dX6_odds_78 : decode cX6_odds 78 = .ok (.iinc 7 1, 3) := by decide +kernel
theorem dX6_odds_81 : decode cX6_odds 81 = .ok (.goto (-29), 3) := by decide +kernel
theorem dX6_odds_84 : decode cX6_odds 84 = .ok (.iconst 1, 1) := by decide +kernel
theorem dX6_odds_85 : decode cX6_odds 85 = .ok (.iload 5, 2) := by decide +kernel
theorem dX6_odds_87 : decode cX6_odds 87 = .ok (.iload 6, 2) := by decide +kernel
theorem dX6_odds_89 : decode cX6_odds 89 = .ok (.invokestatic 207, 3) := by decide +kernel
theorem dX6_odds_92 : decode cX6_odds 92 = .ok (.invokestatic 211, 3) := by decide +kernel
theorem dX6_odds_95 : decode cX6_odds 95 = .ok (.istore 7, 2) := by decide +kernel
theorem dX6_odds_97 : decode cX6_odds 97 = .ok (.iload 4, 2) := by decide +kernel
theorem dX6_odds_99 : decode cX6_odds 99 = .ok (.ifCond .ne 8, 3) := by decide +kernel
theorem dX6_odds_102 : decode cX6_odds 102 = .ok (.iload 5, 2) := by decide +kernel
theorem dX6_odds_104 : decode cX6_odds 104 = .ok (.goto 5, 3) := by decide +kernel
theorem dX6_odds_107 : decode cX6_odds 107 = .ok (.iload 6, 2) := by decide +kernel
theorem dX6_odds_109 : decode cX6_odds 109 = .ok (.iload 7, 2) := by decide +kernel
theorem dX6_odds_111 : decode cX6_odds 111 = .ok (.idiv, 1) := by decide +kernel
theorem dX6_odds_112 : decode cX6_odds 112 = .ok (.ireturn, 1) := by decide +kernel
theorem dX6_plumbs_0 : decode cX6_plumbs 0 = .ok (.iload_n 1, 1) := by decide +kernel
theorem dX6_plumbs_1 : decode cX6_plumbs 1 = .ok (.iconst 0, 1) := by decide +kernel
theorem dX6_plumbs_2 : decode cX6_plumbs 2 = .ok (.bipush 39, 2) := by decide +kernel
theorem dX6_plumbs_4 : decode cX6_plumbs 4 = .ok (.invokestatic 55, 3) := by decide +kernel
theorem dX6_plumbs_7 : decode cX6_plumbs 7 = .ok (.ifCond .eq 13, 3) := by decide +kernel
theorem dX6_plumbs_10 : decode cX6_plumbs 10 = .ok (.iload_n 2, 1) := by decide +kernel
theorem dX6_plumbs_11 : decode cX6_plumbs 11 = .ok (.iconst 0, 1) := by decide +kernel
theorem dX6_plumbs_12 : decode cX6_plumbs 12 = .ok (.bipush 9, 2) := by decide +kernel
theorem dX6_plumbs_14 : decode cX6_plumbs 14 = .ok (.invokestatic 55, 3) := by decide +kernel
theorem dX6_plumbs_17 : decode cX6_plumbs 17 = .ok (.ifCond .ne 5, 3) := by decide +kernel
theorem dX6_plumbs_20 : decode cX6_plumbs 20 = .ok (.iconst (-1), 1) := by decide +kernel
theorem dX6_plumbs_21 : decode cX6_plumbs 21 = .ok (.ireturn, 1) := by decide +kernel
theorem dX6_plumbs_22 : decode cX6_plumbs 22 = .ok (.aload_n 0, 1) := by decide +kernel
theorem dX6_plumbs_23 : decode cX6_plumbs 23 = .ok (.getfield 34, 3) := by decide +kernel
theorem dX6_plumbs_26 : decode cX6_plumbs 26 = .ok (.iload_n 1, 1) := by decide +kernel
theorem dX6_plumbs_27 : decode cX6_plumbs 27 = .ok (.iload_n 2, 1) := by decide +kernel
theorem dX6_plumbs_28 : decode cX6_plumbs 28 = .ok (.invokevirtual 216, 3) := by decide +kernel
theorem dX6_plumbs_31 : decode cX6_plumbs 31 = .ok (.ifCond .eq 13, 3) := by decide +kernel
theorem dX6_plumbs_34 : decode cX6_plumbs 34 = .ok (.aload_n 0, 1) := by decide +kernel
theorem dX6_plumbs_35 : decode cX6_plumbs 35 = .ok (.getfield 34, 3) := by decide +kernel
theorem dX6_plumbs_38 : decode cX6_plumbs 38 = .ok (.getfield 219, 3) := by decide +kernel
theorem dX6_plumbs_41 : decode cX6_plumbs 41 = .ok (.goto 5, 3) := by decide +kernel
theorem dX6_plumbs_44 : decode cX6_plumbs 44 = .ok (.bipush (-3), 2) := by decide +kernel
theorem dX6_plumbs_46 : decode cX6_plumbs 46 = .ok (.ireturn, 1) := by decide +kernel
theorem dX6_forget_0 : decode cX6_forget 0 = .ok (.aload_n 0, 1) := by decide +kernel
theorem dX6_forget_1 : decode cX6_forget 1 = .ok (.getfield 34, 3) := by decide +kernel
theorem dX6_forget_4 : decode cX6_forget 4 = .ok (.invokevirtual 79, 3) := by decide +kernel
theorem dX6_forget_7 : decode cX6_forget 7 = .ok (.ireturn, 1) := by decide +kernel
theorem dX6_drew_0 : decode cX6_drew 0 = .ok (.iload_n 1, 1) := by decide +kernel
theorem dX6_drew_1 : decode cX6_drew 1 = .ok (.iconst 0, 1) := by decide +kernel
theorem dX6_drew_2 : decode cX6_drew 2 = .ok (.iconst 1, 1) := by decide +kernel
theorem dX6_drew_3 : decode cX6_drew 3 = .ok (.invokestatic 55, 3) := by decide +kernel
theorem dX6_drew_6 : decode cX6_drew 6 = .ok (.ifCond .ne 5, 3) := by decide +kernel
theorem dX6_drew_9 : decode cX6_drew 9 = .ok (.iconst (-1), 1) := by decide +kernel
theorem dX6_drew_10 : decode cX6_drew 10 = .ok (.ireturn, 1) := by decide +kernel
theorem dX6_drew_11 : decode cX6_drew 11 = .ok (.aload_n 0, 1) := by decide +kernel
theorem dX6_drew_12 : decode cX6_drew 12 = .ok (.invokevirtual 90, 3) := by decide +kernel
theorem dX6_drew_15 : decode cX6_drew 15 = .ok (.astore_n 2, 1) := by decide +kernel
theorem dX6_drew_16 : decode cX6_drew 16 = .ok (.iconst 0, 1) := by decide +kernel
theorem dX6_drew_17 : decode cX6_drew 17 = .ok (.istore_n 3, 1) := by decide +kernel
theorem dX6_drew_18 : decode cX6_drew 18 = .ok (.bipush (-9), 2) := by decide +kernel
theorem dX6_drew_20 : decode cX6_drew 20 = .ok (.istore 4, 2) := by decide +kernel
theorem dX6_drew_22 : decode cX6_drew 22 = .ok (.iconst 0, 1) := by decide +kernel
theorem dX6_drew_23 : decode cX6_drew 23 = .ok (.istore 5, 2) := by decide +kernel
theorem dX6_drew_25 : decode cX6_drew 25 = .ok (.iload 5, 2) := by decide +kernel
theorem dX6_drew_27 : decode cX6_drew 27 = .ok (.aload_n 2, 1) := by decide +kernel
theorem dX6_drew_28 : decode cX6_drew 28 = .ok (.getfield 121, 3) := by decide +kernel
theorem dX6_drew_31 : decode cX6_drew 31 = .ok (.if_icmp .ge 62, 3) := by decide +kernel
theorem dX6_drew_34 : decode cX6_drew 34 = .ok (.iconst 1, 1) := by decide +kernel
theorem dX6_drew_35 : decode cX6_drew 35 = .ok (.istore 6, 2) := by decide +kernel
theorem dX6_drew_37 : decode cX6_drew 37 = .ok (.iload 6, 2) := by decide +kernel
theorem dX6_drew_39 : decode cX6_drew 39 = .ok (.bipush 9, 2) := by decide +kernel
theorem dX6_drew_41 : decode cX6_drew 41 = .ok (.if_icmp .gt 46, 3) := by decide +kernel
theorem dX6_drew_44 : decode cX6_drew 44 = .ok (.aload_n 0, 1) := by decide +kernel
theorem dX6_drew_45 : decode cX6_drew 45 = .ok (.getfield 34, 3) := by decide +kernel
theorem dX6_drew_48 : decode cX6_drew 48 = .ok (.aload_n 2, 1) := by decide +kernel
theorem dX6_drew_49 : decode cX6_drew 49 = .ok (.iload 5, 2) := by decide +kernel
theorem dX6_drew_51 : decode cX6_drew 51 = .ok (.iload 6, 2) := by decide +kernel
theorem dX6_drew_53 : decode cX6_drew 53 = .ok (.invokevirtual 220, 3) := by decide +kernel
theorem dX6_drew_56 : decode cX6_drew 56 = .ok (.ifCond .eq 25, 3) := by decide +kernel
theorem dX6_drew_59 : decode cX6_drew 59 = .ok (.iload_n 3, 1) := by decide +kernel
theorem dX6_drew_60 : decode cX6_drew 60 = .ok (.ifCond .ne 14, 3) := by decide +kernel
theorem dX6_drew_63 : decode cX6_drew 63 = .ok (.bipush 10, 2) := by decide +kernel
theorem dX6_drew_65 : decode cX6_drew 65 = .ok (.iload 5, 2) := by decide +kernel
theorem dX6_drew_67 : decode cX6_drew 67 = .ok (.imul, 1) := by decide +kernel
theorem dX6_drew_68 : decode cX6_drew 68 = .ok (.iload 6, 2) := by decide +kernel
theorem dX6_drew_70 : decode cX6_drew 70 = .ok (.iadd, 1) := by decide +kernel
theorem dX6_drew_71 : decode cX6_drew 71 = .ok (.goto 5, 3) := by decide +kernel
theorem dX6_drew_74 : decode cX6_drew 74 = .ok (.iload 4, 2) := by decide +kernel
theorem dX6_drew_76 : decode cX6_drew 76 = .ok (.istore 4, 2) := by decide +kernel
theorem dX6_drew_78 : decode cX6_drew 78 = .ok (.iinc 3 1, 3) := by decide +kernel
theorem dX6_drew_81 : decode cX6_drew 81 = .ok (.iinc 6 1, 3) := by decide +kernel
theorem dX6_drew_84 : decode cX6_drew 84 = .ok (.goto (-47), 3) := by decide +kernel
theorem dX6_drew_87 : decode cX6_drew 87 = .ok (.iinc 5 1, 3) := by decide +kernel
theorem dX6_drew_90 : decode cX6_drew 90 = .ok (.goto (-65), 3) := by decide +kernel
theorem dX6_drew_93 : decode cX6_drew 93 = .ok (.iload_n 1, 1) := by decide +kernel
theorem dX6_drew_94 : decode cX6_drew 94 = .ok (.ifCond .ne 7, 3) := by decide +kernel
theorem dX6_drew_97 : decode cX6_drew 97 = .ok (.iload_n 3, 1) := by decide +kernel
theorem dX6_drew_98 : decode cX6_drew 98 = .ok (.goto 5, 3) := by decide +kernel
theorem dX6_drew_101 : decode cX6_drew 101 = .ok (.iload 4, 2) := by decide +kernel
theorem dX6_drew_103 : decode cX6_drew 103 = .ok (.ireturn, 1) := by decide +kernel
theorem dX6_night_0 : decode cX6_night 0 = .ok (.iload_n 1, 1) := by decide +kernel
theorem dX6_night_1 : decode cX6_night 1 = .ok (.iconst 0, 1) := by decide +kernel
theorem dX6_night_2 : decode cX6_night 2 = .ok (.iconst 1, 1) := by decide +kernel
theorem dX6_night_3 : decode cX6_night 3 = .ok (.invokestatic 55, 3) := by decide +kernel
theorem dX6_night_6 : decode cX6_night 6 = .ok (.ifCond .ne 5, 3) := by decide +kernel
theorem dX6_night_9 : decode cX6_night 9 = .ok (.iconst (-1), 1) := by decide +kernel
theorem dX6_night_10 : decode cX6_night 10 = .ok (.ireturn, 1) := by decide +kernel
theorem dX6_night_11 : decode cX6_night 11 = .ok (.aload_n 0, 1) := by decide +kernel
theorem dX6_night_12 : decode cX6_night 12 = .ok (.invokevirtual 90, 3) := by decide +kernel
theorem dX6_night_15 : decode cX6_night 15 = .ok (.astore_n 2, 1) := by decide +kernel
theorem dX6_night_16 : decode cX6_night 16 = .ok (.iconst 0, 1) := by decide +kernel
theorem dX6_night_17 : decode cX6_night 17 = .ok (.istore_n 3, 1) := by decide +kernel
theorem dX6_night_18 : decode cX6_night 18 = .ok (.bipush (-9), 2) := by decide +kernel
theorem dX6_night_20 : decode cX6_night 20 = .ok (.istore 4, 2) := by decide +kernel
theorem dX6_night_22 : decode cX6_night 22 = .ok (.iconst 1, 1) := by decide +kernel
theorem dX6_night_23 : decode cX6_night 23 = .ok (.istore 5, 2) := by decide +kernel
theorem dX6_night_25 : decode cX6_night 25 = .ok (.iload 5, 2) := by decide +kernel
theorem dX6_night_27 : decode cX6_night 27 = .ok (.bipush 9, 2) := by decide +kernel
theorem dX6_night_29 : decode cX6_night 29 = .ok (.if_icmp .gt 62, 3) := by decide +kernel
theorem dX6_night_32 : decode cX6_night 32 = .ok (.iconst 1, 1) := by decide +kernel
theorem dX6_night_33 : decode cX6_night 33 = .ok (.istore 6, 2) := by decide +kernel
theorem dX6_night_35 : decode cX6_night 35 = .ok (.iload 6, 2) := by decide +kernel
theorem dX6_night_37 : decode cX6_night 37 = .ok (.bipush 9, 2) := by decide +kernel
theorem dX6_night_39 : decode cX6_night 39 = .ok (.if_icmp .gt 46, 3) := by decide +kernel
theorem dX6_night_42 : decode cX6_night 42 = .ok (.aload_n 0, 1) := by decide +kernel
theorem dX6_night_43 : decode cX6_night 43 = .ok (.getfield 34, 3) := by decide +kernel
theorem dX6_night_46 : decode cX6_night 46 = .ok (.aload_n 2, 1) := by decide +kernel
theorem dX6_night_47 : decode cX6_night 47 = .ok (.iload 5, 2) := by decide +kernel
theorem dX6_night_49 : decode cX6_night 49 = .ok (.iload 6, 2) := by decide +kernel
theorem dX6_night_51 : decode cX6_night 51 = .ok (.invokevirtual 224, 3) := by decide +kernel
theorem dX6_night_54 : decode cX6_night 54 = .ok (.ifCond .eq 25, 3) := by decide +kernel
theorem dX6_night_57 : decode cX6_night 57 = .ok (.iload_n 3, 1) := by decide +kernel
theorem dX6_night_58 : decode cX6_night 58 = .ok (.ifCond .ne 14, 3) := by decide +kernel
theorem dX6_night_61 : decode cX6_night 61 = .ok (.bipush 10, 2) := by decide +kernel
theorem dX6_night_63 : decode cX6_night 63 = .ok (.iload 5, 2) := by decide +kernel
theorem dX6_night_65 : decode cX6_night 65 = .ok (.imul, 1) := by decide +kernel
theorem dX6_night_66 : decode cX6_night 66 = .ok (.iload 6, 2) := by decide +kernel
theorem dX6_night_68 : decode cX6_night 68 = .ok (.iadd, 1) := by decide +kernel
theorem dX6_night_69 : decode cX6_night 69 = .ok (.goto 5, 3) := by decide +kernel
theorem dX6_night_72 : decode cX6_night 72 = .ok (.iload 4, 2) := by decide +kernel
theorem dX6_night_74 : decode cX6_night 74 = .ok (.istore 4, 2) := by decide +kernel
theorem dX6_night_76 : decode cX6_night 76 = .ok (.iinc 3 1, 3) := by decide +kernel
theorem dX6_night_79 : decode cX6_night 79 = .ok (.iinc 6 1, 3) := by decide +kernel
theorem dX6_night_82 : decode cX6_night 82 = .ok (.goto (-47), 3) := by decide +kernel
theorem dX6_night_85 : decode cX6_night 85 = .ok (.iinc 5 1, 3) := by decide +kernel
theorem dX6_night_88 : decode cX6_night 88 = .ok (.goto (-63), 3) := by decide +kernel
theorem dX6_night_91 : decode cX6_night 91 = .ok (.iload_n 1, 1) := by decide +kernel
theorem dX6_night_92 : decode cX6_night 92 = .ok (.ifCond .ne 7, 3) := by decide +kernel
theorem dX6_night_95 : decode cX6_night 95 = .ok (.iload_n 3, 1) := by decide +kernel
theorem dX6_night_96 : decode cX6_night 96 = .ok (.goto 5, 3) := by decide +kernel
theorem dX6_night_99 : decode cX6_night 99 = .ok (.iload 4, 2) := by decide +kernel
theorem dX6_night_101 : decode cX6_night 101 = .ok (.ireturn, 1) := by decide +kernel
theorem dX6_mark_0 : decode cX6_mark 0 = .ok (.aload_n 0, 1) := by decide +kernel
theorem dX6_mark_1 : decode cX6_mark 1 = .ok (.invokevirtual 90, 3) := by decide +kernel
theorem dX6_mark_4 : decode cX6_mark 4 = .ok (.iload_n 2, 1) := by decide +kernel
theorem dX6_mark_5 : decode cX6_mark 5 = .ok (.invokevirtual 100, 3) := by decide +kernel
theorem dX6_mark_8 : decode cX6_mark 8 = .ok (.ifCond .ne 6, 3) := by decide +kernel
theorem dX6_mark_11 : decode cX6_mark 11 = .ok (.ldc 227, 2) := by decide +kernel
theorem dX6_mark_13 : decode cX6_mark 13 = .ok (.ireturn, 1) := by decide +kernel
theorem dX6_mark_14 : decode cX6_mark 14 = .ok (.iload_n 1, 1) := by decide +kernel
theorem dX6_mark_15 : decode cX6_mark 15 = .ok (.tableswitch 73 0 5 #[37, 43, 49, 55, 61, 67], 37) := by decide +kernel
theorem dX6_mark_52 : decode cX6_mark 52 = .ok (.aload_n 0, 1) := by decide +kernel
theorem dX6_mark_53 : decode cX6_mark 53 = .ok (.iload_n 2, 1) := by decide +kernel
theorem dX6_mark_54 : decode cX6_mark 54 = .ok (.invokevirtual 228, 3) := by decide +kernel
theorem dX6_mark_57 : decode cX6_mark 57 = .ok (.ireturn, 1) := by decide +kernel
theorem dX6_mark_58 : decode cX6_mark 58 = .ok (.aload_n 0, 1) := by decide +kernel
theorem dX6_mark_59 : decode cX6_mark 59 = .ok (.iload_n 2, 1) := by decide +kernel
theorem dX6_mark_60 : decode cX6_mark 60 = .ok (.invokevirtual 231, 3) := by decide +kernel
theorem dX6_mark_63 : decode cX6_mark 63 = .ok (.ireturn, 1) := by decide +kernel
theorem dX6_mark_64 : decode cX6_mark 64 = .ok (.aload_n 0, 1) := by decide +kernel
theorem dX6_mark_65 : decode cX6_mark 65 = .ok (.iload_n 2, 1) := by decide +kernel
theorem dX6_mark_66 : decode cX6_mark 66 = .ok (.invokevirtual 234, 3) := by decide +kernel
theorem dX6_mark_69 : decode cX6_mark 69 = .ok (.ireturn, 1) := by decide +kernel
theorem dX6_mark_70 : decode cX6_mark 70 = .ok (.aload_n 0, 1) := by decide +kernel
theorem dX6_mark_71 : decode cX6_mark 71 = .ok (.iload_n 2, 1) := by decide +kernel
theorem dX6_mark_72 : decode cX6_mark 72 = .ok (.invokevirtual 237, 3) := by decide +kernel
theorem dX6_mark_75 : decode cX6_mark 75 = .ok (.ireturn, 1) := by decide +kernel
theorem dX6_mark_76 : decode cX6_mark 76 = .ok (.aload_n 0, 1) := by decide +kernel
theorem dX6_mark_77 : decode cX6_mark 77 = .ok (.iload_n 2, 1) := by decide +kernel
theorem dX6_mark_78 : decode cX6_mark 78 = .ok (.invokevirtual 240, 3) := by decide +kernel
theorem dX6_mark_81 : decode cX6_mark 81 = .ok (.ireturn, 1) := by decide +kernel
theorem dX6_mark_82 : decode cX6_mark 82 = .ok (.aload_n 0, 1) := by decide +kernel
theorem dX6_mark_83 : decode cX6_mark 83 = .ok (.iload_n 2, 1) := by decide +kernel
theorem dX6_mark_84 : decode cX6_mark 84 = .ok (.invokevirtual 243, 3) := by decide +kernel
theorem dX6_mark_87 : decode cX6_mark 87 = .ok (.ireturn, 1) := by decide +kernel
theorem dX6_mark_88 : decode cX6_mark 88 = .ok (.ldc 227, 2) := by decide +kernel
theorem dX6_mark_90 : decode cX6_mark 90 = .ok (.ireturn, 1) := by decide +kernel
theorem dX6_keep_0 : decode cX6_keep 0 = .ok (.iload_n 1, 1) := by decide +kernel
theorem dX6_keep_1 : decode cX6_keep 1 = .ok (.iconst 0, 1) := by decide +kernel
theorem dX6_keep_2 : decode cX6_keep 2 = .ok (.iconst 1, 1) := by decide +kernel
theorem dX6_keep_3 : decode cX6_keep 3 = .ok (.invokestatic 55, 3) := by decide +kernel
theorem dX6_keep_6 : decode cX6_keep 6 = .ok (.ifCond .ne 5, 3) := by decide +kernel
theorem dX6_keep_9 : decode cX6_keep 9 = .ok (.iconst (-1), 1) := by decide +kernel
theorem dX6_keep_10 : decode cX6_keep 10 = .ok (.ireturn, 1) := by decide +kernel
theorem dX6_keep_11 : decode cX6_keep 11 = .ok (.aload_n 0, 1) := by decide +kernel
theorem dX6_keep_12 : decode cX6_keep 12 = .ok (.getfield 23, 3) := by decide +kernel
theorem dX6_keep_15 : decode cX6_keep 15 = .ok (.iload_n 1, 1) := by decide +kernel
theorem dX6_keep_16 : decode cX6_keep 16 = .ok (.aaload, 1) := by decide +kernel
theorem dX6_keep_17 : decode cX6_keep 17 = .ok (.aload_n 0, 1) := by decide +kernel
theorem dX6_keep_18 : decode cX6_keep 18 = .ok (.getfield 19, 3) := by decide +kernel
theorem dX6_keep_21 : decode cX6_keep 21 = .ok (.invokevirtual 246, 3) := by decide +kernel
theorem dX6_keep_24 : decode cX6_keep 24 = .ok (.aload_n 0, 1) := by decide +kernel
theorem dX6_keep_25 : decode cX6_keep 25 = .ok (.getfield 27, 3) := by decide +kernel
theorem dX6_keep_28 : decode cX6_keep 28 = .ok (.iload_n 1, 1) := by decide +kernel
theorem dX6_keep_29 : decode cX6_keep 29 = .ok (.iconst 1, 1) := by decide +kernel
theorem dX6_keep_30 : decode cX6_keep 30 = .ok (.bastore, 1) := by decide +kernel
theorem dX6_keep_31 : decode cX6_keep 31 = .ok (.aload_n 0, 1) := by decide +kernel
theorem dX6_keep_32 : decode cX6_keep 32 = .ok (.invokevirtual 90, 3) := by decide +kernel
theorem dX6_keep_35 : decode cX6_keep 35 = .ok (.getfield 138, 3) := by decide +kernel
theorem dX6_keep_38 : decode cX6_keep 38 = .ok (.ireturn, 1) := by decide +kernel
theorem dX6_back_0 : decode cX6_back 0 = .ok (.iload_n 1, 1) := by decide +kernel
theorem dX6_back_1 : decode cX6_back 1 = .ok (.iconst 0, 1) := by decide +kernel
theorem dX6_back_2 : decode cX6_back 2 = .ok (.iconst 1, 1) := by decide +kernel
theorem dX6_back_3 : decode cX6_back 3 = .ok (.invokestatic 55, 3) := by decide +kernel
theorem dX6_back_6 : decode cX6_back 6 = .ok (.ifCond .ne 5, 3) := by decide +kernel
theorem dX6_back_9 : decode cX6_back 9 = .ok (.iconst (-1), 1) := by decide +kernel
theorem dX6_back_10 : decode cX6_back 10 = .ok (.ireturn, 1) := by decide +kernel
theorem dX6_back_11 : decode cX6_back 11 = .ok (.aload_n 0, 1) := by decide +kernel
theorem dX6_back_12 : decode cX6_back 12 = .ok (.getfield 27, 3) := by decide +kernel
theorem dX6_back_15 : decode cX6_back 15 = .ok (.iload_n 1, 1) := by decide +kernel
theorem dX6_back_16 : decode cX6_back 16 = .ok (.baload, 1) := by decide +kernel
theorem dX6_back_17 : decode cX6_back 17 = .ok (.ifCond .ne 6, 3) := by decide +kernel
theorem dX6_back_20 : decode cX6_back 20 = .ok (.bipush (-2), 2) := by decide +kernel
theorem dX6_back_22 : decode cX6_back 22 = .ok (.ireturn, 1) := by decide +kernel
theorem dX6_back_23 : decode cX6_back 23 = .ok (.aload_n 0, 1) := by decide +kernel
theorem dX6_back_24 : decode cX6_back 24 = .ok (.getfield 19, 3) := by decide +kernel
theorem dX6_back_27 : decode cX6_back 27 = .ok (.aload_n 0, 1) := by decide +kernel
theorem dX6_back_28 : decode cX6_back 28 = .ok (.getfield 23, 3) := by decide +kernel
theorem dX6_back_31 : decode cX6_back 31 = .ok (.iload_n 1, 1) := by decide +kernel
theorem dX6_back_32 : decode cX6_back 32 = .ok (.aaload, 1) := by decide +kernel
theorem dX6_back_33 : decode cX6_back 33 = .ok (.invokevirtual 246, 3) := by decide +kernel
theorem dX6_back_36 : decode cX6_back 36 = .ok (.aload_n 0, 1) := by decide +kernel
theorem dX6_back_37 : decode cX6_back 37 = .ok (.invokevirtual 90, 3) := by decide +kernel
theorem dX6_back_40 : decode cX6_back 40 = .ok (.getfield 138, 3) := by decide +kernel
theorem dX6_back_43 : decode cX6_back 43 = .ok (.ireturn, 1) := by decide +kernel
theorem dX6_count_0 : decode cX6_count 0 = .ok (.iload_n 1, 1) := by decide +kernel
theorem dX6_count_1 : decode cX6_count 1 = .ok (.tableswitch 87 0 5 #[39, 47, 55, 63, 71, 79], 39) := by decide +kernel
theorem dX6_count_40 : decode cX6_count 40 = .ok (.aload_n 0, 1) := by decide +kernel
theorem dX6_count_41 : decode cX6_count 41 = .ok (.getfield 48, 3) := by decide +kernel
theorem dX6_count_44 : decode cX6_count 44 = .ok (.getfield 175, 3) := by decide +kernel
theorem dX6_count_47 : decode cX6_count 47 = .ok (.ireturn, 1) := by decide +kernel
theorem dX6_count_48 : decode cX6_count 48 = .ok (.aload_n 0, 1) := by decide +kernel
theorem dX6_count_49 : decode cX6_count 49 = .ok (.getfield 48, 3) := by decide +kernel
theorem dX6_count_52 : decode cX6_count 52 = .ok (.getfield 194, 3) := by decide +kernel
theorem dX6_count_55 : decode cX6_count 55 = .ok (.ireturn, 1) := by decide +kernel
theorem dX6_count_56 : decode cX6_count 56 = .ok (.aload_n 0, 1) := by decide +kernel
theorem dX6_count_57 : decode cX6_count 57 = .ok (.getfield 48, 3) := by decide +kernel
theorem dX6_count_60 : decode cX6_count 60 = .ok (.getfield 197, 3) := by decide +kernel
theorem dX6_count_63 : decode cX6_count 63 = .ok (.ireturn, 1) := by decide +kernel
theorem dX6_count_64 : decode cX6_count 64 = .ok (.aload_n 0, 1) := by decide +kernel
theorem dX6_count_65 : decode cX6_count 65 = .ok (.getfield 34, 3) := by decide +kernel
theorem dX6_count_68 : decode cX6_count 68 = .ok (.getfield 219, 3) := by decide +kernel
theorem dX6_count_71 : decode cX6_count 71 = .ok (.ireturn, 1) := by decide +kernel
theorem dX6_count_72 : decode cX6_count 72 = .ok (.aload_n 0, 1) := by decide +kernel
theorem dX6_count_73 : decode cX6_count 73 = .ok (.getfield 19, 3) := by decide +kernel
theorem dX6_count_76 : decode cX6_count 76 = .ok (.getfield 147, 3) := by decide +kernel
theorem dX6_count_79 : decode cX6_count 79 = .ok (.ireturn, 1) := by decide +kernel
theorem dX6_count_80 : decode cX6_count 80 = .ok (.aload_n 0, 1) := by decide +kernel
theorem dX6_count_81 : decode cX6_count 81 = .ok (.getfield 10, 3) := by decide +kernel
theorem dX6_count_84 : decode cX6_count 84 = .ok (.getfield 63, 3) := by decide +kernel
theorem dX6_count_87 : decode cX6_count 87 = .ok (.ireturn, 1) := by decide +kernel
theorem dX6_count_88 : decode cX6_count 88 = .ok (.iconst (-1), 1) := by decide +kernel
theorem dX6_count_89 : decode cX6_count 89 = .ok (.ireturn, 1) := by decide +kernel
theorem dX6_trace_0 : decode cX6_trace 0 = .ok (.aload_n 0, 1) := by decide +kernel
theorem dX6_trace_1 : decode cX6_trace 1 = .ok (.getfield 250, 3) := by decide +kernel
theorem dX6_trace_4 : decode cX6_trace 4 = .ok (.lreturn, 1) := by decide +kernel
theorem dX6_within_0 : decode cX6_within 0 = .ok (.iload_n 0, 1) := by decide +kernel
theorem dX6_within_1 : decode cX6_within 1 = .ok (.iload_n 1, 1) := by decide +kernel
theorem dX6_within_2 : decode cX6_within 2 = .ok (.if_icmp .lt 12, 3) := by decide +kernel
theorem dX6_within_5 : decode cX6_within 5 = .ok (.iload_n 0, 1) := by decide +kernel
theorem dX6_within_6 : decode cX6_within 6 = .ok (.iload_n 2, 1) := by decide +kernel
theorem dX6_within_7 : decode cX6_within 7 = .ok (.if_icmp .gt 7, 3) := by decide +kernel
theorem dX6_within_10 : decode cX6_within 10 = .ok (.iconst 1, 1) := by decide +kernel
theorem dX6_within_11 : decode cX6_within 11 = .ok (.goto 4, 3) := by decide +kernel
theorem dX6_within_14 : decode cX6_within 14 = .ok (.iconst 0, 1) := by decide +kernel
theorem dX6_within_15 : decode cX6_within 15 = .ok (.ireturn, 1) := by decide +kernel
theorem dX6_span_0 : decode cX6_span 0 = .ok (.aload_n 0, 1) := by decide +kernel
theorem dX6_span_1 : decode cX6_span 1 = .ok (.getfield 19, 3) := by decide +kernel
theorem dX6_span_4 : decode cX6_span 4 = .ok (.invokevirtual 254, 3) := by decide +kernel
theorem dX6_span_7 : decode cX6_span 7 = .ok (.areturn, 1) := by decide +kernel
theorem dX6_holdsNow_0 : decode cX6_holdsNow 0 = .ok (.aload_n 0, 1) := by decide +kernel
theorem dX6_holdsNow_1 : decode cX6_holdsNow 1 = .ok (.invokevirtual 90, 3) := by decide +kernel
theorem dX6_holdsNow_4 : decode cX6_holdsNow 4 = .ok (.astore_n 2, 1) := by decide +kernel
theorem dX6_holdsNow_5 : decode cX6_holdsNow 5 = .ok (.aload_n 0, 1) := by decide +kernel
theorem dX6_holdsNow_6 : decode cX6_holdsNow 6 = .ok (.getfield 48, 3) := by decide +kernel
theorem dX6_holdsNow_9 : decode cX6_holdsNow 9 = .ok (.iload_n 1, 1) := by decide +kernel
theorem dX6_holdsNow_10 : decode cX6_holdsNow 10 = .ok (.aload_n 2, 1) := by decide +kernel
theorem dX6_holdsNow_11 : decode cX6_holdsNow 11 = .ok (.invokevirtual 135, 3) := by decide +kernel
theorem dX6_holdsNow_14 : decode cX6_holdsNow 14 = .ok (.aload_n 2, 1) := by decide +kernel
theorem dX6_holdsNow_15 : decode cX6_holdsNow 15 = .ok (.iconst 0, 1) := by decide +kernel
theorem dX6_holdsNow_16 : decode cX6_holdsNow 16 = .ok (.invokevirtual 181, 3) := by decide +kernel
theorem dX6_holdsNow_19 : decode cX6_holdsNow 19 = .ok (.invokevirtual 184, 3) := by decide +kernel
theorem dX6_holdsNow_22 : decode cX6_holdsNow 22 = .ok (.ireturn, 1) := by decide +kernel
theorem dX6_mayCross_0 : decode cX6_mayCross 0 = .ok (.iconst 0, 1) := by decide +kernel
theorem dX6_mayCross_1 : decode cX6_mayCross 1 = .ok (.istore_n 1, 1) := by decide +kernel
theorem dX6_mayCross_2 : decode cX6_mayCross 2 = .ok (.iconst 0, 1) := by decide +kernel
theorem dX6_mayCross_3 : decode cX6_mayCross 3 = .ok (.istore_n 2, 1) := by decide +kernel
theorem dX6_mayCross_4 : decode cX6_mayCross 4 = .ok (.iload_n 2, 1) := by decide +kernel
theorem dX6_mayCross_5 : decode cX6_mayCross 5 = .ok (.aload_n 0, 1) := by decide +kernel
theorem dX6_mayCross_6 : decode cX6_mayCross 6 = .ok (.getfield 48, 3) := by decide +kernel
theorem dX6_mayCross_9 : decode cX6_mayCross 9 = .ok (.getfield 175, 3) := by decide +kernel
theorem dX6_mayCross_12 : decode cX6_mayCross 12 = .ok (.if_icmp .ge 23, 3) := by decide +kernel
theorem dX6_mayCross_15 : decode cX6_mayCross 15 = .ok (.aload_n 0, 1) := by decide +kernel
theorem dX6_mayCross_16 : decode cX6_mayCross 16 = .ok (.iload_n 2, 1) := by decide +kernel
theorem dX6_mayCross_17 : decode cX6_mayCross 17 = .ok (.invokevirtual 111, 3) := by decide +kernel
theorem dX6_mayCross_20 : decode cX6_mayCross 20 = .ok (.ifCond .eq 9, 3) := by decide +kernel
theorem dX6_mayCross_23 : decode cX6_mayCross 23 = .ok (.iload_n 1, 1) := by decide +kernel
theorem dX6_mayCross_24 : decode cX6_mayCross 24 = .ok (.iconst 1, 1) := by decide +kernel
theorem dX6_mayCross_25 : decode cX6_mayCross 25 = .ok (.iload_n 2, 1) := by decide +kernel
theorem dX6_mayCross_26 : decode cX6_mayCross 26 = .ok (.ishl, 1) := by decide +kernel
theorem dX6_mayCross_27 : decode cX6_mayCross 27 = .ok (.ior, 1) := by decide +kernel
theorem dX6_mayCross_28 : decode cX6_mayCross 28 = .ok (.istore_n 1, 1) := by decide +kernel
theorem dX6_mayCross_29 : decode cX6_mayCross 29 = .ok (.iinc 2 1, 3) := by decide +kernel
theorem dX6_mayCross_32 : decode cX6_mayCross 32 = .ok (.goto (-28), 3) := by decide +kernel
theorem dX6_mayCross_35 : decode cX6_mayCross 35 = .ok (.iload_n 1, 1) := by decide +kernel
theorem dX6_mayCross_36 : decode cX6_mayCross 36 = .ok (.ireturn, 1) := by decide +kernel
theorem dX6_rowsToGap_0 : decode cX6_rowsToGap 0 = .ok (.iconst 0, 1) := by decide +kernel
theorem dX6_rowsToGap_1 : decode cX6_rowsToGap 1 = .ok (.istore_n 2, 1) := by decide +kernel
theorem dX6_rowsToGap_2 : decode cX6_rowsToGap 2 = .ok (.iload_n 2, 1) := by decide +kernel
theorem dX6_rowsToGap_3 : decode cX6_rowsToGap 3 = .ok (.bipush 30, 2) := by decide +kernel
theorem dX6_rowsToGap_5 : decode cX6_rowsToGap 5 = .ok (.if_icmp .ge 29, 3) := by decide +kernel
theorem dX6_rowsToGap_8 : decode cX6_rowsToGap 8 = .ok (.aload_n 1, 1) := by decide +kernel
theorem dX6_rowsToGap_9 : decode cX6_rowsToGap 9 = .ok (.aload_n 1, 1) := by decide +kernel
theorem dX6_rowsToGap_10 : decode cX6_rowsToGap 10 = .ok (.getfield 121, 3) := by decide +kernel
theorem dX6_rowsToGap_13 : decode cX6_rowsToGap 13 = .ok (.iload_n 2, 1) := by decide +kernel
theorem dX6_rowsToGap_14 : decode cX6_rowsToGap 14 = .ok (.iadd, 1) := by decide +kernel
theorem dX6_rowsToGap_15 : decode cX6_rowsToGap 15 = .ok (.invokevirtual 191, 3) := by decide +kernel
theorem dX6_rowsToGap_18 : decode cX6_rowsToGap 18 = .ok (.aload_n 0, 1) := by decide +kernel
theorem dX6_rowsToGap_19 : decode cX6_rowsToGap 19 = .ok (.getfield 48, 3) := by decide +kernel
theorem dX6_rowsToGap_22 : decode cX6_rowsToGap 22 = .ok (.getfield 194, 3) := by decide +kernel
theorem dX6_rowsToGap_25 : decode cX6_rowsToGap 25 = .ok (.if_icmp .ge 9, 3) := by decide +kernel
theorem dX6_rowsToGap_28 : decode cX6_rowsToGap 28 = .ok (.iinc 2 1, 3) := by decide +kernel
theorem dX6_rowsToGap_31 : decode cX6_rowsToGap 31 = .ok (.goto (-29), 3) := by decide +kernel
theorem dX6_rowsToGap_34 : decode cX6_rowsToGap 34 = .ok (.iload_n 2, 1) := by decide +kernel
theorem dX6_rowsToGap_35 : decode cX6_rowsToGap 35 = .ok (.ireturn, 1) := by decide +kernel
theorem dX6_chancesAfter_0 : decode cX6_chancesAfter 0 = .ok (.aload_n 0, 1) := by decide +kernel
theorem dX6_chancesAfter_1 : decode cX6_chancesAfter 1 = .ok (.invokevirtual 90, 3) := by decide +kernel
theorem dX6_chancesAfter_4 : decode cX6_chancesAfter 4 = .ok (.astore 4, 2) := by decide +kernel
theorem dX6_chancesAfter_6 : decode cX6_chancesAfter 6 = .ok (.aload 4, 2) := by decide +kernel
theorem dX6_chancesAfter_8 : decode cX6_chancesAfter 8 = .ok (.iload_n 1, 1) := by decide +kernel
theorem dX6_chancesAfter_9 : decode cX6_chancesAfter 9 = .ok (.invokevirtual 181, 3) := by decide +kernel
theorem dX6_chancesAfter_12 : decode cX6_chancesAfter 12 = .ok (.istore 5, 2) := by decide +kernel
theorem dX6_chancesAfter_14 : decode cX6_chancesAfter 14 = .ok (.iconst 0, 1) := by decide +kernel
theorem dX6_chancesAfter_15 : decode cX6_chancesAfter 15 = .ok (.istore 6, 2) := by decide +kernel
theorem dX6_chancesAfter_17 : decode cX6_chancesAfter 17 = .ok (.aload_n 0, 1) := by decide +kernel
theorem dX6_chancesAfter_18 : decode cX6_chancesAfter 18 = .ok (.getfield 48, 3) := by decide +kernel
theorem dX6_chancesAfter_21 : decode cX6_chancesAfter 21 = .ok (.iload_n 2, 1) := by decide +kernel
theorem dX6_chancesAfter_22 : decode cX6_chancesAfter 22 = .ok (.aload 4, 2) := by decide +kernel
theorem dX6_chancesAfter_24 : decode cX6_chancesAfter 24 = .ok (.getfield 121, 3) := by decide +kernel
theorem dX6_chancesAfter_27 : decode cX6_chancesAfter 27 = .ok (.iconst 1, 1) := by decide +kernel
theorem dX6_chancesAfter_28 : decode cX6_chancesAfter 28 = .ok (.invokestatic 257, 3) := by decide +kernel
theorem dX6_chancesAfter_31 : decode cX6_chancesAfter 31 = .ok (.iload 5, 2) := by decide +kernel
theorem dX6_chancesAfter_33 : decode cX6_chancesAfter 33 = .ok (.invokevirtual 184, 3) := by decide +kernel
theorem dX6_chancesAfter_36 : decode cX6_chancesAfter 36 = .ok (.ifCond .eq 9, 3) := by decide +kernel
theorem dX6_chancesAfter_39 : decode cX6_chancesAfter 39 = .ok (.iload 6, 2) := by decide +kernel
theorem dX6_chancesAfter_41 : decode cX6_chancesAfter 41 = .ok (.iload_n 3, 1) := by decide +kernel
theorem dX6_chancesAfter_42 : decode cX6_chancesAfter 42 = .ok (.iadd, 1) := by decide +kernel
theorem dX6_chancesAfter_43 : decode cX6_chancesAfter 43 = .ok (.istore 6, 2) := by decide +kernel
theorem dX6_chancesAfter_45 : decode cX6_chancesAfter 45 = .ok (.aload_n 0, 1) := by decide +kernel
theorem dX6_chancesAfter_46 : decode cX6_chancesAfter 46 = .ok (.getfield 48, 3) := by decide +kernel
theorem dX6_chancesAfter_49 : decode cX6_chancesAfter 49 = .ok (.iload_n 2, 1) := by decide +kernel
theorem dX6_chancesAfter_50 : decode cX6_chancesAfter 50 = .ok (.aload 4, 2) := by decide +kernel
theorem dX6_chancesAfter_52 : decode cX6_chancesAfter 52 = .ok (.getfield 121, 3) := by decide +kernel
theorem dX6_chancesAfter_55 : decode cX6_chancesAfter 55 = .ok (.iconst 0, 1) := by decide +kernel
theorem dX6_chancesAfter_56 : decode cX6_chancesAfter 56 = .ok (.invokestatic 257, 3) := by decide +kernel
theorem dX6_chancesAfter_59 : decode cX6_chancesAfter 59 = .ok (.iload 5, 2) := by decide +kernel
theorem dX6_chancesAfter_61 : decode cX6_chancesAfter 61 = .ok (.invokevirtual 184, 3) := by decide +kernel
theorem dX6_chancesAfter_64 : decode cX6_chancesAfter 64 = .ok (.ifCond .eq 12, 3) := by decide +kernel
theorem dX6_chancesAfter_67 : decode cX6_chancesAfter 67 = .ok (.iload 6, 2) := by decide +kernel
theorem dX6_chancesAfter_69 : decode cX6_chancesAfter 69 = .ok (.bipush 10, 2) := by decide +kernel
theorem dX6_chancesAfter_71 : decode cX6_chancesAfter 71 = .ok (.iload_n 3, 1) := by decide +kernel
theorem dX6_chancesAfter_72 : decode cX6_chancesAfter 72 = .ok (.isub, 1) := by decide +kernel
theorem dX6_chancesAfter_73 : decode cX6_chancesAfter 73 = .ok (.iadd, 1) := by decide +kernel
theorem dX6_chancesAfter_74 : decode cX6_chancesAfter 74 = .ok (.istore 6, 2) := by decide +kernel
theorem dX6_chancesAfter_76 : decode cX6_chancesAfter 76 = .ok (.iload 6, 2) := by decide +kernel
theorem dX6_chancesAfter_78 : decode cX6_chancesAfter 78 = .ok (.ireturn, 1) := by decide +kernel
theorem dX6_lengthWith_0 : decode cX6_lengthWith 0 = .ok (.iload_n 1, 1) := by decide +kernel
theorem dX6_lengthWith_1 : decode cX6_lengthWith 1 = .ok (.ifCond .eq 11, 3) := by decide +kernel
theorem dX6_lengthWith_4 : decode cX6_lengthWith 4 = .ok (.iload_n 0, 1) := by decide +kernel
theorem dX6_lengthWith_5 : decode cX6_lengthWith 5 = .ok (.iload_n 0, 1) := by decide +kernel
theorem dX6_lengthWith_6 : decode cX6_lengthWith 6 = .ok (.iconst 5, 1) := by decide +kernel
theorem dX6_lengthWith_7 : decode cX6_lengthWith 7 = .ok (.idiv, 1) := by decide +kernel
theorem dX6_lengthWith_8 : decode cX6_lengthWith 8 = .ok (.iadd, 1) := by decide +kernel
theorem dX6_lengthWith_9 : decode cX6_lengthWith 9 = .ok (.goto 4, 3) := by decide +kernel
theorem dX6_lengthWith_12 : decode cX6_lengthWith 12 = .ok (.iload_n 0, 1) := by decide +kernel
theorem dX6_lengthWith_13 : decode cX6_lengthWith 13 = .ok (.ireturn, 1) := by decide +kernel
theorem dX6_commonDivisor_0 : decode cX6_commonDivisor 0 = .ok (.iload_n 0, 1) := by decide +kernel
theorem dX6_commonDivisor_1 : decode cX6_commonDivisor 1 = .ok (.istore_n 2, 1) := by decide +kernel
theorem dX6_commonDivisor_2 : decode cX6_commonDivisor 2 = .ok (.iload_n 1, 1) := by decide +kernel
theorem dX6_commonDivisor_3 : decode cX6_commonDivisor 3 = .ok (.istore_n 3, 1) := by decide +kernel
theorem dX6_commonDivisor_4 : decode cX6_commonDivisor 4 = .ok (.iconst 0, 1) := by decide +kernel
theorem dX6_commonDivisor_5 : decode cX6_commonDivisor 5 = .ok (.istore 4, 2) := by decide +kernel
theorem dX6_commonDivisor_7 : decode cX6_commonDivisor 7 = .ok (.iload 4, 2) := by decide +kernel
theorem dX6_commonDivisor_9 : decode cX6_commonDivisor 9 = .ok (.bipush 64, 2) := by decide +kernel
theorem dX6_commonDivisor_11 : decode cX6_commonDivisor 11 = .ok (.if_icmp .ge 23, 3) := by decide +kernel
theorem dX6_commonDivisor_14 : decode cX6_commonDivisor 14 = .ok (.iload_n 3, 1) := by decide +kernel
theorem dX6_commonDivisor_15 : decode cX6_commonDivisor 15 = .ok (.ifCond .eq 19, 3) := by decide +kernel
theorem dX6_commonDivisor_18 : decode cX6_commonDivisor 18 = .ok (.iload_n 2, 1) := by decide +kernel
theorem dX6_commonDivisor_19 : decode cX6_commonDivisor 19 = .ok (.iload_n 3, 1) := by decide +kernel
theorem dX6_commonDivisor_20 : decode cX6_commonDivisor 20 = .ok (.irem, 1) := by decide +kernel
theorem dX6_commonDivisor_21 : decode cX6_commonDivisor 21 = .ok (.istore 5, 2) := by decide +kernel
theorem dX6_commonDivisor_23 : decode cX6_commonDivisor 23 = .ok (.iload_n 3, 1) := by decide +kernel
theorem dX6_commonDivisor_24 : decode cX6_commonDivisor 24 = .ok (.istore_n 2, 1) := by decide +kernel
theorem dX6_commonDivisor_25 : decode cX6_commonDivisor 25 = .ok (.iload 5, 2) := by decide +kernel
theorem dX6_commonDivisor_27 : decode cX6_commonDivisor 27 = .ok (.istore_n 3, 1) := by decide +kernel
theorem dX6_commonDivisor_28 : decode cX6_commonDivisor 28 = .ok (.iinc 4 1, 3) := by decide +kernel
theorem dX6_commonDivisor_31 : decode cX6_commonDivisor 31 = .ok (.goto (-24), 3) := by decide +kernel
theorem dX6_commonDivisor_34 : decode cX6_commonDivisor 34 = .ok (.iload_n 2, 1) := by decide +kernel
theorem dX6_commonDivisor_35 : decode cX6_commonDivisor 35 = .ok (.ireturn, 1) := by decide +kernel
theorem dX6_markOfRow_0 : decode cX6_markOfRow 0 = .ok (.aload_n 0, 1) := by decide +kernel
theorem dX6_markOfRow_1 : decode cX6_markOfRow 1 = .ok (.dup, 1) := by decide +kernel
theorem dX6_markOfRow_2 : decode cX6_markOfRow 2 = .ok (.getfield 250, 3) := by decide +kernel
theorem dX6_markOfRow_5 : decode cX6_markOfRow 5 = .ok (.lconst 1, 1) := by decide +kernel
theorem dX6_markOfRow_6 : decode cX6_markOfRow 6 = .ok (.ladd, 1) := by decide +kernel
theorem dX6_markOfRow_7 : decode cX6_markOfRow 7 = .ok (.putfield 250, 3) := by decide +kernel
theorem dX6_markOfRow_10 : decode cX6_markOfRow 10 = .ok (.aload_n 0, 1) := by decide +kernel
theorem dX6_markOfRow_11 : decode cX6_markOfRow 11 = .ok (.invokevirtual 90, 3) := by decide +kernel
theorem dX6_markOfRow_14 : decode cX6_markOfRow 14 = .ok (.getfield 104, 3) := by decide +kernel
theorem dX6_markOfRow_17 : decode cX6_markOfRow 17 = .ok (.iload_n 1, 1) := by decide +kernel
theorem dX6_markOfRow_18 : decode cX6_markOfRow 18 = .ok (.iaload, 1) := by decide +kernel
theorem dX6_markOfRow_19 : decode cX6_markOfRow 19 = .ok (.ireturn, 1) := by decide +kernel
theorem dX6_markOfPoor_0 : decode cX6_markOfPoor 0 = .ok (.aload_n 0, 1) := by decide +kernel
theorem dX6_markOfPoor_1 : decode cX6_markOfPoor 1 = .ok (.dup, 1) := by decide +kernel
theorem dX6_markOfPoor_2 : decode cX6_markOfPoor 2 = .ok (.getfield 250, 3) := by decide +kernel
theorem dX6_markOfPoor_5 : decode cX6_markOfPoor 5 = .ok (.ldc2_w 261, 3) := by decide +kernel
theorem dX6_markOfPoor_8 : decode cX6_markOfPoor 8 = .ok (.ladd, 1) := by decide +kernel
theorem dX6_markOfPoor_9 : decode cX6_markOfPoor 9 = .ok (.putfield 250, 3) := by decide +kernel
theorem dX6_markOfPoor_12 : decode cX6_markOfPoor 12 = .ok (.aload_n 0, 1) := by decide +kernel
theorem dX6_markOfPoor_13 : decode cX6_markOfPoor 13 = .ok (.iload_n 1, 1) := by decide +kernel
theorem dX6_markOfPoor_14 : decode cX6_markOfPoor 14 = .ok (.invokevirtual 228, 3) := by decide +kernel
theorem dX6_markOfPoor_17 : decode cX6_markOfPoor 17 = .ok (.aload_n 0, 1) := by decide +kernel
theorem dX6_markOfPoor_18 : decode cX6_markOfPoor 18 = .ok (.invokevirtual 90, 3) := by decide +kernel
theorem dX6_markOfPoor_21 : decode cX6_markOfPoor 21 = .ok (.iload_n 1, 1) := by decide +kernel
theorem dX6_markOfPoor_22 : decode cX6_markOfPoor 22 = .ok (.invokevirtual 108, 3) := by decide +kernel
theorem dX6_markOfPoor_25 : decode cX6_markOfPoor 25 = .ok (.iadd, 1) := by decide +kernel
theorem dX6_markOfPoor_26 : decode cX6_markOfPoor 26 = .ok (.ireturn, 1) := by decide +kernel
theorem dX6_markOfBride_0 : decode cX6_markOfBride 0 = .ok (.aload_n 0, 1) := by decide +kernel
theorem dX6_markOfBride_1 : decode cX6_markOfBride 1 = .ok (.dup, 1) := by decide +kernel
theorem dX6_markOfBride_2 : decode cX6_markOfBride 2 = .ok (.getfield 250, 3) := by decide +kernel
theorem dX6_markOfBride_5 : decode cX6_markOfBride 5 = .ok (.ldc2_w 263, 3) := by decide +kernel
theorem dX6_markOfBride_8 : decode cX6_markOfBride 8 = .ok (.ladd, 1) := by decide +kernel
theorem dX6_markOfBride_9 : decode cX6_markOfBride 9 = .ok (.putfield 250, 3) := by decide +kernel
theorem dX6_markOfBride_12 : decode cX6_markOfBride 12 = .ok (.aload_n 0, 1) := by decide +kernel
theorem dX6_markOfBride_13 : decode cX6_markOfBride 13 = .ok (.iload_n 1, 1) := by decide +kernel
theorem dX6_markOfBride_14 : decode cX6_markOfBride 14 = .ok (.invokevirtual 228, 3) := by decide +kernel
theorem dX6_markOfBride_17 : decode cX6_markOfBride 17 = .ok (.aload_n 0, 1) := by decide +kernel
theorem dX6_markOfBride_18 : decode cX6_markOfBride 18 = .ok (.invokevirtual 90, 3) := by decide +kernel
theorem dX6_markOfBride_21 : decode cX6_markOfBride 21 = .ok (.getfield 105, 3) := by decide +kernel
theorem dX6_markOfBride_24 : decode cX6_markOfBride 24 = .ok (.iload_n 1, 1) := by decide +kernel
theorem dX6_markOfBride_25 : decode cX6_markOfBride 25 = .ok (.iaload, 1) := by decide +kernel
theorem dX6_markOfBride_26 : decode cX6_markOfBride 26 = .ok (.isub, 1) := by decide +kernel
theorem dX6_markOfBride_27 : decode cX6_markOfBride 27 = .ok (.ireturn, 1) := by decide +kernel
theorem dX6_markOfDrover_0 : decode cX6_markOfDrover 0 = .ok (.aload_n 0, 1) := by decide +kernel
theorem dX6_markOfDrover_1 : decode cX6_markOfDrover 1 = .ok (.dup, 1) := by decide +kernel
theorem dX6_markOfDrover_2 : decode cX6_markOfDrover 2 = .ok (.getfield 250, 3) := by decide +kernel
theorem dX6_markOfDrover_5 : decode cX6_markOfDrover 5 = .ok (.ldc2_w 265, 3) := by decide +kernel
theorem dX6_markOfDrover_8 : decode cX6_markOfDrover 8 = .ok (.ladd, 1) := by decide +kernel
theorem dX6_markOfDrover_9 : decode cX6_markOfDrover 9 = .ok (.putfield 250, 3) := by decide +kernel
theorem dX6_markOfDrover_12 : decode cX6_markOfDrover 12 = .ok (.aload_n 0, 1) := by decide +kernel
theorem dX6_markOfDrover_13 : decode cX6_markOfDrover 13 = .ok (.iload_n 1, 1) := by decide +kernel
theorem dX6_markOfDrover_14 : decode cX6_markOfDrover 14 = .ok (.invokevirtual 231, 3) := by decide +kernel
theorem dX6_markOfDrover_17 : decode cX6_markOfDrover 17 = .ok (.iconst 2, 1) := by decide +kernel
theorem dX6_markOfDrover_18 : decode cX6_markOfDrover 18 = .ok (.imul, 1) := by decide +kernel
theorem dX6_markOfDrover_19 : decode cX6_markOfDrover 19 = .ok (.ireturn, 1) := by decide +kernel
theorem dX6_markOfOath_0 : decode cX6_markOfOath 0 = .ok (.aload_n 0, 1) := by decide +kernel
theorem dX6_markOfOath_1 : decode cX6_markOfOath 1 = .ok (.dup, 1) := by decide +kernel
theorem dX6_markOfOath_2 : decode cX6_markOfOath 2 = .ok (.getfield 250, 3) := by decide +kernel
theorem dX6_markOfOath_5 : decode cX6_markOfOath 5 = .ok (.ldc2_w 267, 3) := by decide +kernel
theorem dX6_markOfOath_8 : decode cX6_markOfOath 8 = .ok (.ladd, 1) := by decide +kernel
theorem dX6_markOfOath_9 : decode cX6_markOfOath 9 = .ok (.putfield 250, 3) := by decide +kernel
theorem dX6_markOfOath_12 : decode cX6_markOfOath 12 = .ok (.aload_n 0, 1) := by decide +kernel
theorem dX6_markOfOath_13 : decode cX6_markOfOath 13 = .ok (.iload_n 1, 1) := by decide +kernel
theorem dX6_markOfOath_14 : decode cX6_markOfOath 14 = .ok (.invokevirtual 234, 3) := by decide +kernel
theorem dX6_markOfOath_17 : decode cX6_markOfOath 17 = .ok (.aload_n 0, 1) := by decide +kernel
theorem dX6_markOfOath_18 : decode cX6_markOfOath 18 = .ok (.getfield 48, 3) := by decide +kernel
theorem dX6_markOfOath_21 : decode cX6_markOfOath 21 = .ok (.getfield 83, 3) := by decide +kernel
theorem dX6_markOfOath_24 : decode cX6_markOfOath 24 = .ok (.aload_n 0, 1) := by decide +kernel
theorem dX6_markOfOath_25 : decode cX6_markOfOath 25 = .ok (.invokevirtual 90, 3) := by decide +kernel
theorem dX6_markOfOath_28 : decode cX6_markOfOath 28 = .ok (.getfield 101, 3) := by decide +kernel
theorem dX6_markOfOath_31 : decode cX6_markOfOath 31 = .ok (.iload_n 1, 1) := by decide +kernel
theorem dX6_markOfOath_32 : decode cX6_markOfOath 32 = .ok (.iaload, 1) := by decide +kernel
theorem dX6_markOfOath_33 : decode cX6_markOfOath 33 = .ok (.iaload, 1) := by decide +kernel
theorem dX6_markOfOath_34 : decode cX6_markOfOath 34 = .ok (.iadd, 1) := by decide +kernel
theorem dX6_markOfOath_35 : decode cX6_markOfOath 35 = .ok (.ireturn, 1) := by decide +kernel
theorem dX6_markOfSheep_0 : decode cX6_markOfSheep 0 = .ok (.aload_n 0, 1) := by decide +kernel
theorem dX6_markOfSheep_1 : decode cX6_markOfSheep 1 = .ok (.dup, 1) := by decide +kernel
theorem dX6_markOfSheep_2 : decode cX6_markOfSheep 2 = .ok (.getfield 250, 3) := by decide +kernel
theorem dX6_markOfSheep_5 : decode cX6_markOfSheep 5 = .ok (.ldc2_w 269, 3) := by decide +kernel
theorem dX6_markOfSheep_8 : decode cX6_markOfSheep 8 = .ok (.ladd, 1) := by decide +kernel
theorem dX6_markOfSheep_9 : decode cX6_markOfSheep 9 = .ok (.putfield 250, 3) := by decide +kernel
theorem dX6_markOfSheep_12 : decode cX6_markOfSheep 12 = .ok (.aload_n 0, 1) := by decide +kernel
theorem dX6_markOfSheep_13 : decode cX6_markOfSheep 13 = .ok (.iload_n 1, 1) := by decide +kernel
theorem dX6_markOfSheep_14 : decode cX6_markOfSheep 14 = .ok (.invokevirtual 228, 3) := by decide +kernel
theorem dX6_markOfSheep_17 : decode cX6_markOfSheep 17 = .ok (.aload_n 0, 1) := by decide +kernel
theorem dX6_markOfSheep_18 : decode cX6_markOfSheep 18 = .ok (.invokevirtual 90, 3) := by decide +kernel
theorem dX6_markOfSheep_21 : decode cX6_markOfSheep 21 = .ok (.getfield 138, 3) := by decide +kernel
theorem dX6_markOfSheep_24 : decode cX6_markOfSheep 24 = .ok (.iadd, 1) := by decide +kernel
theorem dX6_markOfSheep_25 : decode cX6_markOfSheep 25 = .ok (.ireturn, 1) := by decide +kernel
theorem dX7_init_0 : decode cX7_init 0 = .ok (.aload_n 0, 1) := by decide +kernel
theorem dX7_init_1 : decode cX7_init 1 = .ok (.invokespecial 1, 3) := by decide +kernel
theorem dX7_init_4 : decode cX7_init 4 = .ok (.aload_n 0, 1) := by decide +kernel
theorem dX7_init_5 : decode cX7_init 5 = .ok (.sipush 200, 3) := by decide +kernel
theorem dX7_init_8 : decode cX7_init 8 = .ok (.newarray .int, 2) := by decide +kernel
theorem dX7_init_10 : decode cX7_init 10 = .ok (.putfield 7, 3) := by decide +kernel
theorem dX7_init_13 : decode cX7_init 13 = .ok (.aload_n 0, 1) := by decide +kernel
theorem dX7_init_14 : decode cX7_init 14 = .ok (.bipush 58, 2) := by decide +kernel
theorem dX7_init_16 : decode cX7_init 16 = .ok (.newarray .int, 2) := by decide +kernel
theorem dX7_init_18 : decode cX7_init 18 = .ok (.putfield 13, 3) := by decide +kernel
theorem dX7_init_21 : decode cX7_init 21 = .ok (.aload_n 0, 1) := by decide +kernel
theorem dX7_init_22 : decode cX7_init 22 = .ok (.bipush 59, 2) := by decide +kernel
theorem dX7_init_24 : decode cX7_init 24 = .ok (.newarray .int, 2) := by decide +kernel
theorem dX7_init_26 : decode cX7_init 26 = .ok (.putfield 16, 3) := by decide +kernel
theorem dX7_init_29 : decode cX7_init 29 = .ok (.aload_n 0, 1) := by decide +kernel
theorem dX7_init_30 : decode cX7_init 30 = .ok (.sipush 1108, 3) := by decide +kernel
theorem dX7_init_33 : decode cX7_init 33 = .ok (.newarray .int, 2) := by decide +kernel
theorem dX7_init_35 : decode cX7_init 35 = .ok (.putfield 19, 3) := by decide +kernel
theorem dX7_init_38 : decode cX7_init 38 = .ok (.aload_n 0, 1) := by decide +kernel
theorem dX7_init_39 : decode cX7_init 39 = .ok (.sipush 2216, 3) := by decide +kernel
theorem dX7_init_42 : decode cX7_init 42 = .ok (.newarray .int, 2) := by decide +kernel
theorem dX7_init_44 : decode cX7_init 44 = .ok (.putfield 22, 3) := by decide +kernel
theorem dX7_init_47 : decode cX7_init 47 = .ok (.aload_n 0, 1) := by decide +kernel
theorem dX7_init_48 : decode cX7_init 48 = .ok (.iconst 2, 1) := by decide +kernel
theorem dX7_init_49 : decode cX7_init 49 = .ok (.newarray .boolean, 2) := by decide +kernel
theorem dX7_init_51 : decode cX7_init 51 = .ok (.putfield 25, 3) := by decide +kernel
theorem dX7_init_54 : decode cX7_init 54 = .ok (.aload_n 0, 1) := by decide +kernel
theorem dX7_init_55 : decode cX7_init 55 = .ok (.bipush 6, 2) := by decide +kernel
theorem dX7_init_57 : decode cX7_init 57 = .ok (.newarray .int, 2) := by decide +kernel
theorem dX7_init_59 : decode cX7_init 59 = .ok (.putfield 29, 3) := by decide +kernel
theorem dX7_init_62 : decode cX7_init 62 = .ok (.aload_n 0, 1) := by decide +kernel
theorem dX7_init_63 : decode cX7_init 63 = .ok (.bipush 123, 2) := by decide +kernel
theorem dX7_init_65 : decode cX7_init 65 = .ok (.newarray .int, 2) := by decide +kernel
theorem dX7_init_67 : decode cX7_init 67 = .ok (.putfield 32, 3) := by decide +kernel
theorem dX7_init_70 : decode cX7_init 70 = .ok (.aload_n 0, 1) := by decide +kernel
theorem dX7_init_71 : decode cX7_init 71 = .ok (.invokevirtual 35, 3) := by decide +kernel
theorem dX7_init_74 : decode cX7_init 74 = .ok (.pop, 1) := by decide +kernel
theorem dX7_init_75 : decode cX7_init 75 = .ok (.aload_n 0, 1) := by decide +kernel
theorem dX7_init_76 : decode cX7_init 76 = .ok (.invokevirtual 39, 3) := by decide +kernel
theorem dX7_init_79 : decode cX7_init 79 = .ok (.return_, 1) := by decide +kernel
theorem dX7_in_0 : decode cX7_in 0 = .ok (.iload_n 0, 1) := by decide +kernel
theorem dX7_in_1 : decode cX7_in 1 = .ok (.iload_n 1, 1) := by decide +kernel
theorem dX7_in_2 : decode cX7_in 2 = .ok (.if_icmp .lt 12, 3) := by decide +kernel
theorem dX7_in_5 : decode cX7_in 5 = .ok (.iload_n 0, 1) := by decide +kernel
theorem dX7_in_6 : decode cX7_in 6 = .ok (.iload_n 2, 1) := by decide +kernel
theorem dX7_in_7 : decode cX7_in 7 = .ok (.if_icmp .gt 7, 3) := by decide +kernel
theorem dX7_in_10 : decode cX7_in 10 = .ok (.iconst 1, 1) := by decide +kernel
theorem dX7_in_11 : decode cX7_in 11 = .ok (.goto 4, 3) := by decide +kernel
theorem dX7_in_14 : decode cX7_in 14 = .ok (.iconst 0, 1) := by decide +kernel
theorem dX7_in_15 : decode cX7_in 15 = .ok (.ireturn, 1) := by decide +kernel
theorem dX7_isPerson_0 : decode cX7_isPerson 0 = .ok (.iload_n 1, 1) := by decide +kernel
theorem dX7_isPerson_1 : decode cX7_isPerson 1 = .ok (.iconst 0, 1) := by decide +kernel
theorem dX7_isPerson_2 : decode cX7_isPerson 2 = .ok (.aload_n 0, 1) := by decide +kernel
theorem dX7_isPerson_3 : decode cX7_isPerson 3 = .ok (.getfield 13, 3) := by decide +kernel
theorem dX7_isPerson_6 : decode cX7_isPerson 6 = .ok (.iconst 0, 1) := by decide +kernel
theorem dX7_isPerson_7 : decode cX7_isPerson 7 = .ok (.iaload, 1) := by decide +kernel
theorem dX7_isPerson_8 : decode cX7_isPerson 8 = .ok (.iconst 1, 1) := by decide +kernel
theorem dX7_isPerson_9 : decode cX7_isPerson 9 = .ok (.isub, 1) := by decide +kernel
theorem dX7_isPerson_10 : decode cX7_isPerson 10 = .ok (.invokestatic 42, 3) := by decide +kernel
theorem dX7_isPerson_13 : decode cX7_isPerson 13 = .ok (.ireturn, 1) := by decide +kernel
theorem dX7_isRow_0 : decode cX7_isRow 0 = .ok (.iload_n 1, 1) := by decide +kernel
theorem dX7_isRow_1 : decode cX7_isRow 1 = .ok (.iconst 0, 1) := by decide +kernel
theorem dX7_isRow_2 : decode cX7_isRow 2 = .ok (.aload_n 0, 1) := by decide +kernel
theorem dX7_isRow_3 : decode cX7_isRow 3 = .ok (.getfield 19, 3) := by decide +kernel
theorem dX7_isRow_6 : decode cX7_isRow 6 = .ok (.iconst 0, 1) := by decide +kernel
theorem dX7_isRow_7 : decode cX7_isRow 7 = .ok (.iaload, 1) := by decide +kernel
theorem dX7_isRow_8 : decode cX7_isRow 8 = .ok (.iconst 1, 1) := by decide +kernel
theorem dX7_isRow_9 : decode cX7_isRow 9 = .ok (.isub, 1) := by decide +kernel
theorem dX7_isRow_10 : decode cX7_isRow 10 = .ok (.invokestatic 42, 3) := by decide +kernel
theorem dX7_isRow_13 : decode cX7_isRow 13 = .ok (.ireturn, 1) := by decide +kernel
theorem dX7_type_0 : decode cX7_type 0 = .ok (.iload_n 1, 1) := by decide +kernel
theorem dX7_type_1 : decode cX7_type 1 = .ok (.iconst 0, 1) := by decide +kernel
theorem dX7_type_2 : decode cX7_type 2 = .ok (.sipush 255, 3) := by decide +kernel
theorem dX7_type_5 : decode cX7_type 5 = .ok (.invokestatic 42, 3) := by decide +kernel
theorem dX7_type_8 : decode cX7_type 8 = .ok (.ifCond .ne 5, 3) := by decide +kernel
theorem dX7_type_11 : decode cX7_type 11 = .ok (.iconst (-1), 1) := by decide +kernel
theorem dX7_type_12 : decode cX7_type 12 = .ok (.ireturn, 1) := by decide +kernel
theorem dX7_type_13 : decode cX7_type 13 = .ok (.aload_n 0, 1) := by decide +kernel
theorem dX7_type_14 : decode cX7_type 14 = .ok (.getfield 46, 3) := by decide +kernel
theorem dX7_type_17 : decode cX7_type 17 = .ok (.sipush 150, 3) := by decide +kernel
theorem dX7_type_20 : decode cX7_type 20 = .ok (.if_icmp .ne 6, 3) := by decide +kernel
theorem dX7_type_23 : decode cX7_type 23 = .ok (.bipush (-3), 2) := by decide +kernel
theorem dX7_type_25 : decode cX7_type 25 = .ok (.ireturn, 1) := by decide +kernel
theorem dX7_type_26 : decode cX7_type 26 = .ok (.aload_n 0, 1) := by decide +kernel
theorem dX7_type_27 : decode cX7_type 27 = .ok (.getfield 7, 3) := by decide +kernel
theorem dX7_type_30 : decode cX7_type 30 = .ok (.aload_n 0, 1) := by decide +kernel
theorem dX7_type_31 : decode cX7_type 31 = .ok (.getfield 46, 3) := by decide +kernel
theorem dX7_type_34 : decode cX7_type 34 = .ok (.iload_n 1, 1) := by decide +kernel
theorem dX7_type_35 : decode cX7_type 35 = .ok (.iastore, 1) := by decide +kernel
theorem dX7_type_36 : decode cX7_type 36 = .ok (.aload_n 0, 1) := by decide +kernel
theorem dX7_type_37 : decode cX7_type 37 = .ok (.dup, 1) := by decide +kernel
theorem dX7_type_38 : decode cX7_type 38 = .ok (.getfield 46, 3) := by decide +kernel
theorem dX7_type_41 : decode cX7_type 41 = .ok (.iconst 1, 1) := by decide +kernel
theorem dX7_type_42 : decode cX7_type 42 = .ok (.iadd, 1) := by decide +kernel
theorem dX7_type_43 : decode cX7_type 43 = .ok (.putfield 46, 3) := by decide +kernel
theorem dX7_type_46 : decode cX7_type 46 = .ok (.aload_n 0, 1) := by decide +kernel
theorem dX7_type_47 : decode cX7_type 47 = .ok (.getfield 46, 3) := by decide +kernel
theorem dX7_type_50 : decode cX7_type 50 = .ok (.ireturn, 1) := by decide +kernel
theorem dX7_clear_0 : decode cX7_clear 0 = .ok (.aload_n 0, 1) := by decide +kernel
theorem dX7_clear_1 : decode cX7_clear 1 = .ok (.getfield 46, 3) := by decide +kernel
theorem dX7_clear_4 : decode cX7_clear 4 = .ok (.istore_n 1, 1) := by decide +kernel
theorem dX7_clear_5 : decode cX7_clear 5 = .ok (.aload_n 0, 1) := by decide +kernel
theorem dX7_clear_6 : decode cX7_clear 6 = .ok (.iconst 0, 1) := by decide +kernel
theorem dX7_clear_7 : decode cX7_clear 7 = .ok (.putfield 46, 3) := by decide +kernel
theorem dX7_clear_10 : decode cX7_clear 10 = .ok (.iload_n 1, 1) := by decide +kernel
theorem dX7_clear_11 : decode cX7_clear 11 = .ok (.ireturn, 1) := by decide +kernel
theorem dX7_byteAt_0 : decode cX7_byteAt 0 = .ok (.iload_n 1, 1) := by decide +kernel
theorem dX7_byteAt_1 : decode cX7_byteAt 1 = .ok (.aload_n 0, 1) := by decide +kernel
theorem dX7_byteAt_2 : decode cX7_byteAt 2 = .ok (.getfield 46, 3) := by decide +kernel
theorem dX7_byteAt_5 : decode cX7_byteAt 5 = .ok (.if_icmp .ge 12, 3) := by decide +kernel
theorem dX7_byteAt_8 : decode cX7_byteAt 8 = .ok (.aload_n 0, 1) := by decide +kernel
theorem dX7_byteAt_9 : decode cX7_byteAt 9 = .ok (.getfield 7, 3) := by decide +kernel
theorem dX7_byteAt_12 : decode cX7_byteAt 12 = .ok (.iload_n 1, 1) := by decide +kernel
theorem dX7_byteAt_13 : decode cX7_byteAt 13 = .ok (.iaload, 1) := by decide +kernel
theorem dX7_byteAt_14 : decode cX7_byteAt 14 = .ok (.goto 4, 3) := by decide +kernel
theorem dX7_byteAt_17 : decode cX7_byteAt 17 = .ok (.iconst (-1), 1) := by decide +kernel
theorem dX7_byteAt_18 : decode cX7_byteAt 18 = .ok (.ireturn, 1) := by decide +kernel
theorem dX7_isLetter_0 : decode cX7_isLetter 0 = .ok (.iload_n 0, 1) := by decide +kernel
theorem dX7_isLetter_1 : decode cX7_isLetter 1 = .ok (.bipush 97, 2) := by decide +kernel
theorem dX7_isLetter_3 : decode cX7_isLetter 3 = .ok (.bipush 122, 2) := by decide +kernel
theorem dX7_isLetter_5 : decode cX7_isLetter 5 = .ok (.invokestatic 42, 3) := by decide +kernel
theorem dX7_isLetter_8 : decode cX7_isLetter 8 = .ok (.ireturn, 1) := by decide +kernel
theorem dX7_isDigit_0 : decode cX7_isDigit 0 = .ok (.iload_n 0, 1) := by decide +kernel
theorem dX7_isDigit_1 : decode cX7_isDigit 1 = .ok (.bipush 48, 2) := by decide +kernel
theorem dX7_isDigit_3 : decode cX7_isDigit 3 = .ok (.bipush 57, 2) := by decide +kernel
theorem dX7_isDigit_5 : decode cX7_isDigit 5 = .ok (.invokestatic 42, 3) := by decide +kernel
theorem dX7_isDigit_8 : decode cX7_isDigit 8 = .ok (.ireturn, 1) := by decide +kernel
theorem dX7_token_0 : decode cX7_token 0 = .ok (.aload_n 0, 1) := by decide +kernel
theorem dX7_token_1 : decode cX7_token 1 = .ok (.aload_n 0, 1) := by decide +kernel
theorem dX7_token_2 : decode cX7_token 2 = .ok (.getfield 50, 3) := by decide +kernel
theorem dX7_token_5 : decode cX7_token 5 = .ok (.invokevirtual 53, 3) := by decide +kernel
theorem dX7_token_8 : decode cX7_token 8 = .ok (.bipush 32, 2) := by decide +kernel
theorem dX7_token_10 : decode cX7_token 10 = .ok (.if_icmp .ne 16, 3) := by decide +kernel
theorem dX7_token_13 : decode cX7_token 13 = .ok (.aload_n 0, 1) := by decide +kernel
theorem dX7_token_14 : decode cX7_token 14 = .ok (.dup, 1) := by decide +kernel
theorem dX7_token_15 : decode cX7_token 15 = .ok (.getfield 50, 3) := by decide +kernel
theorem dX7_token_18 : decode cX7_token 18 = .ok (.iconst 1, 1) := by decide +kernel
theorem dX7_token_19 : decode cX7_token 19 = .ok (.iadd, 1) := by decide +kernel
theorem dX7_token_20 : decode cX7_token 20 = .ok (.putfield 50, 3) := by decide +kernel
theorem dX7_token_23 : decode cX7_token 23 = .ok (.goto (-23), 3) := by decide +kernel
theorem dX7_token_26 : decode cX7_token 26 = .ok (.aload_n 0, 1) := by decide +kernel
theorem dX7_token_27 : decode cX7_token 27 = .ok (.aload_n 0, 1) := by decide +kernel
theorem dX7_token_28 : decode cX7_token 28 = .ok (.getfield 50, 3) := by decide +kernel
theorem dX7_token_31 : decode cX7_token 31 = .ok (.putfield 57, 3) := by decide +kernel
theorem dX7_token_34 : decode cX7_token 34 = .ok (.aload_n 0, 1) := by decide +kernel
theorem dX7_token_35 : decode cX7_token 35 = .ok (.aload_n 0, 1) := by decide +kernel
theorem dX7_token_36 : decode cX7_token 36 = .ok (.getfield 50, 3) := by decide +kernel
theorem dX7_token_39 : decode cX7_token 39 = .ok (.invokevirtual 53, 3) := by decide +kernel
theorem dX7_token_42 : decode cX7_token 42 = .ok (.istore_n 1, 1) := by decide +kernel
theorem dX7_token_43 : decode cX7_token 43 = .ok (.aload_n 0, 1) := by decide +kernel
theorem dX7_token_44 : decode cX7_token 44 = .ok (.iload_n 1, 1) := by decide +kernel
