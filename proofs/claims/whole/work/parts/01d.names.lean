theorem dX2_init_0 : decode cX2_init 0 = .ok (.aload_n 0, 1) := by decide +kernel
theorem dX2_init_1 : decode cX2_init 1 = .ok (.invokespecial 3, 3) := by decide +kernel
theorem dX2_init_4 : decode cX2_init 4 = .ok (.aload_n 0, 1) := by decide +kernel
theorem dX2_init_5 : decode cX2_init 5 = .ok (.new 9, 3) := by decide +kernel
theorem dX2_init_8 : decode cX2_init 8 = .ok (.dup, 1) := by decide +kernel
theorem dX2_init_9 : decode cX2_init 9 = .ok (.invokespecial 11, 3) := by decide +kernel
theorem dX2_init_12 : decode cX2_init 12 = .ok (.putfield 12, 3) := by decide +kernel
theorem dX2_init_15 : decode cX2_init 15 = .ok (.aload_n 0, 1) := by decide +kernel
theorem dX2_init_16 : decode cX2_init 16 = .ok (.iconst 4, 1) := by decide +kernel
theorem dX2_init_17 : decode cX2_init 17 = .ok (.anewarray 16, 3) := by decide +kernel
theorem dX2_init_20 : decode cX2_init 20 = .ok (.putfield 18, 3) := by decide +kernel
theorem dX2_init_23 : decode cX2_init 23 = .ok (.aload_n 0, 1) := by decide +kernel
theorem dX2_init_24 : decode cX2_init 24 = .ok (.new 16, 3) := by decide +kernel
theorem dX2_init_27 : decode cX2_init 27 = .ok (.dup, 1) := by decide +kernel
theorem dX2_init_28 : decode cX2_init 28 = .ok (.invokespecial 22, 3) := by decide +kernel
theorem dX2_init_31 : decode cX2_init 31 = .ok (.putfield 23, 3) := by decide +kernel
theorem dX2_init_34 : decode cX2_init 34 = .ok (.aload_n 0, 1) := by decide +kernel
theorem dX2_init_35 : decode cX2_init 35 = .ok (.iconst 0, 1) := by decide +kernel
theorem dX2_init_36 : decode cX2_init 36 = .ok (.putfield 27, 3) := by decide +kernel
theorem dX2_init_39 : decode cX2_init 39 = .ok (.aload_n 0, 1) := by decide +kernel
theorem dX2_init_40 : decode cX2_init 40 = .ok (.iconst 0, 1) := by decide +kernel
theorem dX2_init_41 : decode cX2_init 41 = .ok (.putfield 31, 3) := by decide +kernel
theorem dX2_init_44 : decode cX2_init 44 = .ok (.aload_n 0, 1) := by decide +kernel
theorem dX2_init_45 : decode cX2_init 45 = .ok (.iconst 0, 1) := by decide +kernel
theorem dX2_init_46 : decode cX2_init 46 = .ok (.putfield 34, 3) := by decide +kernel
theorem dX2_init_49 : decode cX2_init 49 = .ok (.aload_n 0, 1) := by decide +kernel
theorem dX2_init_50 : decode cX2_init 50 = .ok (.iconst 0, 1) := by decide +kernel
theorem dX2_init_51 : decode cX2_init 51 = .ok (.putfield 37, 3) := by decide +kernel
theorem dX2_init_54 : decode cX2_init 54 = .ok (.aload_n 0, 1) := by decide +kernel
theorem dX2_init_55 : decode cX2_init 55 = .ok (.bipush 12, 2) := by decide +kernel
theorem dX2_init_57 : decode cX2_init 57 = .ok (.newarray .int, 2) := by decide +kernel
theorem dX2_init_59 : decode cX2_init 59 = .ok (.putfield 40, 3) := by decide +kernel
theorem dX2_init_62 : decode cX2_init 62 = .ok (.aload_n 0, 1) := by decide +kernel
theorem dX2_init_63 : decode cX2_init 63 = .ok (.iconst 0, 1) := by decide +kernel
theorem dX2_init_64 : decode cX2_init 64 = .ok (.putfield 44, 3) := by decide +kernel
theorem dX2_init_67 : decode cX2_init 67 = .ok (.aload_n 0, 1) := by decide +kernel
theorem dX2_init_68 : decode cX2_init 68 = .ok (.sipush 4096, 3) := by decide +kernel
theorem dX2_init_71 : decode cX2_init 71 = .ok (.newarray .int, 2) := by decide +kernel
theorem dX2_init_73 : decode cX2_init 73 = .ok (.putfield 47, 3) := by decide +kernel
theorem dX2_init_76 : decode cX2_init 76 = .ok (.aload_n 0, 1) := by decide +kernel
theorem dX2_init_77 : decode cX2_init 77 = .ok (.iconst (-1), 1) := by decide +kernel
theorem dX2_init_78 : decode cX2_init 78 = .ok (.putfield 50, 3) := by decide +kernel
theorem dX2_init_81 : decode cX2_init 81 = .ok (.aload_n 0, 1) := by decide +kernel
theorem dX2_init_82 : decode cX2_init 82 = .ok (.sipush 4096, 3) := by decide +kernel
theorem dX2_init_85 : decode cX2_init 85 = .ok (.newarray .boolean, 2) := by decide +kernel
theorem dX2_init_87 : decode cX2_init 87 = .ok (.putfield 53, 3) := by decide +kernel
theorem dX2_init_90 : decode cX2_init 90 = .ok (.iconst 0, 1) := by decide +kernel
theorem dX2_init_91 : decode cX2_init 91 = .ok (.istore_n 1, 1) := by decide +kernel
theorem dX2_init_92 : decode cX2_init 92 = .ok (.iload_n 1, 1) := by decide +kernel
theorem dX2_init_93 : decode cX2_init 93 = .ok (.iconst 4, 1) := by decide +kernel
theorem dX2_init_94 : decode cX2_init 94 = .ok (.if_icmp .ge 22, 3) := by decide +kernel
theorem dX2_init_97 : decode cX2_init 97 = .ok (.aload_n 0, 1) := by decide +kernel
theorem dX2_init_98 : decode cX2_init 98 = .ok (.getfield 18, 3) := by decide +kernel
theorem dX2_init_101 : decode cX2_init 101 = .ok (.iload_n 1, 1) := by decide +kernel
theorem dX2_init_102 : decode cX2_init 102 = .ok (.new 16, 3) := by decide +kernel
theorem dX2_init_105 : decode cX2_init 105 = .ok (.dup, 1) := by decide +kernel
theorem dX2_init_106 : decode cX2_init 106 = .ok (.invokespecial 22, 3) := by decide +kernel
theorem dX2_init_109 : decode cX2_init 109 = .ok (.aastore, 1) := by decide +kernel
theorem dX2_init_110 : decode cX2_init 110 = .ok (.iinc 1 1, 3) := by decide +kernel
theorem dX2_init_113 : decode cX2_init 113 = .ok (.goto (-21), 3) := by decide +kernel
theorem dX2_init_116 : decode cX2_init 116 = .ok (.return_, 1) := by decide +kernel
theorem dX2_kind_0 : decode cX2_kind 0 = .ok (.aload_n 0, 1) := by decide +kernel
theorem dX2_kind_1 : decode cX2_kind 1 = .ok (.getfield 12, 3) := by decide +kernel
theorem dX2_kind_4 : decode cX2_kind 4 = .ok (.getfield 57, 3) := by decide +kernel
theorem dX2_kind_7 : decode cX2_kind 7 = .ok (.bipush 16, 2) := by decide +kernel
theorem dX2_kind_9 : decode cX2_kind 9 = .ok (.if_icmp .ge 16, 3) := by decide +kernel
theorem dX2_kind_12 : decode cX2_kind 12 = .ok (.aload_n 0, 1) := by decide +kernel
theorem dX2_kind_13 : decode cX2_kind 13 = .ok (.getfield 12, 3) := by decide +kernel
theorem dX2_kind_16 : decode cX2_kind 16 = .ok (.iload_n 1, 1) := by decide +kernel
theorem dX2_kind_17 : decode cX2_kind 17 = .ok (.iload_n 2, 1) := by decide +kernel
theorem dX2_kind_18 : decode cX2_kind 18 = .ok (.iload_n 3, 1) := by decide +kernel
theorem dX2_kind_19 : decode cX2_kind 19 = .ok (.invokevirtual 60, 3) := by decide +kernel
theorem dX2_kind_22 : decode cX2_kind 22 = .ok (.ifCond .ne 5, 3) := by decide +kernel
theorem dX2_kind_25 : decode cX2_kind 25 = .ok (.iconst (-1), 1) := by decide +kernel
theorem dX2_kind_26 : decode cX2_kind 26 = .ok (.ireturn, 1) := by decide +kernel
theorem dX2_kind_27 : decode cX2_kind 27 = .ok (.aload_n 0, 1) := by decide +kernel
theorem dX2_kind_28 : decode cX2_kind 28 = .ok (.getfield 12, 3) := by decide +kernel
theorem dX2_kind_31 : decode cX2_kind 31 = .ok (.iload_n 1, 1) := by decide +kernel
theorem dX2_kind_32 : decode cX2_kind 32 = .ok (.iload_n 2, 1) := by decide +kernel
theorem dX2_kind_33 : decode cX2_kind 33 = .ok (.iload_n 3, 1) := by decide +kernel
theorem dX2_kind_34 : decode cX2_kind 34 = .ok (.invokevirtual 64, 3) := by decide +kernel
theorem dX2_kind_37 : decode cX2_kind 37 = .ok (.istore 4, 2) := by decide +kernel
theorem dX2_kind_39 : decode cX2_kind 39 = .ok (.iload 4, 2) := by decide +kernel
theorem dX2_kind_41 : decode cX2_kind 41 = .ok (.bipush (-2), 2) := by decide +kernel
theorem dX2_kind_43 : decode cX2_kind 43 = .ok (.if_icmp .ne 6, 3) := by decide +kernel
theorem dX2_kind_46 : decode cX2_kind 46 = .ok (.bipush (-2), 2) := by decide +kernel
theorem dX2_kind_48 : decode cX2_kind 48 = .ok (.ireturn, 1) := by decide +kernel
theorem dX2_kind_49 : decode cX2_kind 49 = .ok (.iconst 0, 1) := by decide +kernel
theorem dX2_kind_50 : decode cX2_kind 50 = .ok (.istore 5, 2) := by decide +kernel
theorem dX2_kind_52 : decode cX2_kind 52 = .ok (.iload 5, 2) := by decide +kernel
theorem dX2_kind_54 : decode cX2_kind 54 = .ok (.aload_n 0, 1) := by decide +kernel
theorem dX2_kind_55 : decode cX2_kind 55 = .ok (.getfield 27, 3) := by decide +kernel
theorem dX2_kind_58 : decode cX2_kind 58 = .ok (.if_icmp .ge 25, 3) := by decide +kernel
theorem dX2_kind_61 : decode cX2_kind 61 = .ok (.aload_n 0, 1) := by decide +kernel
theorem dX2_kind_62 : decode cX2_kind 62 = .ok (.getfield 18, 3) := by decide +kernel
theorem dX2_kind_65 : decode cX2_kind 65 = .ok (.iload 5, 2) := by decide +kernel
theorem dX2_kind_67 : decode cX2_kind 67 = .ok (.aaload, 1) := by decide +kernel
theorem dX2_kind_68 : decode cX2_kind 68 = .ok (.iload 4, 2) := by decide +kernel
theorem dX2_kind_70 : decode cX2_kind 70 = .ok (.aload_n 0, 1) := by decide +kernel
theorem dX2_kind_71 : decode cX2_kind 71 = .ok (.getfield 12, 3) := by decide +kernel
theorem dX2_kind_74 : decode cX2_kind 74 = .ok (.invokevirtual 68, 3) := by decide +kernel
theorem dX2_kind_77 : decode cX2_kind 77 = .ok (.iinc 5 1, 3) := by decide +kernel
theorem dX2_kind_80 : decode cX2_kind 80 = .ok (.goto (-28), 3) := by decide +kernel
theorem dX2_kind_83 : decode cX2_kind 83 = .ok (.aload_n 0, 1) := by decide +kernel
theorem dX2_kind_84 : decode cX2_kind 84 = .ok (.iconst (-1), 1) := by decide +kernel
theorem dX2_kind_85 : decode cX2_kind 85 = .ok (.putfield 50, 3) := by decide +kernel
theorem dX2_kind_88 : decode cX2_kind 88 = .ok (.iload 4, 2) := by decide +kernel
theorem dX2_kind_90 : decode cX2_kind 90 = .ok (.ireturn, 1) := by decide +kernel
theorem dX2_is_0 : decode cX2_is 0 = .ok (.aload_n 0, 1) := by decide +kernel
theorem dX2_is_1 : decode cX2_is 1 = .ok (.getfield 12, 3) := by decide +kernel
theorem dX2_is_4 : decode cX2_is 4 = .ok (.iload_n 1, 1) := by decide +kernel
theorem dX2_is_5 : decode cX2_is 5 = .ok (.invokevirtual 72, 3) := by decide +kernel
theorem dX2_is_8 : decode cX2_is 8 = .ok (.ifCond .eq 30, 3) := by decide +kernel
theorem dX2_is_11 : decode cX2_is 11 = .ok (.aload_n 0, 1) := by decide +kernel
theorem dX2_is_12 : decode cX2_is 12 = .ok (.getfield 12, 3) := by decide +kernel
theorem dX2_is_15 : decode cX2_is 15 = .ok (.iload_n 2, 1) := by decide +kernel
theorem dX2_is_16 : decode cX2_is 16 = .ok (.invokevirtual 72, 3) := by decide +kernel
theorem dX2_is_19 : decode cX2_is 19 = .ok (.ifCond .eq 19, 3) := by decide +kernel
theorem dX2_is_22 : decode cX2_is 22 = .ok (.aload_n 0, 1) := by decide +kernel
theorem dX2_is_23 : decode cX2_is 23 = .ok (.getfield 12, 3) := by decide +kernel
theorem dX2_is_26 : decode cX2_is 26 = .ok (.iload_n 1, 1) := by decide +kernel
theorem dX2_is_27 : decode cX2_is 27 = .ok (.iload_n 2, 1) := by decide +kernel
theorem dX2_is_28 : decode cX2_is 28 = .ok (.invokevirtual 76, 3) := by decide +kernel
theorem dX2_is_31 : decode cX2_is 31 = .ok (.ifCond .eq 7, 3) := by decide +kernel
theorem dX2_is_34 : decode cX2_is 34 = .ok (.iconst 1, 1) := by decide +kernel
theorem dX2_is_35 : decode cX2_is 35 = .ok (.goto 4, 3) := by decide +kernel
theorem dX2_is_38 : decode cX2_is 38 = .ok (.iconst 0, 1) := by decide +kernel
theorem dX2_is_39 : decode cX2_is 39 = .ok (.ireturn, 1) := by decide +kernel
theorem dX2_list_0 : decode cX2_list 0 = .ok (.aload_n 0, 1) := by decide +kernel
theorem dX2_list_1 : decode cX2_list 1 = .ok (.getfield 12, 3) := by decide +kernel
theorem dX2_list_4 : decode cX2_list 4 = .ok (.iload_n 1, 1) := by decide +kernel
theorem dX2_list_5 : decode cX2_list 5 = .ok (.invokevirtual 72, 3) := by decide +kernel
theorem dX2_list_8 : decode cX2_list 8 = .ok (.ifCond .ne 5, 3) := by decide +kernel
theorem dX2_list_11 : decode cX2_list 11 = .ok (.iconst (-1), 1) := by decide +kernel
theorem dX2_list_12 : decode cX2_list 12 = .ok (.ireturn, 1) := by decide +kernel
theorem dX2_list_13 : decode cX2_list 13 = .ok (.aload_n 0, 1) := by decide +kernel
theorem dX2_list_14 : decode cX2_list 14 = .ok (.getfield 12, 3) := by decide +kernel
theorem dX2_list_17 : decode cX2_list 17 = .ok (.getfield 80, 3) := by decide +kernel
theorem dX2_list_20 : decode cX2_list 20 = .ok (.iload_n 1, 1) := by decide +kernel
theorem dX2_list_21 : decode cX2_list 21 = .ok (.iaload, 1) := by decide +kernel
theorem dX2_list_22 : decode cX2_list 22 = .ok (.istore_n 3, 1) := by decide +kernel
theorem dX2_list_23 : decode cX2_list 23 = .ok (.iload_n 2, 1) := by decide +kernel
theorem dX2_list_24 : decode cX2_list 24 = .ok (.iconst (-1), 1) := by decide +kernel
theorem dX2_list_25 : decode cX2_list 25 = .ok (.if_icmp .ne 5, 3) := by decide +kernel
theorem dX2_list_28 : decode cX2_list 28 = .ok (.iload_n 3, 1) := by decide +kernel
theorem dX2_list_29 : decode cX2_list 29 = .ok (.ireturn, 1) := by decide +kernel
theorem dX2_list_30 : decode cX2_list 30 = .ok (.iload_n 2, 1) := by decide +kernel
theorem dX2_list_31 : decode cX2_list 31 = .ok (.ifCond .lt 25, 3) := by decide +kernel
theorem dX2_list_34 : decode cX2_list 34 = .ok (.iload_n 2, 1) := by decide +kernel
theorem dX2_list_35 : decode cX2_list 35 = .ok (.iload_n 3, 1) := by decide +kernel
theorem dX2_list_36 : decode cX2_list 36 = .ok (.if_icmp .ge 20, 3) := by decide +kernel
theorem dX2_list_39 : decode cX2_list 39 = .ok (.aload_n 0, 1) := by decide +kernel
theorem dX2_list_40 : decode cX2_list 40 = .ok (.getfield 12, 3) := by decide +kernel
theorem dX2_list_43 : decode cX2_list 43 = .ok (.getfield 83, 3) := by decide +kernel
theorem dX2_list_46 : decode cX2_list 46 = .ok (.bipush 16, 2) := by decide +kernel
theorem dX2_list_48 : decode cX2_list 48 = .ok (.iload_n 1, 1) := by decide +kernel
theorem dX2_list_49 : decode cX2_list 49 = .ok (.imul, 1) := by decide +kernel
theorem dX2_list_50 : decode cX2_list 50 = .ok (.iload_n 2, 1) := by decide +kernel
theorem dX2_list_51 : decode cX2_list 51 = .ok (.iadd, 1) := by decide +kernel
theorem dX2_list_52 : decode cX2_list 52 = .ok (.iaload, 1) := by decide +kernel
theorem dX2_list_53 : decode cX2_list 53 = .ok (.goto 4, 3) := by decide +kernel
theorem dX2_list_56 : decode cX2_list 56 = .ok (.iconst (-1), 1) := by decide +kernel
theorem dX2_list_57 : decode cX2_list 57 = .ok (.ireturn, 1) := by decide +kernel
theorem dX2_meet_0 : decode cX2_meet 0 = .ok (.aload_n 0, 1) := by decide +kernel
theorem dX2_meet_1 : decode cX2_meet 1 = .ok (.getfield 12, 3) := by decide +kernel
theorem dX2_meet_4 : decode cX2_meet 4 = .ok (.iload_n 1, 1) := by decide +kernel
theorem dX2_meet_5 : decode cX2_meet 5 = .ok (.invokevirtual 72, 3) := by decide +kernel
theorem dX2_meet_8 : decode cX2_meet 8 = .ok (.ifCond .eq 14, 3) := by decide +kernel
theorem dX2_meet_11 : decode cX2_meet 11 = .ok (.aload_n 0, 1) := by decide +kernel
theorem dX2_meet_12 : decode cX2_meet 12 = .ok (.getfield 12, 3) := by decide +kernel
theorem dX2_meet_15 : decode cX2_meet 15 = .ok (.iload_n 2, 1) := by decide +kernel
theorem dX2_meet_16 : decode cX2_meet 16 = .ok (.invokevirtual 72, 3) := by decide +kernel
theorem dX2_meet_19 : decode cX2_meet 19 = .ok (.ifCond .ne 5, 3) := by decide +kernel
theorem dX2_meet_22 : decode cX2_meet 22 = .ok (.iconst (-1), 1) := by decide +kernel
theorem dX2_meet_23 : decode cX2_meet 23 = .ok (.ireturn, 1) := by decide +kernel
theorem dX2_meet_24 : decode cX2_meet 24 = .ok (.aload_n 0, 1) := by decide +kernel
theorem dX2_meet_25 : decode cX2_meet 25 = .ok (.getfield 12, 3) := by decide +kernel
theorem dX2_meet_28 : decode cX2_meet 28 = .ok (.iload_n 1, 1) := by decide +kernel
theorem dX2_meet_29 : decode cX2_meet 29 = .ok (.iload_n 2, 1) := by decide +kernel
theorem dX2_meet_30 : decode cX2_meet 30 = .ok (.invokevirtual 86, 3) := by decide +kernel
theorem dX2_meet_33 : decode cX2_meet 33 = .ok (.istore 4, 2) := by decide +kernel
theorem dX2_meet_35 : decode cX2_meet 35 = .ok (.iconst 0, 1) := by decide +kernel
theorem dX2_meet_36 : decode cX2_meet 36 = .ok (.istore 5, 2) := by decide +kernel
theorem dX2_meet_38 : decode cX2_meet 38 = .ok (.iconst 0, 1) := by decide +kernel
theorem dX2_meet_39 : decode cX2_meet 39 = .ok (.istore 6, 2) := by decide +kernel
theorem dX2_meet_41 : decode cX2_meet 41 = .ok (.iload 6, 2) := by decide +kernel
theorem dX2_meet_43 : decode cX2_meet 43 = .ok (.aload_n 0, 1) := by decide +kernel
theorem dX2_meet_44 : decode cX2_meet 44 = .ok (.getfield 12, 3) := by decide +kernel
theorem dX2_meet_47 : decode cX2_meet 47 = .ok (.getfield 57, 3) := by decide +kernel
theorem dX2_meet_50 : decode cX2_meet 50 = .ok (.if_icmp .ge 41, 3) := by decide +kernel
theorem dX2_meet_53 : decode cX2_meet 53 = .ok (.aload_n 0, 1) := by decide +kernel
theorem dX2_meet_54 : decode cX2_meet 54 = .ok (.getfield 12, 3) := by decide +kernel
theorem dX2_meet_57 : decode cX2_meet 57 = .ok (.getfield 90, 3) := by decide +kernel
theorem dX2_meet_60 : decode cX2_meet 60 = .ok (.iload 6, 2) := by decide +kernel
theorem dX2_meet_62 : decode cX2_meet 62 = .ok (.iaload, 1) := by decide +kernel
theorem dX2_meet_63 : decode cX2_meet 63 = .ok (.iload 4, 2) := by decide +kernel
theorem dX2_meet_65 : decode cX2_meet 65 = .ok (.iand, 1) := by decide +kernel
theorem dX2_meet_66 : decode cX2_meet 66 = .ok (.iconst 1, 1) := by decide +kernel
theorem dX2_meet_67 : decode cX2_meet 67 = .ok (.iload 6, 2) := by decide +kernel
theorem dX2_meet_69 : decode cX2_meet 69 = .ok (.ishl, 1) := by decide +kernel
theorem dX2_meet_70 : decode cX2_meet 70 = .ok (.if_icmp .ne 15, 3) := by decide +kernel
theorem dX2_meet_73 : decode cX2_meet 73 = .ok (.iload 5, 2) := by decide +kernel
theorem dX2_meet_75 : decode cX2_meet 75 = .ok (.iload_n 3, 1) := by decide +kernel
theorem dX2_meet_76 : decode cX2_meet 76 = .ok (.if_icmp .ne 6, 3) := by decide +kernel
theorem dX2_meet_79 : decode cX2_meet 79 = .ok (.iload 6, 2) := by decide +kernel
theorem dX2_meet_81 : decode cX2_meet 81 = .ok (.ireturn, 1) := by decide +kernel
theorem dX2_meet_82 : decode cX2_meet 82 = .ok (.iinc 5 1, 3) := by decide +kernel
theorem dX2_meet_85 : decode cX2_meet 85 = .ok (.iinc 6 1, 3) := by decide +kernel
theorem dX2_meet_88 : decode cX2_meet 88 = .ok (.goto (-47), 3) := by decide +kernel
theorem dX2_meet_91 : decode cX2_meet 91 = .ok (.iload_n 3, 1) := by decide +kernel
theorem dX2_meet_92 : decode cX2_meet 92 = .ok (.iconst (-1), 1) := by decide +kernel
theorem dX2_meet_93 : decode cX2_meet 93 = .ok (.if_icmp .ne 8, 3) := by decide +kernel
theorem dX2_meet_96 : decode cX2_meet 96 = .ok (.iload 5, 2) := by decide +kernel
theorem dX2_meet_98 : decode cX2_meet 98 = .ok (.goto 4, 3) := by decide +kernel
theorem dX2_meet_101 : decode cX2_meet 101 = .ok (.iconst (-1), 1) := by decide +kernel
theorem dX2_meet_102 : decode cX2_meet 102 = .ok (.ireturn, 1) := by decide +kernel
theorem dX2_function_0 : decode cX2_function 0 = .ok (.aload_n 0, 1) := by decide +kernel
theorem dX2_function_1 : decode cX2_function 1 = .ok (.getfield 27, 3) := by decide +kernel
theorem dX2_function_4 : decode cX2_function 4 = .ok (.iconst 4, 1) := by decide +kernel
theorem dX2_function_5 : decode cX2_function 5 = .ok (.if_icmp .ge 13, 3) := by decide +kernel
theorem dX2_function_8 : decode cX2_function 8 = .ok (.iload_n 1, 1) := by decide +kernel
theorem dX2_function_9 : decode cX2_function 9 = .ok (.iconst 1, 1) := by decide +kernel
theorem dX2_function_10 : decode cX2_function 10 = .ok (.if_icmp .lt 8, 3) := by decide +kernel
theorem dX2_function_13 : decode cX2_function 13 = .ok (.iload_n 1, 1) := by decide +kernel
theorem dX2_function_14 : decode cX2_function 14 = .ok (.iconst 3, 1) := by decide +kernel
theorem dX2_function_15 : decode cX2_function 15 = .ok (.if_icmp .le 5, 3) := by decide +kernel
theorem dX2_function_18 : decode cX2_function 18 = .ok (.iconst (-1), 1) := by decide +kernel
theorem dX2_function_19 : decode cX2_function 19 = .ok (.ireturn, 1) := by decide +kernel
theorem dX2_function_20 : decode cX2_function 20 = .ok (.aload_n 0, 1) := by decide +kernel
theorem dX2_function_21 : decode cX2_function 21 = .ok (.getfield 18, 3) := by decide +kernel
theorem dX2_function_24 : decode cX2_function 24 = .ok (.aload_n 0, 1) := by decide +kernel
theorem dX2_function_25 : decode cX2_function 25 = .ok (.getfield 27, 3) := by decide +kernel
theorem dX2_function_28 : decode cX2_function 28 = .ok (.aaload, 1) := by decide +kernel
theorem dX2_function_29 : decode cX2_function 29 = .ok (.iload_n 1, 1) := by decide +kernel
theorem dX2_function_30 : decode cX2_function 30 = .ok (.putfield 93, 3) := by decide +kernel
theorem dX2_function_33 : decode cX2_function 33 = .ok (.aload_n 0, 1) := by decide +kernel
theorem dX2_function_34 : decode cX2_function 34 = .ok (.dup, 1) := by decide +kernel
theorem dX2_function_35 : decode cX2_function 35 = .ok (.getfield 27, 3) := by decide +kernel
theorem dX2_function_38 : decode cX2_function 38 = .ok (.iconst 1, 1) := by decide +kernel
theorem dX2_function_39 : decode cX2_function 39 = .ok (.iadd, 1) := by decide +kernel
theorem dX2_function_40 : decode cX2_function 40 = .ok (.putfield 27, 3) := by decide +kernel
theorem dX2_function_43 : decode cX2_function 43 = .ok (.aload_n 0, 1) := by decide +kernel
theorem dX2_function_44 : decode cX2_function 44 = .ok (.getfield 27, 3) := by decide +kernel
theorem dX2_function_47 : decode cX2_function 47 = .ok (.iconst 1, 1) := by decide +kernel
theorem dX2_function_48 : decode cX2_function 48 = .ok (.isub, 1) := by decide +kernel
theorem dX2_function_49 : decode cX2_function 49 = .ok (.ireturn, 1) := by decide +kernel
theorem dX2_method_0 : decode cX2_method 0 = .ok (.aload_n 0, 1) := by decide +kernel
theorem dX2_method_1 : decode cX2_method 1 = .ok (.iload_n 1, 1) := by decide +kernel
theorem dX2_method_2 : decode cX2_method 2 = .ok (.iload_n 2, 1) := by decide +kernel
theorem dX2_method_3 : decode cX2_method 3 = .ok (.invokevirtual 96, 3) := by decide +kernel
theorem dX2_method_6 : decode cX2_method 6 = .ok (.ifCond .eq 28, 3) := by decide +kernel
theorem dX2_method_9 : decode cX2_method 9 = .ok (.iload_n 3, 1) := by decide +kernel
theorem dX2_method_10 : decode cX2_method 10 = .ok (.ifCond .lt 24, 3) := by decide +kernel
theorem dX2_method_13 : decode cX2_method 13 = .ok (.iload_n 3, 1) := by decide +kernel
theorem dX2_method_14 : decode cX2_method 14 = .ok (.iconst 3, 1) := by decide +kernel
theorem dX2_method_15 : decode cX2_method 15 = .ok (.if_icmp .gt 19, 3) := by decide +kernel
theorem dX2_method_18 : decode cX2_method 18 = .ok (.iload 4, 2) := by decide +kernel
theorem dX2_method_20 : decode cX2_method 20 = .ok (.sipush (-999), 3) := by decide +kernel
theorem dX2_method_23 : decode cX2_method 23 = .ok (.if_icmp .lt 11, 3) := by decide +kernel
theorem dX2_method_26 : decode cX2_method 26 = .ok (.iload 4, 2) := by decide +kernel
theorem dX2_method_28 : decode cX2_method 28 = .ok (.sipush 999, 3) := by decide +kernel
theorem dX2_method_31 : decode cX2_method 31 = .ok (.if_icmp .le 5, 3) := by decide +kernel
theorem dX2_method_34 : decode cX2_method 34 = .ok (.iconst (-1), 1) := by decide +kernel
theorem dX2_method_35 : decode cX2_method 35 = .ok (.ireturn, 1) := by decide +kernel
theorem dX2_method_36 : decode cX2_method 36 = .ok (.aload_n 0, 1) := by decide +kernel
theorem dX2_method_37 : decode cX2_method 37 = .ok (.getfield 18, 3) := by decide +kernel
theorem dX2_method_40 : decode cX2_method 40 = .ok (.iload_n 1, 1) := by decide +kernel
theorem dX2_method_41 : decode cX2_method 41 = .ok (.aaload, 1) := by decide +kernel
theorem dX2_method_42 : decode cX2_method 42 = .ok (.astore 5, 2) := by decide +kernel
theorem dX2_method_44 : decode cX2_method 44 = .ok (.aload 5, 2) := by decide +kernel
theorem dX2_method_46 : decode cX2_method 46 = .ok (.invokevirtual 99, 3) := by decide +kernel
theorem dX2_method_49 : decode cX2_method 49 = .ok (.istore 6, 2) := by decide +kernel
theorem dX2_method_51 : decode cX2_method 51 = .ok (.iload 6, 2) := by decide +kernel
theorem dX2_method_53 : decode cX2_method 53 = .ok (.iconst (-1), 1) := by decide +kernel
theorem dX2_method_54 : decode cX2_method 54 = .ok (.if_icmp .ne 5, 3) := by decide +kernel
theorem dX2_method_57 : decode cX2_method 57 = .ok (.iconst (-1), 1) := by decide +kernel
theorem dX2_method_58 : decode cX2_method 58 = .ok (.ireturn, 1) := by decide +kernel
theorem dX2_method_59 : decode cX2_method 59 = .ok (.aload 5, 2) := by decide +kernel
theorem dX2_method_61 : decode cX2_method 61 = .ok (.iload_n 2, 1) := by decide +kernel
theorem dX2_method_62 : decode cX2_method 62 = .ok (.invokevirtual 103, 3) := by decide +kernel
theorem dX2_method_65 : decode cX2_method 65 = .ok (.ifCond .eq 6, 3) := by decide +kernel
theorem dX2_method_68 : decode cX2_method 68 = .ok (.bipush (-2), 2) := by decide +kernel
theorem dX2_method_70 : decode cX2_method 70 = .ok (.ireturn, 1) := by decide +kernel
theorem dX2_method_71 : decode cX2_method 71 = .ok (.aload 5, 2) := by decide +kernel
theorem dX2_method_73 : decode cX2_method 73 = .ok (.iload 6, 2) := by decide +kernel
theorem dX2_method_75 : decode cX2_method 75 = .ok (.iload_n 2, 1) := by decide +kernel
theorem dX2_method_76 : decode cX2_method 76 = .ok (.aload_n 0, 1) := by decide +kernel
theorem dX2_method_77 : decode cX2_method 77 = .ok (.getfield 12, 3) := by decide +kernel
theorem dX2_method_80 : decode cX2_method 80 = .ok (.invokevirtual 106, 3) := by decide +kernel
theorem dX2_method_83 : decode cX2_method 83 = .ok (.aload 5, 2) := by decide +kernel
theorem dX2_method_85 : decode cX2_method 85 = .ok (.getfield 110, 3) := by decide +kernel
theorem dX2_method_88 : decode cX2_method 88 = .ok (.iload 6, 2) := by decide +kernel
theorem dX2_method_90 : decode cX2_method 90 = .ok (.iload_n 3, 1) := by decide +kernel
theorem dX2_method_91 : decode cX2_method 91 = .ok (.iastore, 1) := by decide +kernel
theorem dX2_method_92 : decode cX2_method 92 = .ok (.aload 5, 2) := by decide +kernel
theorem dX2_method_94 : decode cX2_method 94 = .ok (.getfield 113, 3) := by decide +kernel
theorem dX2_method_97 : decode cX2_method 97 = .ok (.iload 6, 2) := by decide +kernel
theorem dX2_method_99 : decode cX2_method 99 = .ok (.iload 4, 2) := by decide +kernel
theorem dX2_method_101 : decode cX2_method 101 = .ok (.iastore, 1) := by decide +kernel
theorem dX2_method_102 : decode cX2_method 102 = .ok (.aload 5, 2) := by decide +kernel
theorem dX2_method_104 : decode cX2_method 104 = .ok (.iload 6, 2) := by decide +kernel
theorem dX2_method_106 : decode cX2_method 106 = .ok (.invokevirtual 116, 3) := by decide +kernel
theorem dX2_method_109 : decode cX2_method 109 = .ok (.aload_n 0, 1) := by decide +kernel
theorem dX2_method_110 : decode cX2_method 110 = .ok (.iconst (-1), 1) := by decide +kernel
theorem dX2_method_111 : decode cX2_method 111 = .ok (.putfield 50, 3) := by decide +kernel
theorem dX2_method_114 : decode cX2_method 114 = .ok (.iload 6, 2) := by decide +kernel
theorem dX2_method_116 : decode cX2_method 116 = .ok (.ireturn, 1) := by decide +kernel
theorem dX2_drop_0 : decode cX2_drop 0 = .ok (.aload_n 0, 1) := by decide +kernel
theorem dX2_drop_1 : decode cX2_drop 1 = .ok (.iload_n 1, 1) := by decide +kernel
theorem dX2_drop_2 : decode cX2_drop 2 = .ok (.iload_n 2, 1) := by decide +kernel
theorem dX2_drop_3 : decode cX2_drop 3 = .ok (.invokevirtual 120, 3) := by decide +kernel
theorem dX2_drop_6 : decode cX2_drop 6 = .ok (.ifCond .ne 5, 3) := by decide +kernel
theorem dX2_drop_9 : decode cX2_drop 9 = .ok (.iconst (-1), 1) := by decide +kernel
theorem dX2_drop_10 : decode cX2_drop 10 = .ok (.ireturn, 1) := by decide +kernel
theorem dX2_drop_11 : decode cX2_drop 11 = .ok (.aload_n 0, 1) := by decide +kernel
theorem dX2_drop_12 : decode cX2_drop 12 = .ok (.getfield 18, 3) := by decide +kernel
theorem dX2_drop_15 : decode cX2_drop 15 = .ok (.iload_n 1, 1) := by decide +kernel
theorem dX2_drop_16 : decode cX2_drop 16 = .ok (.aaload, 1) := by decide +kernel
theorem dX2_drop_17 : decode cX2_drop 17 = .ok (.astore_n 3, 1) := by decide +kernel
theorem dX2_drop_18 : decode cX2_drop 18 = .ok (.aload_n 3, 1) := by decide +kernel
theorem dX2_drop_19 : decode cX2_drop 19 = .ok (.iload_n 2, 1) := by decide +kernel
theorem dX2_drop_20 : decode cX2_drop 20 = .ok (.invokevirtual 116, 3) := by decide +kernel
theorem dX2_drop_23 : decode cX2_drop 23 = .ok (.aload_n 3, 1) := by decide +kernel
theorem dX2_drop_24 : decode cX2_drop 24 = .ok (.iload_n 2, 1) := by decide +kernel
theorem dX2_drop_25 : decode cX2_drop 25 = .ok (.invokevirtual 123, 3) := by decide +kernel
theorem dX2_drop_28 : decode cX2_drop 28 = .ok (.aload_n 0, 1) := by decide +kernel
theorem dX2_drop_29 : decode cX2_drop 29 = .ok (.iconst (-1), 1) := by decide +kernel
theorem dX2_drop_30 : decode cX2_drop 30 = .ok (.putfield 50, 3) := by decide +kernel
theorem dX2_drop_33 : decode cX2_drop 33 = .ok (.aload_n 3, 1) := by decide +kernel
theorem dX2_drop_34 : decode cX2_drop 34 = .ok (.getfield 126, 3) := by decide +kernel
theorem dX2_drop_37 : decode cX2_drop 37 = .ok (.invokestatic 129, 3) := by decide +kernel
theorem dX2_drop_40 : decode cX2_drop 40 = .ok (.ireturn, 1) := by decide +kernel
theorem dX2_rule_0 : decode cX2_rule 0 = .ok (.aload_n 0, 1) := by decide +kernel
theorem dX2_rule_1 : decode cX2_rule 1 = .ok (.iconst 1, 1) := by decide +kernel
theorem dX2_rule_2 : decode cX2_rule 2 = .ok (.aload_n 0, 1) := by decide +kernel
theorem dX2_rule_3 : decode cX2_rule 3 = .ok (.getfield 31, 3) := by decide +kernel
theorem dX2_rule_6 : decode cX2_rule 6 = .ok (.isub, 1) := by decide +kernel
theorem dX2_rule_7 : decode cX2_rule 7 = .ok (.putfield 31, 3) := by decide +kernel
theorem dX2_rule_10 : decode cX2_rule 10 = .ok (.iconst 0, 1) := by decide +kernel
theorem dX2_rule_11 : decode cX2_rule 11 = .ok (.istore_n 1, 1) := by decide +kernel
theorem dX2_rule_12 : decode cX2_rule 12 = .ok (.iload_n 1, 1) := by decide +kernel
theorem dX2_rule_13 : decode cX2_rule 13 = .ok (.aload_n 0, 1) := by decide +kernel
theorem dX2_rule_14 : decode cX2_rule 14 = .ok (.getfield 27, 3) := by decide +kernel
theorem dX2_rule_17 : decode cX2_rule 17 = .ok (.if_icmp .ge 19, 3) := by decide +kernel
theorem dX2_rule_20 : decode cX2_rule 20 = .ok (.aload_n 0, 1) := by decide +kernel
theorem dX2_rule_21 : decode cX2_rule 21 = .ok (.getfield 18, 3) := by decide +kernel
theorem dX2_rule_24 : decode cX2_rule 24 = .ok (.iload_n 1, 1) := by decide +kernel
theorem dX2_rule_25 : decode cX2_rule 25 = .ok (.aaload, 1) := by decide +kernel
theorem dX2_rule_26 : decode cX2_rule 26 = .ok (.iconst 0, 1) := by decide +kernel
theorem dX2_rule_27 : decode cX2_rule 27 = .ok (.putfield 135, 3) := by decide +kernel
theorem dX2_rule_30 : decode cX2_rule 30 = .ok (.iinc 1 1, 3) := by decide +kernel
theorem dX2_rule_33 : decode cX2_rule 33 = .ok (.goto (-21), 3) := by decide +kernel
theorem dX2_rule_36 : decode cX2_rule 36 = .ok (.aload_n 0, 1) := by decide +kernel
theorem dX2_rule_37 : decode cX2_rule 37 = .ok (.iconst (-1), 1) := by decide +kernel
theorem dX2_rule_38 : decode cX2_rule 38 = .ok (.putfield 50, 3) := by decide +kernel
theorem dX2_rule_41 : decode cX2_rule 41 = .ok (.aload_n 0, 1) := by decide +kernel
theorem dX2_rule_42 : decode cX2_rule 42 = .ok (.getfield 31, 3) := by decide +kernel
theorem dX2_rule_45 : decode cX2_rule 45 = .ok (.ireturn, 1) := by decide +kernel
theorem dX2_count_0 : decode cX2_count 0 = .ok (.iload_n 1, 1) := by decide +kernel
theorem dX2_count_1 : decode cX2_count 1 = .ok (.tableswitch 81 0 6 #[43, 51, 56, 61, 66, 71, 76], 43) := by decide +kernel
theorem dX2_count_44 : decode cX2_count 44 = .ok (.aload_n 0, 1) := by decide +kernel
theorem dX2_count_45 : decode cX2_count 45 = .ok (.getfield 12, 3) := by decide +kernel
theorem dX2_count_48 : decode cX2_count 48 = .ok (.getfield 57, 3) := by decide +kernel
theorem dX2_count_51 : decode cX2_count 51 = .ok (.ireturn, 1) := by decide +kernel
theorem dX2_count_52 : decode cX2_count 52 = .ok (.aload_n 0, 1) := by decide +kernel
theorem dX2_count_53 : decode cX2_count 53 = .ok (.getfield 27, 3) := by decide +kernel
theorem dX2_count_56 : decode cX2_count 56 = .ok (.ireturn, 1) := by decide +kernel
theorem dX2_count_57 : decode cX2_count 57 = .ok (.aload_n 0, 1) := by decide +kernel
theorem dX2_count_58 : decode cX2_count 58 = .ok (.getfield 31, 3) := by decide +kernel
theorem dX2_count_61 : decode cX2_count 61 = .ok (.ireturn, 1) := by decide +kernel
theorem dX2_count_62 : decode cX2_count 62 = .ok (.aload_n 0, 1) := by decide +kernel
theorem dX2_count_63 : decode cX2_count 63 = .ok (.invokevirtual 138, 3) := by decide +kernel
theorem dX2_count_66 : decode cX2_count 66 = .ok (.ireturn, 1) := by decide +kernel
theorem dX2_count_67 : decode cX2_count 67 = .ok (.aload_n 0, 1) := by decide +kernel
theorem dX2_count_68 : decode cX2_count 68 = .ok (.getfield 34, 3) := by decide +kernel
theorem dX2_count_71 : decode cX2_count 71 = .ok (.ireturn, 1) := by decide +kernel
theorem dX2_count_72 : decode cX2_count 72 = .ok (.aload_n 0, 1) := by decide +kernel
theorem dX2_count_73 : decode cX2_count 73 = .ok (.getfield 37, 3) := by decide +kernel
theorem dX2_count_76 : decode cX2_count 76 = .ok (.ireturn, 1) := by decide +kernel
theorem dX2_count_77 : decode cX2_count 77 = .ok (.aload_n 0, 1) := by decide +kernel
theorem dX2_count_78 : decode cX2_count 78 = .ok (.invokevirtual 141, 3) := by decide +kernel
theorem dX2_count_81 : decode cX2_count 81 = .ok (.ireturn, 1) := by decide +kernel
theorem dX2_count_82 : decode cX2_count 82 = .ok (.iconst (-1), 1) := by decide +kernel
theorem dX2_count_83 : decode cX2_count 83 = .ok (.ireturn, 1) := by decide +kernel
theorem dX2_of_0 : decode cX2_of 0 = .ok (.aload_n 0, 1) := by decide +kernel
theorem dX2_of_1 : decode cX2_of 1 = .ok (.iload_n 1, 1) := by decide +kernel
theorem dX2_of_2 : decode cX2_of 2 = .ok (.invokevirtual 144, 3) := by decide +kernel
theorem dX2_of_5 : decode cX2_of 5 = .ok (.ifCond .ne 5, 3) := by decide +kernel
theorem dX2_of_8 : decode cX2_of 8 = .ok (.iconst (-1), 1) := by decide +kernel
theorem dX2_of_9 : decode cX2_of 9 = .ok (.ireturn, 1) := by decide +kernel
theorem dX2_of_10 : decode cX2_of 10 = .ok (.aload_n 0, 1) := by decide +kernel
theorem dX2_of_11 : decode cX2_of 11 = .ok (.getfield 18, 3) := by decide +kernel
theorem dX2_of_14 : decode cX2_of 14 = .ok (.iload_n 1, 1) := by decide +kernel
theorem dX2_of_15 : decode cX2_of 15 = .ok (.aaload, 1) := by decide +kernel
theorem dX2_of_16 : decode cX2_of 16 = .ok (.astore_n 3, 1) := by decide +kernel
theorem dX2_of_17 : decode cX2_of 17 = .ok (.iload_n 2, 1) := by decide +kernel
theorem dX2_of_18 : decode cX2_of 18 = .ok (.tableswitch 116 0 9 #[54, 59, 64, 70, 77, 83, 91, 99, 105, 111], 54) := by decide +kernel
theorem dX2_of_72 : decode cX2_of 72 = .ok (.aload_n 3, 1) := by decide +kernel
theorem dX2_of_73 : decode cX2_of 73 = .ok (.getfield 93, 3) := by decide +kernel
theorem dX2_of_76 : decode cX2_of 76 = .ok (.ireturn, 1) := by decide +kernel
theorem dX2_of_77 : decode cX2_of 77 = .ok (.aload_n 3, 1) := by decide +kernel
theorem dX2_of_78 : decode cX2_of 78 = .ok (.getfield 126, 3) := by decide +kernel
theorem dX2_of_81 : decode cX2_of 81 = .ok (.ireturn, 1) := by decide +kernel
theorem dX2_of_82 : decode cX2_of 82 = .ok (.aload_n 0, 1) := by decide +kernel
theorem dX2_of_83 : decode cX2_of 83 = .ok (.aload_n 3, 1) := by decide +kernel
theorem dX2_of_84 : decode cX2_of 84 = .ok (.invokevirtual 147, 3) := by decide +kernel
theorem dX2_of_87 : decode cX2_of 87 = .ok (.ireturn, 1) := by decide +kernel
theorem dX2_of_88 : decode cX2_of 88 = .ok (.aload_n 0, 1) := by decide +kernel
theorem dX2_of_89 : decode cX2_of 89 = .ok (.iload_n 1, 1) := by decide +kernel
theorem dX2_of_90 : decode cX2_of 90 = .ok (.iconst (-1), 1) := by decide +kernel
theorem dX2_of_91 : decode cX2_of 91 = .ok (.invokevirtual 151, 3) := by decide +kernel
theorem dX2_of_94 : decode cX2_of 94 = .ok (.ireturn, 1) := by decide +kernel
theorem dX2_of_95 : decode cX2_of 95 = .ok (.aload_n 0, 1) := by decide +kernel
theorem dX2_of_96 : decode cX2_of 96 = .ok (.aload_n 3, 1) := by decide +kernel
theorem dX2_of_97 : decode cX2_of 97 = .ok (.invokevirtual 154, 3) := by decide +kernel
theorem dX2_of_100 : decode cX2_of 100 = .ok (.ireturn, 1) := by decide +kernel
theorem dX2_of_101 : decode cX2_of 101 = .ok (.aload_n 0, 1) := by decide +kernel
theorem dX2_of_102 : decode cX2_of 102 = .ok (.aload_n 3, 1) := by decide +kernel
theorem dX2_of_103 : decode cX2_of 103 = .ok (.iconst 0, 1) := by decide +kernel
theorem dX2_of_104 : decode cX2_of 104 = .ok (.iconst (-1), 1) := by decide +kernel
theorem dX2_of_105 : decode cX2_of 105 = .ok (.invokevirtual 157, 3) := by decide +kernel
theorem dX2_of_108 : decode cX2_of 108 = .ok (.ireturn, 1) := by decide +kernel
theorem dX2_of_109 : decode cX2_of 109 = .ok (.aload_n 0, 1) := by decide +kernel
theorem dX2_of_110 : decode cX2_of 110 = .ok (.aload_n 3, 1) := by decide +kernel
theorem dX2_of_111 : decode cX2_of 111 = .ok (.iconst 1, 1) := by decide +kernel
theorem dX2_of_112 : decode cX2_of 112 = .ok (.iconst (-1), 1) := by decide +kernel
theorem dX2_of_113 : decode cX2_of 113 = .ok (.invokevirtual 157, 3) := by decide +kernel
theorem dX2_of_116 : decode cX2_of 116 = .ok (.ireturn, 1) := by decide +kernel
theorem dX2_of_117 : decode cX2_of 117 = .ok (.aload_n 0, 1) := by decide +kernel
theorem dX2_of_118 : decode cX2_of 118 = .ok (.iload_n 1, 1) := by decide +kernel
theorem dX2_of_119 : decode cX2_of 119 = .ok (.invokevirtual 161, 3) := by decide +kernel
theorem dX2_of_122 : decode cX2_of 122 = .ok (.ireturn, 1) := by decide +kernel
theorem dX2_of_123 : decode cX2_of 123 = .ok (.aload_n 0, 1) := by decide +kernel
theorem dX2_of_124 : decode cX2_of 124 = .ok (.iload_n 1, 1) := by decide +kernel
theorem dX2_of_125 : decode cX2_of 125 = .ok (.invokevirtual 164, 3) := by decide +kernel
theorem dX2_of_128 : decode cX2_of 128 = .ok (.ireturn, 1) := by decide +kernel
theorem dX2_of_129 : decode cX2_of 129 = .ok (.aload_n 3, 1) := by decide +kernel
theorem dX2_of_130 : decode cX2_of 130 = .ok (.getfield 135, 3) := by decide +kernel
theorem dX2_of_133 : decode cX2_of 133 = .ok (.ireturn, 1) := by decide +kernel
theorem dX2_of_134 : decode cX2_of 134 = .ok (.iconst (-1), 1) := by decide +kernel
theorem dX2_of_135 : decode cX2_of 135 = .ok (.ireturn, 1) := by decide +kernel
theorem dX2_at_0 : decode cX2_at 0 = .ok (.aload_n 0, 1) := by decide +kernel
theorem dX2_at_1 : decode cX2_at 1 = .ok (.iload_n 1, 1) := by decide +kernel
theorem dX2_at_2 : decode cX2_at 2 = .ok (.iload_n 2, 1) := by decide +kernel
theorem dX2_at_3 : decode cX2_at 3 = .ok (.invokevirtual 120, 3) := by decide +kernel
theorem dX2_at_6 : decode cX2_at 6 = .ok (.ifCond .ne 13, 3) := by decide +kernel
theorem dX2_at_9 : decode cX2_at 9 = .ok (.new 167, 3) := by decide +kernel
theorem dX2_at_12 : decode cX2_at 12 = .ok (.dup, 1) := by decide +kernel
theorem dX2_at_13 : decode cX2_at 13 = .ok (.ldc 169, 2) := by decide +kernel
theorem dX2_at_15 : decode cX2_at 15 = .ok (.invokespecial 171, 3) := by decide +kernel
theorem dX2_at_18 : decode cX2_at 18 = .ok (.athrow, 1) := by decide +kernel
theorem dX2_at_19 : decode cX2_at 19 = .ok (.aload_n 0, 1) := by decide +kernel
theorem dX2_at_20 : decode cX2_at 20 = .ok (.getfield 18, 3) := by decide +kernel
theorem dX2_at_23 : decode cX2_at 23 = .ok (.iload_n 1, 1) := by decide +kernel
theorem dX2_at_24 : decode cX2_at 24 = .ok (.aaload, 1) := by decide +kernel
theorem dX2_at_25 : decode cX2_at 25 = .ok (.astore 4, 2) := by decide +kernel
theorem dX2_at_27 : decode cX2_at 27 = .ok (.iload_n 3, 1) := by decide +kernel
theorem dX2_at_28 : decode cX2_at 28 = .ok (.tableswitch 75 0 4 #[36, 44, 52, 60, 67], 36) := by decide +kernel
theorem dX2_at_64 : decode cX2_at 64 = .ok (.aload 4, 2) := by decide +kernel
theorem dX2_at_66 : decode cX2_at 66 = .ok (.getfield 174, 3) := by decide +kernel
theorem dX2_at_69 : decode cX2_at 69 = .ok (.iload_n 2, 1) := by decide +kernel
theorem dX2_at_70 : decode cX2_at 70 = .ok (.iaload, 1) := by decide +kernel
theorem dX2_at_71 : decode cX2_at 71 = .ok (.ireturn, 1) := by decide +kernel
theorem dX2_at_72 : decode cX2_at 72 = .ok (.aload 4, 2) := by decide +kernel
theorem dX2_at_74 : decode cX2_at 74 = .ok (.getfield 110, 3) := by decide +kernel
theorem dX2_at_77 : decode cX2_at 77 = .ok (.iload_n 2, 1) := by decide +kernel
theorem dX2_at_78 : decode cX2_at 78 = .ok (.iaload, 1) := by decide +kernel
theorem dX2_at_79 : decode cX2_at 79 = .ok (.ireturn, 1) := by decide +kernel
theorem dX2_at_80 : decode cX2_at 80 = .ok (.aload 4, 2) := by decide +kernel
theorem dX2_at_82 : decode cX2_at 82 = .ok (.getfield 113, 3) := by decide +kernel
theorem dX2_at_85 : decode cX2_at 85 = .ok (.iload_n 2, 1) := by decide +kernel
theorem dX2_at_86 : decode cX2_at 86 = .ok (.iaload, 1) := by decide +kernel
theorem dX2_at_87 : decode cX2_at 87 = .ok (.ireturn, 1) := by decide +kernel
theorem dX2_at_88 : decode cX2_at 88 = .ok (.aload_n 0, 1) := by decide +kernel
theorem dX2_at_89 : decode cX2_at 89 = .ok (.iload_n 1, 1) := by decide +kernel
theorem dX2_at_90 : decode cX2_at 90 = .ok (.iload_n 2, 1) := by decide +kernel
theorem dX2_at_91 : decode cX2_at 91 = .ok (.invokevirtual 151, 3) := by decide +kernel
theorem dX2_at_94 : decode cX2_at 94 = .ok (.ireturn, 1) := by decide +kernel
theorem dX2_at_95 : decode cX2_at 95 = .ok (.aload_n 0, 1) := by decide +kernel
theorem dX2_at_96 : decode cX2_at 96 = .ok (.aload 4, 2) := by decide +kernel
theorem dX2_at_98 : decode cX2_at 98 = .ok (.iload_n 2, 1) := by decide +kernel
theorem dX2_at_99 : decode cX2_at 99 = .ok (.invokevirtual 177, 3) := by decide +kernel
theorem dX2_at_102 : decode cX2_at 102 = .ok (.ireturn, 1) := by decide +kernel
theorem dX2_at_103 : decode cX2_at 103 = .ok (.new 167, 3) := by decide +kernel
theorem dX2_at_106 : decode cX2_at 106 = .ok (.dup, 1) := by decide +kernel
theorem dX2_at_107 : decode cX2_at 107 = .ok (.ldc 181, 2) := by decide +kernel
theorem dX2_at_109 : decode cX2_at 109 = .ok (.invokespecial 171, 3) := by decide +kernel
theorem dX2_at_112 : decode cX2_at 112 = .ok (.athrow, 1) := by decide +kernel
theorem dX2_call_0 : decode cX2_call 0 = .ok (.aload_n 0, 1) := by decide +kernel
theorem dX2_call_1 : decode cX2_call 1 = .ok (.iload_n 1, 1) := by decide +kernel
theorem dX2_call_2 : decode cX2_call 2 = .ok (.iload_n 2, 1) := by decide +kernel
theorem dX2_call_3 : decode cX2_call 3 = .ok (.invokevirtual 96, 3) := by decide +kernel
theorem dX2_call_6 : decode cX2_call 6 = .ok (.ifCond .ne 6, 3) := by decide +kernel
theorem dX2_call_9 : decode cX2_call 9 = .ok (.bipush (-3), 2) := by decide +kernel
theorem dX2_call_11 : decode cX2_call 11 = .ok (.ireturn, 1) := by decide +kernel
theorem dX2_call_12 : decode cX2_call 12 = .ok (.aload_n 0, 1) := by decide +kernel
theorem dX2_call_13 : decode cX2_call 13 = .ok (.getfield 18, 3) := by decide +kernel
theorem dX2_call_16 : decode cX2_call 16 = .ok (.iload_n 1, 1) := by decide +kernel
theorem dX2_call_17 : decode cX2_call 17 = .ok (.aaload, 1) := by decide +kernel
theorem dX2_call_18 : decode cX2_call 18 = .ok (.astore_n 3, 1) := by decide +kernel
theorem dX2_call_19 : decode cX2_call 19 = .ok (.aload_n 3, 1) := by decide +kernel
theorem dX2_call_20 : decode cX2_call 20 = .ok (.iload_n 2, 1) := by decide +kernel
theorem dX2_call_21 : decode cX2_call 21 = .ok (.invokevirtual 183, 3) := by decide +kernel
theorem dX2_call_24 : decode cX2_call 24 = .ok (.ifCond .eq 16, 3) := by decide +kernel
theorem dX2_call_27 : decode cX2_call 27 = .ok (.aload_n 0, 1) := by decide +kernel
theorem dX2_call_28 : decode cX2_call 28 = .ok (.dup, 1) := by decide +kernel
theorem dX2_call_29 : decode cX2_call 29 = .ok (.getfield 34, 3) := by decide +kernel
theorem dX2_call_32 : decode cX2_call 32 = .ok (.iconst 1, 1) := by decide +kernel
theorem dX2_call_33 : decode cX2_call 33 = .ok (.iadd, 1) := by decide +kernel
theorem dX2_call_34 : decode cX2_call 34 = .ok (.putfield 34, 3) := by decide +kernel
theorem dX2_call_37 : decode cX2_call 37 = .ok (.goto 13, 3) := by decide +kernel
theorem dX2_call_40 : decode cX2_call 40 = .ok (.aload_n 0, 1) := by decide +kernel
theorem dX2_call_41 : decode cX2_call 41 = .ok (.dup, 1) := by decide +kernel
theorem dX2_call_42 : decode cX2_call 42 = .ok (.getfield 37, 3) := by decide +kernel
theorem dX2_call_45 : decode cX2_call 45 = .ok (.iconst 1, 1) := by decide +kernel
theorem dX2_call_46 : decode cX2_call 46 = .ok (.iadd, 1) := by decide +kernel
theorem dX2_call_47 : decode cX2_call 47 = .ok (.putfield 37, 3) := by decide +kernel
theorem dX2_call_50 : decode cX2_call 50 = .ok (.aload_n 0, 1) := by decide +kernel
theorem dX2_call_51 : decode cX2_call 51 = .ok (.aload_n 3, 1) := by decide +kernel
theorem dX2_call_52 : decode cX2_call 52 = .ok (.iload_n 2, 1) := by decide +kernel
theorem dX2_call_53 : decode cX2_call 53 = .ok (.aload_n 3, 1) := by decide +kernel
theorem dX2_call_54 : decode cX2_call 54 = .ok (.iload_n 2, 1) := by decide +kernel
theorem dX2_call_55 : decode cX2_call 55 = .ok (.invokevirtual 186, 3) := by decide +kernel
theorem dX2_call_58 : decode cX2_call 58 = .ok (.invokevirtual 189, 3) := by decide +kernel
theorem dX2_call_61 : decode cX2_call 61 = .ok (.ireturn, 1) := by decide +kernel
theorem dX2_answer_0 : decode cX2_answer 0 = .ok (.aload_n 0, 1) := by decide +kernel
theorem dX2_answer_1 : decode cX2_answer 1 = .ok (.iload_n 1, 1) := by decide +kernel
theorem dX2_answer_2 : decode cX2_answer 2 = .ok (.iload_n 2, 1) := by decide +kernel
theorem dX2_answer_3 : decode cX2_answer 3 = .ok (.invokevirtual 96, 3) := by decide +kernel
theorem dX2_answer_6 : decode cX2_answer 6 = .ok (.ifCond .ne 6, 3) := by decide +kernel
theorem dX2_answer_9 : decode cX2_answer 9 = .ok (.bipush (-3), 2) := by decide +kernel
theorem dX2_answer_11 : decode cX2_answer 11 = .ok (.ireturn, 1) := by decide +kernel
theorem dX2_answer_12 : decode cX2_answer 12 = .ok (.aload_n 0, 1) := by decide +kernel
theorem dX2_answer_13 : decode cX2_answer 13 = .ok (.getfield 18, 3) := by decide +kernel
theorem dX2_answer_16 : decode cX2_answer 16 = .ok (.iload_n 1, 1) := by decide +kernel
theorem dX2_answer_17 : decode cX2_answer 17 = .ok (.aaload, 1) := by decide +kernel
theorem dX2_answer_18 : decode cX2_answer 18 = .ok (.astore_n 3, 1) := by decide +kernel
theorem dX2_answer_19 : decode cX2_answer 19 = .ok (.aload_n 0, 1) := by decide +kernel
theorem dX2_answer_20 : decode cX2_answer 20 = .ok (.aload_n 3, 1) := by decide +kernel
theorem dX2_answer_21 : decode cX2_answer 21 = .ok (.iload_n 2, 1) := by decide +kernel
theorem dX2_answer_22 : decode cX2_answer 22 = .ok (.aload_n 3, 1) := by decide +kernel
theorem dX2_answer_23 : decode cX2_answer 23 = .ok (.iload_n 2, 1) := by decide +kernel
theorem dX2_answer_24 : decode cX2_answer 24 = .ok (.invokevirtual 186, 3) := by decide +kernel
theorem dX2_answer_27 : decode cX2_answer 27 = .ok (.invokevirtual 189, 3) := by decide +kernel
theorem dX2_answer_30 : decode cX2_answer 30 = .ok (.ireturn, 1) := by decide +kernel
theorem dX2_applicable_0 : decode cX2_applicable 0 = .ok (.aload_n 0, 1) := by decide +kernel
theorem dX2_applicable_1 : decode cX2_applicable 1 = .ok (.iload_n 1, 1) := by decide +kernel
theorem dX2_applicable_2 : decode cX2_applicable 2 = .ok (.iload_n 2, 1) := by decide +kernel
theorem dX2_applicable_3 : decode cX2_applicable 3 = .ok (.invokevirtual 96, 3) := by decide +kernel
theorem dX2_applicable_6 : decode cX2_applicable 6 = .ok (.ifCond .eq 16, 3) := by decide +kernel
theorem dX2_applicable_9 : decode cX2_applicable 9 = .ok (.aload_n 0, 1) := by decide +kernel
theorem dX2_applicable_10 : decode cX2_applicable 10 = .ok (.getfield 18, 3) := by decide +kernel
theorem dX2_applicable_13 : decode cX2_applicable 13 = .ok (.iload_n 1, 1) := by decide +kernel
theorem dX2_applicable_14 : decode cX2_applicable 14 = .ok (.aaload, 1) := by decide +kernel
theorem dX2_applicable_15 : decode cX2_applicable 15 = .ok (.iload_n 2, 1) := by decide +kernel
theorem dX2_applicable_16 : decode cX2_applicable 16 = .ok (.invokevirtual 186, 3) := by decide +kernel
theorem dX2_applicable_19 : decode cX2_applicable 19 = .ok (.goto 4, 3) := by decide +kernel
theorem dX2_applicable_22 : decode cX2_applicable 22 = .ok (.iconst (-1), 1) := by decide +kernel
theorem dX2_applicable_23 : decode cX2_applicable 23 = .ok (.ireturn, 1) := by decide +kernel
theorem dX2_chain_0 : decode cX2_chain 0 = .ok (.aload_n 0, 1) := by decide +kernel
theorem dX2_chain_1 : decode cX2_chain 1 = .ok (.iload_n 1, 1) := by decide +kernel
theorem dX2_chain_2 : decode cX2_chain 2 = .ok (.iload_n 2, 1) := by decide +kernel
theorem dX2_chain_3 : decode cX2_chain 3 = .ok (.invokevirtual 96, 3) := by decide +kernel
theorem dX2_chain_6 : decode cX2_chain 6 = .ok (.ifCond .ne 5, 3) := by decide +kernel
theorem dX2_chain_9 : decode cX2_chain 9 = .ok (.iconst (-1), 1) := by decide +kernel
theorem dX2_chain_10 : decode cX2_chain 10 = .ok (.ireturn, 1) := by decide +kernel
theorem dX2_chain_11 : decode cX2_chain 11 = .ok (.aload_n 0, 1) := by decide +kernel
theorem dX2_chain_12 : decode cX2_chain 12 = .ok (.aload_n 0, 1) := by decide +kernel
theorem dX2_chain_13 : decode cX2_chain 13 = .ok (.getfield 18, 3) := by decide +kernel
theorem dX2_chain_16 : decode cX2_chain 16 = .ok (.iload_n 1, 1) := by decide +kernel
theorem dX2_chain_17 : decode cX2_chain 17 = .ok (.aaload, 1) := by decide +kernel
theorem dX2_chain_18 : decode cX2_chain 18 = .ok (.iload_n 2, 1) := by decide +kernel
theorem dX2_chain_19 : decode cX2_chain 19 = .ok (.invokevirtual 193, 3) := by decide +kernel
theorem dX2_chain_22 : decode cX2_chain 22 = .ok (.pop, 1) := by decide +kernel
theorem dX2_chain_23 : decode cX2_chain 23 = .ok (.iload_n 3, 1) := by decide +kernel
theorem dX2_chain_24 : decode cX2_chain 24 = .ok (.iconst (-1), 1) := by decide +kernel
theorem dX2_chain_25 : decode cX2_chain 25 = .ok (.if_icmp .ne 8, 3) := by decide +kernel
theorem dX2_chain_28 : decode cX2_chain 28 = .ok (.aload_n 0, 1) := by decide +kernel
theorem dX2_chain_29 : decode cX2_chain 29 = .ok (.getfield 44, 3) := by decide +kernel
theorem dX2_chain_32 : decode cX2_chain 32 = .ok (.ireturn, 1) := by decide +kernel
theorem dX2_chain_33 : decode cX2_chain 33 = .ok (.iload_n 3, 1) := by decide +kernel
theorem dX2_chain_34 : decode cX2_chain 34 = .ok (.ifCond .lt 20, 3) := by decide +kernel
theorem dX2_chain_37 : decode cX2_chain 37 = .ok (.iload_n 3, 1) := by decide +kernel
theorem dX2_chain_38 : decode cX2_chain 38 = .ok (.aload_n 0, 1) := by decide +kernel
theorem dX2_chain_39 : decode cX2_chain 39 = .ok (.getfield 44, 3) := by decide +kernel
theorem dX2_chain_42 : decode cX2_chain 42 = .ok (.if_icmp .ge 12, 3) := by decide +kernel
theorem dX2_chain_45 : decode cX2_chain 45 = .ok (.aload_n 0, 1) := by decide +kernel
theorem dX2_chain_46 : decode cX2_chain 46 = .ok (.getfield 40, 3) := by decide +kernel
theorem dX2_chain_49 : decode cX2_chain 49 = .ok (.iload_n 3, 1) := by decide +kernel
theorem dX2_chain_50 : decode cX2_chain 50 = .ok (.iaload, 1) := by decide +kernel
theorem dX2_chain_51 : decode cX2_chain 51 = .ok (.goto 4, 3) := by decide +kernel
theorem dX2_chain_54 : decode cX2_chain 54 = .ok (.iconst (-1), 1) := by decide +kernel
theorem dX2_chain_55 : decode cX2_chain 55 = .ok (.ireturn, 1) := by decide +kernel
theorem dX2_broken_0 : decode cX2_broken 0 = .ok (.aload_n 0, 1) := by decide +kernel
theorem dX2_broken_1 : decode cX2_broken 1 = .ok (.iload_n 1, 1) := by decide +kernel
theorem dX2_broken_2 : decode cX2_broken 2 = .ok (.iload_n 2, 1) := by decide +kernel
theorem dX2_broken_3 : decode cX2_broken 3 = .ok (.invokevirtual 96, 3) := by decide +kernel
theorem dX2_broken_6 : decode cX2_broken 6 = .ok (.ifCond .eq 20, 3) := by decide +kernel
theorem dX2_broken_9 : decode cX2_broken 9 = .ok (.aload_n 0, 1) := by decide +kernel
theorem dX2_broken_10 : decode cX2_broken 10 = .ok (.aload_n 0, 1) := by decide +kernel
theorem dX2_broken_11 : decode cX2_broken 11 = .ok (.getfield 18, 3) := by decide +kernel
theorem dX2_broken_14 : decode cX2_broken 14 = .ok (.iload_n 1, 1) := by decide +kernel
theorem dX2_broken_15 : decode cX2_broken 15 = .ok (.aaload, 1) := by decide +kernel
theorem dX2_broken_16 : decode cX2_broken 16 = .ok (.iload_n 2, 1) := by decide +kernel
theorem dX2_broken_17 : decode cX2_broken 17 = .ok (.invokevirtual 193, 3) := by decide +kernel
theorem dX2_broken_20 : decode cX2_broken 20 = .ok (.invokestatic 129, 3) := by decide +kernel
theorem dX2_broken_23 : decode cX2_broken 23 = .ok (.goto 4, 3) := by decide +kernel
theorem dX2_broken_26 : decode cX2_broken 26 = .ok (.iconst (-1), 1) := by decide +kernel
theorem dX2_broken_27 : decode cX2_broken 27 = .ok (.ireturn, 1) := by decide +kernel
theorem dX2_work_0 : decode cX2_work 0 = .ok (.aload_n 0, 1) := by decide +kernel
theorem dX2_work_1 : decode cX2_work 1 = .ok (.iload_n 1, 1) := by decide +kernel
theorem dX2_work_2 : decode cX2_work 2 = .ok (.iload_n 2, 1) := by decide +kernel
theorem dX2_work_3 : decode cX2_work 3 = .ok (.invokevirtual 96, 3) := by decide +kernel
theorem dX2_work_6 : decode cX2_work 6 = .ok (.ifCond .ne 13, 3) := by decide +kernel
theorem dX2_work_9 : decode cX2_work 9 = .ok (.new 167, 3) := by decide +kernel
theorem dX2_work_12 : decode cX2_work 12 = .ok (.dup, 1) := by decide +kernel
theorem dX2_work_13 : decode cX2_work 13 = .ok (.ldc 196, 2) := by decide +kernel
theorem dX2_work_15 : decode cX2_work 15 = .ok (.invokespecial 171, 3) := by decide +kernel
theorem dX2_work_18 : decode cX2_work 18 = .ok (.athrow, 1) := by decide +kernel
theorem dX2_work_19 : decode cX2_work 19 = .ok (.aload_n 0, 1) := by decide +kernel
theorem dX2_work_20 : decode cX2_work 20 = .ok (.getfield 18, 3) := by decide +kernel
theorem dX2_work_23 : decode cX2_work 23 = .ok (.iload_n 1, 1) := by decide +kernel
theorem dX2_work_24 : decode cX2_work 24 = .ok (.aaload, 1) := by decide +kernel
theorem dX2_work_25 : decode cX2_work 25 = .ok (.astore_n 3, 1) := by decide +kernel
theorem dX2_work_26 : decode cX2_work 26 = .ok (.aload_n 0, 1) := by decide +kernel
theorem dX2_work_27 : decode cX2_work 27 = .ok (.aload_n 3, 1) := by decide +kernel
theorem dX2_work_28 : decode cX2_work 28 = .ok (.iload_n 2, 1) := by decide +kernel
theorem dX2_work_29 : decode cX2_work 29 = .ok (.invokevirtual 193, 3) := by decide +kernel
theorem dX2_work_32 : decode cX2_work 32 = .ok (.pop, 1) := by decide +kernel
theorem dX2_work_33 : decode cX2_work 33 = .ok (.aload_n 0, 1) := by decide +kernel
theorem dX2_work_34 : decode cX2_work 34 = .ok (.getfield 44, 3) := by decide +kernel
theorem dX2_work_37 : decode cX2_work 37 = .ok (.ifCond .ne 13, 3) := by decide +kernel
theorem dX2_work_40 : decode cX2_work 40 = .ok (.new 167, 3) := by decide +kernel
theorem dX2_work_43 : decode cX2_work 43 = .ok (.dup, 1) := by decide +kernel
theorem dX2_work_44 : decode cX2_work 44 = .ok (.ldc 198, 2) := by decide +kernel
theorem dX2_work_46 : decode cX2_work 46 = .ok (.invokespecial 171, 3) := by decide +kernel
theorem dX2_work_49 : decode cX2_work 49 = .ok (.athrow, 1) := by decide +kernel
theorem dX2_work_50 : decode cX2_work 50 = .ok (.iconst 0, 1) := by decide +kernel
theorem dX2_work_51 : decode cX2_work 51 = .ok (.istore 4, 2) := by decide +kernel
theorem dX2_work_53 : decode cX2_work 53 = .ok (.aload_n 0, 1) := by decide +kernel
theorem dX2_work_54 : decode cX2_work 54 = .ok (.getfield 44, 3) := by decide +kernel
theorem dX2_work_57 : decode cX2_work 57 = .ok (.iconst 1, 1) := by decide +kernel
theorem dX2_work_58 : decode cX2_work 58 = .ok (.isub, 1) := by decide +kernel
theorem dX2_work_59 : decode cX2_work 59 = .ok (.istore 5, 2) := by decide +kernel
theorem dX2_work_61 : decode cX2_work 61 = .ok (.iload 5, 2) := by decide +kernel
theorem dX2_work_63 : decode cX2_work 63 = .ok (.ifCond .lt 24, 3) := by decide +kernel
theorem dX2_work_66 : decode cX2_work 66 = .ok (.aload_n 3, 1) := by decide +kernel
theorem dX2_work_67 : decode cX2_work 67 = .ok (.aload_n 0, 1) := by decide +kernel
theorem dX2_work_68 : decode cX2_work 68 = .ok (.getfield 40, 3) := by decide +kernel
theorem dX2_work_71 : decode cX2_work 71 = .ok (.iload 5, 2) := by decide +kernel
theorem dX2_work_73 : decode cX2_work 73 = .ok (.iaload, 1) := by decide +kernel
theorem dX2_work_74 : decode cX2_work 74 = .ok (.iload 4, 2) := by decide +kernel
theorem dX2_work_76 : decode cX2_work 76 = .ok (.invokevirtual 200, 3) := by decide +kernel
theorem dX2_work_79 : decode cX2_work 79 = .ok (.istore 4, 2) := by decide +kernel
theorem dX2_work_81 : decode cX2_work 81 = .ok (.iinc 5 (-1), 3) := by decide +kernel
theorem dX2_work_84 : decode cX2_work 84 = .ok (.goto (-23), 3) := by decide +kernel
theorem dX2_work_87 : decode cX2_work 87 = .ok (.iload 4, 2) := by decide +kernel
theorem dX2_work_89 : decode cX2_work 89 = .ok (.ireturn, 1) := by decide +kernel
theorem dX2_kept_0 : decode cX2_kept 0 = .ok (.aload_n 0, 1) := by decide +kernel
theorem dX2_kept_1 : decode cX2_kept 1 = .ok (.iload_n 1, 1) := by decide +kernel
theorem dX2_kept_2 : decode cX2_kept 2 = .ok (.invokevirtual 144, 3) := by decide +kernel
theorem dX2_kept_5 : decode cX2_kept 5 = .ok (.ifCond .eq 20, 3) := by decide +kernel
theorem dX2_kept_8 : decode cX2_kept 8 = .ok (.iload_n 2, 1) := by decide +kernel
theorem dX2_kept_9 : decode cX2_kept 9 = .ok (.ifCond .lt 16, 3) := by decide +kernel
theorem dX2_kept_12 : decode cX2_kept 12 = .ok (.iload_n 2, 1) := by decide +kernel
theorem dX2_kept_13 : decode cX2_kept 13 = .ok (.aload_n 0, 1) := by decide +kernel
theorem dX2_kept_14 : decode cX2_kept 14 = .ok (.getfield 18, 3) := by decide +kernel
theorem dX2_kept_17 : decode cX2_kept 17 = .ok (.iload_n 1, 1) := by decide +kernel
theorem dX2_kept_18 : decode cX2_kept 18 = .ok (.aaload, 1) := by decide +kernel
theorem dX2_kept_19 : decode cX2_kept 19 = .ok (.getfield 135, 3) := by decide +kernel
theorem dX2_kept_22 : decode cX2_kept 22 = .ok (.if_icmp .lt 5, 3) := by decide +kernel
theorem dX2_kept_25 : decode cX2_kept 25 = .ok (.iconst (-1), 1) := by decide +kernel
theorem dX2_kept_26 : decode cX2_kept 26 = .ok (.ireturn, 1) := by decide +kernel
theorem dX2_kept_27 : decode cX2_kept 27 = .ok (.aload_n 0, 1) := by decide +kernel
theorem dX2_kept_28 : decode cX2_kept 28 = .ok (.getfield 18, 3) := by decide +kernel
theorem dX2_kept_31 : decode cX2_kept 31 = .ok (.iload_n 1, 1) := by decide +kernel
theorem dX2_kept_32 : decode cX2_kept 32 = .ok (.aaload, 1) := by decide +kernel
theorem dX2_kept_33 : decode cX2_kept 33 = .ok (.getfield 203, 3) := by decide +kernel
theorem dX2_kept_36 : decode cX2_kept 36 = .ok (.iload_n 2, 1) := by decide +kernel
theorem dX2_kept_37 : decode cX2_kept 37 = .ok (.iaload, 1) := by decide +kernel
theorem dX2_kept_38 : decode cX2_kept 38 = .ok (.ireturn, 1) := by decide +kernel
theorem dX2_clash_0 : decode cX2_clash 0 = .ok (.aload_n 0, 1) := by decide +kernel
theorem dX2_clash_1 : decode cX2_clash 1 = .ok (.iload_n 1, 1) := by decide +kernel
theorem dX2_clash_2 : decode cX2_clash 2 = .ok (.invokevirtual 144, 3) := by decide +kernel
theorem dX2_clash_5 : decode cX2_clash 5 = .ok (.ifCond .eq 22, 3) := by decide +kernel
theorem dX2_clash_8 : decode cX2_clash 8 = .ok (.iload_n 2, 1) := by decide +kernel
theorem dX2_clash_9 : decode cX2_clash 9 = .ok (.ifCond .lt 18, 3) := by decide +kernel
theorem dX2_clash_12 : decode cX2_clash 12 = .ok (.aload_n 0, 1) := by decide +kernel
theorem dX2_clash_13 : decode cX2_clash 13 = .ok (.aload_n 0, 1) := by decide +kernel
theorem dX2_clash_14 : decode cX2_clash 14 = .ok (.getfield 18, 3) := by decide +kernel
theorem dX2_clash_17 : decode cX2_clash 17 = .ok (.iload_n 1, 1) := by decide +kernel
theorem dX2_clash_18 : decode cX2_clash 18 = .ok (.aaload, 1) := by decide +kernel
theorem dX2_clash_19 : decode cX2_clash 19 = .ok (.iconst 0, 1) := by decide +kernel
theorem dX2_clash_20 : decode cX2_clash 20 = .ok (.iload_n 2, 1) := by decide +kernel
theorem dX2_clash_21 : decode cX2_clash 21 = .ok (.invokevirtual 157, 3) := by decide +kernel
theorem dX2_clash_24 : decode cX2_clash 24 = .ok (.goto 4, 3) := by decide +kernel
theorem dX2_clash_27 : decode cX2_clash 27 = .ok (.iconst (-1), 1) := by decide +kernel
theorem dX2_clash_28 : decode cX2_clash 28 = .ok (.ireturn, 1) := by decide +kernel
theorem dX2_gap_0 : decode cX2_gap 0 = .ok (.aload_n 0, 1) := by decide +kernel
theorem dX2_gap_1 : decode cX2_gap 1 = .ok (.iload_n 1, 1) := by decide +kernel
theorem dX2_gap_2 : decode cX2_gap 2 = .ok (.invokevirtual 144, 3) := by decide +kernel
theorem dX2_gap_5 : decode cX2_gap 5 = .ok (.ifCond .eq 22, 3) := by decide +kernel
theorem dX2_gap_8 : decode cX2_gap 8 = .ok (.iload_n 2, 1) := by decide +kernel
theorem dX2_gap_9 : decode cX2_gap 9 = .ok (.ifCond .lt 18, 3) := by decide +kernel
theorem dX2_gap_12 : decode cX2_gap 12 = .ok (.aload_n 0, 1) := by decide +kernel
theorem dX2_gap_13 : decode cX2_gap 13 = .ok (.aload_n 0, 1) := by decide +kernel
theorem dX2_gap_14 : decode cX2_gap 14 = .ok (.getfield 18, 3) := by decide +kernel
theorem dX2_gap_17 : decode cX2_gap 17 = .ok (.iload_n 1, 1) := by decide +kernel
theorem dX2_gap_18 : decode cX2_gap 18 = .ok (.aaload, 1) := by decide +kernel
theorem dX2_gap_19 : decode cX2_gap 19 = .ok (.iconst 1, 1) := by decide +kernel
theorem dX2_gap_20 : decode cX2_gap 20 = .ok (.iload_n 2, 1) := by decide +kernel
theorem dX2_gap_21 : decode cX2_gap 21 = .ok (.invokevirtual 157, 3) := by decide +kernel
theorem dX2_gap_24 : decode cX2_gap 24 = .ok (.goto 4, 3) := by decide +kernel
theorem dX2_gap_27 : decode cX2_gap 27 = .ok (.iconst (-1), 1) := by decide +kernel
theorem dX2_gap_28 : decode cX2_gap 28 = .ok (.ireturn, 1) := by decide +kernel
theorem dX2_fight_0 : decode cX2_fight 0 = .ok (.aload_n 0, 1) := by decide +kernel
theorem dX2_fight_1 : decode cX2_fight 1 = .ok (.iload_n 1, 1) := by decide +kernel
theorem dX2_fight_2 : decode cX2_fight 2 = .ok (.iload_n 2, 1) := by decide +kernel
theorem dX2_fight_3 : decode cX2_fight 3 = .ok (.invokevirtual 120, 3) := by decide +kernel
theorem dX2_fight_6 : decode cX2_fight 6 = .ok (.ifCond .eq 12, 3) := by decide +kernel
theorem dX2_fight_9 : decode cX2_fight 9 = .ok (.aload_n 0, 1) := by decide +kernel
theorem dX2_fight_10 : decode cX2_fight 10 = .ok (.iload_n 1, 1) := by decide +kernel
theorem dX2_fight_11 : decode cX2_fight 11 = .ok (.iload_n 3, 1) := by decide +kernel
theorem dX2_fight_12 : decode cX2_fight 12 = .ok (.invokevirtual 120, 3) := by decide +kernel
theorem dX2_fight_15 : decode cX2_fight 15 = .ok (.ifCond .ne 5, 3) := by decide +kernel
theorem dX2_fight_18 : decode cX2_fight 18 = .ok (.iconst (-1), 1) := by decide +kernel
theorem dX2_fight_19 : decode cX2_fight 19 = .ok (.ireturn, 1) := by decide +kernel
theorem dX2_fight_20 : decode cX2_fight 20 = .ok (.aload_n 0, 1) := by decide +kernel
theorem dX2_fight_21 : decode cX2_fight 21 = .ok (.getfield 18, 3) := by decide +kernel
theorem dX2_fight_24 : decode cX2_fight 24 = .ok (.iload_n 1, 1) := by decide +kernel
theorem dX2_fight_25 : decode cX2_fight 25 = .ok (.aaload, 1) := by decide +kernel
theorem dX2_fight_26 : decode cX2_fight 26 = .ok (.astore 4, 2) := by decide +kernel
theorem dX2_fight_28 : decode cX2_fight 28 = .ok (.iconst 1, 1) := by decide +kernel
theorem dX2_fight_29 : decode cX2_fight 29 = .ok (.iload_n 2, 1) := by decide +kernel
theorem dX2_fight_30 : decode cX2_fight 30 = .ok (.ishl, 1) := by decide +kernel
theorem dX2_fight_31 : decode cX2_fight 31 = .ok (.iconst 1, 1) := by decide +kernel
theorem dX2_fight_32 : decode cX2_fight 32 = .ok (.iload_n 3, 1) := by decide +kernel
theorem dX2_fight_33 : decode cX2_fight 33 = .ok (.ishl, 1) := by decide +kernel
theorem dX2_fight_34 : decode cX2_fight 34 = .ok (.ior, 1) := by decide +kernel
theorem dX2_fight_35 : decode cX2_fight 35 = .ok (.istore 5, 2) := by decide +kernel
theorem dX2_fight_37 : decode cX2_fight 37 = .ok (.aload 4, 2) := by decide +kernel
theorem dX2_fight_39 : decode cX2_fight 39 = .ok (.iload 5, 2) := by decide +kernel
theorem dX2_fight_41 : decode cX2_fight 41 = .ok (.invokevirtual 206, 3) := by decide +kernel
theorem dX2_fight_44 : decode cX2_fight 44 = .ok (.istore 6, 2) := by decide +kernel
theorem dX2_fight_46 : decode cX2_fight 46 = .ok (.iload 6, 2) := by decide +kernel
theorem dX2_fight_48 : decode cX2_fight 48 = .ok (.iload 5, 2) := by decide +kernel
theorem dX2_fight_50 : decode cX2_fight 50 = .ok (.iand, 1) := by decide +kernel
theorem dX2_fight_51 : decode cX2_fight 51 = .ok (.ifCond .eq 5, 3) := by decide +kernel
theorem dX2_fight_54 : decode cX2_fight 54 = .ok (.iconst (-1), 1) := by decide +kernel
theorem dX2_fight_55 : decode cX2_fight 55 = .ok (.ireturn, 1) := by decide +kernel
theorem dX2_fight_56 : decode cX2_fight 56 = .ok (.aload_n 0, 1) := by decide +kernel
theorem dX2_fight_57 : decode cX2_fight 57 = .ok (.aload 4, 2) := by decide +kernel
theorem dX2_fight_59 : decode cX2_fight 59 = .ok (.invokevirtual 147, 3) := by decide +kernel
theorem dX2_fight_62 : decode cX2_fight 62 = .ok (.istore 7, 2) := by decide +kernel
theorem dX2_fight_64 : decode cX2_fight 64 = .ok (.iconst 0, 1) := by decide +kernel
theorem dX2_fight_65 : decode cX2_fight 65 = .ok (.istore 8, 2) := by decide +kernel
theorem dX2_fight_67 : decode cX2_fight 67 = .ok (.iconst 0, 1) := by decide +kernel
theorem dX2_fight_68 : decode cX2_fight 68 = .ok (.istore 9, 2) := by decide +kernel
theorem dX2_fight_70 : decode cX2_fight 70 = .ok (.iload 8, 2) := by decide +kernel
theorem dX2_fight_72 : decode cX2_fight 72 = .ok (.iload 7, 2) := by decide +kernel
theorem dX2_fight_74 : decode cX2_fight 74 = .ok (.if_icmp .ge 50, 3) := by decide +kernel
theorem dX2_fight_77 : decode cX2_fight 77 = .ok (.aload 4, 2) := by decide +kernel
theorem dX2_fight_79 : decode cX2_fight 79 = .ok (.iload 9, 2) := by decide +kernel
theorem dX2_fight_81 : decode cX2_fight 81 = .ok (.invokevirtual 186, 3) := by decide +kernel
theorem dX2_fight_84 : decode cX2_fight 84 = .ok (.istore 10, 2) := by decide +kernel
theorem dX2_fight_86 : decode cX2_fight 86 = .ok (.iload 10, 2) := by decide +kernel
theorem dX2_fight_88 : decode cX2_fight 88 = .ok (.iload 5, 2) := by decide +kernel
theorem dX2_fight_90 : decode cX2_fight 90 = .ok (.iand, 1) := by decide +kernel
theorem dX2_fight_91 : decode cX2_fight 91 = .ok (.iload 5, 2) := by decide +kernel
theorem dX2_fight_93 : decode cX2_fight 93 = .ok (.if_icmp .ne 14, 3) := by decide +kernel
theorem dX2_fight_96 : decode cX2_fight 96 = .ok (.iload 10, 2) := by decide +kernel
theorem dX2_fight_98 : decode cX2_fight 98 = .ok (.iload 6, 2) := by decide +kernel
theorem dX2_fight_100 : decode cX2_fight 100 = .ok (.iand, 1) := by decide +kernel
theorem dX2_fight_101 : decode cX2_fight 101 = .ok (.ifCond .ne 6, 3) := by decide +kernel
theorem dX2_fight_104 : decode cX2_fight 104 = .ok (.iload 9, 2) := by decide +kernel
theorem dX2_fight_106 : decode cX2_fight 106 = .ok (.ireturn, 1) := by decide +kernel
theorem dX2_fight_107 : decode cX2_fight 107 = .ok (.iinc 8 1, 3) := by decide +kernel
theorem dX2_fight_110 : decode cX2_fight 110 = .ok (.aload_n 0, 1) := by decide +kernel
theorem dX2_fight_111 : decode cX2_fight 111 = .ok (.getfield 12, 3) := by decide +kernel
theorem dX2_fight_114 : decode cX2_fight 114 = .ok (.iload 9, 2) := by decide +kernel
theorem dX2_fight_116 : decode cX2_fight 116 = .ok (.invokevirtual 209, 3) := by decide +kernel
theorem dX2_fight_119 : decode cX2_fight 119 = .ok (.istore 9, 2) := by decide +kernel
theorem dX2_fight_121 : decode cX2_fight 121 = .ok (.goto (-51), 3) := by decide +kernel
theorem dX2_fight_124 : decode cX2_fight 124 = .ok (.iconst (-1), 1) := by decide +kernel
theorem dX2_fight_125 : decode cX2_fight 125 = .ok (.ireturn, 1) := by decide +kernel
theorem dX2_pole_0 : decode cX2_pole 0 = .ok (.aload_n 0, 1) := by decide +kernel
theorem dX2_pole_1 : decode cX2_pole 1 = .ok (.iload_n 1, 1) := by decide +kernel
theorem dX2_pole_2 : decode cX2_pole 2 = .ok (.invokevirtual 144, 3) := by decide +kernel
theorem dX2_pole_5 : decode cX2_pole 5 = .ok (.ifCond .eq 31, 3) := by decide +kernel
theorem dX2_pole_8 : decode cX2_pole 8 = .ok (.iload_n 2, 1) := by decide +kernel
theorem dX2_pole_9 : decode cX2_pole 9 = .ok (.ifCond .lt 27, 3) := by decide +kernel
theorem dX2_pole_12 : decode cX2_pole 12 = .ok (.iload_n 2, 1) := by decide +kernel
theorem dX2_pole_13 : decode cX2_pole 13 = .ok (.aload_n 0, 1) := by decide +kernel
theorem dX2_pole_14 : decode cX2_pole 14 = .ok (.getfield 18, 3) := by decide +kernel
theorem dX2_pole_17 : decode cX2_pole 17 = .ok (.iload_n 1, 1) := by decide +kernel
theorem dX2_pole_18 : decode cX2_pole 18 = .ok (.aaload, 1) := by decide +kernel
theorem dX2_pole_19 : decode cX2_pole 19 = .ok (.getfield 93, 3) := by decide +kernel
theorem dX2_pole_22 : decode cX2_pole 22 = .ok (.if_icmp .ge 14, 3) := by decide +kernel
theorem dX2_pole_25 : decode cX2_pole 25 = .ok (.aload_n 0, 1) := by decide +kernel
theorem dX2_pole_26 : decode cX2_pole 26 = .ok (.getfield 12, 3) := by decide +kernel
theorem dX2_pole_29 : decode cX2_pole 29 = .ok (.iload_n 3, 1) := by decide +kernel
theorem dX2_pole_30 : decode cX2_pole 30 = .ok (.invokevirtual 72, 3) := by decide +kernel
theorem dX2_pole_33 : decode cX2_pole 33 = .ok (.ifCond .ne 5, 3) := by decide +kernel
theorem dX2_pole_36 : decode cX2_pole 36 = .ok (.iconst (-1), 1) := by decide +kernel
theorem dX2_pole_37 : decode cX2_pole 37 = .ok (.ireturn, 1) := by decide +kernel
theorem dX2_pole_38 : decode cX2_pole 38 = .ok (.aload_n 0, 1) := by decide +kernel
theorem dX2_pole_39 : decode cX2_pole 39 = .ok (.iload_n 1, 1) := by decide +kernel
theorem dX2_pole_40 : decode cX2_pole 40 = .ok (.invokevirtual 212, 3) := by decide +kernel
theorem dX2_pole_43 : decode cX2_pole 43 = .ok (.aload_n 0, 1) := by decide +kernel
theorem dX2_pole_44 : decode cX2_pole 44 = .ok (.aload_n 0, 1) := by decide +kernel
theorem dX2_pole_45 : decode cX2_pole 45 = .ok (.getfield 18, 3) := by decide +kernel
theorem dX2_pole_48 : decode cX2_pole 48 = .ok (.iload_n 1, 1) := by decide +kernel
theorem dX2_pole_49 : decode cX2_pole 49 = .ok (.aaload, 1) := by decide +kernel
theorem dX2_pole_50 : decode cX2_pole 50 = .ok (.iload_n 2, 1) := by decide +kernel
theorem dX2_pole_51 : decode cX2_pole 51 = .ok (.iload_n 3, 1) := by decide +kernel
theorem dX2_pole_52 : decode cX2_pole 52 = .ok (.invokevirtual 215, 3) := by decide +kernel
theorem dX2_pole_55 : decode cX2_pole 55 = .ok (.ireturn, 1) := by decide +kernel
theorem dX2_change_0 : decode cX2_change 0 = .ok (.aload_n 0, 1) := by decide +kernel
theorem dX2_change_1 : decode cX2_change 1 = .ok (.iload_n 1, 1) := by decide +kernel
theorem dX2_change_2 : decode cX2_change 2 = .ok (.iload_n 2, 1) := by decide +kernel
theorem dX2_change_3 : decode cX2_change 3 = .ok (.invokevirtual 96, 3) := by decide +kernel
theorem dX2_change_6 : decode cX2_change 6 = .ok (.ifCond .ne 5, 3) := by decide +kernel
theorem dX2_change_9 : decode cX2_change 9 = .ok (.iconst (-1), 1) := by decide +kernel
theorem dX2_change_10 : decode cX2_change 10 = .ok (.ireturn, 1) := by decide +kernel
theorem dX2_change_11 : decode cX2_change 11 = .ok (.aload_n 0, 1) := by decide +kernel
theorem dX2_change_12 : decode cX2_change 12 = .ok (.getfield 18, 3) := by decide +kernel
theorem dX2_change_15 : decode cX2_change 15 = .ok (.iload_n 1, 1) := by decide +kernel
theorem dX2_change_16 : decode cX2_change 16 = .ok (.aaload, 1) := by decide +kernel
theorem dX2_change_17 : decode cX2_change 17 = .ok (.astore_n 3, 1) := by decide +kernel
theorem dX2_change_18 : decode cX2_change 18 = .ok (.aload_n 3, 1) := by decide +kernel
theorem dX2_change_19 : decode cX2_change 19 = .ok (.iload_n 2, 1) := by decide +kernel
theorem dX2_change_20 : decode cX2_change 20 = .ok (.invokevirtual 103, 3) := by decide +kernel
theorem dX2_change_23 : decode cX2_change 23 = .ok (.ifCond .eq 6, 3) := by decide +kernel
theorem dX2_change_26 : decode cX2_change 26 = .ok (.bipush (-2), 2) := by decide +kernel
theorem dX2_change_28 : decode cX2_change 28 = .ok (.ireturn, 1) := by decide +kernel
theorem dX2_change_29 : decode cX2_change 29 = .ok (.aload_n 0, 1) := by decide +kernel
theorem dX2_change_30 : decode cX2_change 30 = .ok (.iload_n 1, 1) := by decide +kernel
theorem dX2_change_31 : decode cX2_change 31 = .ok (.invokevirtual 212, 3) := by decide +kernel
theorem dX2_change_34 : decode cX2_change 34 = .ok (.aload_n 0, 1) := by decide +kernel
theorem dX2_change_35 : decode cX2_change 35 = .ok (.getfield 23, 3) := by decide +kernel
theorem dX2_change_38 : decode cX2_change 38 = .ok (.aload_n 3, 1) := by decide +kernel
theorem dX2_change_39 : decode cX2_change 39 = .ok (.invokevirtual 218, 3) := by decide +kernel
theorem dX2_change_42 : decode cX2_change 42 = .ok (.aload_n 0, 1) := by decide +kernel
theorem dX2_change_43 : decode cX2_change 43 = .ok (.getfield 23, 3) := by decide +kernel
theorem dX2_change_46 : decode cX2_change 46 = .ok (.bipush 12, 2) := by decide +kernel
