theorem dX0_init_0 : decode cX0_init 0 = .ok (.aload_n 0, 1) := by decide +kernel
theorem dX0_init_1 : decode cX0_init 1 = .ok (.invokespecial 3, 3) := by decide +kernel
theorem dX0_init_4 : decode cX0_init 4 = .ok (.aload_n 0, 1) := by decide +kernel
theorem dX0_init_5 : decode cX0_init 5 = .ok (.iconst 1, 1) := by decide +kernel
theorem dX0_init_6 : decode cX0_init 6 = .ok (.putfield 9, 3) := by decide +kernel
theorem dX0_init_9 : decode cX0_init 9 = .ok (.aload_n 0, 1) := by decide +kernel
theorem dX0_init_10 : decode cX0_init 10 = .ok (.bipush 48, 2) := by decide +kernel
theorem dX0_init_12 : decode cX0_init 12 = .ok (.newarray .int, 2) := by decide +kernel
theorem dX0_init_14 : decode cX0_init 14 = .ok (.putfield 15, 3) := by decide +kernel
theorem dX0_init_17 : decode cX0_init 17 = .ok (.aload_n 0, 1) := by decide +kernel
theorem dX0_init_18 : decode cX0_init 18 = .ok (.bipush 16, 2) := by decide +kernel
theorem dX0_init_20 : decode cX0_init 20 = .ok (.newarray .int, 2) := by decide +kernel
theorem dX0_init_22 : decode cX0_init 22 = .ok (.putfield 19, 3) := by decide +kernel
theorem dX0_init_25 : decode cX0_init 25 = .ok (.aload_n 0, 1) := by decide +kernel
theorem dX0_init_26 : decode cX0_init 26 = .ok (.bipush 16, 2) := by decide +kernel
theorem dX0_init_28 : decode cX0_init 28 = .ok (.newarray .int, 2) := by decide +kernel
theorem dX0_init_30 : decode cX0_init 30 = .ok (.putfield 22, 3) := by decide +kernel
theorem dX0_init_33 : decode cX0_init 33 = .ok (.aload_n 0, 1) := by decide +kernel
theorem dX0_init_34 : decode cX0_init 34 = .ok (.sipush 256, 3) := by decide +kernel
theorem dX0_init_37 : decode cX0_init 37 = .ok (.newarray .int, 2) := by decide +kernel
theorem dX0_init_39 : decode cX0_init 39 = .ok (.putfield 25, 3) := by decide +kernel
theorem dX0_init_42 : decode cX0_init 42 = .ok (.aload_n 0, 1) := by decide +kernel
theorem dX0_init_43 : decode cX0_init 43 = .ok (.bipush 16, 2) := by decide +kernel
theorem dX0_init_45 : decode cX0_init 45 = .ok (.newarray .int, 2) := by decide +kernel
theorem dX0_init_47 : decode cX0_init 47 = .ok (.putfield 28, 3) := by decide +kernel
theorem dX0_init_50 : decode cX0_init 50 = .ok (.aload_n 0, 1) := by decide +kernel
theorem dX0_init_51 : decode cX0_init 51 = .ok (.sipush 256, 3) := by decide +kernel
theorem dX0_init_54 : decode cX0_init 54 = .ok (.newarray .int, 2) := by decide +kernel
theorem dX0_init_56 : decode cX0_init 56 = .ok (.putfield 31, 3) := by decide +kernel
theorem dX0_init_59 : decode cX0_init 59 = .ok (.aload_n 0, 1) := by decide +kernel
theorem dX0_init_60 : decode cX0_init 60 = .ok (.bipush 64, 2) := by decide +kernel
theorem dX0_init_62 : decode cX0_init 62 = .ok (.newarray .int, 2) := by decide +kernel
theorem dX0_init_64 : decode cX0_init 64 = .ok (.putfield 34, 3) := by decide +kernel
theorem dX0_init_67 : decode cX0_init 67 = .ok (.aload_n 0, 1) := by decide +kernel
theorem dX0_init_68 : decode cX0_init 68 = .ok (.iconst 4, 1) := by decide +kernel
theorem dX0_init_69 : decode cX0_init 69 = .ok (.newarray .int, 2) := by decide +kernel
theorem dX0_init_71 : decode cX0_init 71 = .ok (.putfield 37, 3) := by decide +kernel
theorem dX0_init_74 : decode cX0_init 74 = .ok (.aload_n 0, 1) := by decide +kernel
theorem dX0_init_75 : decode cX0_init 75 = .ok (.iconst 4, 1) := by decide +kernel
theorem dX0_init_76 : decode cX0_init 76 = .ok (.newarray .int, 2) := by decide +kernel
theorem dX0_init_78 : decode cX0_init 78 = .ok (.putfield 40, 3) := by decide +kernel
theorem dX0_init_81 : decode cX0_init 81 = .ok (.aload_n 0, 1) := by decide +kernel
theorem dX0_init_82 : decode cX0_init 82 = .ok (.getfield 22, 3) := by decide +kernel
theorem dX0_init_85 : decode cX0_init 85 = .ok (.iconst 0, 1) := by decide +kernel
theorem dX0_init_86 : decode cX0_init 86 = .ok (.iconst 1, 1) := by decide +kernel
theorem dX0_init_87 : decode cX0_init 87 = .ok (.iastore, 1) := by decide +kernel
theorem dX0_init_88 : decode cX0_init 88 = .ok (.aload_n 0, 1) := by decide +kernel
theorem dX0_init_89 : decode cX0_init 89 = .ok (.getfield 28, 3) := by decide +kernel
theorem dX0_init_92 : decode cX0_init 92 = .ok (.iconst 0, 1) := by decide +kernel
theorem dX0_init_93 : decode cX0_init 93 = .ok (.iconst 1, 1) := by decide +kernel
theorem dX0_init_94 : decode cX0_init 94 = .ok (.iastore, 1) := by decide +kernel
theorem dX0_init_95 : decode cX0_init 95 = .ok (.return_, 1) := by decide +kernel
theorem dX0_has_0 : decode cX0_has 0 = .ok (.iload_n 1, 1) := by decide +kernel
theorem dX0_has_1 : decode cX0_has 1 = .ok (.ifCond .lt 15, 3) := by decide +kernel
theorem dX0_has_4 : decode cX0_has 4 = .ok (.iload_n 1, 1) := by decide +kernel
theorem dX0_has_5 : decode cX0_has 5 = .ok (.aload_n 0, 1) := by decide +kernel
theorem dX0_has_6 : decode cX0_has 6 = .ok (.getfield 9, 3) := by decide +kernel
theorem dX0_has_9 : decode cX0_has 9 = .ok (.if_icmp .ge 7, 3) := by decide +kernel
theorem dX0_has_12 : decode cX0_has 12 = .ok (.iconst 1, 1) := by decide +kernel
theorem dX0_has_13 : decode cX0_has 13 = .ok (.goto 4, 3) := by decide +kernel
theorem dX0_has_16 : decode cX0_has 16 = .ok (.iconst 0, 1) := by decide +kernel
theorem dX0_has_17 : decode cX0_has 17 = .ok (.ireturn, 1) := by decide +kernel
theorem dX0_isOne_0 : decode cX0_isOne 0 = .ok (.aload_n 0, 1) := by decide +kernel
theorem dX0_isOne_1 : decode cX0_isOne 1 = .ok (.getfield 22, 3) := by decide +kernel
theorem dX0_isOne_4 : decode cX0_isOne 4 = .ok (.iload_n 1, 1) := by decide +kernel
theorem dX0_isOne_5 : decode cX0_isOne 5 = .ok (.iaload, 1) := by decide +kernel
theorem dX0_isOne_6 : decode cX0_isOne 6 = .ok (.iload_n 2, 1) := by decide +kernel
theorem dX0_isOne_7 : decode cX0_isOne 7 = .ok (.ishr, 1) := by decide +kernel
theorem dX0_isOne_8 : decode cX0_isOne 8 = .ok (.iconst 1, 1) := by decide +kernel
theorem dX0_isOne_9 : decode cX0_isOne 9 = .ok (.iand, 1) := by decide +kernel
theorem dX0_isOne_10 : decode cX0_isOne 10 = .ok (.ifCond .eq 7, 3) := by decide +kernel
theorem dX0_isOne_13 : decode cX0_isOne 13 = .ok (.iconst 1, 1) := by decide +kernel
theorem dX0_isOne_14 : decode cX0_isOne 14 = .ok (.goto 4, 3) := by decide +kernel
theorem dX0_isOne_17 : decode cX0_isOne 17 = .ok (.iconst 0, 1) := by decide +kernel
theorem dX0_isOne_18 : decode cX0_isOne 18 = .ok (.ireturn, 1) := by decide +kernel
theorem dX0_thatAreBoth_0 : decode cX0_thatAreBoth 0 = .ok (.iconst 0, 1) := by decide +kernel
theorem dX0_thatAreBoth_1 : decode cX0_thatAreBoth 1 = .ok (.istore_n 3, 1) := by decide +kernel
theorem dX0_thatAreBoth_2 : decode cX0_thatAreBoth 2 = .ok (.iconst 0, 1) := by decide +kernel
theorem dX0_thatAreBoth_3 : decode cX0_thatAreBoth 3 = .ok (.istore 4, 2) := by decide +kernel
theorem dX0_thatAreBoth_5 : decode cX0_thatAreBoth 5 = .ok (.iload 4, 2) := by decide +kernel
theorem dX0_thatAreBoth_7 : decode cX0_thatAreBoth 7 = .ok (.aload_n 0, 1) := by decide +kernel
theorem dX0_thatAreBoth_8 : decode cX0_thatAreBoth 8 = .ok (.getfield 9, 3) := by decide +kernel
theorem dX0_thatAreBoth_11 : decode cX0_thatAreBoth 11 = .ok (.if_icmp .ge 36, 3) := by decide +kernel
theorem dX0_thatAreBoth_14 : decode cX0_thatAreBoth 14 = .ok (.aload_n 0, 1) := by decide +kernel
theorem dX0_thatAreBoth_15 : decode cX0_thatAreBoth 15 = .ok (.iload 4, 2) := by decide +kernel
theorem dX0_thatAreBoth_17 : decode cX0_thatAreBoth 17 = .ok (.iload_n 1, 1) := by decide +kernel
theorem dX0_thatAreBoth_18 : decode cX0_thatAreBoth 18 = .ok (.invokevirtual 43, 3) := by decide +kernel
theorem dX0_thatAreBoth_21 : decode cX0_thatAreBoth 21 = .ok (.ifCond .eq 20, 3) := by decide +kernel
theorem dX0_thatAreBoth_24 : decode cX0_thatAreBoth 24 = .ok (.aload_n 0, 1) := by decide +kernel
theorem dX0_thatAreBoth_25 : decode cX0_thatAreBoth 25 = .ok (.iload 4, 2) := by decide +kernel
theorem dX0_thatAreBoth_27 : decode cX0_thatAreBoth 27 = .ok (.iload_n 2, 1) := by decide +kernel
theorem dX0_thatAreBoth_28 : decode cX0_thatAreBoth 28 = .ok (.invokevirtual 43, 3) := by decide +kernel
theorem dX0_thatAreBoth_31 : decode cX0_thatAreBoth 31 = .ok (.ifCond .eq 10, 3) := by decide +kernel
theorem dX0_thatAreBoth_34 : decode cX0_thatAreBoth 34 = .ok (.iload_n 3, 1) := by decide +kernel
theorem dX0_thatAreBoth_35 : decode cX0_thatAreBoth 35 = .ok (.iconst 1, 1) := by decide +kernel
theorem dX0_thatAreBoth_36 : decode cX0_thatAreBoth 36 = .ok (.iload 4, 2) := by decide +kernel
theorem dX0_thatAreBoth_38 : decode cX0_thatAreBoth 38 = .ok (.ishl, 1) := by decide +kernel
theorem dX0_thatAreBoth_39 : decode cX0_thatAreBoth 39 = .ok (.ior, 1) := by decide +kernel
theorem dX0_thatAreBoth_40 : decode cX0_thatAreBoth 40 = .ok (.istore_n 3, 1) := by decide +kernel
theorem dX0_thatAreBoth_41 : decode cX0_thatAreBoth 41 = .ok (.iinc 4 1, 3) := by decide +kernel
theorem dX0_thatAreBoth_44 : decode cX0_thatAreBoth 44 = .ok (.goto (-39), 3) := by decide +kernel
theorem dX0_thatAreBoth_47 : decode cX0_thatAreBoth 47 = .ok (.iload_n 3, 1) := by decide +kernel
theorem dX0_thatAreBoth_48 : decode cX0_thatAreBoth 48 = .ok (.ireturn, 1) := by decide +kernel
theorem dX0_callAfter_0 : decode cX0_callAfter 0 = .ok (.iload_n 1, 1) := by decide +kernel
theorem dX0_callAfter_1 : decode cX0_callAfter 1 = .ok (.iconst 0, 1) := by decide +kernel
theorem dX0_callAfter_2 : decode cX0_callAfter 2 = .ok (.invokestatic 47, 3) := by decide +kernel
theorem dX0_callAfter_5 : decode cX0_callAfter 5 = .ok (.iconst 1, 1) := by decide +kernel
theorem dX0_callAfter_6 : decode cX0_callAfter 6 = .ok (.iadd, 1) := by decide +kernel
theorem dX0_callAfter_7 : decode cX0_callAfter 7 = .ok (.aload_n 0, 1) := by decide +kernel
theorem dX0_callAfter_8 : decode cX0_callAfter 8 = .ok (.getfield 9, 3) := by decide +kernel
theorem dX0_callAfter_11 : decode cX0_callAfter 11 = .ok (.if_icmp .ge 7, 3) := by decide +kernel
theorem dX0_callAfter_14 : decode cX0_callAfter 14 = .ok (.iload_n 1, 1) := by decide +kernel
theorem dX0_callAfter_15 : decode cX0_callAfter 15 = .ok (.iconst 1, 1) := by decide +kernel
theorem dX0_callAfter_16 : decode cX0_callAfter 16 = .ok (.iadd, 1) := by decide +kernel
theorem dX0_callAfter_17 : decode cX0_callAfter 17 = .ok (.ireturn, 1) := by decide +kernel
theorem dX0_callAfter_18 : decode cX0_callAfter 18 = .ok (.iload_n 1, 1) := by decide +kernel
theorem dX0_callAfter_19 : decode cX0_callAfter 19 = .ok (.iconst 1, 1) := by decide +kernel
theorem dX0_callAfter_20 : decode cX0_callAfter 20 = .ok (.invokestatic 47, 3) := by decide +kernel
theorem dX0_callAfter_23 : decode cX0_callAfter 23 = .ok (.iconst 1, 1) := by decide +kernel
theorem dX0_callAfter_24 : decode cX0_callAfter 24 = .ok (.iadd, 1) := by decide +kernel
theorem dX0_callAfter_25 : decode cX0_callAfter 25 = .ok (.aload_n 0, 1) := by decide +kernel
theorem dX0_callAfter_26 : decode cX0_callAfter 26 = .ok (.getfield 9, 3) := by decide +kernel
theorem dX0_callAfter_29 : decode cX0_callAfter 29 = .ok (.if_icmp .ge 10, 3) := by decide +kernel
theorem dX0_callAfter_32 : decode cX0_callAfter 32 = .ok (.iload_n 1, 1) := by decide +kernel
theorem dX0_callAfter_33 : decode cX0_callAfter 33 = .ok (.bipush 15, 2) := by decide +kernel
theorem dX0_callAfter_35 : decode cX0_callAfter 35 = .ok (.ior, 1) := by decide +kernel
theorem dX0_callAfter_36 : decode cX0_callAfter 36 = .ok (.iconst 1, 1) := by decide +kernel
theorem dX0_callAfter_37 : decode cX0_callAfter 37 = .ok (.iadd, 1) := by decide +kernel
theorem dX0_callAfter_38 : decode cX0_callAfter 38 = .ok (.ireturn, 1) := by decide +kernel
theorem dX0_callAfter_39 : decode cX0_callAfter 39 = .ok (.iload_n 1, 1) := by decide +kernel
theorem dX0_callAfter_40 : decode cX0_callAfter 40 = .ok (.sipush 255, 3) := by decide +kernel
theorem dX0_callAfter_43 : decode cX0_callAfter 43 = .ok (.ior, 1) := by decide +kernel
theorem dX0_callAfter_44 : decode cX0_callAfter 44 = .ok (.iconst 1, 1) := by decide +kernel
theorem dX0_callAfter_45 : decode cX0_callAfter 45 = .ok (.iadd, 1) := by decide +kernel
theorem dX0_callAfter_46 : decode cX0_callAfter 46 = .ok (.ireturn, 1) := by decide +kernel
theorem dX0_canBeParents_0 : decode cX0_canBeParents 0 = .ok (.aload_n 0, 1) := by decide +kernel
theorem dX0_canBeParents_1 : decode cX0_canBeParents 1 = .ok (.iload_n 1, 1) := by decide +kernel
theorem dX0_canBeParents_2 : decode cX0_canBeParents 2 = .ok (.invokevirtual 51, 3) := by decide +kernel
theorem dX0_canBeParents_5 : decode cX0_canBeParents 5 = .ok (.ifCond .ne 5, 3) := by decide +kernel
theorem dX0_canBeParents_8 : decode cX0_canBeParents 8 = .ok (.iconst 0, 1) := by decide +kernel
theorem dX0_canBeParents_9 : decode cX0_canBeParents 9 = .ok (.ireturn, 1) := by decide +kernel
theorem dX0_canBeParents_10 : decode cX0_canBeParents 10 = .ok (.iload_n 2, 1) := by decide +kernel
theorem dX0_canBeParents_11 : decode cX0_canBeParents 11 = .ok (.iconst (-1), 1) := by decide +kernel
theorem dX0_canBeParents_12 : decode cX0_canBeParents 12 = .ok (.if_icmp .ne 14, 3) := by decide +kernel
theorem dX0_canBeParents_15 : decode cX0_canBeParents 15 = .ok (.iload_n 3, 1) := by decide +kernel
theorem dX0_canBeParents_16 : decode cX0_canBeParents 16 = .ok (.iconst (-1), 1) := by decide +kernel
theorem dX0_canBeParents_17 : decode cX0_canBeParents 17 = .ok (.if_icmp .ne 7, 3) := by decide +kernel
theorem dX0_canBeParents_20 : decode cX0_canBeParents 20 = .ok (.iconst 1, 1) := by decide +kernel
theorem dX0_canBeParents_21 : decode cX0_canBeParents 21 = .ok (.goto 4, 3) := by decide +kernel
theorem dX0_canBeParents_24 : decode cX0_canBeParents 24 = .ok (.iconst 0, 1) := by decide +kernel
theorem dX0_canBeParents_25 : decode cX0_canBeParents 25 = .ok (.ireturn, 1) := by decide +kernel
theorem dX0_canBeParents_26 : decode cX0_canBeParents 26 = .ok (.aload_n 0, 1) := by decide +kernel
theorem dX0_canBeParents_27 : decode cX0_canBeParents 27 = .ok (.iload_n 2, 1) := by decide +kernel
theorem dX0_canBeParents_28 : decode cX0_canBeParents 28 = .ok (.invokevirtual 51, 3) := by decide +kernel
theorem dX0_canBeParents_31 : decode cX0_canBeParents 31 = .ok (.ifCond .eq 8, 3) := by decide +kernel
theorem dX0_canBeParents_34 : decode cX0_canBeParents 34 = .ok (.iload_n 2, 1) := by decide +kernel
theorem dX0_canBeParents_35 : decode cX0_canBeParents 35 = .ok (.iload_n 1, 1) := by decide +kernel
theorem dX0_canBeParents_36 : decode cX0_canBeParents 36 = .ok (.if_icmp .ne 5, 3) := by decide +kernel
theorem dX0_canBeParents_39 : decode cX0_canBeParents 39 = .ok (.iconst 0, 1) := by decide +kernel
theorem dX0_canBeParents_40 : decode cX0_canBeParents 40 = .ok (.ireturn, 1) := by decide +kernel
theorem dX0_canBeParents_41 : decode cX0_canBeParents 41 = .ok (.iload_n 3, 1) := by decide +kernel
theorem dX0_canBeParents_42 : decode cX0_canBeParents 42 = .ok (.iconst (-1), 1) := by decide +kernel
theorem dX0_canBeParents_43 : decode cX0_canBeParents 43 = .ok (.if_icmp .eq 21, 3) := by decide +kernel
theorem dX0_canBeParents_46 : decode cX0_canBeParents 46 = .ok (.aload_n 0, 1) := by decide +kernel
theorem dX0_canBeParents_47 : decode cX0_canBeParents 47 = .ok (.iload_n 3, 1) := by decide +kernel
theorem dX0_canBeParents_48 : decode cX0_canBeParents 48 = .ok (.invokevirtual 51, 3) := by decide +kernel
theorem dX0_canBeParents_51 : decode cX0_canBeParents 51 = .ok (.ifCond .eq 17, 3) := by decide +kernel
theorem dX0_canBeParents_54 : decode cX0_canBeParents 54 = .ok (.iload_n 3, 1) := by decide +kernel
theorem dX0_canBeParents_55 : decode cX0_canBeParents 55 = .ok (.iload_n 1, 1) := by decide +kernel
theorem dX0_canBeParents_56 : decode cX0_canBeParents 56 = .ok (.if_icmp .eq 12, 3) := by decide +kernel
theorem dX0_canBeParents_59 : decode cX0_canBeParents 59 = .ok (.iload_n 3, 1) := by decide +kernel
theorem dX0_canBeParents_60 : decode cX0_canBeParents 60 = .ok (.iload_n 2, 1) := by decide +kernel
theorem dX0_canBeParents_61 : decode cX0_canBeParents 61 = .ok (.if_icmp .eq 7, 3) := by decide +kernel
theorem dX0_canBeParents_64 : decode cX0_canBeParents 64 = .ok (.iconst 1, 1) := by decide +kernel
theorem dX0_canBeParents_65 : decode cX0_canBeParents 65 = .ok (.goto 4, 3) := by decide +kernel
theorem dX0_canBeParents_68 : decode cX0_canBeParents 68 = .ok (.iconst 0, 1) := by decide +kernel
theorem dX0_canBeParents_69 : decode cX0_canBeParents 69 = .ok (.ireturn, 1) := by decide +kernel
theorem dX0_add_0 : decode cX0_add 0 = .ok (.aload_n 0, 1) := by decide +kernel
theorem dX0_add_1 : decode cX0_add 1 = .ok (.getfield 9, 3) := by decide +kernel
theorem dX0_add_4 : decode cX0_add 4 = .ok (.istore 4, 2) := by decide +kernel
theorem dX0_add_6 : decode cX0_add 6 = .ok (.aload_n 0, 1) := by decide +kernel
theorem dX0_add_7 : decode cX0_add 7 = .ok (.getfield 15, 3) := by decide +kernel
theorem dX0_add_10 : decode cX0_add 10 = .ok (.iconst 3, 1) := by decide +kernel
theorem dX0_add_11 : decode cX0_add 11 = .ok (.iload 4, 2) := by decide +kernel
theorem dX0_add_13 : decode cX0_add 13 = .ok (.imul, 1) := by decide +kernel
theorem dX0_add_14 : decode cX0_add 14 = .ok (.iload_n 1, 1) := by decide +kernel
theorem dX0_add_15 : decode cX0_add 15 = .ok (.iastore, 1) := by decide +kernel
theorem dX0_add_16 : decode cX0_add 16 = .ok (.aload_n 0, 1) := by decide +kernel
theorem dX0_add_17 : decode cX0_add 17 = .ok (.getfield 15, 3) := by decide +kernel
theorem dX0_add_20 : decode cX0_add 20 = .ok (.iconst 3, 1) := by decide +kernel
theorem dX0_add_21 : decode cX0_add 21 = .ok (.iload 4, 2) := by decide +kernel
theorem dX0_add_23 : decode cX0_add 23 = .ok (.imul, 1) := by decide +kernel
theorem dX0_add_24 : decode cX0_add 24 = .ok (.iconst 1, 1) := by decide +kernel
theorem dX0_add_25 : decode cX0_add 25 = .ok (.iadd, 1) := by decide +kernel
theorem dX0_add_26 : decode cX0_add 26 = .ok (.iload_n 2, 1) := by decide +kernel
theorem dX0_add_27 : decode cX0_add 27 = .ok (.iastore, 1) := by decide +kernel
theorem dX0_add_28 : decode cX0_add 28 = .ok (.aload_n 0, 1) := by decide +kernel
theorem dX0_add_29 : decode cX0_add 29 = .ok (.getfield 15, 3) := by decide +kernel
theorem dX0_add_32 : decode cX0_add 32 = .ok (.iconst 3, 1) := by decide +kernel
theorem dX0_add_33 : decode cX0_add 33 = .ok (.iload 4, 2) := by decide +kernel
theorem dX0_add_35 : decode cX0_add 35 = .ok (.imul, 1) := by decide +kernel
theorem dX0_add_36 : decode cX0_add 36 = .ok (.iconst 2, 1) := by decide +kernel
theorem dX0_add_37 : decode cX0_add 37 = .ok (.iadd, 1) := by decide +kernel
theorem dX0_add_38 : decode cX0_add 38 = .ok (.iload_n 3, 1) := by decide +kernel
theorem dX0_add_39 : decode cX0_add 39 = .ok (.iastore, 1) := by decide +kernel
theorem dX0_add_40 : decode cX0_add 40 = .ok (.iload_n 2, 1) := by decide +kernel
theorem dX0_add_41 : decode cX0_add 41 = .ok (.iconst (-1), 1) := by decide +kernel
theorem dX0_add_42 : decode cX0_add 42 = .ok (.if_icmp .ne 7, 3) := by decide +kernel
theorem dX0_add_45 : decode cX0_add 45 = .ok (.iconst 1, 1) := by decide +kernel
theorem dX0_add_46 : decode cX0_add 46 = .ok (.goto 13, 3) := by decide +kernel
theorem dX0_add_49 : decode cX0_add 49 = .ok (.iload_n 3, 1) := by decide +kernel
theorem dX0_add_50 : decode cX0_add 50 = .ok (.iconst (-1), 1) := by decide +kernel
theorem dX0_add_51 : decode cX0_add 51 = .ok (.if_icmp .ne 7, 3) := by decide +kernel
theorem dX0_add_54 : decode cX0_add 54 = .ok (.iconst 2, 1) := by decide +kernel
theorem dX0_add_55 : decode cX0_add 55 = .ok (.goto 4, 3) := by decide +kernel
theorem dX0_add_58 : decode cX0_add 58 = .ok (.iconst 3, 1) := by decide +kernel
theorem dX0_add_59 : decode cX0_add 59 = .ok (.istore 5, 2) := by decide +kernel
theorem dX0_add_61 : decode cX0_add 61 = .ok (.aload_n 0, 1) := by decide +kernel
theorem dX0_add_62 : decode cX0_add 62 = .ok (.getfield 19, 3) := by decide +kernel
theorem dX0_add_65 : decode cX0_add 65 = .ok (.iload 4, 2) := by decide +kernel
theorem dX0_add_67 : decode cX0_add 67 = .ok (.iload 5, 2) := by decide +kernel
theorem dX0_add_69 : decode cX0_add 69 = .ok (.iastore, 1) := by decide +kernel
theorem dX0_add_70 : decode cX0_add 70 = .ok (.aload_n 0, 1) := by decide +kernel
theorem dX0_add_71 : decode cX0_add 71 = .ok (.iload 4, 2) := by decide +kernel
theorem dX0_add_73 : decode cX0_add 73 = .ok (.iload 5, 2) := by decide +kernel
theorem dX0_add_75 : decode cX0_add 75 = .ok (.invokevirtual 55, 3) := by decide +kernel
theorem dX0_add_78 : decode cX0_add 78 = .ok (.aload_n 0, 1) := by decide +kernel
theorem dX0_add_79 : decode cX0_add 79 = .ok (.iload 4, 2) := by decide +kernel
theorem dX0_add_81 : decode cX0_add 81 = .ok (.iload 5, 2) := by decide +kernel
theorem dX0_add_83 : decode cX0_add 83 = .ok (.iconst 1, 1) := by decide +kernel
theorem dX0_add_84 : decode cX0_add 84 = .ok (.iadd, 1) := by decide +kernel
theorem dX0_add_85 : decode cX0_add 85 = .ok (.invokevirtual 59, 3) := by decide +kernel
theorem dX0_add_88 : decode cX0_add 88 = .ok (.ifCond .ne 6, 3) := by decide +kernel
theorem dX0_add_91 : decode cX0_add 91 = .ok (.bipush (-2), 2) := by decide +kernel
theorem dX0_add_93 : decode cX0_add 93 = .ok (.ireturn, 1) := by decide +kernel
theorem dX0_add_94 : decode cX0_add 94 = .ok (.iconst 0, 1) := by decide +kernel
theorem dX0_add_95 : decode cX0_add 95 = .ok (.istore 6, 2) := by decide +kernel
theorem dX0_add_97 : decode cX0_add 97 = .ok (.iload 6, 2) := by decide +kernel
theorem dX0_add_99 : decode cX0_add 99 = .ok (.aload_n 0, 1) := by decide +kernel
theorem dX0_add_100 : decode cX0_add 100 = .ok (.getfield 28, 3) := by decide +kernel
theorem dX0_add_103 : decode cX0_add 103 = .ok (.iload 4, 2) := by decide +kernel
theorem dX0_add_105 : decode cX0_add 105 = .ok (.iaload, 1) := by decide +kernel
theorem dX0_add_106 : decode cX0_add 106 = .ok (.if_icmp .ge 53, 3) := by decide +kernel
theorem dX0_add_109 : decode cX0_add 109 = .ok (.aload_n 0, 1) := by decide +kernel
theorem dX0_add_110 : decode cX0_add 110 = .ok (.getfield 25, 3) := by decide +kernel
theorem dX0_add_113 : decode cX0_add 113 = .ok (.bipush 16, 2) := by decide +kernel
theorem dX0_add_115 : decode cX0_add 115 = .ok (.iload 4, 2) := by decide +kernel
theorem dX0_add_117 : decode cX0_add 117 = .ok (.imul, 1) := by decide +kernel
theorem dX0_add_118 : decode cX0_add 118 = .ok (.iload 6, 2) := by decide +kernel
theorem dX0_add_120 : decode cX0_add 120 = .ok (.iadd, 1) := by decide +kernel
theorem dX0_add_121 : decode cX0_add 121 = .ok (.iaload, 1) := by decide +kernel
theorem dX0_add_122 : decode cX0_add 122 = .ok (.istore 7, 2) := by decide +kernel
theorem dX0_add_124 : decode cX0_add 124 = .ok (.aload_n 0, 1) := by decide +kernel
theorem dX0_add_125 : decode cX0_add 125 = .ok (.getfield 22, 3) := by decide +kernel
theorem dX0_add_128 : decode cX0_add 128 = .ok (.iload 4, 2) := by decide +kernel
theorem dX0_add_130 : decode cX0_add 130 = .ok (.dup2, 1) := by decide +kernel
theorem dX0_add_131 : decode cX0_add 131 = .ok (.iaload, 1) := by decide +kernel
theorem dX0_add_132 : decode cX0_add 132 = .ok (.iconst 1, 1) := by decide +kernel
theorem dX0_add_133 : decode cX0_add 133 = .ok (.iload 7, 2) := by decide +kernel
theorem dX0_add_135 : decode cX0_add 135 = .ok (.ishl, 1) := by decide +kernel
theorem dX0_add_136 : decode cX0_add 136 = .ok (.ior, 1) := by decide +kernel
theorem dX0_add_137 : decode cX0_add 137 = .ok (.iastore, 1) := by decide +kernel
theorem dX0_add_138 : decode cX0_add 138 = .ok (.aload_n 0, 1) := by decide +kernel
theorem dX0_add_139 : decode cX0_add 139 = .ok (.getfield 31, 3) := by decide +kernel
theorem dX0_add_142 : decode cX0_add 142 = .ok (.bipush 16, 2) := by decide +kernel
theorem dX0_add_144 : decode cX0_add 144 = .ok (.iload 4, 2) := by decide +kernel
theorem dX0_add_146 : decode cX0_add 146 = .ok (.imul, 1) := by decide +kernel
theorem dX0_add_147 : decode cX0_add 147 = .ok (.iload 7, 2) := by decide +kernel
theorem dX0_add_149 : decode cX0_add 149 = .ok (.iadd, 1) := by decide +kernel
theorem dX0_add_150 : decode cX0_add 150 = .ok (.iload 6, 2) := by decide +kernel
theorem dX0_add_152 : decode cX0_add 152 = .ok (.iastore, 1) := by decide +kernel
theorem dX0_add_153 : decode cX0_add 153 = .ok (.iinc 6 1, 3) := by decide +kernel
theorem dX0_add_156 : decode cX0_add 156 = .ok (.goto (-59), 3) := by decide +kernel
theorem dX0_add_159 : decode cX0_add 159 = .ok (.aload_n 0, 1) := by decide +kernel
theorem dX0_add_160 : decode cX0_add 160 = .ok (.dup, 1) := by decide +kernel
theorem dX0_add_161 : decode cX0_add 161 = .ok (.getfield 9, 3) := by decide +kernel
theorem dX0_add_164 : decode cX0_add 164 = .ok (.iconst 1, 1) := by decide +kernel
theorem dX0_add_165 : decode cX0_add 165 = .ok (.iadd, 1) := by decide +kernel
theorem dX0_add_166 : decode cX0_add 166 = .ok (.putfield 9, 3) := by decide +kernel
theorem dX0_add_169 : decode cX0_add 169 = .ok (.iload 4, 2) := by decide +kernel
theorem dX0_add_171 : decode cX0_add 171 = .ok (.ireturn, 1) := by decide +kernel
theorem dX0_layRows_0 : decode cX0_layRows 0 = .ok (.iconst 0, 1) := by decide +kernel
theorem dX0_layRows_1 : decode cX0_layRows 1 = .ok (.istore_n 3, 1) := by decide +kernel
theorem dX0_layRows_2 : decode cX0_layRows 2 = .ok (.iload_n 3, 1) := by decide +kernel
theorem dX0_layRows_3 : decode cX0_layRows 3 = .ok (.iload_n 2, 1) := by decide +kernel
theorem dX0_layRows_4 : decode cX0_layRows 4 = .ok (.if_icmp .ge 81, 3) := by decide +kernel
theorem dX0_layRows_7 : decode cX0_layRows 7 = .ok (.aload_n 0, 1) := by decide +kernel
theorem dX0_layRows_8 : decode cX0_layRows 8 = .ok (.getfield 15, 3) := by decide +kernel
theorem dX0_layRows_11 : decode cX0_layRows 11 = .ok (.iconst 3, 1) := by decide +kernel
theorem dX0_layRows_12 : decode cX0_layRows 12 = .ok (.iload_n 1, 1) := by decide +kernel
theorem dX0_layRows_13 : decode cX0_layRows 13 = .ok (.imul, 1) := by decide +kernel
theorem dX0_layRows_14 : decode cX0_layRows 14 = .ok (.iload_n 3, 1) := by decide +kernel
theorem dX0_layRows_15 : decode cX0_layRows 15 = .ok (.iadd, 1) := by decide +kernel
theorem dX0_layRows_16 : decode cX0_layRows 16 = .ok (.iaload, 1) := by decide +kernel
theorem dX0_layRows_17 : decode cX0_layRows 17 = .ok (.istore 4, 2) := by decide +kernel
theorem dX0_layRows_19 : decode cX0_layRows 19 = .ok (.aload_n 0, 1) := by decide +kernel
theorem dX0_layRows_20 : decode cX0_layRows 20 = .ok (.getfield 25, 3) := by decide +kernel
theorem dX0_layRows_23 : decode cX0_layRows 23 = .ok (.bipush 16, 2) := by decide +kernel
theorem dX0_layRows_25 : decode cX0_layRows 25 = .ok (.iload 4, 2) := by decide +kernel
theorem dX0_layRows_27 : decode cX0_layRows 27 = .ok (.imul, 1) := by decide +kernel
theorem dX0_layRows_28 : decode cX0_layRows 28 = .ok (.aload_n 0, 1) := by decide +kernel
theorem dX0_layRows_29 : decode cX0_layRows 29 = .ok (.getfield 34, 3) := by decide +kernel
theorem dX0_layRows_32 : decode cX0_layRows 32 = .ok (.bipush 16, 2) := by decide +kernel
theorem dX0_layRows_34 : decode cX0_layRows 34 = .ok (.iload_n 3, 1) := by decide +kernel
theorem dX0_layRows_35 : decode cX0_layRows 35 = .ok (.imul, 1) := by decide +kernel
theorem dX0_layRows_36 : decode cX0_layRows 36 = .ok (.aload_n 0, 1) := by decide +kernel
theorem dX0_layRows_37 : decode cX0_layRows 37 = .ok (.getfield 28, 3) := by decide +kernel
theorem dX0_layRows_40 : decode cX0_layRows 40 = .ok (.iload 4, 2) := by decide +kernel
theorem dX0_layRows_42 : decode cX0_layRows 42 = .ok (.iaload, 1) := by decide +kernel
theorem dX0_layRows_43 : decode cX0_layRows 43 = .ok (.invokestatic 62, 3) := by decide +kernel
theorem dX0_layRows_46 : decode cX0_layRows 46 = .ok (.aload_n 0, 1) := by decide +kernel
theorem dX0_layRows_47 : decode cX0_layRows 47 = .ok (.getfield 37, 3) := by decide +kernel
theorem dX0_layRows_50 : decode cX0_layRows 50 = .ok (.iload_n 3, 1) := by decide +kernel
theorem dX0_layRows_51 : decode cX0_layRows 51 = .ok (.iconst 0, 1) := by decide +kernel
theorem dX0_layRows_52 : decode cX0_layRows 52 = .ok (.iastore, 1) := by decide +kernel
theorem dX0_layRows_53 : decode cX0_layRows 53 = .ok (.aload_n 0, 1) := by decide +kernel
theorem dX0_layRows_54 : decode cX0_layRows 54 = .ok (.getfield 40, 3) := by decide +kernel
theorem dX0_layRows_57 : decode cX0_layRows 57 = .ok (.iload_n 3, 1) := by decide +kernel
theorem dX0_layRows_58 : decode cX0_layRows 58 = .ok (.aload_n 0, 1) := by decide +kernel
theorem dX0_layRows_59 : decode cX0_layRows 59 = .ok (.getfield 28, 3) := by decide +kernel
theorem dX0_layRows_62 : decode cX0_layRows 62 = .ok (.iload 4, 2) := by decide +kernel
theorem dX0_layRows_64 : decode cX0_layRows 64 = .ok (.iaload, 1) := by decide +kernel
theorem dX0_layRows_65 : decode cX0_layRows 65 = .ok (.iastore, 1) := by decide +kernel
theorem dX0_layRows_66 : decode cX0_layRows 66 = .ok (.aload_n 0, 1) := by decide +kernel
theorem dX0_layRows_67 : decode cX0_layRows 67 = .ok (.getfield 34, 3) := by decide +kernel
theorem dX0_layRows_70 : decode cX0_layRows 70 = .ok (.bipush 16, 2) := by decide +kernel
theorem dX0_layRows_72 : decode cX0_layRows 72 = .ok (.iload_n 2, 1) := by decide +kernel
theorem dX0_layRows_73 : decode cX0_layRows 73 = .ok (.imul, 1) := by decide +kernel
theorem dX0_layRows_74 : decode cX0_layRows 74 = .ok (.iload_n 3, 1) := by decide +kernel
theorem dX0_layRows_75 : decode cX0_layRows 75 = .ok (.iadd, 1) := by decide +kernel
theorem dX0_layRows_76 : decode cX0_layRows 76 = .ok (.iload 4, 2) := by decide +kernel
theorem dX0_layRows_78 : decode cX0_layRows 78 = .ok (.iastore, 1) := by decide +kernel
theorem dX0_layRows_79 : decode cX0_layRows 79 = .ok (.iinc 3 1, 3) := by decide +kernel
theorem dX0_layRows_82 : decode cX0_layRows 82 = .ok (.goto (-80), 3) := by decide +kernel
theorem dX0_layRows_85 : decode cX0_layRows 85 = .ok (.aload_n 0, 1) := by decide +kernel
theorem dX0_layRows_86 : decode cX0_layRows 86 = .ok (.getfield 37, 3) := by decide +kernel
theorem dX0_layRows_89 : decode cX0_layRows 89 = .ok (.iload_n 2, 1) := by decide +kernel
theorem dX0_layRows_90 : decode cX0_layRows 90 = .ok (.iconst 0, 1) := by decide +kernel
theorem dX0_layRows_91 : decode cX0_layRows 91 = .ok (.iastore, 1) := by decide +kernel
theorem dX0_layRows_92 : decode cX0_layRows 92 = .ok (.aload_n 0, 1) := by decide +kernel
theorem dX0_layRows_93 : decode cX0_layRows 93 = .ok (.getfield 40, 3) := by decide +kernel
theorem dX0_layRows_96 : decode cX0_layRows 96 = .ok (.iload_n 2, 1) := by decide +kernel
theorem dX0_layRows_97 : decode cX0_layRows 97 = .ok (.iload_n 2, 1) := by decide +kernel
theorem dX0_layRows_98 : decode cX0_layRows 98 = .ok (.iastore, 1) := by decide +kernel
theorem dX0_layRows_99 : decode cX0_layRows 99 = .ok (.return_, 1) := by decide +kernel
theorem dX0_mergeRows_0 : decode cX0_mergeRows 0 = .ok (.iconst 1, 1) := by decide +kernel
theorem dX0_mergeRows_1 : decode cX0_mergeRows 1 = .ok (.istore_n 3, 1) := by decide +kernel
theorem dX0_mergeRows_2 : decode cX0_mergeRows 2 = .ok (.aload_n 0, 1) := by decide +kernel
theorem dX0_mergeRows_3 : decode cX0_mergeRows 3 = .ok (.getfield 25, 3) := by decide +kernel
theorem dX0_mergeRows_6 : decode cX0_mergeRows 6 = .ok (.bipush 16, 2) := by decide +kernel
theorem dX0_mergeRows_8 : decode cX0_mergeRows 8 = .ok (.iload_n 1, 1) := by decide +kernel
theorem dX0_mergeRows_9 : decode cX0_mergeRows 9 = .ok (.imul, 1) := by decide +kernel
theorem dX0_mergeRows_10 : decode cX0_mergeRows 10 = .ok (.iload_n 1, 1) := by decide +kernel
theorem dX0_mergeRows_11 : decode cX0_mergeRows 11 = .ok (.iastore, 1) := by decide +kernel
theorem dX0_mergeRows_12 : decode cX0_mergeRows 12 = .ok (.iload_n 3, 1) := by decide +kernel
theorem dX0_mergeRows_13 : decode cX0_mergeRows 13 = .ok (.bipush 16, 2) := by decide +kernel
theorem dX0_mergeRows_15 : decode cX0_mergeRows 15 = .ok (.if_icmp .ge 45, 3) := by decide +kernel
theorem dX0_mergeRows_18 : decode cX0_mergeRows 18 = .ok (.aload_n 0, 1) := by decide +kernel
theorem dX0_mergeRows_19 : decode cX0_mergeRows 19 = .ok (.iload_n 2, 1) := by decide +kernel
theorem dX0_mergeRows_20 : decode cX0_mergeRows 20 = .ok (.invokevirtual 68, 3) := by decide +kernel
theorem dX0_mergeRows_23 : decode cX0_mergeRows 23 = .ok (.istore 4, 2) := by decide +kernel
theorem dX0_mergeRows_25 : decode cX0_mergeRows 25 = .ok (.iload 4, 2) := by decide +kernel
theorem dX0_mergeRows_27 : decode cX0_mergeRows 27 = .ok (.iconst (-1), 1) := by decide +kernel
theorem dX0_mergeRows_28 : decode cX0_mergeRows 28 = .ok (.if_icmp .ne 6, 3) := by decide +kernel
theorem dX0_mergeRows_31 : decode cX0_mergeRows 31 = .ok (.goto 29, 3) := by decide +kernel
theorem dX0_mergeRows_34 : decode cX0_mergeRows 34 = .ok (.aload_n 0, 1) := by decide +kernel
theorem dX0_mergeRows_35 : decode cX0_mergeRows 35 = .ok (.iload 4, 2) := by decide +kernel
theorem dX0_mergeRows_37 : decode cX0_mergeRows 37 = .ok (.iload_n 2, 1) := by decide +kernel
theorem dX0_mergeRows_38 : decode cX0_mergeRows 38 = .ok (.invokevirtual 72, 3) := by decide +kernel
theorem dX0_mergeRows_41 : decode cX0_mergeRows 41 = .ok (.aload_n 0, 1) := by decide +kernel
theorem dX0_mergeRows_42 : decode cX0_mergeRows 42 = .ok (.getfield 25, 3) := by decide +kernel
theorem dX0_mergeRows_45 : decode cX0_mergeRows 45 = .ok (.bipush 16, 2) := by decide +kernel
theorem dX0_mergeRows_47 : decode cX0_mergeRows 47 = .ok (.iload_n 1, 1) := by decide +kernel
theorem dX0_mergeRows_48 : decode cX0_mergeRows 48 = .ok (.imul, 1) := by decide +kernel
theorem dX0_mergeRows_49 : decode cX0_mergeRows 49 = .ok (.iload_n 3, 1) := by decide +kernel
theorem dX0_mergeRows_50 : decode cX0_mergeRows 50 = .ok (.iadd, 1) := by decide +kernel
theorem dX0_mergeRows_51 : decode cX0_mergeRows 51 = .ok (.iload 4, 2) := by decide +kernel
theorem dX0_mergeRows_53 : decode cX0_mergeRows 53 = .ok (.iastore, 1) := by decide +kernel
theorem dX0_mergeRows_54 : decode cX0_mergeRows 54 = .ok (.iinc 3 1, 3) := by decide +kernel
theorem dX0_mergeRows_57 : decode cX0_mergeRows 57 = .ok (.goto (-45), 3) := by decide +kernel
theorem dX0_mergeRows_60 : decode cX0_mergeRows 60 = .ok (.aload_n 0, 1) := by decide +kernel
theorem dX0_mergeRows_61 : decode cX0_mergeRows 61 = .ok (.getfield 28, 3) := by decide +kernel
theorem dX0_mergeRows_64 : decode cX0_mergeRows 64 = .ok (.iload_n 1, 1) := by decide +kernel
theorem dX0_mergeRows_65 : decode cX0_mergeRows 65 = .ok (.iload_n 3, 1) := by decide +kernel
theorem dX0_mergeRows_66 : decode cX0_mergeRows 66 = .ok (.iastore, 1) := by decide +kernel
theorem dX0_mergeRows_67 : decode cX0_mergeRows 67 = .ok (.iconst 0, 1) := by decide +kernel
theorem dX0_mergeRows_68 : decode cX0_mergeRows 68 = .ok (.istore 4, 2) := by decide +kernel
theorem dX0_mergeRows_70 : decode cX0_mergeRows 70 = .ok (.iload 4, 2) := by decide +kernel
theorem dX0_mergeRows_72 : decode cX0_mergeRows 72 = .ok (.iload_n 2, 1) := by decide +kernel
theorem dX0_mergeRows_73 : decode cX0_mergeRows 73 = .ok (.if_icmp .ge 28, 3) := by decide +kernel
theorem dX0_mergeRows_76 : decode cX0_mergeRows 76 = .ok (.aload_n 0, 1) := by decide +kernel
theorem dX0_mergeRows_77 : decode cX0_mergeRows 77 = .ok (.getfield 37, 3) := by decide +kernel
theorem dX0_mergeRows_80 : decode cX0_mergeRows 80 = .ok (.iload 4, 2) := by decide +kernel
theorem dX0_mergeRows_82 : decode cX0_mergeRows 82 = .ok (.iaload, 1) := by decide +kernel
theorem dX0_mergeRows_83 : decode cX0_mergeRows 83 = .ok (.aload_n 0, 1) := by decide +kernel
theorem dX0_mergeRows_84 : decode cX0_mergeRows 84 = .ok (.getfield 40, 3) := by decide +kernel
theorem dX0_mergeRows_87 : decode cX0_mergeRows 87 = .ok (.iload 4, 2) := by decide +kernel
theorem dX0_mergeRows_89 : decode cX0_mergeRows 89 = .ok (.iaload, 1) := by decide +kernel
theorem dX0_mergeRows_90 : decode cX0_mergeRows 90 = .ok (.if_icmp .ge 5, 3) := by decide +kernel
theorem dX0_mergeRows_93 : decode cX0_mergeRows 93 = .ok (.iconst 0, 1) := by decide +kernel
theorem dX0_mergeRows_94 : decode cX0_mergeRows 94 = .ok (.ireturn, 1) := by decide +kernel
theorem dX0_mergeRows_95 : decode cX0_mergeRows 95 = .ok (.iinc 4 1, 3) := by decide +kernel
theorem dX0_mergeRows_98 : decode cX0_mergeRows 98 = .ok (.goto (-28), 3) := by decide +kernel
theorem dX0_mergeRows_101 : decode cX0_mergeRows 101 = .ok (.iconst 1, 1) := by decide +kernel
theorem dX0_mergeRows_102 : decode cX0_mergeRows 102 = .ok (.ireturn, 1) := by decide +kernel
theorem dX0_nextOfRows_0 : decode cX0_nextOfRows 0 = .ok (.iconst 0, 1) := by decide +kernel
theorem dX0_nextOfRows_1 : decode cX0_nextOfRows 1 = .ok (.istore_n 2, 1) := by decide +kernel
theorem dX0_nextOfRows_2 : decode cX0_nextOfRows 2 = .ok (.iload_n 2, 1) := by decide +kernel
theorem dX0_nextOfRows_3 : decode cX0_nextOfRows 3 = .ok (.iload_n 1, 1) := by decide +kernel
theorem dX0_nextOfRows_4 : decode cX0_nextOfRows 4 = .ok (.if_icmp .ge 52, 3) := by decide +kernel
theorem dX0_nextOfRows_7 : decode cX0_nextOfRows 7 = .ok (.aload_n 0, 1) := by decide +kernel
theorem dX0_nextOfRows_8 : decode cX0_nextOfRows 8 = .ok (.getfield 37, 3) := by decide +kernel
theorem dX0_nextOfRows_11 : decode cX0_nextOfRows 11 = .ok (.iload_n 2, 1) := by decide +kernel
theorem dX0_nextOfRows_12 : decode cX0_nextOfRows 12 = .ok (.iaload, 1) := by decide +kernel
theorem dX0_nextOfRows_13 : decode cX0_nextOfRows 13 = .ok (.aload_n 0, 1) := by decide +kernel
theorem dX0_nextOfRows_14 : decode cX0_nextOfRows 14 = .ok (.getfield 40, 3) := by decide +kernel
theorem dX0_nextOfRows_17 : decode cX0_nextOfRows 17 = .ok (.iload_n 2, 1) := by decide +kernel
theorem dX0_nextOfRows_18 : decode cX0_nextOfRows 18 = .ok (.iaload, 1) := by decide +kernel
theorem dX0_nextOfRows_19 : decode cX0_nextOfRows 19 = .ok (.if_icmp .ge 31, 3) := by decide +kernel
theorem dX0_nextOfRows_22 : decode cX0_nextOfRows 22 = .ok (.aload_n 0, 1) := by decide +kernel
theorem dX0_nextOfRows_23 : decode cX0_nextOfRows 23 = .ok (.getfield 34, 3) := by decide +kernel
theorem dX0_nextOfRows_26 : decode cX0_nextOfRows 26 = .ok (.bipush 16, 2) := by decide +kernel
theorem dX0_nextOfRows_28 : decode cX0_nextOfRows 28 = .ok (.iload_n 2, 1) := by decide +kernel
theorem dX0_nextOfRows_29 : decode cX0_nextOfRows 29 = .ok (.imul, 1) := by decide +kernel
theorem dX0_nextOfRows_30 : decode cX0_nextOfRows 30 = .ok (.aload_n 0, 1) := by decide +kernel
theorem dX0_nextOfRows_31 : decode cX0_nextOfRows 31 = .ok (.getfield 37, 3) := by decide +kernel
theorem dX0_nextOfRows_34 : decode cX0_nextOfRows 34 = .ok (.iload_n 2, 1) := by decide +kernel
theorem dX0_nextOfRows_35 : decode cX0_nextOfRows 35 = .ok (.iaload, 1) := by decide +kernel
theorem dX0_nextOfRows_36 : decode cX0_nextOfRows 36 = .ok (.iadd, 1) := by decide +kernel
theorem dX0_nextOfRows_37 : decode cX0_nextOfRows 37 = .ok (.iaload, 1) := by decide +kernel
theorem dX0_nextOfRows_38 : decode cX0_nextOfRows 38 = .ok (.istore_n 3, 1) := by decide +kernel
theorem dX0_nextOfRows_39 : decode cX0_nextOfRows 39 = .ok (.aload_n 0, 1) := by decide +kernel
theorem dX0_nextOfRows_40 : decode cX0_nextOfRows 40 = .ok (.iload_n 3, 1) := by decide +kernel
theorem dX0_nextOfRows_41 : decode cX0_nextOfRows 41 = .ok (.iload_n 1, 1) := by decide +kernel
theorem dX0_nextOfRows_42 : decode cX0_nextOfRows 42 = .ok (.invokevirtual 75, 3) := by decide +kernel
theorem dX0_nextOfRows_45 : decode cX0_nextOfRows 45 = .ok (.ifCond .ne 5, 3) := by decide +kernel
theorem dX0_nextOfRows_48 : decode cX0_nextOfRows 48 = .ok (.iload_n 3, 1) := by decide +kernel
theorem dX0_nextOfRows_49 : decode cX0_nextOfRows 49 = .ok (.ireturn, 1) := by decide +kernel
theorem dX0_nextOfRows_50 : decode cX0_nextOfRows 50 = .ok (.iinc 2 1, 3) := by decide +kernel
theorem dX0_nextOfRows_53 : decode cX0_nextOfRows 53 = .ok (.goto (-51), 3) := by decide +kernel
theorem dX0_nextOfRows_56 : decode cX0_nextOfRows 56 = .ok (.iconst (-1), 1) := by decide +kernel
theorem dX0_nextOfRows_57 : decode cX0_nextOfRows 57 = .ok (.ireturn, 1) := by decide +kernel
theorem dX0_standsBehindBegin_0 : decode cX0_standsBehindBegin 0 = .ok (.iconst 0, 1) := by decide +kernel
theorem dX0_standsBehindBegin_1 : decode cX0_standsBehindBegin 1 = .ok (.istore_n 3, 1) := by decide +kernel
theorem dX0_standsBehindBegin_2 : decode cX0_standsBehindBegin 2 = .ok (.iload_n 3, 1) := by decide +kernel
theorem dX0_standsBehindBegin_3 : decode cX0_standsBehindBegin 3 = .ok (.iload_n 2, 1) := by decide +kernel
theorem dX0_standsBehindBegin_4 : decode cX0_standsBehindBegin 4 = .ok (.if_icmp .ge 54, 3) := by decide +kernel
theorem dX0_standsBehindBegin_7 : decode cX0_standsBehindBegin 7 = .ok (.aload_n 0, 1) := by decide +kernel
theorem dX0_standsBehindBegin_8 : decode cX0_standsBehindBegin 8 = .ok (.getfield 37, 3) := by decide +kernel
theorem dX0_standsBehindBegin_11 : decode cX0_standsBehindBegin 11 = .ok (.iload_n 3, 1) := by decide +kernel
theorem dX0_standsBehindBegin_12 : decode cX0_standsBehindBegin 12 = .ok (.iaload, 1) := by decide +kernel
theorem dX0_standsBehindBegin_13 : decode cX0_standsBehindBegin 13 = .ok (.iconst 1, 1) := by decide +kernel
theorem dX0_standsBehindBegin_14 : decode cX0_standsBehindBegin 14 = .ok (.iadd, 1) := by decide +kernel
theorem dX0_standsBehindBegin_15 : decode cX0_standsBehindBegin 15 = .ok (.istore 4, 2) := by decide +kernel
theorem dX0_standsBehindBegin_17 : decode cX0_standsBehindBegin 17 = .ok (.iload 4, 2) := by decide +kernel
theorem dX0_standsBehindBegin_19 : decode cX0_standsBehindBegin 19 = .ok (.aload_n 0, 1) := by decide +kernel
theorem dX0_standsBehindBegin_20 : decode cX0_standsBehindBegin 20 = .ok (.getfield 40, 3) := by decide +kernel
theorem dX0_standsBehindBegin_23 : decode cX0_standsBehindBegin 23 = .ok (.iload_n 3, 1) := by decide +kernel
theorem dX0_standsBehindBegin_24 : decode cX0_standsBehindBegin 24 = .ok (.iaload, 1) := by decide +kernel
theorem dX0_standsBehindBegin_25 : decode cX0_standsBehindBegin 25 = .ok (.if_icmp .ge 27, 3) := by decide +kernel
theorem dX0_standsBehindBegin_28 : decode cX0_standsBehindBegin 28 = .ok (.aload_n 0, 1) := by decide +kernel
theorem dX0_standsBehindBegin_29 : decode cX0_standsBehindBegin 29 = .ok (.getfield 34, 3) := by decide +kernel
theorem dX0_standsBehindBegin_32 : decode cX0_standsBehindBegin 32 = .ok (.bipush 16, 2) := by decide +kernel
theorem dX0_standsBehindBegin_34 : decode cX0_standsBehindBegin 34 = .ok (.iload_n 3, 1) := by decide +kernel
theorem dX0_standsBehindBegin_35 : decode cX0_standsBehindBegin 35 = .ok (.imul, 1) := by decide +kernel
theorem dX0_standsBehindBegin_36 : decode cX0_standsBehindBegin 36 = .ok (.iload 4, 2) := by decide +kernel
theorem dX0_standsBehindBegin_38 : decode cX0_standsBehindBegin 38 = .ok (.iadd, 1) := by decide +kernel
theorem dX0_standsBehindBegin_39 : decode cX0_standsBehindBegin 39 = .ok (.iaload, 1) := by decide +kernel
theorem dX0_standsBehindBegin_40 : decode cX0_standsBehindBegin 40 = .ok (.iload_n 1, 1) := by decide +kernel
theorem dX0_standsBehindBegin_41 : decode cX0_standsBehindBegin 41 = .ok (.if_icmp .ne 5, 3) := by decide +kernel
theorem dX0_standsBehindBegin_44 : decode cX0_standsBehindBegin 44 = .ok (.iconst 1, 1) := by decide +kernel
theorem dX0_standsBehindBegin_45 : decode cX0_standsBehindBegin 45 = .ok (.ireturn, 1) := by decide +kernel
theorem dX0_standsBehindBegin_46 : decode cX0_standsBehindBegin 46 = .ok (.iinc 4 1, 3) := by decide +kernel
theorem dX0_standsBehindBegin_49 : decode cX0_standsBehindBegin 49 = .ok (.goto (-32), 3) := by decide +kernel
theorem dX0_standsBehindBegin_52 : decode cX0_standsBehindBegin 52 = .ok (.iinc 3 1, 3) := by decide +kernel
theorem dX0_standsBehindBegin_55 : decode cX0_standsBehindBegin 55 = .ok (.goto (-53), 3) := by decide +kernel
theorem dX0_standsBehindBegin_58 : decode cX0_standsBehindBegin 58 = .ok (.iconst 0, 1) := by decide +kernel
theorem dX0_standsBehindBegin_59 : decode cX0_standsBehindBegin 59 = .ok (.ireturn, 1) := by decide +kernel
theorem dX0_takeOut_0 : decode cX0_takeOut 0 = .ok (.iconst 0, 1) := by decide +kernel
theorem dX0_takeOut_1 : decode cX0_takeOut 1 = .ok (.istore_n 3, 1) := by decide +kernel
theorem dX0_takeOut_2 : decode cX0_takeOut 2 = .ok (.iload_n 3, 1) := by decide +kernel
theorem dX0_takeOut_3 : decode cX0_takeOut 3 = .ok (.iload_n 2, 1) := by decide +kernel
theorem dX0_takeOut_4 : decode cX0_takeOut 4 = .ok (.if_icmp .ge 54, 3) := by decide +kernel
theorem dX0_takeOut_7 : decode cX0_takeOut 7 = .ok (.aload_n 0, 1) := by decide +kernel
theorem dX0_takeOut_8 : decode cX0_takeOut 8 = .ok (.getfield 37, 3) := by decide +kernel
theorem dX0_takeOut_11 : decode cX0_takeOut 11 = .ok (.iload_n 3, 1) := by decide +kernel
theorem dX0_takeOut_12 : decode cX0_takeOut 12 = .ok (.iaload, 1) := by decide +kernel
theorem dX0_takeOut_13 : decode cX0_takeOut 13 = .ok (.aload_n 0, 1) := by decide +kernel
theorem dX0_takeOut_14 : decode cX0_takeOut 14 = .ok (.getfield 40, 3) := by decide +kernel
theorem dX0_takeOut_17 : decode cX0_takeOut 17 = .ok (.iload_n 3, 1) := by decide +kernel
theorem dX0_takeOut_18 : decode cX0_takeOut 18 = .ok (.iaload, 1) := by decide +kernel
theorem dX0_takeOut_19 : decode cX0_takeOut 19 = .ok (.if_icmp .ge 33, 3) := by decide +kernel
theorem dX0_takeOut_22 : decode cX0_takeOut 22 = .ok (.aload_n 0, 1) := by decide +kernel
theorem dX0_takeOut_23 : decode cX0_takeOut 23 = .ok (.getfield 34, 3) := by decide +kernel
theorem dX0_takeOut_26 : decode cX0_takeOut 26 = .ok (.bipush 16, 2) := by decide +kernel
theorem dX0_takeOut_28 : decode cX0_takeOut 28 = .ok (.iload_n 3, 1) := by decide +kernel
theorem dX0_takeOut_29 : decode cX0_takeOut 29 = .ok (.imul, 1) := by decide +kernel
theorem dX0_takeOut_30 : decode cX0_takeOut 30 = .ok (.aload_n 0, 1) := by decide +kernel
theorem dX0_takeOut_31 : decode cX0_takeOut 31 = .ok (.getfield 37, 3) := by decide +kernel
theorem dX0_takeOut_34 : decode cX0_takeOut 34 = .ok (.iload_n 3, 1) := by decide +kernel
theorem dX0_takeOut_35 : decode cX0_takeOut 35 = .ok (.iaload, 1) := by decide +kernel
theorem dX0_takeOut_36 : decode cX0_takeOut 36 = .ok (.iadd, 1) := by decide +kernel
theorem dX0_takeOut_37 : decode cX0_takeOut 37 = .ok (.iaload, 1) := by decide +kernel
theorem dX0_takeOut_38 : decode cX0_takeOut 38 = .ok (.iload_n 1, 1) := by decide +kernel
theorem dX0_takeOut_39 : decode cX0_takeOut 39 = .ok (.if_icmp .ne 13, 3) := by decide +kernel
theorem dX0_takeOut_42 : decode cX0_takeOut 42 = .ok (.aload_n 0, 1) := by decide +kernel
theorem dX0_takeOut_43 : decode cX0_takeOut 43 = .ok (.getfield 37, 3) := by decide +kernel
theorem dX0_takeOut_46 : decode cX0_takeOut 46 = .ok (.iload_n 3, 1) := by decide +kernel
theorem dX0_takeOut_47 : decode cX0_takeOut 47 = .ok (.dup2, 1) := by decide +kernel
theorem dX0_takeOut_48 : decode cX0_takeOut 48 = .ok (.iaload, 1) := by decide +kernel
theorem dX0_takeOut_49 : decode cX0_takeOut 49 = .ok (.iconst 1, 1) := by decide +kernel
theorem dX0_takeOut_50 : decode cX0_takeOut 50 = .ok (.iadd, 1) := by decide +kernel
theorem dX0_takeOut_51 : decode cX0_takeOut 51 = .ok (.iastore, 1) := by decide +kernel
theorem dX0_takeOut_52 : decode cX0_takeOut 52 = .ok (.iinc 3 1, 3) := by decide +kernel
theorem dX0_takeOut_55 : decode cX0_takeOut 55 = .ok (.goto (-53), 3) := by decide +kernel
theorem dX0_takeOut_58 : decode cX0_takeOut 58 = .ok (.return_, 1) := by decide +kernel
theorem dX1_init_0 : decode cX1_init 0 = .ok (.aload_n 0, 1) := by decide +kernel
theorem dX1_init_1 : decode cX1_init 1 = .ok (.invokespecial 3, 3) := by decide +kernel
theorem dX1_init_4 : decode cX1_init 4 = .ok (.aload_n 0, 1) := by decide +kernel
theorem dX1_init_5 : decode cX1_init 5 = .ok (.iconst 0, 1) := by decide +kernel
theorem dX1_init_6 : decode cX1_init 6 = .ok (.putfield 9, 3) := by decide +kernel
theorem dX1_init_9 : decode cX1_init 9 = .ok (.aload_n 0, 1) := by decide +kernel
theorem dX1_init_10 : decode cX1_init 10 = .ok (.iconst 0, 1) := by decide +kernel
theorem dX1_init_11 : decode cX1_init 11 = .ok (.putfield 15, 3) := by decide +kernel
theorem dX1_init_14 : decode cX1_init 14 = .ok (.aload_n 0, 1) := by decide +kernel
theorem dX1_init_15 : decode cX1_init 15 = .ok (.bipush 13, 2) := by decide +kernel
theorem dX1_init_17 : decode cX1_init 17 = .ok (.newarray .int, 2) := by decide +kernel
theorem dX1_init_19 : decode cX1_init 19 = .ok (.putfield 18, 3) := by decide +kernel
theorem dX1_init_22 : decode cX1_init 22 = .ok (.aload_n 0, 1) := by decide +kernel
theorem dX1_init_23 : decode cX1_init 23 = .ok (.bipush 12, 2) := by decide +kernel
theorem dX1_init_25 : decode cX1_init 25 = .ok (.newarray .int, 2) := by decide +kernel
theorem dX1_init_27 : decode cX1_init 27 = .ok (.putfield 22, 3) := by decide +kernel
theorem dX1_init_30 : decode cX1_init 30 = .ok (.aload_n 0, 1) := by decide +kernel
theorem dX1_init_31 : decode cX1_init 31 = .ok (.bipush 12, 2) := by decide +kernel
theorem dX1_init_33 : decode cX1_init 33 = .ok (.newarray .int, 2) := by decide +kernel
theorem dX1_init_35 : decode cX1_init 35 = .ok (.putfield 25, 3) := by decide +kernel
theorem dX1_init_38 : decode cX1_init 38 = .ok (.aload_n 0, 1) := by decide +kernel
theorem dX1_init_39 : decode cX1_init 39 = .ok (.bipush 13, 2) := by decide +kernel
theorem dX1_init_41 : decode cX1_init 41 = .ok (.newarray .int, 2) := by decide +kernel
theorem dX1_init_43 : decode cX1_init 43 = .ok (.putfield 28, 3) := by decide +kernel
theorem dX1_init_46 : decode cX1_init 46 = .ok (.aload_n 0, 1) := by decide +kernel
theorem dX1_init_47 : decode cX1_init 47 = .ok (.bipush 48, 2) := by decide +kernel
theorem dX1_init_49 : decode cX1_init 49 = .ok (.newarray .int, 2) := by decide +kernel
theorem dX1_init_51 : decode cX1_init 51 = .ok (.putfield 31, 3) := by decide +kernel
theorem dX1_init_54 : decode cX1_init 54 = .ok (.aload_n 0, 1) := by decide +kernel
theorem dX1_init_55 : decode cX1_init 55 = .ok (.bipush 6, 2) := by decide +kernel
theorem dX1_init_57 : decode cX1_init 57 = .ok (.newarray .int, 2) := by decide +kernel
theorem dX1_init_59 : decode cX1_init 59 = .ok (.putfield 34, 3) := by decide +kernel
theorem dX1_init_62 : decode cX1_init 62 = .ok (.aload_n 0, 1) := by decide +kernel
theorem dX1_init_63 : decode cX1_init 63 = .ok (.iconst 0, 1) := by decide +kernel
theorem dX1_init_64 : decode cX1_init 64 = .ok (.putfield 37, 3) := by decide +kernel
theorem dX1_init_67 : decode cX1_init 67 = .ok (.return_, 1) := by decide +kernel
theorem dX1_thatApply_0 : decode cX1_thatApply 0 = .ok (.aload_n 0, 1) := by decide +kernel
theorem dX1_thatApply_1 : decode cX1_thatApply 1 = .ok (.getfield 31, 3) := by decide +kernel
theorem dX1_thatApply_4 : decode cX1_thatApply 4 = .ok (.iload_n 1, 1) := by decide +kernel
theorem dX1_thatApply_5 : decode cX1_thatApply 5 = .ok (.iconst 0, 1) := by decide +kernel
theorem dX1_thatApply_6 : decode cX1_thatApply 6 = .ok (.invokestatic 40, 3) := by decide +kernel
theorem dX1_thatApply_9 : decode cX1_thatApply 9 = .ok (.iaload, 1) := by decide +kernel
theorem dX1_thatApply_10 : decode cX1_thatApply 10 = .ok (.aload_n 0, 1) := by decide +kernel
theorem dX1_thatApply_11 : decode cX1_thatApply 11 = .ok (.getfield 31, 3) := by decide +kernel
theorem dX1_thatApply_14 : decode cX1_thatApply 14 = .ok (.bipush 16, 2) := by decide +kernel
theorem dX1_thatApply_16 : decode cX1_thatApply 16 = .ok (.iload_n 1, 1) := by decide +kernel
theorem dX1_thatApply_17 : decode cX1_thatApply 17 = .ok (.iconst 1, 1) := by decide +kernel
theorem dX1_thatApply_18 : decode cX1_thatApply 18 = .ok (.invokestatic 40, 3) := by decide +kernel
theorem dX1_thatApply_21 : decode cX1_thatApply 21 = .ok (.iadd, 1) := by decide +kernel
theorem dX1_thatApply_22 : decode cX1_thatApply 22 = .ok (.iaload, 1) := by decide +kernel
theorem dX1_thatApply_23 : decode cX1_thatApply 23 = .ok (.iand, 1) := by decide +kernel
theorem dX1_thatApply_24 : decode cX1_thatApply 24 = .ok (.aload_n 0, 1) := by decide +kernel
theorem dX1_thatApply_25 : decode cX1_thatApply 25 = .ok (.getfield 31, 3) := by decide +kernel
theorem dX1_thatApply_28 : decode cX1_thatApply 28 = .ok (.bipush 32, 2) := by decide +kernel
theorem dX1_thatApply_30 : decode cX1_thatApply 30 = .ok (.iload_n 1, 1) := by decide +kernel
theorem dX1_thatApply_31 : decode cX1_thatApply 31 = .ok (.iconst 2, 1) := by decide +kernel
theorem dX1_thatApply_32 : decode cX1_thatApply 32 = .ok (.invokestatic 40, 3) := by decide +kernel
theorem dX1_thatApply_35 : decode cX1_thatApply 35 = .ok (.iadd, 1) := by decide +kernel
theorem dX1_thatApply_36 : decode cX1_thatApply 36 = .ok (.iaload, 1) := by decide +kernel
theorem dX1_thatApply_37 : decode cX1_thatApply 37 = .ok (.iand, 1) := by decide +kernel
theorem dX1_thatApply_38 : decode cX1_thatApply 38 = .ok (.ireturn, 1) := by decide +kernel
theorem dX1_leastOf_0 : decode cX1_leastOf 0 = .ok (.iload_n 1, 1) := by decide +kernel
theorem dX1_leastOf_1 : decode cX1_leastOf 1 = .ok (.ifCond .ne 5, 3) := by decide +kernel
theorem dX1_leastOf_4 : decode cX1_leastOf 4 = .ok (.iconst (-1), 1) := by decide +kernel
theorem dX1_leastOf_5 : decode cX1_leastOf 5 = .ok (.ireturn, 1) := by decide +kernel
theorem dX1_leastOf_6 : decode cX1_leastOf 6 = .ok (.iconst 0, 1) := by decide +kernel
theorem dX1_leastOf_7 : decode cX1_leastOf 7 = .ok (.istore_n 2, 1) := by decide +kernel
theorem dX1_leastOf_8 : decode cX1_leastOf 8 = .ok (.iload_n 2, 1) := by decide +kernel
theorem dX1_leastOf_9 : decode cX1_leastOf 9 = .ok (.bipush 12, 2) := by decide +kernel
theorem dX1_leastOf_11 : decode cX1_leastOf 11 = .ok (.if_icmp .gt 32, 3) := by decide +kernel
theorem dX1_leastOf_14 : decode cX1_leastOf 14 = .ok (.iload_n 1, 1) := by decide +kernel
theorem dX1_leastOf_15 : decode cX1_leastOf 15 = .ok (.iload_n 2, 1) := by decide +kernel
theorem dX1_leastOf_16 : decode cX1_leastOf 16 = .ok (.ishr, 1) := by decide +kernel
theorem dX1_leastOf_17 : decode cX1_leastOf 17 = .ok (.iconst 1, 1) := by decide +kernel
theorem dX1_leastOf_18 : decode cX1_leastOf 18 = .ok (.iand, 1) := by decide +kernel
theorem dX1_leastOf_19 : decode cX1_leastOf 19 = .ok (.ifCond .eq 18, 3) := by decide +kernel
theorem dX1_leastOf_22 : decode cX1_leastOf 22 = .ok (.iload_n 1, 1) := by decide +kernel
theorem dX1_leastOf_23 : decode cX1_leastOf 23 = .ok (.aload_n 0, 1) := by decide +kernel
theorem dX1_leastOf_24 : decode cX1_leastOf 24 = .ok (.getfield 28, 3) := by decide +kernel
theorem dX1_leastOf_27 : decode cX1_leastOf 27 = .ok (.iload_n 2, 1) := by decide +kernel
theorem dX1_leastOf_28 : decode cX1_leastOf 28 = .ok (.iaload, 1) := by decide +kernel
theorem dX1_leastOf_29 : decode cX1_leastOf 29 = .ok (.iconst (-1), 1) := by decide +kernel
theorem dX1_leastOf_30 : decode cX1_leastOf 30 = .ok (.ixor, 1) := by decide +kernel
theorem dX1_leastOf_31 : decode cX1_leastOf 31 = .ok (.iand, 1) := by decide +kernel
theorem dX1_leastOf_32 : decode cX1_leastOf 32 = .ok (.ifCond .ne 5, 3) := by decide +kernel
theorem dX1_leastOf_35 : decode cX1_leastOf 35 = .ok (.iload_n 2, 1) := by decide +kernel
theorem dX1_leastOf_36 : decode cX1_leastOf 36 = .ok (.ireturn, 1) := by decide +kernel
theorem dX1_leastOf_37 : decode cX1_leastOf 37 = .ok (.iinc 2 1, 3) := by decide +kernel
theorem dX1_leastOf_40 : decode cX1_leastOf 40 = .ok (.goto (-32), 3) := by decide +kernel
theorem dX1_leastOf_43 : decode cX1_leastOf 43 = .ok (.bipush (-2), 2) := by decide +kernel
theorem dX1_leastOf_45 : decode cX1_leastOf 45 = .ok (.ireturn, 1) := by decide +kernel
theorem dX1_atMostAllOf_0 : decode cX1_atMostAllOf 0 = .ok (.iconst 0, 1) := by decide +kernel
theorem dX1_atMostAllOf_1 : decode cX1_atMostAllOf 1 = .ok (.istore_n 2, 1) := by decide +kernel
theorem dX1_atMostAllOf_2 : decode cX1_atMostAllOf 2 = .ok (.iconst 0, 1) := by decide +kernel
theorem dX1_atMostAllOf_3 : decode cX1_atMostAllOf 3 = .ok (.istore_n 3, 1) := by decide +kernel
theorem dX1_atMostAllOf_4 : decode cX1_atMostAllOf 4 = .ok (.iload_n 3, 1) := by decide +kernel
theorem dX1_atMostAllOf_5 : decode cX1_atMostAllOf 5 = .ok (.bipush 12, 2) := by decide +kernel
theorem dX1_atMostAllOf_7 : decode cX1_atMostAllOf 7 = .ok (.if_icmp .ge 39, 3) := by decide +kernel
theorem dX1_atMostAllOf_10 : decode cX1_atMostAllOf 10 = .ok (.aload_n 0, 1) := by decide +kernel
theorem dX1_atMostAllOf_11 : decode cX1_atMostAllOf 11 = .ok (.getfield 15, 3) := by decide +kernel
theorem dX1_atMostAllOf_14 : decode cX1_atMostAllOf 14 = .ok (.iload_n 3, 1) := by decide +kernel
theorem dX1_atMostAllOf_15 : decode cX1_atMostAllOf 15 = .ok (.ishr, 1) := by decide +kernel
theorem dX1_atMostAllOf_16 : decode cX1_atMostAllOf 16 = .ok (.iconst 1, 1) := by decide +kernel
theorem dX1_atMostAllOf_17 : decode cX1_atMostAllOf 17 = .ok (.iand, 1) := by decide +kernel
theorem dX1_atMostAllOf_18 : decode cX1_atMostAllOf 18 = .ok (.ifCond .eq 22, 3) := by decide +kernel
theorem dX1_atMostAllOf_21 : decode cX1_atMostAllOf 21 = .ok (.iload_n 1, 1) := by decide +kernel
theorem dX1_atMostAllOf_22 : decode cX1_atMostAllOf 22 = .ok (.aload_n 0, 1) := by decide +kernel
theorem dX1_atMostAllOf_23 : decode cX1_atMostAllOf 23 = .ok (.getfield 28, 3) := by decide +kernel
theorem dX1_atMostAllOf_26 : decode cX1_atMostAllOf 26 = .ok (.iload_n 3, 1) := by decide +kernel
theorem dX1_atMostAllOf_27 : decode cX1_atMostAllOf 27 = .ok (.iaload, 1) := by decide +kernel
theorem dX1_atMostAllOf_28 : decode cX1_atMostAllOf 28 = .ok (.iconst (-1), 1) := by decide +kernel
theorem dX1_atMostAllOf_29 : decode cX1_atMostAllOf 29 = .ok (.ixor, 1) := by decide +kernel
theorem dX1_atMostAllOf_30 : decode cX1_atMostAllOf 30 = .ok (.iand, 1) := by decide +kernel
theorem dX1_atMostAllOf_31 : decode cX1_atMostAllOf 31 = .ok (.ifCond .ne 9, 3) := by decide +kernel
theorem dX1_atMostAllOf_34 : decode cX1_atMostAllOf 34 = .ok (.iload_n 2, 1) := by decide +kernel
theorem dX1_atMostAllOf_35 : decode cX1_atMostAllOf 35 = .ok (.iconst 1, 1) := by decide +kernel
theorem dX1_atMostAllOf_36 : decode cX1_atMostAllOf 36 = .ok (.iload_n 3, 1) := by decide +kernel
theorem dX1_atMostAllOf_37 : decode cX1_atMostAllOf 37 = .ok (.ishl, 1) := by decide +kernel
theorem dX1_atMostAllOf_38 : decode cX1_atMostAllOf 38 = .ok (.ior, 1) := by decide +kernel
theorem dX1_atMostAllOf_39 : decode cX1_atMostAllOf 39 = .ok (.istore_n 2, 1) := by decide +kernel
theorem dX1_atMostAllOf_40 : decode cX1_atMostAllOf 40 = .ok (.iinc 3 1, 3) := by decide +kernel
theorem dX1_atMostAllOf_43 : decode cX1_atMostAllOf 43 = .ok (.goto (-39), 3) := by decide +kernel
theorem dX1_atMostAllOf_46 : decode cX1_atMostAllOf 46 = .ok (.iload_n 2, 1) := by decide +kernel
theorem dX1_atMostAllOf_47 : decode cX1_atMostAllOf 47 = .ok (.ireturn, 1) := by decide +kernel
theorem dX1_hasMethodFor_0 : decode cX1_hasMethodFor 0 = .ok (.iconst 0, 1) := by decide +kernel
theorem dX1_hasMethodFor_1 : decode cX1_hasMethodFor 1 = .ok (.istore_n 2, 1) := by decide +kernel
theorem dX1_hasMethodFor_2 : decode cX1_hasMethodFor 2 = .ok (.iload_n 2, 1) := by decide +kernel
theorem dX1_hasMethodFor_3 : decode cX1_hasMethodFor 3 = .ok (.bipush 12, 2) := by decide +kernel
theorem dX1_hasMethodFor_5 : decode cX1_hasMethodFor 5 = .ok (.if_icmp .ge 32, 3) := by decide +kernel
theorem dX1_hasMethodFor_8 : decode cX1_hasMethodFor 8 = .ok (.aload_n 0, 1) := by decide +kernel
theorem dX1_hasMethodFor_9 : decode cX1_hasMethodFor 9 = .ok (.getfield 15, 3) := by decide +kernel
theorem dX1_hasMethodFor_12 : decode cX1_hasMethodFor 12 = .ok (.iload_n 2, 1) := by decide +kernel
theorem dX1_hasMethodFor_13 : decode cX1_hasMethodFor 13 = .ok (.ishr, 1) := by decide +kernel
theorem dX1_hasMethodFor_14 : decode cX1_hasMethodFor 14 = .ok (.iconst 1, 1) := by decide +kernel
theorem dX1_hasMethodFor_15 : decode cX1_hasMethodFor 15 = .ok (.iand, 1) := by decide +kernel
theorem dX1_hasMethodFor_16 : decode cX1_hasMethodFor 16 = .ok (.ifCond .eq 15, 3) := by decide +kernel
theorem dX1_hasMethodFor_19 : decode cX1_hasMethodFor 19 = .ok (.aload_n 0, 1) := by decide +kernel
theorem dX1_hasMethodFor_20 : decode cX1_hasMethodFor 20 = .ok (.getfield 18, 3) := by decide +kernel
theorem dX1_hasMethodFor_23 : decode cX1_hasMethodFor 23 = .ok (.iload_n 2, 1) := by decide +kernel
theorem dX1_hasMethodFor_24 : decode cX1_hasMethodFor 24 = .ok (.iaload, 1) := by decide +kernel
theorem dX1_hasMethodFor_25 : decode cX1_hasMethodFor 25 = .ok (.iload_n 1, 1) := by decide +kernel
theorem dX1_hasMethodFor_26 : decode cX1_hasMethodFor 26 = .ok (.if_icmp .ne 5, 3) := by decide +kernel
theorem dX1_hasMethodFor_29 : decode cX1_hasMethodFor 29 = .ok (.iconst 1, 1) := by decide +kernel
theorem dX1_hasMethodFor_30 : decode cX1_hasMethodFor 30 = .ok (.ireturn, 1) := by decide +kernel
theorem dX1_hasMethodFor_31 : decode cX1_hasMethodFor 31 = .ok (.iinc 2 1, 3) := by decide +kernel
theorem dX1_hasMethodFor_34 : decode cX1_hasMethodFor 34 = .ok (.goto (-32), 3) := by decide +kernel
theorem dX1_hasMethodFor_37 : decode cX1_hasMethodFor 37 = .ok (.iconst 0, 1) := by decide +kernel
theorem dX1_hasMethodFor_38 : decode cX1_hasMethodFor 38 = .ok (.ireturn, 1) := by decide +kernel
theorem dX1_leastFree_0 : decode cX1_leastFree 0 = .ok (.iconst 0, 1) := by decide +kernel
theorem dX1_leastFree_1 : decode cX1_leastFree 1 = .ok (.istore_n 1, 1) := by decide +kernel
theorem dX1_leastFree_2 : decode cX1_leastFree 2 = .ok (.iload_n 1, 1) := by decide +kernel
theorem dX1_leastFree_3 : decode cX1_leastFree 3 = .ok (.bipush 12, 2) := by decide +kernel
theorem dX1_leastFree_5 : decode cX1_leastFree 5 = .ok (.if_icmp .ge 22, 3) := by decide +kernel
theorem dX1_leastFree_8 : decode cX1_leastFree 8 = .ok (.aload_n 0, 1) := by decide +kernel
theorem dX1_leastFree_9 : decode cX1_leastFree 9 = .ok (.getfield 15, 3) := by decide +kernel
theorem dX1_leastFree_12 : decode cX1_leastFree 12 = .ok (.iload_n 1, 1) := by decide +kernel
theorem dX1_leastFree_13 : decode cX1_leastFree 13 = .ok (.ishr, 1) := by decide +kernel
theorem dX1_leastFree_14 : decode cX1_leastFree 14 = .ok (.iconst 1, 1) := by decide +kernel
theorem dX1_leastFree_15 : decode cX1_leastFree 15 = .ok (.iand, 1) := by decide +kernel
theorem dX1_leastFree_16 : decode cX1_leastFree 16 = .ok (.ifCond .ne 5, 3) := by decide +kernel
theorem dX1_leastFree_19 : decode cX1_leastFree 19 = .ok (.iload_n 1, 1) := by decide +kernel
theorem dX1_leastFree_20 : decode cX1_leastFree 20 = .ok (.ireturn, 1) := by decide +kernel
theorem dX1_leastFree_21 : decode cX1_leastFree 21 = .ok (.iinc 1 1, 3) := by decide +kernel
theorem dX1_leastFree_24 : decode cX1_leastFree 24 = .ok (.goto (-22), 3) := by decide +kernel
theorem dX1_leastFree_27 : decode cX1_leastFree 27 = .ok (.iconst (-1), 1) := by decide +kernel
theorem dX1_leastFree_28 : decode cX1_leastFree 28 = .ok (.ireturn, 1) := by decide +kernel
theorem dX1_put_0 : decode cX1_put 0 = .ok (.aload_n 0, 1) := by decide +kernel
theorem dX1_put_1 : decode cX1_put 1 = .ok (.dup, 1) := by decide +kernel
theorem dX1_put_2 : decode cX1_put 2 = .ok (.getfield 15, 3) := by decide +kernel
theorem dX1_put_5 : decode cX1_put 5 = .ok (.iconst 1, 1) := by decide +kernel
theorem dX1_put_6 : decode cX1_put 6 = .ok (.iload_n 1, 1) := by decide +kernel
theorem dX1_put_7 : decode cX1_put 7 = .ok (.ishl, 1) := by decide +kernel
theorem dX1_put_8 : decode cX1_put 8 = .ok (.ior, 1) := by decide +kernel
theorem dX1_put_9 : decode cX1_put 9 = .ok (.putfield 15, 3) := by decide +kernel
theorem dX1_put_12 : decode cX1_put 12 = .ok (.aload_n 0, 1) := by decide +kernel
theorem dX1_put_13 : decode cX1_put 13 = .ok (.getfield 18, 3) := by decide +kernel
theorem dX1_put_16 : decode cX1_put 16 = .ok (.iload_n 1, 1) := by decide +kernel
theorem dX1_put_17 : decode cX1_put 17 = .ok (.iload_n 2, 1) := by decide +kernel
theorem dX1_put_18 : decode cX1_put 18 = .ok (.iastore, 1) := by decide +kernel
theorem dX1_put_19 : decode cX1_put 19 = .ok (.iconst 0, 1) := by decide +kernel
theorem dX1_put_20 : decode cX1_put 20 = .ok (.istore 4, 2) := by decide +kernel
theorem dX1_put_22 : decode cX1_put 22 = .ok (.iload 4, 2) := by decide +kernel
theorem dX1_put_24 : decode cX1_put 24 = .ok (.iconst 3, 1) := by decide +kernel
theorem dX1_put_25 : decode cX1_put 25 = .ok (.if_icmp .ge 61, 3) := by decide +kernel
theorem dX1_put_28 : decode cX1_put 28 = .ok (.iconst 0, 1) := by decide +kernel
theorem dX1_put_29 : decode cX1_put 29 = .ok (.istore 5, 2) := by decide +kernel
theorem dX1_put_31 : decode cX1_put 31 = .ok (.iload 5, 2) := by decide +kernel
theorem dX1_put_33 : decode cX1_put 33 = .ok (.aload_n 3, 1) := by decide +kernel
theorem dX1_put_34 : decode cX1_put 34 = .ok (.getfield 44, 3) := by decide +kernel
theorem dX1_put_37 : decode cX1_put 37 = .ok (.if_icmp .ge 43, 3) := by decide +kernel
theorem dX1_put_40 : decode cX1_put 40 = .ok (.aload_n 3, 1) := by decide +kernel
theorem dX1_put_41 : decode cX1_put 41 = .ok (.iload 5, 2) := by decide +kernel
theorem dX1_put_43 : decode cX1_put 43 = .ok (.iload_n 2, 1) := by decide +kernel
theorem dX1_put_44 : decode cX1_put 44 = .ok (.iload 4, 2) := by decide +kernel
theorem dX1_put_46 : decode cX1_put 46 = .ok (.invokestatic 40, 3) := by decide +kernel
theorem dX1_put_49 : decode cX1_put 49 = .ok (.invokevirtual 49, 3) := by decide +kernel
theorem dX1_put_52 : decode cX1_put 52 = .ok (.ifCond .eq 22, 3) := by decide +kernel
theorem dX1_put_55 : decode cX1_put 55 = .ok (.aload_n 0, 1) := by decide +kernel
theorem dX1_put_56 : decode cX1_put 56 = .ok (.getfield 31, 3) := by decide +kernel
theorem dX1_put_59 : decode cX1_put 59 = .ok (.bipush 16, 2) := by decide +kernel
theorem dX1_put_61 : decode cX1_put 61 = .ok (.iload 4, 2) := by decide +kernel
theorem dX1_put_63 : decode cX1_put 63 = .ok (.imul, 1) := by decide +kernel
theorem dX1_put_64 : decode cX1_put 64 = .ok (.iload 5, 2) := by decide +kernel
theorem dX1_put_66 : decode cX1_put 66 = .ok (.iadd, 1) := by decide +kernel
theorem dX1_put_67 : decode cX1_put 67 = .ok (.dup2, 1) := by decide +kernel
theorem dX1_put_68 : decode cX1_put 68 = .ok (.iaload, 1) := by decide +kernel
theorem dX1_put_69 : decode cX1_put 69 = .ok (.iconst 1, 1) := by decide +kernel
theorem dX1_put_70 : decode cX1_put 70 = .ok (.iload_n 1, 1) := by decide +kernel
theorem dX1_put_71 : decode cX1_put 71 = .ok (.ishl, 1) := by decide +kernel
theorem dX1_put_72 : decode cX1_put 72 = .ok (.ior, 1) := by decide +kernel
theorem dX1_put_73 : decode cX1_put 73 = .ok (.iastore, 1) := by decide +kernel
theorem dX1_put_74 : decode cX1_put 74 = .ok (.iinc 5 1, 3) := by decide +kernel
theorem dX1_put_77 : decode cX1_put 77 = .ok (.goto (-46), 3) := by decide +kernel
theorem dX1_put_80 : decode cX1_put 80 = .ok (.iinc 4 1, 3) := by decide +kernel
theorem dX1_put_83 : decode cX1_put 83 = .ok (.goto (-61), 3) := by decide +kernel
theorem dX1_put_86 : decode cX1_put 86 = .ok (.aload_n 0, 1) := by decide +kernel
theorem dX1_put_87 : decode cX1_put 87 = .ok (.invokevirtual 53, 3) := by decide +kernel
theorem dX1_put_90 : decode cX1_put 90 = .ok (.return_, 1) := by decide +kernel
theorem dX1_remove_0 : decode cX1_remove 0 = .ok (.aload_n 0, 1) := by decide +kernel
theorem dX1_remove_1 : decode cX1_remove 1 = .ok (.dup, 1) := by decide +kernel
theorem dX1_remove_2 : decode cX1_remove 2 = .ok (.getfield 15, 3) := by decide +kernel
theorem dX1_remove_5 : decode cX1_remove 5 = .ok (.iconst 1, 1) := by decide +kernel
theorem dX1_remove_6 : decode cX1_remove 6 = .ok (.iload_n 1, 1) := by decide +kernel
theorem dX1_remove_7 : decode cX1_remove 7 = .ok (.ishl, 1) := by decide +kernel
theorem dX1_remove_8 : decode cX1_remove 8 = .ok (.iconst (-1), 1) := by decide +kernel
theorem dX1_remove_9 : decode cX1_remove 9 = .ok (.ixor, 1) := by decide +kernel
theorem dX1_remove_10 : decode cX1_remove 10 = .ok (.iand, 1) := by decide +kernel
theorem dX1_remove_11 : decode cX1_remove 11 = .ok (.putfield 15, 3) := by decide +kernel
theorem dX1_remove_14 : decode cX1_remove 14 = .ok (.iconst 0, 1) := by decide +kernel
theorem dX1_remove_15 : decode cX1_remove 15 = .ok (.istore_n 2, 1) := by decide +kernel
theorem dX1_remove_16 : decode cX1_remove 16 = .ok (.iload_n 2, 1) := by decide +kernel
theorem dX1_remove_17 : decode cX1_remove 17 = .ok (.aload_n 0, 1) := by decide +kernel
theorem dX1_remove_18 : decode cX1_remove 18 = .ok (.getfield 31, 3) := by decide +kernel
theorem dX1_remove_21 : decode cX1_remove 21 = .ok (.arraylength, 1) := by decide +kernel
theorem dX1_remove_22 : decode cX1_remove 22 = .ok (.if_icmp .ge 23, 3) := by decide +kernel
theorem dX1_remove_25 : decode cX1_remove 25 = .ok (.aload_n 0, 1) := by decide +kernel
theorem dX1_remove_26 : decode cX1_remove 26 = .ok (.getfield 31, 3) := by decide +kernel
theorem dX1_remove_29 : decode cX1_remove 29 = .ok (.iload_n 2, 1) := by decide +kernel
theorem dX1_remove_30 : decode cX1_remove 30 = .ok (.dup2, 1) := by decide +kernel
theorem dX1_remove_31 : decode cX1_remove 31 = .ok (.iaload, 1) := by decide +kernel
theorem dX1_remove_32 : decode cX1_remove 32 = .ok (.iconst 1, 1) := by decide +kernel
theorem dX1_remove_33 : decode cX1_remove 33 = .ok (.iload_n 1, 1) := by decide +kernel
theorem dX1_remove_34 : decode cX1_remove 34 = .ok (.ishl, 1) := by decide +kernel
theorem dX1_remove_35 : decode cX1_remove 35 = .ok (.iconst (-1), 1) := by decide +kernel
theorem dX1_remove_36 : decode cX1_remove 36 = .ok (.ixor, 1) := by decide +kernel
theorem dX1_remove_37 : decode cX1_remove 37 = .ok (.iand, 1) := by decide +kernel
theorem dX1_remove_38 : decode cX1_remove 38 = .ok (.iastore, 1) := by decide +kernel
theorem dX1_remove_39 : decode cX1_remove 39 = .ok (.iinc 2 1, 3) := by decide +kernel
theorem dX1_remove_42 : decode cX1_remove 42 = .ok (.goto (-26), 3) := by decide +kernel
theorem dX1_remove_45 : decode cX1_remove 45 = .ok (.aload_n 0, 1) := by decide +kernel
theorem dX1_remove_46 : decode cX1_remove 46 = .ok (.invokevirtual 53, 3) := by decide +kernel
theorem dX1_remove_49 : decode cX1_remove 49 = .ok (.return_, 1) := by decide +kernel
theorem dX1_orderMethods_0 : decode cX1_orderMethods 0 = .ok (.iconst 0, 1) := by decide +kernel
theorem dX1_orderMethods_1 : decode cX1_orderMethods 1 = .ok (.istore_n 1, 1) := by decide +kernel
theorem dX1_orderMethods_2 : decode cX1_orderMethods 2 = .ok (.iload_n 1, 1) := by decide +kernel
theorem dX1_orderMethods_3 : decode cX1_orderMethods 3 = .ok (.bipush 12, 2) := by decide +kernel
theorem dX1_orderMethods_5 : decode cX1_orderMethods 5 = .ok (.if_icmp .gt 40, 3) := by decide +kernel
theorem dX1_orderMethods_8 : decode cX1_orderMethods 8 = .ok (.aload_n 0, 1) := by decide +kernel
theorem dX1_orderMethods_9 : decode cX1_orderMethods 9 = .ok (.getfield 28, 3) := by decide +kernel
theorem dX1_orderMethods_12 : decode cX1_orderMethods 12 = .ok (.iload_n 1, 1) := by decide +kernel
theorem dX1_orderMethods_13 : decode cX1_orderMethods 13 = .ok (.aload_n 0, 1) := by decide +kernel
theorem dX1_orderMethods_14 : decode cX1_orderMethods 14 = .ok (.getfield 15, 3) := by decide +kernel
theorem dX1_orderMethods_17 : decode cX1_orderMethods 17 = .ok (.iload_n 1, 1) := by decide +kernel
theorem dX1_orderMethods_18 : decode cX1_orderMethods 18 = .ok (.ishr, 1) := by decide +kernel
theorem dX1_orderMethods_19 : decode cX1_orderMethods 19 = .ok (.iconst 1, 1) := by decide +kernel
theorem dX1_orderMethods_20 : decode cX1_orderMethods 20 = .ok (.iand, 1) := by decide +kernel
theorem dX1_orderMethods_21 : decode cX1_orderMethods 21 = .ok (.ifCond .eq 16, 3) := by decide +kernel
theorem dX1_orderMethods_24 : decode cX1_orderMethods 24 = .ok (.aload_n 0, 1) := by decide +kernel
theorem dX1_orderMethods_25 : decode cX1_orderMethods 25 = .ok (.aload_n 0, 1) := by decide +kernel
theorem dX1_orderMethods_26 : decode cX1_orderMethods 26 = .ok (.getfield 18, 3) := by decide +kernel
theorem dX1_orderMethods_29 : decode cX1_orderMethods 29 = .ok (.iload_n 1, 1) := by decide +kernel
theorem dX1_orderMethods_30 : decode cX1_orderMethods 30 = .ok (.iaload, 1) := by decide +kernel
theorem dX1_orderMethods_31 : decode cX1_orderMethods 31 = .ok (.invokevirtual 56, 3) := by decide +kernel
theorem dX1_orderMethods_34 : decode cX1_orderMethods 34 = .ok (.goto 4, 3) := by decide +kernel
theorem dX1_orderMethods_37 : decode cX1_orderMethods 37 = .ok (.iconst 0, 1) := by decide +kernel
theorem dX1_orderMethods_38 : decode cX1_orderMethods 38 = .ok (.iastore, 1) := by decide +kernel
theorem dX1_orderMethods_39 : decode cX1_orderMethods 39 = .ok (.iinc 1 1, 3) := by decide +kernel
theorem dX1_orderMethods_42 : decode cX1_orderMethods 42 = .ok (.goto (-40), 3) := by decide +kernel
theorem dX1_orderMethods_45 : decode cX1_orderMethods 45 = .ok (.return_, 1) := by decide +kernel
theorem dX1_fitClass_0 : decode cX1_fitClass 0 = .ok (.iconst 0, 1) := by decide +kernel
theorem dX1_fitClass_1 : decode cX1_fitClass 1 = .ok (.istore_n 3, 1) := by decide +kernel
theorem dX1_fitClass_2 : decode cX1_fitClass 2 = .ok (.iload_n 3, 1) := by decide +kernel
theorem dX1_fitClass_3 : decode cX1_fitClass 3 = .ok (.iconst 3, 1) := by decide +kernel
theorem dX1_fitClass_4 : decode cX1_fitClass 4 = .ok (.if_icmp .ge 81, 3) := by decide +kernel
theorem dX1_fitClass_7 : decode cX1_fitClass 7 = .ok (.iconst 0, 1) := by decide +kernel
theorem dX1_fitClass_8 : decode cX1_fitClass 8 = .ok (.istore 4, 2) := by decide +kernel
theorem dX1_fitClass_10 : decode cX1_fitClass 10 = .ok (.iconst 0, 1) := by decide +kernel
theorem dX1_fitClass_11 : decode cX1_fitClass 11 = .ok (.istore 5, 2) := by decide +kernel
theorem dX1_fitClass_13 : decode cX1_fitClass 13 = .ok (.iload 5, 2) := by decide +kernel
theorem dX1_fitClass_15 : decode cX1_fitClass 15 = .ok (.bipush 12, 2) := by decide +kernel
theorem dX1_fitClass_17 : decode cX1_fitClass 17 = .ok (.if_icmp .ge 49, 3) := by decide +kernel
theorem dX1_fitClass_20 : decode cX1_fitClass 20 = .ok (.aload_n 0, 1) := by decide +kernel
theorem dX1_fitClass_21 : decode cX1_fitClass 21 = .ok (.getfield 15, 3) := by decide +kernel
theorem dX1_fitClass_24 : decode cX1_fitClass 24 = .ok (.iload 5, 2) := by decide +kernel
theorem dX1_fitClass_26 : decode cX1_fitClass 26 = .ok (.ishr, 1) := by decide +kernel
theorem dX1_fitClass_27 : decode cX1_fitClass 27 = .ok (.iconst 1, 1) := by decide +kernel
theorem dX1_fitClass_28 : decode cX1_fitClass 28 = .ok (.iand, 1) := by decide +kernel
theorem dX1_fitClass_29 : decode cX1_fitClass 29 = .ok (.ifCond .eq 31, 3) := by decide +kernel
theorem dX1_fitClass_32 : decode cX1_fitClass 32 = .ok (.aload_n 2, 1) := by decide +kernel
theorem dX1_fitClass_33 : decode cX1_fitClass 33 = .ok (.iload_n 1, 1) := by decide +kernel
theorem dX1_fitClass_34 : decode cX1_fitClass 34 = .ok (.aload_n 0, 1) := by decide +kernel
theorem dX1_fitClass_35 : decode cX1_fitClass 35 = .ok (.getfield 18, 3) := by decide +kernel
theorem dX1_fitClass_38 : decode cX1_fitClass 38 = .ok (.iload 5, 2) := by decide +kernel
theorem dX1_fitClass_40 : decode cX1_fitClass 40 = .ok (.iaload, 1) := by decide +kernel
theorem dX1_fitClass_41 : decode cX1_fitClass 41 = .ok (.iload_n 3, 1) := by decide +kernel
theorem dX1_fitClass_42 : decode cX1_fitClass 42 = .ok (.invokestatic 40, 3) := by decide +kernel
theorem dX1_fitClass_45 : decode cX1_fitClass 45 = .ok (.invokevirtual 49, 3) := by decide +kernel
theorem dX1_fitClass_48 : decode cX1_fitClass 48 = .ok (.ifCond .eq 12, 3) := by decide +kernel
theorem dX1_fitClass_51 : decode cX1_fitClass 51 = .ok (.iload 4, 2) := by decide +kernel
theorem dX1_fitClass_53 : decode cX1_fitClass 53 = .ok (.iconst 1, 1) := by decide +kernel
theorem dX1_fitClass_54 : decode cX1_fitClass 54 = .ok (.iload 5, 2) := by decide +kernel
theorem dX1_fitClass_56 : decode cX1_fitClass 56 = .ok (.ishl, 1) := by decide +kernel
theorem dX1_fitClass_57 : decode cX1_fitClass 57 = .ok (.ior, 1) := by decide +kernel
theorem dX1_fitClass_58 : decode cX1_fitClass 58 = .ok (.istore 4, 2) := by decide +kernel
theorem dX1_fitClass_60 : decode cX1_fitClass 60 = .ok (.iinc 5 1, 3) := by decide +kernel
theorem dX1_fitClass_63 : decode cX1_fitClass 63 = .ok (.goto (-50), 3) := by decide +kernel
theorem dX1_fitClass_66 : decode cX1_fitClass 66 = .ok (.aload_n 0, 1) := by decide +kernel
theorem dX1_fitClass_67 : decode cX1_fitClass 67 = .ok (.getfield 31, 3) := by decide +kernel
theorem dX1_fitClass_70 : decode cX1_fitClass 70 = .ok (.bipush 16, 2) := by decide +kernel
theorem dX1_fitClass_72 : decode cX1_fitClass 72 = .ok (.iload_n 3, 1) := by decide +kernel
theorem dX1_fitClass_73 : decode cX1_fitClass 73 = .ok (.imul, 1) := by decide +kernel
theorem dX1_fitClass_74 : decode cX1_fitClass 74 = .ok (.iload_n 1, 1) := by decide +kernel
theorem dX1_fitClass_75 : decode cX1_fitClass 75 = .ok (.iadd, 1) := by decide +kernel
theorem dX1_fitClass_76 : decode cX1_fitClass 76 = .ok (.iload 4, 2) := by decide +kernel
theorem dX1_fitClass_78 : decode cX1_fitClass 78 = .ok (.iastore, 1) := by decide +kernel
theorem dX1_fitClass_79 : decode cX1_fitClass 79 = .ok (.iinc 3 1, 3) := by decide +kernel
theorem dX1_fitClass_82 : decode cX1_fitClass 82 = .ok (.goto (-80), 3) := by decide +kernel
theorem dX1_fitClass_85 : decode cX1_fitClass 85 = .ok (.return_, 1) := by decide +kernel
theorem dX1_copyMethods_0 : decode cX1_copyMethods 0 = .ok (.aload_n 0, 1) := by decide +kernel
theorem dX1_copyMethods_1 : decode cX1_copyMethods 1 = .ok (.aload_n 1, 1) := by decide +kernel
theorem dX1_copyMethods_2 : decode cX1_copyMethods 2 = .ok (.getfield 9, 3) := by decide +kernel
theorem dX1_copyMethods_5 : decode cX1_copyMethods 5 = .ok (.putfield 9, 3) := by decide +kernel
theorem dX1_copyMethods_8 : decode cX1_copyMethods 8 = .ok (.aload_n 0, 1) := by decide +kernel
theorem dX1_copyMethods_9 : decode cX1_copyMethods 9 = .ok (.aload_n 1, 1) := by decide +kernel
theorem dX1_copyMethods_10 : decode cX1_copyMethods 10 = .ok (.getfield 15, 3) := by decide +kernel
theorem dX1_copyMethods_13 : decode cX1_copyMethods 13 = .ok (.putfield 15, 3) := by decide +kernel
theorem dX1_copyMethods_16 : decode cX1_copyMethods 16 = .ok (.aload_n 1, 1) := by decide +kernel
theorem dX1_copyMethods_17 : decode cX1_copyMethods 17 = .ok (.getfield 18, 3) := by decide +kernel
theorem dX1_copyMethods_20 : decode cX1_copyMethods 20 = .ok (.iconst 0, 1) := by decide +kernel
theorem dX1_copyMethods_21 : decode cX1_copyMethods 21 = .ok (.aload_n 0, 1) := by decide +kernel
theorem dX1_copyMethods_22 : decode cX1_copyMethods 22 = .ok (.getfield 18, 3) := by decide +kernel
theorem dX1_copyMethods_25 : decode cX1_copyMethods 25 = .ok (.iconst 0, 1) := by decide +kernel
theorem dX1_copyMethods_26 : decode cX1_copyMethods 26 = .ok (.aload_n 0, 1) := by decide +kernel
theorem dX1_copyMethods_27 : decode cX1_copyMethods 27 = .ok (.getfield 18, 3) := by decide +kernel
theorem dX1_copyMethods_30 : decode cX1_copyMethods 30 = .ok (.arraylength, 1) := by decide +kernel
theorem dX1_copyMethods_31 : decode cX1_copyMethods 31 = .ok (.invokestatic 60, 3) := by decide +kernel
theorem dX1_copyMethods_34 : decode cX1_copyMethods 34 = .ok (.aload_n 1, 1) := by decide +kernel
theorem dX1_copyMethods_35 : decode cX1_copyMethods 35 = .ok (.getfield 28, 3) := by decide +kernel
theorem dX1_copyMethods_38 : decode cX1_copyMethods 38 = .ok (.iconst 0, 1) := by decide +kernel
theorem dX1_copyMethods_39 : decode cX1_copyMethods 39 = .ok (.aload_n 0, 1) := by decide +kernel
theorem dX1_copyMethods_40 : decode cX1_copyMethods 40 = .ok (.getfield 28, 3) := by decide +kernel
theorem dX1_copyMethods_43 : decode cX1_copyMethods 43 = .ok (.iconst 0, 1) := by decide +kernel
theorem dX1_copyMethods_44 : decode cX1_copyMethods 44 = .ok (.aload_n 0, 1) := by decide +kernel
theorem dX1_copyMethods_45 : decode cX1_copyMethods 45 = .ok (.getfield 28, 3) := by decide +kernel
theorem dX1_copyMethods_48 : decode cX1_copyMethods 48 = .ok (.arraylength, 1) := by decide +kernel
theorem dX1_copyMethods_49 : decode cX1_copyMethods 49 = .ok (.invokestatic 60, 3) := by decide +kernel
theorem dX1_copyMethods_52 : decode cX1_copyMethods 52 = .ok (.aload_n 1, 1) := by decide +kernel
theorem dX1_copyMethods_53 : decode cX1_copyMethods 53 = .ok (.getfield 31, 3) := by decide +kernel
theorem dX1_copyMethods_56 : decode cX1_copyMethods 56 = .ok (.iconst 0, 1) := by decide +kernel
theorem dX1_copyMethods_57 : decode cX1_copyMethods 57 = .ok (.aload_n 0, 1) := by decide +kernel
theorem dX1_copyMethods_58 : decode cX1_copyMethods 58 = .ok (.getfield 31, 3) := by decide +kernel
theorem dX1_copyMethods_61 : decode cX1_copyMethods 61 = .ok (.iconst 0, 1) := by decide +kernel
theorem dX1_copyMethods_62 : decode cX1_copyMethods 62 = .ok (.aload_n 0, 1) := by decide +kernel
theorem dX1_copyMethods_63 : decode cX1_copyMethods 63 = .ok (.getfield 31, 3) := by decide +kernel
theorem dX1_copyMethods_66 : decode cX1_copyMethods 66 = .ok (.arraylength, 1) := by decide +kernel
theorem dX1_copyMethods_67 : decode cX1_copyMethods 67 = .ok (.invokestatic 60, 3) := by decide +kernel
theorem dX1_copyMethods_70 : decode cX1_copyMethods 70 = .ok (.return_, 1) := by decide +kernel
theorem dX1_workOut_0 : decode cX1_workOut 0 = .ok (.aload_n 0, 1) := by decide +kernel
theorem dX1_workOut_1 : decode cX1_workOut 1 = .ok (.getfield 25, 3) := by decide +kernel
theorem dX1_workOut_4 : decode cX1_workOut 4 = .ok (.iload_n 1, 1) := by decide +kernel
theorem dX1_workOut_5 : decode cX1_workOut 5 = .ok (.iaload, 1) := by decide +kernel
theorem dX1_workOut_6 : decode cX1_workOut 6 = .ok (.istore_n 3, 1) := by decide +kernel
theorem dX1_workOut_7 : decode cX1_workOut 7 = .ok (.aload_n 0, 1) := by decide +kernel
theorem dX1_workOut_8 : decode cX1_workOut 8 = .ok (.getfield 22, 3) := by decide +kernel
theorem dX1_workOut_11 : decode cX1_workOut 11 = .ok (.iload_n 1, 1) := by decide +kernel
theorem dX1_workOut_12 : decode cX1_workOut 12 = .ok (.iaload, 1) := by decide +kernel
theorem dX1_workOut_13 : decode cX1_workOut 13 = .ok (.tableswitch 41 1 3 #[27, 31, 35], 27) := by decide +kernel
theorem dX1_workOut_40 : decode cX1_workOut 40 = .ok (.iload_n 3, 1) := by decide +kernel
theorem dX1_workOut_41 : decode cX1_workOut 41 = .ok (.iload_n 2, 1) := by decide +kernel
theorem dX1_workOut_42 : decode cX1_workOut 42 = .ok (.iadd, 1) := by decide +kernel
theorem dX1_workOut_43 : decode cX1_workOut 43 = .ok (.ireturn, 1) := by decide +kernel
theorem dX1_workOut_44 : decode cX1_workOut 44 = .ok (.iload_n 3, 1) := by decide +kernel
theorem dX1_workOut_45 : decode cX1_workOut 45 = .ok (.iload_n 2, 1) := by decide +kernel
theorem dX1_workOut_46 : decode cX1_workOut 46 = .ok (.imul, 1) := by decide +kernel
theorem dX1_workOut_47 : decode cX1_workOut 47 = .ok (.ireturn, 1) := by decide +kernel
theorem dX1_workOut_48 : decode cX1_workOut 48 = .ok (.iload_n 3, 1) := by decide +kernel
theorem dX1_workOut_49 : decode cX1_workOut 49 = .ok (.iload_n 2, 1) := by decide +kernel
theorem dX1_workOut_50 : decode cX1_workOut 50 = .ok (.invokestatic 66, 3) := by decide +kernel
theorem dX1_workOut_53 : decode cX1_workOut 53 = .ok (.ireturn, 1) := by decide +kernel
theorem dX1_workOut_54 : decode cX1_workOut 54 = .ok (.iload_n 3, 1) := by decide +kernel
theorem dX1_workOut_55 : decode cX1_workOut 55 = .ok (.ireturn, 1) := by decide +kernel
theorem dX1_ask_0 : decode cX1_ask 0 = .ok (.iconst 0, 1) := by decide +kernel
theorem dX1_ask_1 : decode cX1_ask 1 = .ok (.istore_n 2, 1) := by decide +kernel
theorem dX1_ask_2 : decode cX1_ask 2 = .ok (.iload_n 2, 1) := by decide +kernel
theorem dX1_ask_3 : decode cX1_ask 3 = .ok (.aload_n 0, 1) := by decide +kernel
theorem dX1_ask_4 : decode cX1_ask 4 = .ok (.getfield 37, 3) := by decide +kernel
theorem dX1_ask_7 : decode cX1_ask 7 = .ok (.if_icmp .ge 31, 3) := by decide +kernel
theorem dX1_ask_10 : decode cX1_ask 10 = .ok (.aload_n 0, 1) := by decide +kernel
theorem dX1_ask_11 : decode cX1_ask 11 = .ok (.getfield 34, 3) := by decide +kernel
theorem dX1_ask_14 : decode cX1_ask 14 = .ok (.iload_n 2, 1) := by decide +kernel
theorem dX1_ask_15 : decode cX1_ask 15 = .ok (.iaload, 1) := by decide +kernel
theorem dX1_ask_16 : decode cX1_ask 16 = .ok (.iload_n 1, 1) := by decide +kernel
theorem dX1_ask_17 : decode cX1_ask 17 = .ok (.if_icmp .ne 15, 3) := by decide +kernel
theorem dX1_ask_20 : decode cX1_ask 20 = .ok (.aload_n 0, 1) := by decide +kernel
theorem dX1_ask_21 : decode cX1_ask 21 = .ok (.iload_n 2, 1) := by decide +kernel
theorem dX1_ask_22 : decode cX1_ask 22 = .ok (.invokevirtual 71, 3) := by decide +kernel
theorem dX1_ask_25 : decode cX1_ask 25 = .ok (.aload_n 0, 1) := by decide +kernel
theorem dX1_ask_26 : decode cX1_ask 26 = .ok (.iload_n 1, 1) := by decide +kernel
theorem dX1_ask_27 : decode cX1_ask 27 = .ok (.invokevirtual 75, 3) := by decide +kernel
theorem dX1_ask_30 : decode cX1_ask 30 = .ok (.iconst 1, 1) := by decide +kernel
theorem dX1_ask_31 : decode cX1_ask 31 = .ok (.ireturn, 1) := by decide +kernel
theorem dX1_ask_32 : decode cX1_ask 32 = .ok (.iinc 2 1, 3) := by decide +kernel
theorem dX1_ask_35 : decode cX1_ask 35 = .ok (.goto (-33), 3) := by decide +kernel
theorem dX1_ask_38 : decode cX1_ask 38 = .ok (.aload_n 0, 1) := by decide +kernel
theorem dX1_ask_39 : decode cX1_ask 39 = .ok (.getfield 37, 3) := by decide +kernel
theorem dX1_ask_42 : decode cX1_ask 42 = .ok (.bipush 6, 2) := by decide +kernel
theorem dX1_ask_44 : decode cX1_ask 44 = .ok (.if_icmp .ne 8, 3) := by decide +kernel
theorem dX1_ask_47 : decode cX1_ask 47 = .ok (.aload_n 0, 1) := by decide +kernel
theorem dX1_ask_48 : decode cX1_ask 48 = .ok (.iconst 0, 1) := by decide +kernel
theorem dX1_ask_49 : decode cX1_ask 49 = .ok (.invokevirtual 71, 3) := by decide +kernel
theorem dX1_ask_52 : decode cX1_ask 52 = .ok (.aload_n 0, 1) := by decide +kernel
theorem dX1_ask_53 : decode cX1_ask 53 = .ok (.iload_n 1, 1) := by decide +kernel
theorem dX1_ask_54 : decode cX1_ask 54 = .ok (.invokevirtual 75, 3) := by decide +kernel
theorem dX1_ask_57 : decode cX1_ask 57 = .ok (.iconst 0, 1) := by decide +kernel
theorem dX1_ask_58 : decode cX1_ask 58 = .ok (.ireturn, 1) := by decide +kernel
theorem dX1_removeKept_0 : decode cX1_removeKept 0 = .ok (.iload_n 1, 1) := by decide +kernel
theorem dX1_removeKept_1 : decode cX1_removeKept 1 = .ok (.istore_n 2, 1) := by decide +kernel
theorem dX1_removeKept_2 : decode cX1_removeKept 2 = .ok (.iload_n 2, 1) := by decide +kernel
theorem dX1_removeKept_3 : decode cX1_removeKept 3 = .ok (.aload_n 0, 1) := by decide +kernel
theorem dX1_removeKept_4 : decode cX1_removeKept 4 = .ok (.getfield 37, 3) := by decide +kernel
theorem dX1_removeKept_7 : decode cX1_removeKept 7 = .ok (.iconst 1, 1) := by decide +kernel
theorem dX1_removeKept_8 : decode cX1_removeKept 8 = .ok (.isub, 1) := by decide +kernel
theorem dX1_removeKept_9 : decode cX1_removeKept 9 = .ok (.if_icmp .ge 23, 3) := by decide +kernel
theorem dX1_removeKept_12 : decode cX1_removeKept 12 = .ok (.aload_n 0, 1) := by decide +kernel
theorem dX1_removeKept_13 : decode cX1_removeKept 13 = .ok (.getfield 34, 3) := by decide +kernel
theorem dX1_removeKept_16 : decode cX1_removeKept 16 = .ok (.iload_n 2, 1) := by decide +kernel
theorem dX1_removeKept_17 : decode cX1_removeKept 17 = .ok (.aload_n 0, 1) := by decide +kernel
theorem dX1_removeKept_18 : decode cX1_removeKept 18 = .ok (.getfield 34, 3) := by decide +kernel
theorem dX1_removeKept_21 : decode cX1_removeKept 21 = .ok (.iload_n 2, 1) := by decide +kernel
theorem dX1_removeKept_22 : decode cX1_removeKept 22 = .ok (.iconst 1, 1) := by decide +kernel
theorem dX1_removeKept_23 : decode cX1_removeKept 23 = .ok (.iadd, 1) := by decide +kernel
theorem dX1_removeKept_24 : decode cX1_removeKept 24 = .ok (.iaload, 1) := by decide +kernel
theorem dX1_removeKept_25 : decode cX1_removeKept 25 = .ok (.iastore, 1) := by decide +kernel
theorem dX1_removeKept_26 : decode cX1_removeKept 26 = .ok (.iinc 2 1, 3) := by decide +kernel
theorem dX1_removeKept_29 : decode cX1_removeKept 29 = .ok (.goto (-27), 3) := by decide +kernel
theorem dX1_removeKept_32 : decode cX1_removeKept 32 = .ok (.aload_n 0, 1) := by decide +kernel
theorem dX1_removeKept_33 : decode cX1_removeKept 33 = .ok (.dup, 1) := by decide +kernel
theorem dX1_removeKept_34 : decode cX1_removeKept 34 = .ok (.getfield 37, 3) := by decide +kernel
theorem dX1_removeKept_37 : decode cX1_removeKept 37 = .ok (.iconst 1, 1) := by decide +kernel
theorem dX1_removeKept_38 : decode cX1_removeKept 38 = .ok (.isub, 1) := by decide +kernel
theorem dX1_removeKept_39 : decode cX1_removeKept 39 = .ok (.putfield 37, 3) := by decide +kernel
theorem dX1_removeKept_42 : decode cX1_removeKept 42 = .ok (.return_, 1) := by decide +kernel
theorem dX1_addKept_0 : decode cX1_addKept 0 = .ok (.aload_n 0, 1) := by decide +kernel
theorem dX1_addKept_1 : decode cX1_addKept 1 = .ok (.getfield 34, 3) := by decide +kernel
theorem dX1_addKept_4 : decode cX1_addKept 4 = .ok (.aload_n 0, 1) := by decide +kernel
theorem dX1_addKept_5 : decode cX1_addKept 5 = .ok (.getfield 37, 3) := by decide +kernel
theorem dX1_addKept_8 : decode cX1_addKept 8 = .ok (.iload_n 1, 1) := by decide +kernel
theorem dX1_addKept_9 : decode cX1_addKept 9 = .ok (.iastore, 1) := by decide +kernel
theorem dX1_addKept_10 : decode cX1_addKept 10 = .ok (.aload_n 0, 1) := by decide +kernel
theorem dX1_addKept_11 : decode cX1_addKept 11 = .ok (.dup, 1) := by decide +kernel
theorem dX1_addKept_12 : decode cX1_addKept 12 = .ok (.getfield 37, 3) := by decide +kernel
theorem dX1_addKept_15 : decode cX1_addKept 15 = .ok (.iconst 1, 1) := by decide +kernel
theorem dX1_addKept_16 : decode cX1_addKept 16 = .ok (.iadd, 1) := by decide +kernel
theorem dX1_addKept_17 : decode cX1_addKept 17 = .ok (.putfield 37, 3) := by decide +kernel
theorem dX1_addKept_20 : decode cX1_addKept 20 = .ok (.return_, 1) := by decide +kernel
theorem dX1_forget_0 : decode cX1_forget 0 = .ok (.iconst 0, 1) := by decide +kernel
theorem dX1_forget_1 : decode cX1_forget 1 = .ok (.istore_n 2, 1) := by decide +kernel
theorem dX1_forget_2 : decode cX1_forget 2 = .ok (.iconst 0, 1) := by decide +kernel
theorem dX1_forget_3 : decode cX1_forget 3 = .ok (.istore_n 3, 1) := by decide +kernel
theorem dX1_forget_4 : decode cX1_forget 4 = .ok (.iload_n 3, 1) := by decide +kernel
theorem dX1_forget_5 : decode cX1_forget 5 = .ok (.aload_n 0, 1) := by decide +kernel
theorem dX1_forget_6 : decode cX1_forget 6 = .ok (.getfield 37, 3) := by decide +kernel
theorem dX1_forget_9 : decode cX1_forget 9 = .ok (.if_icmp .ge 41, 3) := by decide +kernel
theorem dX1_forget_12 : decode cX1_forget 12 = .ok (.aload_n 0, 1) := by decide +kernel
theorem dX1_forget_13 : decode cX1_forget 13 = .ok (.aload_n 0, 1) := by decide +kernel
theorem dX1_forget_14 : decode cX1_forget 14 = .ok (.getfield 34, 3) := by decide +kernel
theorem dX1_forget_17 : decode cX1_forget 17 = .ok (.iload_n 3, 1) := by decide +kernel
theorem dX1_forget_18 : decode cX1_forget 18 = .ok (.iaload, 1) := by decide +kernel
theorem dX1_forget_19 : decode cX1_forget 19 = .ok (.invokevirtual 56, 3) := by decide +kernel
theorem dX1_forget_22 : decode cX1_forget 22 = .ok (.iload_n 1, 1) := by decide +kernel
theorem dX1_forget_23 : decode cX1_forget 23 = .ok (.ishr, 1) := by decide +kernel
theorem dX1_forget_24 : decode cX1_forget 24 = .ok (.iconst 1, 1) := by decide +kernel
theorem dX1_forget_25 : decode cX1_forget 25 = .ok (.iand, 1) := by decide +kernel
theorem dX1_forget_26 : decode cX1_forget 26 = .ok (.ifCond .ne 18, 3) := by decide +kernel
theorem dX1_forget_29 : decode cX1_forget 29 = .ok (.aload_n 0, 1) := by decide +kernel
theorem dX1_forget_30 : decode cX1_forget 30 = .ok (.getfield 34, 3) := by decide +kernel
theorem dX1_forget_33 : decode cX1_forget 33 = .ok (.iload_n 2, 1) := by decide +kernel
theorem dX1_forget_34 : decode cX1_forget 34 = .ok (.aload_n 0, 1) := by decide +kernel
theorem dX1_forget_35 : decode cX1_forget 35 = .ok (.getfield 34, 3) := by decide +kernel
theorem dX1_forget_38 : decode cX1_forget 38 = .ok (.iload_n 3, 1) := by decide +kernel
theorem dX1_forget_39 : decode cX1_forget 39 = .ok (.iaload, 1) := by decide +kernel
theorem dX1_forget_40 : decode cX1_forget 40 = .ok (.iastore, 1) := by decide +kernel
theorem dX1_forget_41 : decode cX1_forget 41 = .ok (.iinc 2 1, 3) := by decide +kernel
theorem dX1_forget_44 : decode cX1_forget 44 = .ok (.iinc 3 1, 3) := by decide +kernel
theorem dX1_forget_47 : decode cX1_forget 47 = .ok (.goto (-43), 3) := by decide +kernel
theorem dX1_forget_50 : decode cX1_forget 50 = .ok (.aload_n 0, 1) := by decide +kernel
theorem dX1_forget_51 : decode cX1_forget 51 = .ok (.iload_n 2, 1) := by decide +kernel
theorem dX1_forget_52 : decode cX1_forget 52 = .ok (.putfield 37, 3) := by decide +kernel
theorem dX1_forget_55 : decode cX1_forget 55 = .ok (.return_, 1) := by decide +kernel
theorem dJ6_bitCount_0f7a4_0 : decode cJ6_bitCount_0f7a4 0 = .ok (.iload_n 0, 1) := by decide +kernel
theorem dJ6_bitCount_0f7a4_1 : decode cJ6_bitCount_0f7a4 1 = .ok (.iload_n 0, 1) := by decide +kernel
theorem dJ6_bitCount_0f7a4_2 : decode cJ6_bitCount_0f7a4 2 = .ok (.iconst 1, 1) := by decide +kernel
theorem dJ6_bitCount_0f7a4_3 : decode cJ6_bitCount_0f7a4 3 = .ok (.iushr, 1) := by decide +kernel
theorem dJ6_bitCount_0f7a4_4 : decode cJ6_bitCount_0f7a4 4 = .ok (.ldc_w 265, 3) := by decide +kernel
theorem dJ6_bitCount_0f7a4_7 : decode cJ6_bitCount_0f7a4 7 = .ok (.iand, 1) := by decide +kernel
theorem dJ6_bitCount_0f7a4_8 : decode cJ6_bitCount_0f7a4 8 = .ok (.isub, 1) := by decide +kernel
theorem dJ6_bitCount_0f7a4_9 : decode cJ6_bitCount_0f7a4 9 = .ok (.istore_n 0, 1) := by decide +kernel
theorem dJ6_bitCount_0f7a4_10 : decode cJ6_bitCount_0f7a4 10 = .ok (.iload_n 0, 1) := by decide +kernel
theorem dJ6_bitCount_0f7a4_11 : decode cJ6_bitCount_0f7a4 11 = .ok (.ldc_w 266, 3) := by decide +kernel
theorem dJ6_bitCount_0f7a4_14 : decode cJ6_bitCount_0f7a4 14 = .ok (.iand, 1) := by decide +kernel
theorem dJ6_bitCount_0f7a4_15 : decode cJ6_bitCount_0f7a4 15 = .ok (.iload_n 0, 1) := by decide +kernel
theorem dJ6_bitCount_0f7a4_16 : decode cJ6_bitCount_0f7a4 16 = .ok (.iconst 2, 1) := by decide +kernel
theorem dJ6_bitCount_0f7a4_17 : decode cJ6_bitCount_0f7a4 17 = .ok (.iushr, 1) := by decide +kernel
theorem dJ6_bitCount_0f7a4_18 : decode cJ6_bitCount_0f7a4 18 = .ok (.ldc_w 266, 3) := by decide +kernel
theorem dJ6_bitCount_0f7a4_21 : decode cJ6_bitCount_0f7a4 21 = .ok (.iand, 1) := by decide +kernel
theorem dJ6_bitCount_0f7a4_22 : decode cJ6_bitCount_0f7a4 22 = .ok (.iadd, 1) := by decide +kernel
theorem dJ6_bitCount_0f7a4_23 : decode cJ6_bitCount_0f7a4 23 = .ok (.istore_n 0, 1) := by decide +kernel
theorem dJ6_bitCount_0f7a4_24 : decode cJ6_bitCount_0f7a4 24 = .ok (.iload_n 0, 1) := by decide +kernel
theorem dJ6_bitCount_0f7a4_25 : decode cJ6_bitCount_0f7a4 25 = .ok (.iload_n 0, 1) := by decide +kernel
theorem dJ6_bitCount_0f7a4_26 : decode cJ6_bitCount_0f7a4 26 = .ok (.iconst 4, 1) := by decide +kernel
theorem dJ6_bitCount_0f7a4_27 : decode cJ6_bitCount_0f7a4 27 = .ok (.iushr, 1) := by decide +kernel
theorem dJ6_bitCount_0f7a4_28 : decode cJ6_bitCount_0f7a4 28 = .ok (.iadd, 1) := by decide +kernel
theorem dJ6_bitCount_0f7a4_29 : decode cJ6_bitCount_0f7a4 29 = .ok (.ldc_w 267, 3) := by decide +kernel
theorem dJ6_bitCount_0f7a4_32 : decode cJ6_bitCount_0f7a4 32 = .ok (.iand, 1) := by decide +kernel
theorem dJ6_bitCount_0f7a4_33 : decode cJ6_bitCount_0f7a4 33 = .ok (.istore_n 0, 1) := by decide +kernel
theorem dJ6_bitCount_0f7a4_34 : decode cJ6_bitCount_0f7a4 34 = .ok (.iload_n 0, 1) := by decide +kernel
theorem dJ6_bitCount_0f7a4_35 : decode cJ6_bitCount_0f7a4 35 = .ok (.iload_n 0, 1) := by decide +kernel
theorem dJ6_bitCount_0f7a4_36 : decode cJ6_bitCount_0f7a4 36 = .ok (.bipush 8, 2) := by decide +kernel
theorem dJ6_bitCount_0f7a4_38 : decode cJ6_bitCount_0f7a4 38 = .ok (.iushr, 1) := by decide +kernel
theorem dJ6_bitCount_0f7a4_39 : decode cJ6_bitCount_0f7a4 39 = .ok (.iadd, 1) := by decide +kernel
theorem dJ6_bitCount_0f7a4_40 : decode cJ6_bitCount_0f7a4 40 = .ok (.istore_n 0, 1) := by decide +kernel
theorem dJ6_bitCount_0f7a4_41 : decode cJ6_bitCount_0f7a4 41 = .ok (.iload_n 0, 1) := by decide +kernel
theorem dJ6_bitCount_0f7a4_42 : decode cJ6_bitCount_0f7a4 42 = .ok (.iload_n 0, 1) := by decide +kernel
theorem dJ6_bitCount_0f7a4_43 : decode cJ6_bitCount_0f7a4 43 = .ok (.bipush 16, 2) := by decide +kernel
theorem dJ6_bitCount_0f7a4_45 : decode cJ6_bitCount_0f7a4 45 = .ok (.iushr, 1) := by decide +kernel
theorem dJ6_bitCount_0f7a4_46 : decode cJ6_bitCount_0f7a4 46 = .ok (.iadd, 1) := by decide +kernel
theorem dJ6_bitCount_0f7a4_47 : decode cJ6_bitCount_0f7a4 47 = .ok (.istore_n 0, 1) := by decide +kernel
theorem dJ6_bitCount_0f7a4_48 : decode cJ6_bitCount_0f7a4 48 = .ok (.iload_n 0, 1) := by decide +kernel
theorem dJ6_bitCount_0f7a4_49 : decode cJ6_bitCount_0f7a4 49 = .ok (.bipush 63, 2) := by decide +kernel
theorem dJ6_bitCount_0f7a4_51 : decode cJ6_bitCount_0f7a4 51 = .ok (.iand, 1) := by decide +kernel
theorem dJ6_bitCount_0f7a4_52 : decode cJ6_bitCount_0f7a4 52 = .ok (.ireturn, 1) := by decide +kernel
theorem dJ9_max_7cf53_0 : decode cJ9_max_7cf53 0 = .ok (.iload_n 0, 1) := by decide +kernel
theorem dJ9_max_7cf53_1 : decode cJ9_max_7cf53 1 = .ok (.iload_n 1, 1) := by decide +kernel
theorem dJ9_max_7cf53_2 : decode cJ9_max_7cf53 2 = .ok (.if_icmp .lt 7, 3) := by decide +kernel
theorem dJ9_max_7cf53_5 : decode cJ9_max_7cf53 5 = .ok (.iload_n 0, 1) := by decide +kernel
theorem dJ9_max_7cf53_6 : decode cJ9_max_7cf53 6 = .ok (.goto 4, 3) := by decide +kernel
theorem dJ9_max_7cf53_9 : decode cJ9_max_7cf53 9 = .ok (.iload_n 1, 1) := by decide +kernel
theorem dJ9_max_7cf53_10 : decode cJ9_max_7cf53 10 = .ok (.ireturn, 1) := by decide +kernel
