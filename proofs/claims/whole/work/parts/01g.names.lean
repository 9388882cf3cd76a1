theorem dX3_isMethod_1 : decode cX3_isMethod 1 = .ok (.iload_n 1, 1) := by decide +kernel
theorem dX3_isMethod_2 : decode cX3_isMethod 2 = .ok (.invokevirtual 104, 3) := by decide +kernel
theorem dX3_isMethod_5 : decode cX3_isMethod 5 = .ok (.ifCond .eq 32, 3) := by decide +kernel
theorem dX3_isMethod_8 : decode cX3_isMethod 8 = .ok (.iload_n 2, 1) := by decide +kernel
theorem dX3_isMethod_9 : decode cX3_isMethod 9 = .ok (.iconst 0, 1) := by decide +kernel
theorem dX3_isMethod_10 : decode cX3_isMethod 10 = .ok (.bipush 11, 2) := by decide +kernel
theorem dX3_isMethod_12 : decode cX3_isMethod 12 = .ok (.invokestatic 68, 3) := by decide +kernel
theorem dX3_isMethod_15 : decode cX3_isMethod 15 = .ok (.ifCond .eq 22, 3) := by decide +kernel
theorem dX3_isMethod_18 : decode cX3_isMethod 18 = .ok (.aload_n 0, 1) := by decide +kernel
theorem dX3_isMethod_19 : decode cX3_isMethod 19 = .ok (.getfield 25, 3) := by decide +kernel
theorem dX3_isMethod_22 : decode cX3_isMethod 22 = .ok (.bipush 12, 2) := by decide +kernel
theorem dX3_isMethod_24 : decode cX3_isMethod 24 = .ok (.iload_n 1, 1) := by decide +kernel
theorem dX3_isMethod_25 : decode cX3_isMethod 25 = .ok (.imul, 1) := by decide +kernel
theorem dX3_isMethod_26 : decode cX3_isMethod 26 = .ok (.iload_n 2, 1) := by decide +kernel
theorem dX3_isMethod_27 : decode cX3_isMethod 27 = .ok (.iadd, 1) := by decide +kernel
theorem dX3_isMethod_28 : decode cX3_isMethod 28 = .ok (.iaload, 1) := by decide +kernel
theorem dX3_isMethod_29 : decode cX3_isMethod 29 = .ok (.iconst (-1), 1) := by decide +kernel
theorem dX3_isMethod_30 : decode cX3_isMethod 30 = .ok (.if_icmp .eq 7, 3) := by decide +kernel
theorem dX3_isMethod_33 : decode cX3_isMethod 33 = .ok (.iconst 1, 1) := by decide +kernel
theorem dX3_isMethod_34 : decode cX3_isMethod 34 = .ok (.goto 4, 3) := by decide +kernel
theorem dX3_isMethod_37 : decode cX3_isMethod 37 = .ok (.iconst 0, 1) := by decide +kernel
theorem dX3_isMethod_38 : decode cX3_isMethod 38 = .ok (.ireturn, 1) := by decide +kernel
theorem dX3_methodsOf_0 : decode cX3_methodsOf 0 = .ok (.iconst 0, 1) := by decide +kernel
theorem dX3_methodsOf_1 : decode cX3_methodsOf 1 = .ok (.istore_n 2, 1) := by decide +kernel
theorem dX3_methodsOf_2 : decode cX3_methodsOf 2 = .ok (.iconst 0, 1) := by decide +kernel
theorem dX3_methodsOf_3 : decode cX3_methodsOf 3 = .ok (.istore_n 3, 1) := by decide +kernel
theorem dX3_methodsOf_4 : decode cX3_methodsOf 4 = .ok (.iload_n 3, 1) := by decide +kernel
theorem dX3_methodsOf_5 : decode cX3_methodsOf 5 = .ok (.bipush 12, 2) := by decide +kernel
theorem dX3_methodsOf_7 : decode cX3_methodsOf 7 = .ok (.if_icmp .ge 34, 3) := by decide +kernel
theorem dX3_methodsOf_10 : decode cX3_methodsOf 10 = .ok (.iload_n 2, 1) := by decide +kernel
theorem dX3_methodsOf_11 : decode cX3_methodsOf 11 = .ok (.aload_n 0, 1) := by decide +kernel
theorem dX3_methodsOf_12 : decode cX3_methodsOf 12 = .ok (.getfield 25, 3) := by decide +kernel
theorem dX3_methodsOf_15 : decode cX3_methodsOf 15 = .ok (.bipush 12, 2) := by decide +kernel
theorem dX3_methodsOf_17 : decode cX3_methodsOf 17 = .ok (.iload_n 1, 1) := by decide +kernel
theorem dX3_methodsOf_18 : decode cX3_methodsOf 18 = .ok (.imul, 1) := by decide +kernel
theorem dX3_methodsOf_19 : decode cX3_methodsOf 19 = .ok (.iload_n 3, 1) := by decide +kernel
theorem dX3_methodsOf_20 : decode cX3_methodsOf 20 = .ok (.iadd, 1) := by decide +kernel
theorem dX3_methodsOf_21 : decode cX3_methodsOf 21 = .ok (.iaload, 1) := by decide +kernel
theorem dX3_methodsOf_22 : decode cX3_methodsOf 22 = .ok (.iconst (-1), 1) := by decide +kernel
theorem dX3_methodsOf_23 : decode cX3_methodsOf 23 = .ok (.if_icmp .eq 9, 3) := by decide +kernel
theorem dX3_methodsOf_26 : decode cX3_methodsOf 26 = .ok (.iconst 1, 1) := by decide +kernel
theorem dX3_methodsOf_27 : decode cX3_methodsOf 27 = .ok (.iload_n 3, 1) := by decide +kernel
theorem dX3_methodsOf_28 : decode cX3_methodsOf 28 = .ok (.ishl, 1) := by decide +kernel
theorem dX3_methodsOf_29 : decode cX3_methodsOf 29 = .ok (.goto 4, 3) := by decide +kernel
theorem dX3_methodsOf_32 : decode cX3_methodsOf 32 = .ok (.iconst 0, 1) := by decide +kernel
theorem dX3_methodsOf_33 : decode cX3_methodsOf 33 = .ok (.ior, 1) := by decide +kernel
theorem dX3_methodsOf_34 : decode cX3_methodsOf 34 = .ok (.istore_n 2, 1) := by decide +kernel
theorem dX3_methodsOf_35 : decode cX3_methodsOf 35 = .ok (.iinc 3 1, 3) := by decide +kernel
theorem dX3_methodsOf_38 : decode cX3_methodsOf 38 = .ok (.goto (-34), 3) := by decide +kernel
theorem dX3_methodsOf_41 : decode cX3_methodsOf 41 = .ok (.iload_n 2, 1) := by decide +kernel
theorem dX3_methodsOf_42 : decode cX3_methodsOf 42 = .ok (.ireturn, 1) := by decide +kernel
theorem dX3_drops_0 : decode cX3_drops 0 = .ok (.iconst 0, 1) := by decide +kernel
theorem dX3_drops_1 : decode cX3_drops 1 = .ok (.istore_n 3, 1) := by decide +kernel
theorem dX3_drops_2 : decode cX3_drops 2 = .ok (.iconst 0, 1) := by decide +kernel
theorem dX3_drops_3 : decode cX3_drops 3 = .ok (.istore 4, 2) := by decide +kernel
theorem dX3_drops_5 : decode cX3_drops 5 = .ok (.iload 4, 2) := by decide +kernel
theorem dX3_drops_7 : decode cX3_drops 7 = .ok (.aload_n 0, 1) := by decide +kernel
theorem dX3_drops_8 : decode cX3_drops 8 = .ok (.getfield 37, 3) := by decide +kernel
theorem dX3_drops_11 : decode cX3_drops 11 = .ok (.iload_n 1, 1) := by decide +kernel
theorem dX3_drops_12 : decode cX3_drops 12 = .ok (.iaload, 1) := by decide +kernel
theorem dX3_drops_13 : decode cX3_drops 13 = .ok (.if_icmp .ge 56, 3) := by decide +kernel
theorem dX3_drops_16 : decode cX3_drops 16 = .ok (.aload_n 0, 1) := by decide +kernel
theorem dX3_drops_17 : decode cX3_drops 17 = .ok (.iload_n 1, 1) := by decide +kernel
theorem dX3_drops_18 : decode cX3_drops 18 = .ok (.aload_n 0, 1) := by decide +kernel
theorem dX3_drops_19 : decode cX3_drops 19 = .ok (.getfield 34, 3) := by decide +kernel
theorem dX3_drops_22 : decode cX3_drops 22 = .ok (.bipush 6, 2) := by decide +kernel
theorem dX3_drops_24 : decode cX3_drops 24 = .ok (.iload_n 1, 1) := by decide +kernel
theorem dX3_drops_25 : decode cX3_drops 25 = .ok (.imul, 1) := by decide +kernel
theorem dX3_drops_26 : decode cX3_drops 26 = .ok (.iload 4, 2) := by decide +kernel
theorem dX3_drops_28 : decode cX3_drops 28 = .ok (.iadd, 1) := by decide +kernel
theorem dX3_drops_29 : decode cX3_drops 29 = .ok (.iaload, 1) := by decide +kernel
theorem dX3_drops_30 : decode cX3_drops 30 = .ok (.iload_n 2, 1) := by decide +kernel
theorem dX3_drops_31 : decode cX3_drops 31 = .ok (.invokevirtual 111, 3) := by decide +kernel
theorem dX3_drops_34 : decode cX3_drops 34 = .ok (.ifCond .ne 29, 3) := by decide +kernel
theorem dX3_drops_37 : decode cX3_drops 37 = .ok (.aload_n 0, 1) := by decide +kernel
theorem dX3_drops_38 : decode cX3_drops 38 = .ok (.getfield 34, 3) := by decide +kernel
theorem dX3_drops_41 : decode cX3_drops 41 = .ok (.bipush 6, 2) := by decide +kernel
theorem dX3_drops_43 : decode cX3_drops 43 = .ok (.iload_n 1, 1) := by decide +kernel
theorem dX3_drops_44 : decode cX3_drops 44 = .ok (.imul, 1) := by decide +kernel
theorem dX3_drops_45 : decode cX3_drops 45 = .ok (.iload_n 3, 1) := by decide +kernel
theorem dX3_drops_46 : decode cX3_drops 46 = .ok (.iadd, 1) := by decide +kernel
theorem dX3_drops_47 : decode cX3_drops 47 = .ok (.aload_n 0, 1) := by decide +kernel
theorem dX3_drops_48 : decode cX3_drops 48 = .ok (.getfield 34, 3) := by decide +kernel
theorem dX3_drops_51 : decode cX3_drops 51 = .ok (.bipush 6, 2) := by decide +kernel
theorem dX3_drops_53 : decode cX3_drops 53 = .ok (.iload_n 1, 1) := by decide +kernel
theorem dX3_drops_54 : decode cX3_drops 54 = .ok (.imul, 1) := by decide +kernel
theorem dX3_drops_55 : decode cX3_drops 55 = .ok (.iload 4, 2) := by decide +kernel
theorem dX3_drops_57 : decode cX3_drops 57 = .ok (.iadd, 1) := by decide +kernel
theorem dX3_drops_58 : decode cX3_drops 58 = .ok (.iaload, 1) := by decide +kernel
theorem dX3_drops_59 : decode cX3_drops 59 = .ok (.iastore, 1) := by decide +kernel
theorem dX3_drops_60 : decode cX3_drops 60 = .ok (.iinc 3 1, 3) := by decide +kernel
theorem dX3_drops_63 : decode cX3_drops 63 = .ok (.iinc 4 1, 3) := by decide +kernel
theorem dX3_drops_66 : decode cX3_drops 66 = .ok (.goto (-61), 3) := by decide +kernel
theorem dX3_drops_69 : decode cX3_drops 69 = .ok (.aload_n 0, 1) := by decide +kernel
theorem dX3_drops_70 : decode cX3_drops 70 = .ok (.getfield 37, 3) := by decide +kernel
theorem dX3_drops_73 : decode cX3_drops 73 = .ok (.iload_n 1, 1) := by decide +kernel
theorem dX3_drops_74 : decode cX3_drops 74 = .ok (.iload_n 3, 1) := by decide +kernel
theorem dX3_drops_75 : decode cX3_drops 75 = .ok (.iastore, 1) := by decide +kernel
theorem dX3_drops_76 : decode cX3_drops 76 = .ok (.return_, 1) := by decide +kernel
theorem dX3_method_0 : decode cX3_method 0 = .ok (.aload_n 0, 1) := by decide +kernel
theorem dX3_method_1 : decode cX3_method 1 = .ok (.iconst 0, 1) := by decide +kernel
theorem dX3_method_2 : decode cX3_method 2 = .ok (.putfield 65, 3) := by decide +kernel
theorem dX3_method_5 : decode cX3_method 5 = .ok (.aload_n 0, 1) := by decide +kernel
theorem dX3_method_6 : decode cX3_method 6 = .ok (.iload_n 1, 1) := by decide +kernel
theorem dX3_method_7 : decode cX3_method 7 = .ok (.iload_n 2, 1) := by decide +kernel
theorem dX3_method_8 : decode cX3_method 8 = .ok (.invokevirtual 114, 3) := by decide +kernel
theorem dX3_method_11 : decode cX3_method 11 = .ok (.ifCond .eq 26, 3) := by decide +kernel
theorem dX3_method_14 : decode cX3_method 14 = .ok (.iload_n 3, 1) := by decide +kernel
theorem dX3_method_15 : decode cX3_method 15 = .ok (.iconst 0, 1) := by decide +kernel
theorem dX3_method_16 : decode cX3_method 16 = .ok (.iconst 3, 1) := by decide +kernel
theorem dX3_method_17 : decode cX3_method 17 = .ok (.invokestatic 68, 3) := by decide +kernel
theorem dX3_method_20 : decode cX3_method 20 = .ok (.ifCond .eq 17, 3) := by decide +kernel
theorem dX3_method_23 : decode cX3_method 23 = .ok (.iload 4, 2) := by decide +kernel
theorem dX3_method_25 : decode cX3_method 25 = .ok (.sipush (-999), 3) := by decide +kernel
theorem dX3_method_28 : decode cX3_method 28 = .ok (.sipush 999, 3) := by decide +kernel
theorem dX3_method_31 : decode cX3_method 31 = .ok (.invokestatic 68, 3) := by decide +kernel
theorem dX3_method_34 : decode cX3_method 34 = .ok (.ifCond .ne 5, 3) := by decide +kernel
theorem dX3_method_37 : decode cX3_method 37 = .ok (.iconst (-1), 1) := by decide +kernel
theorem dX3_method_38 : decode cX3_method 38 = .ok (.ireturn, 1) := by decide +kernel
theorem dX3_method_39 : decode cX3_method 39 = .ok (.aload_n 0, 1) := by decide +kernel
theorem dX3_method_40 : decode cX3_method 40 = .ok (.iload_n 1, 1) := by decide +kernel
theorem dX3_method_41 : decode cX3_method 41 = .ok (.iconst (-1), 1) := by decide +kernel
theorem dX3_method_42 : decode cX3_method 42 = .ok (.invokevirtual 117, 3) := by decide +kernel
theorem dX3_method_45 : decode cX3_method 45 = .ok (.istore 5, 2) := by decide +kernel
theorem dX3_method_47 : decode cX3_method 47 = .ok (.iload 5, 2) := by decide +kernel
theorem dX3_method_49 : decode cX3_method 49 = .ok (.iconst (-1), 1) := by decide +kernel
theorem dX3_method_50 : decode cX3_method 50 = .ok (.if_icmp .ne 5, 3) := by decide +kernel
theorem dX3_method_53 : decode cX3_method 53 = .ok (.iconst (-1), 1) := by decide +kernel
theorem dX3_method_54 : decode cX3_method 54 = .ok (.ireturn, 1) := by decide +kernel
theorem dX3_method_55 : decode cX3_method 55 = .ok (.aload_n 0, 1) := by decide +kernel
theorem dX3_method_56 : decode cX3_method 56 = .ok (.iload_n 1, 1) := by decide +kernel
theorem dX3_method_57 : decode cX3_method 57 = .ok (.iload_n 2, 1) := by decide +kernel
theorem dX3_method_58 : decode cX3_method 58 = .ok (.invokevirtual 117, 3) := by decide +kernel
theorem dX3_method_61 : decode cX3_method 61 = .ok (.iconst (-1), 1) := by decide +kernel
theorem dX3_method_62 : decode cX3_method 62 = .ok (.if_icmp .eq 6, 3) := by decide +kernel
theorem dX3_method_65 : decode cX3_method 65 = .ok (.bipush (-2), 2) := by decide +kernel
theorem dX3_method_67 : decode cX3_method 67 = .ok (.ireturn, 1) := by decide +kernel
theorem dX3_method_68 : decode cX3_method 68 = .ok (.aload_n 0, 1) := by decide +kernel
theorem dX3_method_69 : decode cX3_method 69 = .ok (.getfield 25, 3) := by decide +kernel
theorem dX3_method_72 : decode cX3_method 72 = .ok (.bipush 12, 2) := by decide +kernel
theorem dX3_method_74 : decode cX3_method 74 = .ok (.iload_n 1, 1) := by decide +kernel
theorem dX3_method_75 : decode cX3_method 75 = .ok (.imul, 1) := by decide +kernel
theorem dX3_method_76 : decode cX3_method 76 = .ok (.iload 5, 2) := by decide +kernel
theorem dX3_method_78 : decode cX3_method 78 = .ok (.iadd, 1) := by decide +kernel
theorem dX3_method_79 : decode cX3_method 79 = .ok (.iload_n 2, 1) := by decide +kernel
theorem dX3_method_80 : decode cX3_method 80 = .ok (.iastore, 1) := by decide +kernel
theorem dX3_method_81 : decode cX3_method 81 = .ok (.aload_n 0, 1) := by decide +kernel
theorem dX3_method_82 : decode cX3_method 82 = .ok (.getfield 28, 3) := by decide +kernel
theorem dX3_method_85 : decode cX3_method 85 = .ok (.bipush 12, 2) := by decide +kernel
theorem dX3_method_87 : decode cX3_method 87 = .ok (.iload_n 1, 1) := by decide +kernel
theorem dX3_method_88 : decode cX3_method 88 = .ok (.imul, 1) := by decide +kernel
theorem dX3_method_89 : decode cX3_method 89 = .ok (.iload 5, 2) := by decide +kernel
theorem dX3_method_91 : decode cX3_method 91 = .ok (.iadd, 1) := by decide +kernel
theorem dX3_method_92 : decode cX3_method 92 = .ok (.iload_n 3, 1) := by decide +kernel
theorem dX3_method_93 : decode cX3_method 93 = .ok (.iastore, 1) := by decide +kernel
theorem dX3_method_94 : decode cX3_method 94 = .ok (.aload_n 0, 1) := by decide +kernel
theorem dX3_method_95 : decode cX3_method 95 = .ok (.getfield 31, 3) := by decide +kernel
theorem dX3_method_98 : decode cX3_method 98 = .ok (.bipush 12, 2) := by decide +kernel
theorem dX3_method_100 : decode cX3_method 100 = .ok (.iload_n 1, 1) := by decide +kernel
theorem dX3_method_101 : decode cX3_method 101 = .ok (.imul, 1) := by decide +kernel
theorem dX3_method_102 : decode cX3_method 102 = .ok (.iload 5, 2) := by decide +kernel
theorem dX3_method_104 : decode cX3_method 104 = .ok (.iadd, 1) := by decide +kernel
theorem dX3_method_105 : decode cX3_method 105 = .ok (.iload 4, 2) := by decide +kernel
theorem dX3_method_107 : decode cX3_method 107 = .ok (.iastore, 1) := by decide +kernel
theorem dX3_method_108 : decode cX3_method 108 = .ok (.aload_n 0, 1) := by decide +kernel
theorem dX3_method_109 : decode cX3_method 109 = .ok (.iload_n 1, 1) := by decide +kernel
theorem dX3_method_110 : decode cX3_method 110 = .ok (.iload_n 2, 1) := by decide +kernel
theorem dX3_method_111 : decode cX3_method 111 = .ok (.invokevirtual 120, 3) := by decide +kernel
theorem dX3_method_114 : decode cX3_method 114 = .ok (.iload 5, 2) := by decide +kernel
theorem dX3_method_116 : decode cX3_method 116 = .ok (.ireturn, 1) := by decide +kernel
theorem dX3_drop_0 : decode cX3_drop 0 = .ok (.aload_n 0, 1) := by decide +kernel
theorem dX3_drop_1 : decode cX3_drop 1 = .ok (.iconst 0, 1) := by decide +kernel
theorem dX3_drop_2 : decode cX3_drop 2 = .ok (.putfield 65, 3) := by decide +kernel
theorem dX3_drop_5 : decode cX3_drop 5 = .ok (.aload_n 0, 1) := by decide +kernel
theorem dX3_drop_6 : decode cX3_drop 6 = .ok (.iload_n 1, 1) := by decide +kernel
theorem dX3_drop_7 : decode cX3_drop 7 = .ok (.iload_n 2, 1) := by decide +kernel
theorem dX3_drop_8 : decode cX3_drop 8 = .ok (.invokevirtual 123, 3) := by decide +kernel
theorem dX3_drop_11 : decode cX3_drop 11 = .ok (.ifCond .ne 5, 3) := by decide +kernel
theorem dX3_drop_14 : decode cX3_drop 14 = .ok (.iconst (-1), 1) := by decide +kernel
theorem dX3_drop_15 : decode cX3_drop 15 = .ok (.ireturn, 1) := by decide +kernel
theorem dX3_drop_16 : decode cX3_drop 16 = .ok (.aload_n 0, 1) := by decide +kernel
theorem dX3_drop_17 : decode cX3_drop 17 = .ok (.iload_n 1, 1) := by decide +kernel
theorem dX3_drop_18 : decode cX3_drop 18 = .ok (.aload_n 0, 1) := by decide +kernel
theorem dX3_drop_19 : decode cX3_drop 19 = .ok (.getfield 25, 3) := by decide +kernel
theorem dX3_drop_22 : decode cX3_drop 22 = .ok (.bipush 12, 2) := by decide +kernel
theorem dX3_drop_24 : decode cX3_drop 24 = .ok (.iload_n 1, 1) := by decide +kernel
theorem dX3_drop_25 : decode cX3_drop 25 = .ok (.imul, 1) := by decide +kernel
theorem dX3_drop_26 : decode cX3_drop 26 = .ok (.iload_n 2, 1) := by decide +kernel
theorem dX3_drop_27 : decode cX3_drop 27 = .ok (.iadd, 1) := by decide +kernel
theorem dX3_drop_28 : decode cX3_drop 28 = .ok (.iaload, 1) := by decide +kernel
theorem dX3_drop_29 : decode cX3_drop 29 = .ok (.invokevirtual 120, 3) := by decide +kernel
theorem dX3_drop_32 : decode cX3_drop 32 = .ok (.aload_n 0, 1) := by decide +kernel
theorem dX3_drop_33 : decode cX3_drop 33 = .ok (.getfield 25, 3) := by decide +kernel
theorem dX3_drop_36 : decode cX3_drop 36 = .ok (.bipush 12, 2) := by decide +kernel
theorem dX3_drop_38 : decode cX3_drop 38 = .ok (.iload_n 1, 1) := by decide +kernel
theorem dX3_drop_39 : decode cX3_drop 39 = .ok (.imul, 1) := by decide +kernel
theorem dX3_drop_40 : decode cX3_drop 40 = .ok (.iload_n 2, 1) := by decide +kernel
theorem dX3_drop_41 : decode cX3_drop 41 = .ok (.iadd, 1) := by decide +kernel
theorem dX3_drop_42 : decode cX3_drop 42 = .ok (.iconst (-1), 1) := by decide +kernel
theorem dX3_drop_43 : decode cX3_drop 43 = .ok (.iastore, 1) := by decide +kernel
theorem dX3_drop_44 : decode cX3_drop 44 = .ok (.aload_n 0, 1) := by decide +kernel
theorem dX3_drop_45 : decode cX3_drop 45 = .ok (.iload_n 1, 1) := by decide +kernel
theorem dX3_drop_46 : decode cX3_drop 46 = .ok (.invokevirtual 126, 3) := by decide +kernel
theorem dX3_drop_49 : decode cX3_drop 49 = .ok (.invokestatic 130, 3) := by decide +kernel
theorem dX3_drop_52 : decode cX3_drop 52 = .ok (.ireturn, 1) := by decide +kernel
theorem dX3_rule_0 : decode cX3_rule 0 = .ok (.aload_n 0, 1) := by decide +kernel
theorem dX3_rule_1 : decode cX3_rule 1 = .ok (.iconst 0, 1) := by decide +kernel
theorem dX3_rule_2 : decode cX3_rule 2 = .ok (.putfield 65, 3) := by decide +kernel
theorem dX3_rule_5 : decode cX3_rule 5 = .ok (.aload_n 0, 1) := by decide +kernel
theorem dX3_rule_6 : decode cX3_rule 6 = .ok (.iconst 1, 1) := by decide +kernel
theorem dX3_rule_7 : decode cX3_rule 7 = .ok (.aload_n 0, 1) := by decide +kernel
theorem dX3_rule_8 : decode cX3_rule 8 = .ok (.getfield 133, 3) := by decide +kernel
theorem dX3_rule_11 : decode cX3_rule 11 = .ok (.isub, 1) := by decide +kernel
theorem dX3_rule_12 : decode cX3_rule 12 = .ok (.putfield 133, 3) := by decide +kernel
theorem dX3_rule_15 : decode cX3_rule 15 = .ok (.iconst 0, 1) := by decide +kernel
theorem dX3_rule_16 : decode cX3_rule 16 = .ok (.istore_n 1, 1) := by decide +kernel
theorem dX3_rule_17 : decode cX3_rule 17 = .ok (.iload_n 1, 1) := by decide +kernel
theorem dX3_rule_18 : decode cX3_rule 18 = .ok (.iconst 4, 1) := by decide +kernel
theorem dX3_rule_19 : decode cX3_rule 19 = .ok (.if_icmp .ge 16, 3) := by decide +kernel
theorem dX3_rule_22 : decode cX3_rule 22 = .ok (.aload_n 0, 1) := by decide +kernel
theorem dX3_rule_23 : decode cX3_rule 23 = .ok (.getfield 37, 3) := by decide +kernel
theorem dX3_rule_26 : decode cX3_rule 26 = .ok (.iload_n 1, 1) := by decide +kernel
theorem dX3_rule_27 : decode cX3_rule 27 = .ok (.iconst 0, 1) := by decide +kernel
theorem dX3_rule_28 : decode cX3_rule 28 = .ok (.iastore, 1) := by decide +kernel
theorem dX3_rule_29 : decode cX3_rule 29 = .ok (.iinc 1 1, 3) := by decide +kernel
theorem dX3_rule_32 : decode cX3_rule 32 = .ok (.goto (-15), 3) := by decide +kernel
theorem dX3_rule_35 : decode cX3_rule 35 = .ok (.aload_n 0, 1) := by decide +kernel
theorem dX3_rule_36 : decode cX3_rule 36 = .ok (.getfield 133, 3) := by decide +kernel
theorem dX3_rule_39 : decode cX3_rule 39 = .ok (.ireturn, 1) := by decide +kernel
theorem dX3_count_0 : decode cX3_count 0 = .ok (.aload_n 0, 1) := by decide +kernel
theorem dX3_count_1 : decode cX3_count 1 = .ok (.iconst 0, 1) := by decide +kernel
theorem dX3_count_2 : decode cX3_count 2 = .ok (.putfield 65, 3) := by decide +kernel
theorem dX3_count_5 : decode cX3_count 5 = .ok (.iconst 0, 1) := by decide +kernel
theorem dX3_count_6 : decode cX3_count 6 = .ok (.istore_n 2, 1) := by decide +kernel
theorem dX3_count_7 : decode cX3_count 7 = .ok (.iload_n 1, 1) := by decide +kernel
theorem dX3_count_8 : decode cX3_count 8 = .ok (.tableswitch 125 0 6 #[44, 49, 54, 59, 88, 93, 98], 44) := by decide +kernel
theorem dX3_count_52 : decode cX3_count 52 = .ok (.aload_n 0, 1) := by decide +kernel
theorem dX3_count_53 : decode cX3_count 53 = .ok (.getfield 62, 3) := by decide +kernel
theorem dX3_count_56 : decode cX3_count 56 = .ok (.ireturn, 1) := by decide +kernel
theorem dX3_count_57 : decode cX3_count 57 = .ok (.aload_n 0, 1) := by decide +kernel
theorem dX3_count_58 : decode cX3_count 58 = .ok (.getfield 72, 3) := by decide +kernel
theorem dX3_count_61 : decode cX3_count 61 = .ok (.ireturn, 1) := by decide +kernel
theorem dX3_count_62 : decode cX3_count 62 = .ok (.aload_n 0, 1) := by decide +kernel
theorem dX3_count_63 : decode cX3_count 63 = .ok (.getfield 133, 3) := by decide +kernel
theorem dX3_count_66 : decode cX3_count 66 = .ok (.ireturn, 1) := by decide +kernel
theorem dX3_count_67 : decode cX3_count 67 = .ok (.iconst 0, 1) := by decide +kernel
theorem dX3_count_68 : decode cX3_count 68 = .ok (.istore_n 3, 1) := by decide +kernel
theorem dX3_count_69 : decode cX3_count 69 = .ok (.iload_n 3, 1) := by decide +kernel
theorem dX3_count_70 : decode cX3_count 70 = .ok (.aload_n 0, 1) := by decide +kernel
theorem dX3_count_71 : decode cX3_count 71 = .ok (.getfield 72, 3) := by decide +kernel
theorem dX3_count_74 : decode cX3_count 74 = .ok (.if_icmp .ge 20, 3) := by decide +kernel
theorem dX3_count_77 : decode cX3_count 77 = .ok (.iload_n 2, 1) := by decide +kernel
theorem dX3_count_78 : decode cX3_count 78 = .ok (.aload_n 0, 1) := by decide +kernel
theorem dX3_count_79 : decode cX3_count 79 = .ok (.iload_n 3, 1) := by decide +kernel
theorem dX3_count_80 : decode cX3_count 80 = .ok (.invokevirtual 126, 3) := by decide +kernel
theorem dX3_count_83 : decode cX3_count 83 = .ok (.invokestatic 130, 3) := by decide +kernel
theorem dX3_count_86 : decode cX3_count 86 = .ok (.iadd, 1) := by decide +kernel
theorem dX3_count_87 : decode cX3_count 87 = .ok (.istore_n 2, 1) := by decide +kernel
theorem dX3_count_88 : decode cX3_count 88 = .ok (.iinc 3 1, 3) := by decide +kernel
theorem dX3_count_91 : decode cX3_count 91 = .ok (.goto (-22), 3) := by decide +kernel
theorem dX3_count_94 : decode cX3_count 94 = .ok (.iload_n 2, 1) := by decide +kernel
theorem dX3_count_95 : decode cX3_count 95 = .ok (.ireturn, 1) := by decide +kernel
theorem dX3_count_96 : decode cX3_count 96 = .ok (.aload_n 0, 1) := by decide +kernel
theorem dX3_count_97 : decode cX3_count 97 = .ok (.getfield 136, 3) := by decide +kernel
theorem dX3_count_100 : decode cX3_count 100 = .ok (.ireturn, 1) := by decide +kernel
theorem dX3_count_101 : decode cX3_count 101 = .ok (.aload_n 0, 1) := by decide +kernel
theorem dX3_count_102 : decode cX3_count 102 = .ok (.getfield 139, 3) := by decide +kernel
theorem dX3_count_105 : decode cX3_count 105 = .ok (.ireturn, 1) := by decide +kernel
theorem dX3_count_106 : decode cX3_count 106 = .ok (.iconst 0, 1) := by decide +kernel
theorem dX3_count_107 : decode cX3_count 107 = .ok (.istore_n 3, 1) := by decide +kernel
theorem dX3_count_108 : decode cX3_count 108 = .ok (.iload_n 3, 1) := by decide +kernel
theorem dX3_count_109 : decode cX3_count 109 = .ok (.aload_n 0, 1) := by decide +kernel
theorem dX3_count_110 : decode cX3_count 110 = .ok (.getfield 72, 3) := by decide +kernel
theorem dX3_count_113 : decode cX3_count 113 = .ok (.if_icmp .ge 18, 3) := by decide +kernel
theorem dX3_count_116 : decode cX3_count 116 = .ok (.iload_n 2, 1) := by decide +kernel
theorem dX3_count_117 : decode cX3_count 117 = .ok (.aload_n 0, 1) := by decide +kernel
theorem dX3_count_118 : decode cX3_count 118 = .ok (.getfield 37, 3) := by decide +kernel
theorem dX3_count_121 : decode cX3_count 121 = .ok (.iload_n 3, 1) := by decide +kernel
theorem dX3_count_122 : decode cX3_count 122 = .ok (.iaload, 1) := by decide +kernel
theorem dX3_count_123 : decode cX3_count 123 = .ok (.iadd, 1) := by decide +kernel
theorem dX3_count_124 : decode cX3_count 124 = .ok (.istore_n 2, 1) := by decide +kernel
theorem dX3_count_125 : decode cX3_count 125 = .ok (.iinc 3 1, 3) := by decide +kernel
theorem dX3_count_128 : decode cX3_count 128 = .ok (.goto (-20), 3) := by decide +kernel
theorem dX3_count_131 : decode cX3_count 131 = .ok (.iload_n 2, 1) := by decide +kernel
theorem dX3_count_132 : decode cX3_count 132 = .ok (.ireturn, 1) := by decide +kernel
theorem dX3_count_133 : decode cX3_count 133 = .ok (.iconst (-1), 1) := by decide +kernel
theorem dX3_count_134 : decode cX3_count 134 = .ok (.ireturn, 1) := by decide +kernel
theorem dX3_whatOf_0 : decode cX3_whatOf 0 = .ok (.aload_n 0, 1) := by decide +kernel
theorem dX3_whatOf_1 : decode cX3_whatOf 1 = .ok (.getfield 49, 3) := by decide +kernel
theorem dX3_whatOf_4 : decode cX3_whatOf 4 = .ok (.iconst (-1), 1) := by decide +kernel
theorem dX3_whatOf_5 : decode cX3_whatOf 5 = .ok (.if_icmp .eq 18, 3) := by decide +kernel
theorem dX3_whatOf_8 : decode cX3_whatOf 8 = .ok (.iload_n 2, 1) := by decide +kernel
theorem dX3_whatOf_9 : decode cX3_whatOf 9 = .ok (.aload_n 0, 1) := by decide +kernel
theorem dX3_whatOf_10 : decode cX3_whatOf 10 = .ok (.getfield 142, 3) := by decide +kernel
theorem dX3_whatOf_13 : decode cX3_whatOf 13 = .ok (.if_icmp .ne 10, 3) := by decide +kernel
theorem dX3_whatOf_16 : decode cX3_whatOf 16 = .ok (.aload_n 0, 1) := by decide +kernel
theorem dX3_whatOf_17 : decode cX3_whatOf 17 = .ok (.getfield 49, 3) := by decide +kernel
theorem dX3_whatOf_20 : decode cX3_whatOf 20 = .ok (.goto 14, 3) := by decide +kernel
theorem dX3_whatOf_23 : decode cX3_whatOf 23 = .ok (.aload_n 0, 1) := by decide +kernel
theorem dX3_whatOf_24 : decode cX3_whatOf 24 = .ok (.getfield 25, 3) := by decide +kernel
theorem dX3_whatOf_27 : decode cX3_whatOf 27 = .ok (.bipush 12, 2) := by decide +kernel
theorem dX3_whatOf_29 : decode cX3_whatOf 29 = .ok (.iload_n 1, 1) := by decide +kernel
theorem dX3_whatOf_30 : decode cX3_whatOf 30 = .ok (.imul, 1) := by decide +kernel
theorem dX3_whatOf_31 : decode cX3_whatOf 31 = .ok (.iload_n 2, 1) := by decide +kernel
theorem dX3_whatOf_32 : decode cX3_whatOf 32 = .ok (.iadd, 1) := by decide +kernel
theorem dX3_whatOf_33 : decode cX3_whatOf 33 = .ok (.iaload, 1) := by decide +kernel
theorem dX3_whatOf_34 : decode cX3_whatOf 34 = .ok (.ireturn, 1) := by decide +kernel
theorem dX3_applicableTo_0 : decode cX3_applicableTo 0 = .ok (.iconst 0, 1) := by decide +kernel
theorem dX3_applicableTo_1 : decode cX3_applicableTo 1 = .ok (.istore_n 3, 1) := by decide +kernel
theorem dX3_applicableTo_2 : decode cX3_applicableTo 2 = .ok (.iconst 0, 1) := by decide +kernel
theorem dX3_applicableTo_3 : decode cX3_applicableTo 3 = .ok (.istore 4, 2) := by decide +kernel
theorem dX3_applicableTo_5 : decode cX3_applicableTo 5 = .ok (.iload 4, 2) := by decide +kernel
theorem dX3_applicableTo_7 : decode cX3_applicableTo 7 = .ok (.bipush 12, 2) := by decide +kernel
theorem dX3_applicableTo_9 : decode cX3_applicableTo 9 = .ok (.if_icmp .ge 57, 3) := by decide +kernel
theorem dX3_applicableTo_12 : decode cX3_applicableTo 12 = .ok (.iload_n 3, 1) := by decide +kernel
theorem dX3_applicableTo_13 : decode cX3_applicableTo 13 = .ok (.aload_n 0, 1) := by decide +kernel
theorem dX3_applicableTo_14 : decode cX3_applicableTo 14 = .ok (.getfield 25, 3) := by decide +kernel
theorem dX3_applicableTo_17 : decode cX3_applicableTo 17 = .ok (.bipush 12, 2) := by decide +kernel
theorem dX3_applicableTo_19 : decode cX3_applicableTo 19 = .ok (.iload_n 1, 1) := by decide +kernel
theorem dX3_applicableTo_20 : decode cX3_applicableTo 20 = .ok (.imul, 1) := by decide +kernel
theorem dX3_applicableTo_21 : decode cX3_applicableTo 21 = .ok (.iload 4, 2) := by decide +kernel
theorem dX3_applicableTo_23 : decode cX3_applicableTo 23 = .ok (.iadd, 1) := by decide +kernel
theorem dX3_applicableTo_24 : decode cX3_applicableTo 24 = .ok (.iaload, 1) := by decide +kernel
theorem dX3_applicableTo_25 : decode cX3_applicableTo 25 = .ok (.iconst (-1), 1) := by decide +kernel
theorem dX3_applicableTo_26 : decode cX3_applicableTo 26 = .ok (.if_icmp .eq 31, 3) := by decide +kernel
theorem dX3_applicableTo_29 : decode cX3_applicableTo 29 = .ok (.aload_n 0, 1) := by decide +kernel
theorem dX3_applicableTo_30 : decode cX3_applicableTo 30 = .ok (.iload_n 1, 1) := by decide +kernel
theorem dX3_applicableTo_31 : decode cX3_applicableTo 31 = .ok (.iload_n 2, 1) := by decide +kernel
theorem dX3_applicableTo_32 : decode cX3_applicableTo 32 = .ok (.aload_n 0, 1) := by decide +kernel
theorem dX3_applicableTo_33 : decode cX3_applicableTo 33 = .ok (.getfield 25, 3) := by decide +kernel
theorem dX3_applicableTo_36 : decode cX3_applicableTo 36 = .ok (.bipush 12, 2) := by decide +kernel
theorem dX3_applicableTo_38 : decode cX3_applicableTo 38 = .ok (.iload_n 1, 1) := by decide +kernel
theorem dX3_applicableTo_39 : decode cX3_applicableTo 39 = .ok (.imul, 1) := by decide +kernel
theorem dX3_applicableTo_40 : decode cX3_applicableTo 40 = .ok (.iload 4, 2) := by decide +kernel
theorem dX3_applicableTo_42 : decode cX3_applicableTo 42 = .ok (.iadd, 1) := by decide +kernel
theorem dX3_applicableTo_43 : decode cX3_applicableTo 43 = .ok (.iaload, 1) := by decide +kernel
theorem dX3_applicableTo_44 : decode cX3_applicableTo 44 = .ok (.invokevirtual 111, 3) := by decide +kernel
theorem dX3_applicableTo_47 : decode cX3_applicableTo 47 = .ok (.ifCond .eq 10, 3) := by decide +kernel
theorem dX3_applicableTo_50 : decode cX3_applicableTo 50 = .ok (.iconst 1, 1) := by decide +kernel
theorem dX3_applicableTo_51 : decode cX3_applicableTo 51 = .ok (.iload 4, 2) := by decide +kernel
theorem dX3_applicableTo_53 : decode cX3_applicableTo 53 = .ok (.ishl, 1) := by decide +kernel
theorem dX3_applicableTo_54 : decode cX3_applicableTo 54 = .ok (.goto 4, 3) := by decide +kernel
theorem dX3_applicableTo_57 : decode cX3_applicableTo 57 = .ok (.iconst 0, 1) := by decide +kernel
theorem dX3_applicableTo_58 : decode cX3_applicableTo 58 = .ok (.ior, 1) := by decide +kernel
theorem dX3_applicableTo_59 : decode cX3_applicableTo 59 = .ok (.istore_n 3, 1) := by decide +kernel
theorem dX3_applicableTo_60 : decode cX3_applicableTo 60 = .ok (.iinc 4 1, 3) := by decide +kernel
theorem dX3_applicableTo_63 : decode cX3_applicableTo 63 = .ok (.goto (-58), 3) := by decide +kernel
theorem dX3_applicableTo_66 : decode cX3_applicableTo 66 = .ok (.aload_n 0, 1) := by decide +kernel
theorem dX3_applicableTo_67 : decode cX3_applicableTo 67 = .ok (.getfield 49, 3) := by decide +kernel
theorem dX3_applicableTo_70 : decode cX3_applicableTo 70 = .ok (.iconst (-1), 1) := by decide +kernel
theorem dX3_applicableTo_71 : decode cX3_applicableTo 71 = .ok (.if_icmp .eq 27, 3) := by decide +kernel
theorem dX3_applicableTo_74 : decode cX3_applicableTo 74 = .ok (.aload_n 0, 1) := by decide +kernel
theorem dX3_applicableTo_75 : decode cX3_applicableTo 75 = .ok (.iload_n 1, 1) := by decide +kernel
theorem dX3_applicableTo_76 : decode cX3_applicableTo 76 = .ok (.iload_n 2, 1) := by decide +kernel
theorem dX3_applicableTo_77 : decode cX3_applicableTo 77 = .ok (.aload_n 0, 1) := by decide +kernel
theorem dX3_applicableTo_78 : decode cX3_applicableTo 78 = .ok (.getfield 49, 3) := by decide +kernel
theorem dX3_applicableTo_81 : decode cX3_applicableTo 81 = .ok (.invokevirtual 111, 3) := by decide +kernel
theorem dX3_applicableTo_84 : decode cX3_applicableTo 84 = .ok (.ifCond .eq 14, 3) := by decide +kernel
theorem dX3_applicableTo_87 : decode cX3_applicableTo 87 = .ok (.iload_n 3, 1) := by decide +kernel
theorem dX3_applicableTo_88 : decode cX3_applicableTo 88 = .ok (.iconst 1, 1) := by decide +kernel
theorem dX3_applicableTo_89 : decode cX3_applicableTo 89 = .ok (.aload_n 0, 1) := by decide +kernel
theorem dX3_applicableTo_90 : decode cX3_applicableTo 90 = .ok (.getfield 142, 3) := by decide +kernel
theorem dX3_applicableTo_93 : decode cX3_applicableTo 93 = .ok (.ishl, 1) := by decide +kernel
theorem dX3_applicableTo_94 : decode cX3_applicableTo 94 = .ok (.ior, 1) := by decide +kernel
theorem dX3_applicableTo_95 : decode cX3_applicableTo 95 = .ok (.goto 4, 3) := by decide +kernel
theorem dX3_applicableTo_98 : decode cX3_applicableTo 98 = .ok (.iload_n 3, 1) := by decide +kernel
theorem dX3_applicableTo_99 : decode cX3_applicableTo 99 = .ok (.ireturn, 1) := by decide +kernel
theorem dX3_isAhead_0 : decode cX3_isAhead 0 = .ok (.iconst 0, 1) := by decide +kernel
theorem dX3_isAhead_1 : decode cX3_isAhead 1 = .ok (.istore 5, 2) := by decide +kernel
theorem dX3_isAhead_3 : decode cX3_isAhead 3 = .ok (.iload 5, 2) := by decide +kernel
theorem dX3_isAhead_5 : decode cX3_isAhead 5 = .ok (.aload_n 0, 1) := by decide +kernel
theorem dX3_isAhead_6 : decode cX3_isAhead 6 = .ok (.getfield 22, 3) := by decide +kernel
theorem dX3_isAhead_9 : decode cX3_isAhead 9 = .ok (.iload_n 1, 1) := by decide +kernel
theorem dX3_isAhead_10 : decode cX3_isAhead 10 = .ok (.iaload, 1) := by decide +kernel
theorem dX3_isAhead_11 : decode cX3_isAhead 11 = .ok (.if_icmp .ge 86, 3) := by decide +kernel
theorem dX3_isAhead_14 : decode cX3_isAhead 14 = .ok (.aload_n 0, 1) := by decide +kernel
theorem dX3_isAhead_15 : decode cX3_isAhead 15 = .ok (.iload_n 1, 1) := by decide +kernel
theorem dX3_isAhead_16 : decode cX3_isAhead 16 = .ok (.iload_n 3, 1) := by decide +kernel
theorem dX3_isAhead_17 : decode cX3_isAhead 17 = .ok (.invokevirtual 145, 3) := by decide +kernel
theorem dX3_isAhead_20 : decode cX3_isAhead 20 = .ok (.iload 5, 2) := by decide +kernel
theorem dX3_isAhead_22 : decode cX3_isAhead 22 = .ok (.invokestatic 107, 3) := by decide +kernel
theorem dX3_isAhead_25 : decode cX3_isAhead 25 = .ok (.istore 6, 2) := by decide +kernel
theorem dX3_isAhead_27 : decode cX3_isAhead 27 = .ok (.aload_n 0, 1) := by decide +kernel
theorem dX3_isAhead_28 : decode cX3_isAhead 28 = .ok (.iload_n 1, 1) := by decide +kernel
theorem dX3_isAhead_29 : decode cX3_isAhead 29 = .ok (.iload 4, 2) := by decide +kernel
theorem dX3_isAhead_31 : decode cX3_isAhead 31 = .ok (.invokevirtual 145, 3) := by decide +kernel
theorem dX3_isAhead_34 : decode cX3_isAhead 34 = .ok (.iload 5, 2) := by decide +kernel
theorem dX3_isAhead_36 : decode cX3_isAhead 36 = .ok (.invokestatic 107, 3) := by decide +kernel
theorem dX3_isAhead_39 : decode cX3_isAhead 39 = .ok (.istore 7, 2) := by decide +kernel
theorem dX3_isAhead_41 : decode cX3_isAhead 41 = .ok (.iload 6, 2) := by decide +kernel
theorem dX3_isAhead_43 : decode cX3_isAhead 43 = .ok (.iload 7, 2) := by decide +kernel
theorem dX3_isAhead_45 : decode cX3_isAhead 45 = .ok (.if_icmp .eq 46, 3) := by decide +kernel
theorem dX3_isAhead_48 : decode cX3_isAhead 48 = .ok (.aload_n 0, 1) := by decide +kernel
theorem dX3_isAhead_49 : decode cX3_isAhead 49 = .ok (.getfield 19, 3) := by decide +kernel
theorem dX3_isAhead_52 : decode cX3_isAhead 52 = .ok (.bipush 16, 2) := by decide +kernel
theorem dX3_isAhead_54 : decode cX3_isAhead 54 = .ok (.iload_n 2, 1) := by decide +kernel
theorem dX3_isAhead_55 : decode cX3_isAhead 55 = .ok (.iload 5, 2) := by decide +kernel
theorem dX3_isAhead_57 : decode cX3_isAhead 57 = .ok (.invokestatic 107, 3) := by decide +kernel
theorem dX3_isAhead_60 : decode cX3_isAhead 60 = .ok (.imul, 1) := by decide +kernel
theorem dX3_isAhead_61 : decode cX3_isAhead 61 = .ok (.iload 6, 2) := by decide +kernel
theorem dX3_isAhead_63 : decode cX3_isAhead 63 = .ok (.iadd, 1) := by decide +kernel
theorem dX3_isAhead_64 : decode cX3_isAhead 64 = .ok (.iaload, 1) := by decide +kernel
theorem dX3_isAhead_65 : decode cX3_isAhead 65 = .ok (.aload_n 0, 1) := by decide +kernel
theorem dX3_isAhead_66 : decode cX3_isAhead 66 = .ok (.getfield 19, 3) := by decide +kernel
theorem dX3_isAhead_69 : decode cX3_isAhead 69 = .ok (.bipush 16, 2) := by decide +kernel
theorem dX3_isAhead_71 : decode cX3_isAhead 71 = .ok (.iload_n 2, 1) := by decide +kernel
theorem dX3_isAhead_72 : decode cX3_isAhead 72 = .ok (.iload 5, 2) := by decide +kernel
theorem dX3_isAhead_74 : decode cX3_isAhead 74 = .ok (.invokestatic 107, 3) := by decide +kernel
theorem dX3_isAhead_77 : decode cX3_isAhead 77 = .ok (.imul, 1) := by decide +kernel
theorem dX3_isAhead_78 : decode cX3_isAhead 78 = .ok (.iload 7, 2) := by decide +kernel
theorem dX3_isAhead_80 : decode cX3_isAhead 80 = .ok (.iadd, 1) := by decide +kernel
theorem dX3_isAhead_81 : decode cX3_isAhead 81 = .ok (.iaload, 1) := by decide +kernel
theorem dX3_isAhead_82 : decode cX3_isAhead 82 = .ok (.if_icmp .ge 7, 3) := by decide +kernel
theorem dX3_isAhead_85 : decode cX3_isAhead 85 = .ok (.iconst 1, 1) := by decide +kernel
theorem dX3_isAhead_86 : decode cX3_isAhead 86 = .ok (.goto 4, 3) := by decide +kernel
theorem dX3_isAhead_89 : decode cX3_isAhead 89 = .ok (.iconst 0, 1) := by decide +kernel
theorem dX3_isAhead_90 : decode cX3_isAhead 90 = .ok (.ireturn, 1) := by decide +kernel
theorem dX3_isAhead_91 : decode cX3_isAhead 91 = .ok (.iinc 5 1, 3) := by decide +kernel
theorem dX3_isAhead_94 : decode cX3_isAhead 94 = .ok (.goto (-91), 3) := by decide +kernel
theorem dX3_isAhead_97 : decode cX3_isAhead 97 = .ok (.iconst 0, 1) := by decide +kernel
theorem dX3_isAhead_98 : decode cX3_isAhead 98 = .ok (.ireturn, 1) := by decide +kernel
theorem dX3_firstOf_0 : decode cX3_firstOf 0 = .ok (.iload_n 3, 1) := by decide +kernel
theorem dX3_firstOf_1 : decode cX3_firstOf 1 = .ok (.ifCond .ne 5, 3) := by decide +kernel
theorem dX3_firstOf_4 : decode cX3_firstOf 4 = .ok (.iconst (-1), 1) := by decide +kernel
theorem dX3_firstOf_5 : decode cX3_firstOf 5 = .ok (.ireturn, 1) := by decide +kernel
theorem dX3_firstOf_6 : decode cX3_firstOf 6 = .ok (.iconst 0, 1) := by decide +kernel
theorem dX3_firstOf_7 : decode cX3_firstOf 7 = .ok (.istore 5, 2) := by decide +kernel
theorem dX3_firstOf_9 : decode cX3_firstOf 9 = .ok (.iload 5, 2) := by decide +kernel
theorem dX3_firstOf_11 : decode cX3_firstOf 11 = .ok (.bipush 12, 2) := by decide +kernel
theorem dX3_firstOf_13 : decode cX3_firstOf 13 = .ok (.if_icmp .gt 119, 3) := by decide +kernel
theorem dX3_firstOf_16 : decode cX3_firstOf 16 = .ok (.iload_n 3, 1) := by decide +kernel
theorem dX3_firstOf_17 : decode cX3_firstOf 17 = .ok (.iload 5, 2) := by decide +kernel
theorem dX3_firstOf_19 : decode cX3_firstOf 19 = .ok (.invokestatic 97, 3) := by decide +kernel
theorem dX3_firstOf_22 : decode cX3_firstOf 22 = .ok (.ifCond .ne 6, 3) := by decide +kernel
theorem dX3_firstOf_25 : decode cX3_firstOf 25 = .ok (.goto 101, 3) := by decide +kernel
theorem dX3_firstOf_28 : decode cX3_firstOf 28 = .ok (.iconst 1, 1) := by decide +kernel
theorem dX3_firstOf_29 : decode cX3_firstOf 29 = .ok (.istore 6, 2) := by decide +kernel
theorem dX3_firstOf_31 : decode cX3_firstOf 31 = .ok (.iconst 0, 1) := by decide +kernel
theorem dX3_firstOf_32 : decode cX3_firstOf 32 = .ok (.istore 7, 2) := by decide +kernel
theorem dX3_firstOf_34 : decode cX3_firstOf 34 = .ok (.iload 7, 2) := by decide +kernel
theorem dX3_firstOf_36 : decode cX3_firstOf 36 = .ok (.bipush 12, 2) := by decide +kernel
theorem dX3_firstOf_38 : decode cX3_firstOf 38 = .ok (.if_icmp .gt 80, 3) := by decide +kernel
theorem dX3_firstOf_41 : decode cX3_firstOf 41 = .ok (.iload 6, 2) := by decide +kernel
theorem dX3_firstOf_43 : decode cX3_firstOf 43 = .ok (.ifCond .eq 75, 3) := by decide +kernel
theorem dX3_firstOf_46 : decode cX3_firstOf 46 = .ok (.iload_n 3, 1) := by decide +kernel
theorem dX3_firstOf_47 : decode cX3_firstOf 47 = .ok (.iload 7, 2) := by decide +kernel
theorem dX3_firstOf_49 : decode cX3_firstOf 49 = .ok (.invokestatic 97, 3) := by decide +kernel
theorem dX3_firstOf_52 : decode cX3_firstOf 52 = .ok (.ifCond .eq 53, 3) := by decide +kernel
theorem dX3_firstOf_55 : decode cX3_firstOf 55 = .ok (.iload 7, 2) := by decide +kernel
theorem dX3_firstOf_57 : decode cX3_firstOf 57 = .ok (.iload 5, 2) := by decide +kernel
theorem dX3_firstOf_59 : decode cX3_firstOf 59 = .ok (.if_icmp .eq 46, 3) := by decide +kernel
theorem dX3_firstOf_62 : decode cX3_firstOf 62 = .ok (.iload 4, 2) := by decide +kernel
theorem dX3_firstOf_64 : decode cX3_firstOf 64 = .ok (.ifCond .ne 28, 3) := by decide +kernel
theorem dX3_firstOf_67 : decode cX3_firstOf 67 = .ok (.aload_n 0, 1) := by decide +kernel
theorem dX3_firstOf_68 : decode cX3_firstOf 68 = .ok (.iload_n 1, 1) := by decide +kernel
theorem dX3_firstOf_69 : decode cX3_firstOf 69 = .ok (.aload_n 0, 1) := by decide +kernel
theorem dX3_firstOf_70 : decode cX3_firstOf 70 = .ok (.iload_n 1, 1) := by decide +kernel
theorem dX3_firstOf_71 : decode cX3_firstOf 71 = .ok (.iload 5, 2) := by decide +kernel
theorem dX3_firstOf_73 : decode cX3_firstOf 73 = .ok (.invokevirtual 145, 3) := by decide +kernel
theorem dX3_firstOf_76 : decode cX3_firstOf 76 = .ok (.aload_n 0, 1) := by decide +kernel
theorem dX3_firstOf_77 : decode cX3_firstOf 77 = .ok (.iload_n 1, 1) := by decide +kernel
theorem dX3_firstOf_78 : decode cX3_firstOf 78 = .ok (.iload 7, 2) := by decide +kernel
theorem dX3_firstOf_80 : decode cX3_firstOf 80 = .ok (.invokevirtual 145, 3) := by decide +kernel
theorem dX3_firstOf_83 : decode cX3_firstOf 83 = .ok (.invokevirtual 111, 3) := by decide +kernel
theorem dX3_firstOf_86 : decode cX3_firstOf 86 = .ok (.ifCond .eq 23, 3) := by decide +kernel
theorem dX3_firstOf_89 : decode cX3_firstOf 89 = .ok (.goto 16, 3) := by decide +kernel
theorem dX3_firstOf_92 : decode cX3_firstOf 92 = .ok (.aload_n 0, 1) := by decide +kernel
theorem dX3_firstOf_93 : decode cX3_firstOf 93 = .ok (.iload_n 1, 1) := by decide +kernel
theorem dX3_firstOf_94 : decode cX3_firstOf 94 = .ok (.iload_n 2, 1) := by decide +kernel
theorem dX3_firstOf_95 : decode cX3_firstOf 95 = .ok (.iload 5, 2) := by decide +kernel
theorem dX3_firstOf_97 : decode cX3_firstOf 97 = .ok (.iload 7, 2) := by decide +kernel
theorem dX3_firstOf_99 : decode cX3_firstOf 99 = .ok (.invokevirtual 148, 3) := by decide +kernel
theorem dX3_firstOf_102 : decode cX3_firstOf 102 = .ok (.ifCond .eq 7, 3) := by decide +kernel
theorem dX3_firstOf_105 : decode cX3_firstOf 105 = .ok (.iconst 1, 1) := by decide +kernel
theorem dX3_firstOf_106 : decode cX3_firstOf 106 = .ok (.goto 4, 3) := by decide +kernel
theorem dX3_firstOf_109 : decode cX3_firstOf 109 = .ok (.iconst 0, 1) := by decide +kernel
theorem dX3_firstOf_110 : decode cX3_firstOf 110 = .ok (.istore 6, 2) := by decide +kernel
theorem dX3_firstOf_112 : decode cX3_firstOf 112 = .ok (.iinc 7 1, 3) := by decide +kernel
theorem dX3_firstOf_115 : decode cX3_firstOf 115 = .ok (.goto (-81), 3) := by decide +kernel
theorem dX3_firstOf_118 : decode cX3_firstOf 118 = .ok (.iload 6, 2) := by decide +kernel
theorem dX3_firstOf_120 : decode cX3_firstOf 120 = .ok (.ifCond .eq 6, 3) := by decide +kernel
theorem dX3_firstOf_123 : decode cX3_firstOf 123 = .ok (.iload 5, 2) := by decide +kernel
theorem dX3_firstOf_125 : decode cX3_firstOf 125 = .ok (.ireturn, 1) := by decide +kernel
theorem dX3_firstOf_126 : decode cX3_firstOf 126 = .ok (.iinc 5 1, 3) := by decide +kernel
theorem dX3_firstOf_129 : decode cX3_firstOf 129 = .ok (.goto (-120), 3) := by decide +kernel
theorem dX3_firstOf_132 : decode cX3_firstOf 132 = .ok (.bipush (-2), 2) := by decide +kernel
theorem dX3_firstOf_134 : decode cX3_firstOf 134 = .ok (.ireturn, 1) := by decide +kernel
theorem dX3_answerOf_0 : decode cX3_answerOf 0 = .ok (.aload_n 0, 1) := by decide +kernel
theorem dX3_answerOf_1 : decode cX3_answerOf 1 = .ok (.iload_n 1, 1) := by decide +kernel
theorem dX3_answerOf_2 : decode cX3_answerOf 2 = .ok (.iload_n 2, 1) := by decide +kernel
theorem dX3_answerOf_3 : decode cX3_answerOf 3 = .ok (.aload_n 0, 1) := by decide +kernel
theorem dX3_answerOf_4 : decode cX3_answerOf 4 = .ok (.iload_n 1, 1) := by decide +kernel
theorem dX3_answerOf_5 : decode cX3_answerOf 5 = .ok (.iload_n 2, 1) := by decide +kernel
theorem dX3_answerOf_6 : decode cX3_answerOf 6 = .ok (.invokevirtual 152, 3) := by decide +kernel
theorem dX3_answerOf_9 : decode cX3_answerOf 9 = .ok (.iload_n 3, 1) := by decide +kernel
theorem dX3_answerOf_10 : decode cX3_answerOf 10 = .ok (.invokevirtual 155, 3) := by decide +kernel
theorem dX3_answerOf_13 : decode cX3_answerOf 13 = .ok (.ireturn, 1) := by decide +kernel
theorem dX3_answer_0 : decode cX3_answer 0 = .ok (.aload_n 0, 1) := by decide +kernel
theorem dX3_answer_1 : decode cX3_answer 1 = .ok (.iconst 0, 1) := by decide +kernel
theorem dX3_answer_2 : decode cX3_answer 2 = .ok (.putfield 65, 3) := by decide +kernel
theorem dX3_answer_5 : decode cX3_answer 5 = .ok (.aload_n 0, 1) := by decide +kernel
theorem dX3_answer_6 : decode cX3_answer 6 = .ok (.iload_n 1, 1) := by decide +kernel
theorem dX3_answer_7 : decode cX3_answer 7 = .ok (.iload_n 2, 1) := by decide +kernel
theorem dX3_answer_8 : decode cX3_answer 8 = .ok (.invokevirtual 114, 3) := by decide +kernel
theorem dX3_answer_11 : decode cX3_answer 11 = .ok (.ifCond .eq 16, 3) := by decide +kernel
theorem dX3_answer_14 : decode cX3_answer 14 = .ok (.aload_n 0, 1) := by decide +kernel
theorem dX3_answer_15 : decode cX3_answer 15 = .ok (.iload_n 1, 1) := by decide +kernel
theorem dX3_answer_16 : decode cX3_answer 16 = .ok (.iload_n 2, 1) := by decide +kernel
theorem dX3_answer_17 : decode cX3_answer 17 = .ok (.aload_n 0, 1) := by decide +kernel
theorem dX3_answer_18 : decode cX3_answer 18 = .ok (.getfield 133, 3) := by decide +kernel
theorem dX3_answer_21 : decode cX3_answer 21 = .ok (.invokevirtual 159, 3) := by decide +kernel
theorem dX3_answer_24 : decode cX3_answer 24 = .ok (.goto 5, 3) := by decide +kernel
theorem dX3_answer_27 : decode cX3_answer 27 = .ok (.bipush (-3), 2) := by decide +kernel
theorem dX3_answer_29 : decode cX3_answer 29 = .ok (.ireturn, 1) := by decide +kernel
theorem dX3_call_0 : decode cX3_call 0 = .ok (.aload_n 0, 1) := by decide +kernel
theorem dX3_call_1 : decode cX3_call 1 = .ok (.iconst 0, 1) := by decide +kernel
theorem dX3_call_2 : decode cX3_call 2 = .ok (.putfield 65, 3) := by decide +kernel
theorem dX3_call_5 : decode cX3_call 5 = .ok (.aload_n 0, 1) := by decide +kernel
theorem dX3_call_6 : decode cX3_call 6 = .ok (.iload_n 1, 1) := by decide +kernel
theorem dX3_call_7 : decode cX3_call 7 = .ok (.iload_n 2, 1) := by decide +kernel
theorem dX3_call_8 : decode cX3_call 8 = .ok (.invokevirtual 114, 3) := by decide +kernel
theorem dX3_call_11 : decode cX3_call 11 = .ok (.ifCond .ne 6, 3) := by decide +kernel
theorem dX3_call_14 : decode cX3_call 14 = .ok (.bipush (-3), 2) := by decide +kernel
theorem dX3_call_16 : decode cX3_call 16 = .ok (.ireturn, 1) := by decide +kernel
theorem dX3_call_17 : decode cX3_call 17 = .ok (.bipush 6, 2) := by decide +kernel
theorem dX3_call_19 : decode cX3_call 19 = .ok (.iload_n 1, 1) := by decide +kernel
theorem dX3_call_20 : decode cX3_call 20 = .ok (.imul, 1) := by decide +kernel
theorem dX3_call_21 : decode cX3_call 21 = .ok (.istore_n 3, 1) := by decide +kernel
theorem dX3_call_22 : decode cX3_call 22 = .ok (.iconst 0, 1) := by decide +kernel
theorem dX3_call_23 : decode cX3_call 23 = .ok (.istore 4, 2) := by decide +kernel
theorem dX3_call_25 : decode cX3_call 25 = .ok (.iload 4, 2) := by decide +kernel
theorem dX3_call_27 : decode cX3_call 27 = .ok (.aload_n 0, 1) := by decide +kernel
theorem dX3_call_28 : decode cX3_call 28 = .ok (.getfield 37, 3) := by decide +kernel
theorem dX3_call_31 : decode cX3_call 31 = .ok (.iload_n 1, 1) := by decide +kernel
theorem dX3_call_32 : decode cX3_call 32 = .ok (.iaload, 1) := by decide +kernel
theorem dX3_call_33 : decode cX3_call 33 = .ok (.if_icmp .ge 22, 3) := by decide +kernel
theorem dX3_call_36 : decode cX3_call 36 = .ok (.aload_n 0, 1) := by decide +kernel
theorem dX3_call_37 : decode cX3_call 37 = .ok (.getfield 34, 3) := by decide +kernel
theorem dX3_call_40 : decode cX3_call 40 = .ok (.iload_n 3, 1) := by decide +kernel
theorem dX3_call_41 : decode cX3_call 41 = .ok (.iload 4, 2) := by decide +kernel
theorem dX3_call_43 : decode cX3_call 43 = .ok (.iadd, 1) := by decide +kernel
theorem dX3_call_44 : decode cX3_call 44 = .ok (.iaload, 1) := by decide +kernel
theorem dX3_call_45 : decode cX3_call 45 = .ok (.iload_n 2, 1) := by decide +kernel
theorem dX3_call_46 : decode cX3_call 46 = .ok (.if_icmp .eq 9, 3) := by decide +kernel
theorem dX3_call_49 : decode cX3_call 49 = .ok (.iinc 4 1, 3) := by decide +kernel
theorem dX3_call_52 : decode cX3_call 52 = .ok (.goto (-27), 3) := by decide +kernel
theorem dX3_call_55 : decode cX3_call 55 = .ok (.iload 4, 2) := by decide +kernel
theorem dX3_call_57 : decode cX3_call 57 = .ok (.aload_n 0, 1) := by decide +kernel
theorem dX3_call_58 : decode cX3_call 58 = .ok (.getfield 37, 3) := by decide +kernel
theorem dX3_call_61 : decode cX3_call 61 = .ok (.iload_n 1, 1) := by decide +kernel
theorem dX3_call_62 : decode cX3_call 62 = .ok (.iaload, 1) := by decide +kernel
theorem dX3_call_63 : decode cX3_call 63 = .ok (.if_icmp .ge 16, 3) := by decide +kernel
theorem dX3_call_66 : decode cX3_call 66 = .ok (.aload_n 0, 1) := by decide +kernel
theorem dX3_call_67 : decode cX3_call 67 = .ok (.dup, 1) := by decide +kernel
theorem dX3_call_68 : decode cX3_call 68 = .ok (.getfield 136, 3) := by decide +kernel
theorem dX3_call_71 : decode cX3_call 71 = .ok (.iconst 1, 1) := by decide +kernel
theorem dX3_call_72 : decode cX3_call 72 = .ok (.iadd, 1) := by decide +kernel
theorem dX3_call_73 : decode cX3_call 73 = .ok (.putfield 136, 3) := by decide +kernel
theorem dX3_call_76 : decode cX3_call 76 = .ok (.goto 66, 3) := by decide +kernel
theorem dX3_call_79 : decode cX3_call 79 = .ok (.aload_n 0, 1) := by decide +kernel
theorem dX3_call_80 : decode cX3_call 80 = .ok (.dup, 1) := by decide +kernel
theorem dX3_call_81 : decode cX3_call 81 = .ok (.getfield 139, 3) := by decide +kernel
theorem dX3_call_84 : decode cX3_call 84 = .ok (.iconst 1, 1) := by decide +kernel
theorem dX3_call_85 : decode cX3_call 85 = .ok (.iadd, 1) := by decide +kernel
theorem dX3_call_86 : decode cX3_call 86 = .ok (.putfield 139, 3) := by decide +kernel
theorem dX3_call_89 : decode cX3_call 89 = .ok (.aload_n 0, 1) := by decide +kernel
theorem dX3_call_90 : decode cX3_call 90 = .ok (.getfield 37, 3) := by decide +kernel
theorem dX3_call_93 : decode cX3_call 93 = .ok (.iload_n 1, 1) := by decide +kernel
theorem dX3_call_94 : decode cX3_call 94 = .ok (.iaload, 1) := by decide +kernel
theorem dX3_call_95 : decode cX3_call 95 = .ok (.bipush 6, 2) := by decide +kernel
theorem dX3_call_97 : decode cX3_call 97 = .ok (.if_icmp .ne 7, 3) := by decide +kernel
theorem dX3_call_100 : decode cX3_call 100 = .ok (.iconst 0, 1) := by decide +kernel
theorem dX3_call_101 : decode cX3_call 101 = .ok (.goto 9, 3) := by decide +kernel
theorem dX3_call_104 : decode cX3_call 104 = .ok (.aload_n 0, 1) := by decide +kernel
theorem dX3_call_105 : decode cX3_call 105 = .ok (.getfield 37, 3) := by decide +kernel
theorem dX3_call_108 : decode cX3_call 108 = .ok (.iload_n 1, 1) := by decide +kernel
theorem dX3_call_109 : decode cX3_call 109 = .ok (.iaload, 1) := by decide +kernel
theorem dX3_call_110 : decode cX3_call 110 = .ok (.istore 4, 2) := by decide +kernel
theorem dX3_call_112 : decode cX3_call 112 = .ok (.aload_n 0, 1) := by decide +kernel
theorem dX3_call_113 : decode cX3_call 113 = .ok (.getfield 37, 3) := by decide +kernel
theorem dX3_call_116 : decode cX3_call 116 = .ok (.iload_n 1, 1) := by decide +kernel
theorem dX3_call_117 : decode cX3_call 117 = .ok (.aload_n 0, 1) := by decide +kernel
theorem dX3_call_118 : decode cX3_call 118 = .ok (.getfield 37, 3) := by decide +kernel
theorem dX3_call_121 : decode cX3_call 121 = .ok (.iload_n 1, 1) := by decide +kernel
theorem dX3_call_122 : decode cX3_call 122 = .ok (.iaload, 1) := by decide +kernel
theorem dX3_call_123 : decode cX3_call 123 = .ok (.bipush 6, 2) := by decide +kernel
theorem dX3_call_125 : decode cX3_call 125 = .ok (.if_icmp .ne 8, 3) := by decide +kernel
theorem dX3_call_128 : decode cX3_call 128 = .ok (.bipush 6, 2) := by decide +kernel
theorem dX3_call_130 : decode cX3_call 130 = .ok (.goto 11, 3) := by decide +kernel
theorem dX3_call_133 : decode cX3_call 133 = .ok (.aload_n 0, 1) := by decide +kernel
theorem dX3_call_134 : decode cX3_call 134 = .ok (.getfield 37, 3) := by decide +kernel
theorem dX3_call_137 : decode cX3_call 137 = .ok (.iload_n 1, 1) := by decide +kernel
theorem dX3_call_138 : decode cX3_call 138 = .ok (.iaload, 1) := by decide +kernel
theorem dX3_call_139 : decode cX3_call 139 = .ok (.iconst 1, 1) := by decide +kernel
theorem dX3_call_140 : decode cX3_call 140 = .ok (.iadd, 1) := by decide +kernel
theorem dX3_call_141 : decode cX3_call 141 = .ok (.iastore, 1) := by decide +kernel
theorem dX3_call_142 : decode cX3_call 142 = .ok (.iload 4, 2) := by decide +kernel
theorem dX3_call_144 : decode cX3_call 144 = .ok (.iconst 1, 1) := by decide +kernel
theorem dX3_call_145 : decode cX3_call 145 = .ok (.iadd, 1) := by decide +kernel
theorem dX3_call_146 : decode cX3_call 146 = .ok (.aload_n 0, 1) := by decide +kernel
theorem dX3_call_147 : decode cX3_call 147 = .ok (.getfield 37, 3) := by decide +kernel
theorem dX3_call_150 : decode cX3_call 150 = .ok (.iload_n 1, 1) := by decide +kernel
theorem dX3_call_151 : decode cX3_call 151 = .ok (.iaload, 1) := by decide +kernel
theorem dX3_call_152 : decode cX3_call 152 = .ok (.if_icmp .ge 29, 3) := by decide +kernel
theorem dX3_call_155 : decode cX3_call 155 = .ok (.aload_n 0, 1) := by decide +kernel
theorem dX3_call_156 : decode cX3_call 156 = .ok (.getfield 34, 3) := by decide +kernel
theorem dX3_call_159 : decode cX3_call 159 = .ok (.iload_n 3, 1) := by decide +kernel
theorem dX3_call_160 : decode cX3_call 160 = .ok (.iload 4, 2) := by decide +kernel
theorem dX3_call_162 : decode cX3_call 162 = .ok (.iadd, 1) := by decide +kernel
theorem dX3_call_163 : decode cX3_call 163 = .ok (.aload_n 0, 1) := by decide +kernel
theorem dX3_call_164 : decode cX3_call 164 = .ok (.getfield 34, 3) := by decide +kernel
theorem dX3_call_167 : decode cX3_call 167 = .ok (.iload_n 3, 1) := by decide +kernel
theorem dX3_call_168 : decode cX3_call 168 = .ok (.iload 4, 2) := by decide +kernel
theorem dX3_call_170 : decode cX3_call 170 = .ok (.iadd, 1) := by decide +kernel
theorem dX3_call_171 : decode cX3_call 171 = .ok (.iconst 1, 1) := by decide +kernel
theorem dX3_call_172 : decode cX3_call 172 = .ok (.iadd, 1) := by decide +kernel
theorem dX3_call_173 : decode cX3_call 173 = .ok (.iaload, 1) := by decide +kernel
theorem dX3_call_174 : decode cX3_call 174 = .ok (.iastore, 1) := by decide +kernel
theorem dX3_call_175 : decode cX3_call 175 = .ok (.iinc 4 1, 3) := by decide +kernel
theorem dX3_call_178 : decode cX3_call 178 = .ok (.goto (-36), 3) := by decide +kernel
theorem dX3_call_181 : decode cX3_call 181 = .ok (.aload_n 0, 1) := by decide +kernel
theorem dX3_call_182 : decode cX3_call 182 = .ok (.getfield 34, 3) := by decide +kernel
theorem dX3_call_185 : decode cX3_call 185 = .ok (.iload_n 3, 1) := by decide +kernel
theorem dX3_call_186 : decode cX3_call 186 = .ok (.iload 4, 2) := by decide +kernel
theorem dX3_call_188 : decode cX3_call 188 = .ok (.iadd, 1) := by decide +kernel
theorem dX3_call_189 : decode cX3_call 189 = .ok (.iload_n 2, 1) := by decide +kernel
theorem dX3_call_190 : decode cX3_call 190 = .ok (.iastore, 1) := by decide +kernel
theorem dX3_call_191 : decode cX3_call 191 = .ok (.aload_n 0, 1) := by decide +kernel
theorem dX3_call_192 : decode cX3_call 192 = .ok (.iload_n 1, 1) := by decide +kernel
theorem dX3_call_193 : decode cX3_call 193 = .ok (.iload_n 2, 1) := by decide +kernel
theorem dX3_call_194 : decode cX3_call 194 = .ok (.aload_n 0, 1) := by decide +kernel
theorem dX3_call_195 : decode cX3_call 195 = .ok (.getfield 133, 3) := by decide +kernel
theorem dX3_call_198 : decode cX3_call 198 = .ok (.invokevirtual 159, 3) := by decide +kernel
theorem dX3_call_201 : decode cX3_call 201 = .ok (.ireturn, 1) := by decide +kernel
theorem dX3_applicable_0 : decode cX3_applicable 0 = .ok (.aload_n 0, 1) := by decide +kernel
theorem dX3_applicable_1 : decode cX3_applicable 1 = .ok (.iconst 0, 1) := by decide +kernel
theorem dX3_applicable_2 : decode cX3_applicable 2 = .ok (.putfield 65, 3) := by decide +kernel
theorem dX3_applicable_5 : decode cX3_applicable 5 = .ok (.aload_n 0, 1) := by decide +kernel
theorem dX3_applicable_6 : decode cX3_applicable 6 = .ok (.iload_n 1, 1) := by decide +kernel
theorem dX3_applicable_7 : decode cX3_applicable 7 = .ok (.iload_n 2, 1) := by decide +kernel
theorem dX3_applicable_8 : decode cX3_applicable 8 = .ok (.invokevirtual 114, 3) := by decide +kernel
theorem dX3_applicable_11 : decode cX3_applicable 11 = .ok (.ifCond .eq 12, 3) := by decide +kernel
theorem dX3_applicable_14 : decode cX3_applicable 14 = .ok (.aload_n 0, 1) := by decide +kernel
theorem dX3_applicable_15 : decode cX3_applicable 15 = .ok (.iload_n 1, 1) := by decide +kernel
theorem dX3_applicable_16 : decode cX3_applicable 16 = .ok (.iload_n 2, 1) := by decide +kernel
theorem dX3_applicable_17 : decode cX3_applicable 17 = .ok (.invokevirtual 152, 3) := by decide +kernel
theorem dX3_applicable_20 : decode cX3_applicable 20 = .ok (.goto 4, 3) := by decide +kernel
theorem dX3_applicable_23 : decode cX3_applicable 23 = .ok (.iconst (-1), 1) := by decide +kernel
theorem dX3_applicable_24 : decode cX3_applicable 24 = .ok (.ireturn, 1) := by decide +kernel
theorem dX3_laysChain_0 : decode cX3_laysChain 0 = .ok (.aload_n 0, 1) := by decide +kernel
theorem dX3_laysChain_1 : decode cX3_laysChain 1 = .ok (.aload_n 0, 1) := by decide +kernel
theorem dX3_laysChain_2 : decode cX3_laysChain 2 = .ok (.iload_n 1, 1) := by decide +kernel
theorem dX3_laysChain_3 : decode cX3_laysChain 3 = .ok (.iload_n 2, 1) := by decide +kernel
theorem dX3_laysChain_4 : decode cX3_laysChain 4 = .ok (.invokevirtual 152, 3) := by decide +kernel
theorem dX3_laysChain_7 : decode cX3_laysChain 7 = .ok (.putfield 163, 3) := by decide +kernel
theorem dX3_laysChain_10 : decode cX3_laysChain 10 = .ok (.aload_n 0, 1) := by decide +kernel
theorem dX3_laysChain_11 : decode cX3_laysChain 11 = .ok (.iconst 0, 1) := by decide +kernel
theorem dX3_laysChain_12 : decode cX3_laysChain 12 = .ok (.putfield 166, 3) := by decide +kernel
theorem dX3_laysChain_15 : decode cX3_laysChain 15 = .ok (.aload_n 0, 1) := by decide +kernel
theorem dX3_laysChain_16 : decode cX3_laysChain 16 = .ok (.iload_n 1, 1) := by decide +kernel
theorem dX3_laysChain_17 : decode cX3_laysChain 17 = .ok (.iload_n 2, 1) := by decide +kernel
theorem dX3_laysChain_18 : decode cX3_laysChain 18 = .ok (.aload_n 0, 1) := by decide +kernel
theorem dX3_laysChain_19 : decode cX3_laysChain 19 = .ok (.getfield 163, 3) := by decide +kernel
theorem dX3_laysChain_22 : decode cX3_laysChain 22 = .ok (.aload_n 0, 1) := by decide +kernel
theorem dX3_laysChain_23 : decode cX3_laysChain 23 = .ok (.getfield 133, 3) := by decide +kernel
theorem dX3_laysChain_26 : decode cX3_laysChain 26 = .ok (.invokevirtual 155, 3) := by decide +kernel
theorem dX3_laysChain_29 : decode cX3_laysChain 29 = .ok (.istore_n 3, 1) := by decide +kernel
theorem dX3_laysChain_30 : decode cX3_laysChain 30 = .ok (.iload_n 3, 1) := by decide +kernel
theorem dX3_laysChain_31 : decode cX3_laysChain 31 = .ok (.ifCond .lt 55, 3) := by decide +kernel
theorem dX3_laysChain_34 : decode cX3_laysChain 34 = .ok (.aload_n 0, 1) := by decide +kernel
theorem dX3_laysChain_35 : decode cX3_laysChain 35 = .ok (.getfield 53, 3) := by decide +kernel
theorem dX3_laysChain_38 : decode cX3_laysChain 38 = .ok (.aload_n 0, 1) := by decide +kernel
theorem dX3_laysChain_39 : decode cX3_laysChain 39 = .ok (.getfield 166, 3) := by decide +kernel
theorem dX3_laysChain_42 : decode cX3_laysChain 42 = .ok (.iload_n 3, 1) := by decide +kernel
theorem dX3_laysChain_43 : decode cX3_laysChain 43 = .ok (.iastore, 1) := by decide +kernel
theorem dX3_laysChain_44 : decode cX3_laysChain 44 = .ok (.aload_n 0, 1) := by decide +kernel
theorem dX3_laysChain_45 : decode cX3_laysChain 45 = .ok (.dup, 1) := by decide +kernel
theorem dX3_laysChain_46 : decode cX3_laysChain 46 = .ok (.getfield 166, 3) := by decide +kernel
theorem dX3_laysChain_49 : decode cX3_laysChain 49 = .ok (.iconst 1, 1) := by decide +kernel
theorem dX3_laysChain_50 : decode cX3_laysChain 50 = .ok (.iadd, 1) := by decide +kernel
theorem dX3_laysChain_51 : decode cX3_laysChain 51 = .ok (.putfield 166, 3) := by decide +kernel
theorem dX3_laysChain_54 : decode cX3_laysChain 54 = .ok (.aload_n 0, 1) := by decide +kernel
theorem dX3_laysChain_55 : decode cX3_laysChain 55 = .ok (.dup, 1) := by decide +kernel
theorem dX3_laysChain_56 : decode cX3_laysChain 56 = .ok (.getfield 163, 3) := by decide +kernel
theorem dX3_laysChain_59 : decode cX3_laysChain 59 = .ok (.iconst 1, 1) := by decide +kernel
theorem dX3_laysChain_60 : decode cX3_laysChain 60 = .ok (.iload_n 3, 1) := by decide +kernel
theorem dX3_laysChain_61 : decode cX3_laysChain 61 = .ok (.ishl, 1) := by decide +kernel
theorem dX3_laysChain_62 : decode cX3_laysChain 62 = .ok (.iconst (-1), 1) := by decide +kernel
theorem dX3_laysChain_63 : decode cX3_laysChain 63 = .ok (.ixor, 1) := by decide +kernel
theorem dX3_laysChain_64 : decode cX3_laysChain 64 = .ok (.iand, 1) := by decide +kernel
theorem dX3_laysChain_65 : decode cX3_laysChain 65 = .ok (.putfield 163, 3) := by decide +kernel
theorem dX3_laysChain_68 : decode cX3_laysChain 68 = .ok (.aload_n 0, 1) := by decide +kernel
theorem dX3_laysChain_69 : decode cX3_laysChain 69 = .ok (.iload_n 1, 1) := by decide +kernel
theorem dX3_laysChain_70 : decode cX3_laysChain 70 = .ok (.iload_n 2, 1) := by decide +kernel
theorem dX3_laysChain_71 : decode cX3_laysChain 71 = .ok (.aload_n 0, 1) := by decide +kernel
theorem dX3_laysChain_72 : decode cX3_laysChain 72 = .ok (.getfield 163, 3) := by decide +kernel
theorem dX3_laysChain_75 : decode cX3_laysChain 75 = .ok (.aload_n 0, 1) := by decide +kernel
theorem dX3_laysChain_76 : decode cX3_laysChain 76 = .ok (.getfield 133, 3) := by decide +kernel
theorem dX3_laysChain_79 : decode cX3_laysChain 79 = .ok (.invokevirtual 155, 3) := by decide +kernel
theorem dX3_laysChain_82 : decode cX3_laysChain 82 = .ok (.istore_n 3, 1) := by decide +kernel
theorem dX3_laysChain_83 : decode cX3_laysChain 83 = .ok (.goto (-53), 3) := by decide +kernel
theorem dX3_laysChain_86 : decode cX3_laysChain 86 = .ok (.return_, 1) := by decide +kernel
theorem dX3_chain_0 : decode cX3_chain 0 = .ok (.aload_n 0, 1) := by decide +kernel
theorem dX3_chain_1 : decode cX3_chain 1 = .ok (.iconst 0, 1) := by decide +kernel
theorem dX3_chain_2 : decode cX3_chain 2 = .ok (.putfield 65, 3) := by decide +kernel
theorem dX3_chain_5 : decode cX3_chain 5 = .ok (.aload_n 0, 1) := by decide +kernel
theorem dX3_chain_6 : decode cX3_chain 6 = .ok (.iload_n 1, 1) := by decide +kernel
theorem dX3_chain_7 : decode cX3_chain 7 = .ok (.iload_n 2, 1) := by decide +kernel
theorem dX3_chain_8 : decode cX3_chain 8 = .ok (.invokevirtual 114, 3) := by decide +kernel
theorem dX3_chain_11 : decode cX3_chain 11 = .ok (.ifCond .ne 5, 3) := by decide +kernel
theorem dX3_chain_14 : decode cX3_chain 14 = .ok (.iconst (-1), 1) := by decide +kernel
theorem dX3_chain_15 : decode cX3_chain 15 = .ok (.ireturn, 1) := by decide +kernel
theorem dX3_chain_16 : decode cX3_chain 16 = .ok (.aload_n 0, 1) := by decide +kernel
theorem dX3_chain_17 : decode cX3_chain 17 = .ok (.iload_n 1, 1) := by decide +kernel
theorem dX3_chain_18 : decode cX3_chain 18 = .ok (.iload_n 2, 1) := by decide +kernel
theorem dX3_chain_19 : decode cX3_chain 19 = .ok (.invokevirtual 169, 3) := by decide +kernel
theorem dX3_chain_22 : decode cX3_chain 22 = .ok (.iload_n 3, 1) := by decide +kernel
theorem dX3_chain_23 : decode cX3_chain 23 = .ok (.iconst (-1), 1) := by decide +kernel
theorem dX3_chain_24 : decode cX3_chain 24 = .ok (.if_icmp .ne 10, 3) := by decide +kernel
theorem dX3_chain_27 : decode cX3_chain 27 = .ok (.aload_n 0, 1) := by decide +kernel
theorem dX3_chain_28 : decode cX3_chain 28 = .ok (.getfield 166, 3) := by decide +kernel
theorem dX3_chain_31 : decode cX3_chain 31 = .ok (.goto 27, 3) := by decide +kernel
theorem dX3_chain_34 : decode cX3_chain 34 = .ok (.iload_n 3, 1) := by decide +kernel
theorem dX3_chain_35 : decode cX3_chain 35 = .ok (.iconst 0, 1) := by decide +kernel
theorem dX3_chain_36 : decode cX3_chain 36 = .ok (.aload_n 0, 1) := by decide +kernel
theorem dX3_chain_37 : decode cX3_chain 37 = .ok (.getfield 166, 3) := by decide +kernel
theorem dX3_chain_40 : decode cX3_chain 40 = .ok (.iconst 1, 1) := by decide +kernel
theorem dX3_chain_41 : decode cX3_chain 41 = .ok (.isub, 1) := by decide +kernel
theorem dX3_chain_42 : decode cX3_chain 42 = .ok (.invokestatic 68, 3) := by decide +kernel
theorem dX3_chain_45 : decode cX3_chain 45 = .ok (.ifCond .eq 12, 3) := by decide +kernel
theorem dX3_chain_48 : decode cX3_chain 48 = .ok (.aload_n 0, 1) := by decide +kernel
theorem dX3_chain_49 : decode cX3_chain 49 = .ok (.getfield 53, 3) := by decide +kernel
theorem dX3_chain_52 : decode cX3_chain 52 = .ok (.iload_n 3, 1) := by decide +kernel
theorem dX3_chain_53 : decode cX3_chain 53 = .ok (.iaload, 1) := by decide +kernel
theorem dX3_chain_54 : decode cX3_chain 54 = .ok (.goto 4, 3) := by decide +kernel
theorem dX3_chain_57 : decode cX3_chain 57 = .ok (.iconst (-1), 1) := by decide +kernel
theorem dX3_chain_58 : decode cX3_chain 58 = .ok (.ireturn, 1) := by decide +kernel
theorem dX3_broken_0 : decode cX3_broken 0 = .ok (.aload_n 0, 1) := by decide +kernel
theorem dX3_broken_1 : decode cX3_broken 1 = .ok (.iconst 0, 1) := by decide +kernel
theorem dX3_broken_2 : decode cX3_broken 2 = .ok (.putfield 65, 3) := by decide +kernel
theorem dX3_broken_5 : decode cX3_broken 5 = .ok (.aload_n 0, 1) := by decide +kernel
theorem dX3_broken_6 : decode cX3_broken 6 = .ok (.iload_n 1, 1) := by decide +kernel
theorem dX3_broken_7 : decode cX3_broken 7 = .ok (.iload_n 2, 1) := by decide +kernel
theorem dX3_broken_8 : decode cX3_broken 8 = .ok (.invokevirtual 114, 3) := by decide +kernel
theorem dX3_broken_11 : decode cX3_broken 11 = .ok (.ifCond .ne 5, 3) := by decide +kernel
theorem dX3_broken_14 : decode cX3_broken 14 = .ok (.iconst (-1), 1) := by decide +kernel
theorem dX3_broken_15 : decode cX3_broken 15 = .ok (.ireturn, 1) := by decide +kernel
theorem dX3_broken_16 : decode cX3_broken 16 = .ok (.aload_n 0, 1) := by decide +kernel
theorem dX3_broken_17 : decode cX3_broken 17 = .ok (.iload_n 1, 1) := by decide +kernel
theorem dX3_broken_18 : decode cX3_broken 18 = .ok (.iload_n 2, 1) := by decide +kernel
theorem dX3_broken_19 : decode cX3_broken 19 = .ok (.invokevirtual 169, 3) := by decide +kernel
theorem dX3_broken_22 : decode cX3_broken 22 = .ok (.aload_n 0, 1) := by decide +kernel
theorem dX3_broken_23 : decode cX3_broken 23 = .ok (.getfield 163, 3) := by decide +kernel
theorem dX3_broken_26 : decode cX3_broken 26 = .ok (.invokestatic 130, 3) := by decide +kernel
theorem dX3_broken_29 : decode cX3_broken 29 = .ok (.ireturn, 1) := by decide +kernel
theorem dX3_work_0 : decode cX3_work 0 = .ok (.aload_n 0, 1) := by decide +kernel
theorem dX3_work_1 : decode cX3_work 1 = .ok (.iconst 0, 1) := by decide +kernel
theorem dX3_work_2 : decode cX3_work 2 = .ok (.putfield 166, 3) := by decide +kernel
theorem dX3_work_5 : decode cX3_work 5 = .ok (.aload_n 0, 1) := by decide +kernel
theorem dX3_work_6 : decode cX3_work 6 = .ok (.iload_n 1, 1) := by decide +kernel
theorem dX3_work_7 : decode cX3_work 7 = .ok (.iload_n 2, 1) := by decide +kernel
theorem dX3_work_8 : decode cX3_work 8 = .ok (.invokevirtual 114, 3) := by decide +kernel
theorem dX3_work_11 : decode cX3_work 11 = .ok (.ifCond .eq 9, 3) := by decide +kernel
theorem dX3_work_14 : decode cX3_work 14 = .ok (.aload_n 0, 1) := by decide +kernel
theorem dX3_work_15 : decode cX3_work 15 = .ok (.iload_n 1, 1) := by decide +kernel
theorem dX3_work_16 : decode cX3_work 16 = .ok (.iload_n 2, 1) := by decide +kernel
theorem dX3_work_17 : decode cX3_work 17 = .ok (.invokevirtual 169, 3) := by decide +kernel
theorem dX3_work_20 : decode cX3_work 20 = .ok (.aload_n 0, 1) := by decide +kernel
theorem dX3_work_21 : decode cX3_work 21 = .ok (.aload_n 0, 1) := by decide +kernel
theorem dX3_work_22 : decode cX3_work 22 = .ok (.getfield 166, 3) := by decide +kernel
theorem dX3_work_25 : decode cX3_work 25 = .ok (.ifCond .le 7, 3) := by decide +kernel
theorem dX3_work_28 : decode cX3_work 28 = .ok (.iconst 0, 1) := by decide +kernel
theorem dX3_work_29 : decode cX3_work 29 = .ok (.goto 4, 3) := by decide +kernel
theorem dX3_work_32 : decode cX3_work 32 = .ok (.iconst 1, 1) := by decide +kernel
theorem dX3_work_33 : decode cX3_work 33 = .ok (.putfield 65, 3) := by decide +kernel
theorem dX3_work_36 : decode cX3_work 36 = .ok (.iconst 0, 1) := by decide +kernel
theorem dX3_work_37 : decode cX3_work 37 = .ok (.istore_n 3, 1) := by decide +kernel
theorem dX3_work_38 : decode cX3_work 38 = .ok (.aload_n 0, 1) := by decide +kernel
theorem dX3_work_39 : decode cX3_work 39 = .ok (.getfield 166, 3) := by decide +kernel
theorem dX3_work_42 : decode cX3_work 42 = .ok (.iconst 1, 1) := by decide +kernel
theorem dX3_work_43 : decode cX3_work 43 = .ok (.isub, 1) := by decide +kernel
theorem dX3_work_44 : decode cX3_work 44 = .ok (.istore 4, 2) := by decide +kernel
theorem dX3_work_46 : decode cX3_work 46 = .ok (.iload 4, 2) := by decide +kernel
theorem dX3_work_48 : decode cX3_work 48 = .ok (.ifCond .lt 105, 3) := by decide +kernel
theorem dX3_work_51 : decode cX3_work 51 = .ok (.aload_n 0, 1) := by decide +kernel
theorem dX3_work_52 : decode cX3_work 52 = .ok (.getfield 31, 3) := by decide +kernel
theorem dX3_work_55 : decode cX3_work 55 = .ok (.bipush 12, 2) := by decide +kernel
theorem dX3_work_57 : decode cX3_work 57 = .ok (.iload_n 1, 1) := by decide +kernel
theorem dX3_work_58 : decode cX3_work 58 = .ok (.imul, 1) := by decide +kernel
theorem dX3_work_59 : decode cX3_work 59 = .ok (.aload_n 0, 1) := by decide +kernel
theorem dX3_work_60 : decode cX3_work 60 = .ok (.getfield 53, 3) := by decide +kernel
theorem dX3_work_63 : decode cX3_work 63 = .ok (.iload 4, 2) := by decide +kernel
theorem dX3_work_65 : decode cX3_work 65 = .ok (.iaload, 1) := by decide +kernel
theorem dX3_work_66 : decode cX3_work 66 = .ok (.iadd, 1) := by decide +kernel
theorem dX3_work_67 : decode cX3_work 67 = .ok (.iaload, 1) := by decide +kernel
theorem dX3_work_68 : decode cX3_work 68 = .ok (.istore 5, 2) := by decide +kernel
theorem dX3_work_70 : decode cX3_work 70 = .ok (.aload_n 0, 1) := by decide +kernel
theorem dX3_work_71 : decode cX3_work 71 = .ok (.getfield 28, 3) := by decide +kernel
theorem dX3_work_74 : decode cX3_work 74 = .ok (.bipush 12, 2) := by decide +kernel
theorem dX3_work_76 : decode cX3_work 76 = .ok (.iload_n 1, 1) := by decide +kernel
theorem dX3_work_77 : decode cX3_work 77 = .ok (.imul, 1) := by decide +kernel
theorem dX3_work_78 : decode cX3_work 78 = .ok (.aload_n 0, 1) := by decide +kernel
theorem dX3_work_79 : decode cX3_work 79 = .ok (.getfield 53, 3) := by decide +kernel
theorem dX3_work_82 : decode cX3_work 82 = .ok (.iload 4, 2) := by decide +kernel
theorem dX3_work_84 : decode cX3_work 84 = .ok (.iaload, 1) := by decide +kernel
theorem dX3_work_85 : decode cX3_work 85 = .ok (.iadd, 1) := by decide +kernel
theorem dX3_work_86 : decode cX3_work 86 = .ok (.iaload, 1) := by decide +kernel
theorem dX3_work_87 : decode cX3_work 87 = .ok (.tableswitch 47 0 2 #[25, 31, 39], 25) := by decide +kernel
theorem dX3_work_112 : decode cX3_work 112 = .ok (.iload 5, 2) := by decide +kernel
theorem dX3_work_114 : decode cX3_work 114 = .ok (.istore_n 3, 1) := by decide +kernel
theorem dX3_work_115 : decode cX3_work 115 = .ok (.goto 32, 3) := by decide +kernel
theorem dX3_work_118 : decode cX3_work 118 = .ok (.iload 5, 2) := by decide +kernel
theorem dX3_work_120 : decode cX3_work 120 = .ok (.iload_n 3, 1) := by decide +kernel
theorem dX3_work_121 : decode cX3_work 121 = .ok (.iadd, 1) := by decide +kernel
theorem dX3_work_122 : decode cX3_work 122 = .ok (.istore_n 3, 1) := by decide +kernel
theorem dX3_work_123 : decode cX3_work 123 = .ok (.goto 24, 3) := by decide +kernel
theorem dX3_work_126 : decode cX3_work 126 = .ok (.iload 5, 2) := by decide +kernel
theorem dX3_work_128 : decode cX3_work 128 = .ok (.iload_n 3, 1) := by decide +kernel
theorem dX3_work_129 : decode cX3_work 129 = .ok (.imul, 1) := by decide +kernel
theorem dX3_work_130 : decode cX3_work 130 = .ok (.istore_n 3, 1) := by decide +kernel
theorem dX3_work_131 : decode cX3_work 131 = .ok (.goto 16, 3) := by decide +kernel
theorem dX3_work_134 : decode cX3_work 134 = .ok (.iload 5, 2) := by decide +kernel
theorem dX3_work_136 : decode cX3_work 136 = .ok (.iload_n 3, 1) := by decide +kernel
theorem dX3_work_137 : decode cX3_work 137 = .ok (.if_icmp .le 8, 3) := by decide +kernel
theorem dX3_work_140 : decode cX3_work 140 = .ok (.iload 5, 2) := by decide +kernel
theorem dX3_work_142 : decode cX3_work 142 = .ok (.goto 4, 3) := by decide +kernel
theorem dX3_work_145 : decode cX3_work 145 = .ok (.iload_n 3, 1) := by decide +kernel
theorem dX3_work_146 : decode cX3_work 146 = .ok (.istore_n 3, 1) := by decide +kernel
theorem dX3_work_147 : decode cX3_work 147 = .ok (.iinc 4 (-1), 3) := by decide +kernel
theorem dX3_work_150 : decode cX3_work 150 = .ok (.goto (-104), 3) := by decide +kernel
theorem dX3_work_153 : decode cX3_work 153 = .ok (.iload_n 3, 1) := by decide +kernel
theorem dX3_work_154 : decode cX3_work 154 = .ok (.ireturn, 1) := by decide +kernel
theorem dX3_kept_0 : decode cX3_kept 0 = .ok (.aload_n 0, 1) := by decide +kernel
theorem dX3_kept_1 : decode cX3_kept 1 = .ok (.iconst 0, 1) := by decide +kernel
theorem dX3_kept_2 : decode cX3_kept 2 = .ok (.putfield 65, 3) := by decide +kernel
theorem dX3_kept_5 : decode cX3_kept 5 = .ok (.aload_n 0, 1) := by decide +kernel
theorem dX3_kept_6 : decode cX3_kept 6 = .ok (.iload_n 1, 1) := by decide +kernel
