theorem dX2_change_48 : decode cX2_change 48 = .ok (.iload_n 2, 1) := by decide +kernel
theorem dX2_change_49 : decode cX2_change 49 = .ok (.aload_n 0, 1) := by decide +kernel
theorem dX2_change_50 : decode cX2_change 50 = .ok (.getfield 12, 3) := by decide +kernel
theorem dX2_change_53 : decode cX2_change 53 = .ok (.invokevirtual 106, 3) := by decide +kernel
theorem dX2_change_56 : decode cX2_change 56 = .ok (.iconst 0, 1) := by decide +kernel
theorem dX2_change_57 : decode cX2_change 57 = .ok (.istore 4, 2) := by decide +kernel
theorem dX2_change_59 : decode cX2_change 59 = .ok (.aload_n 0, 1) := by decide +kernel
theorem dX2_change_60 : decode cX2_change 60 = .ok (.aload_n 3, 1) := by decide +kernel
theorem dX2_change_61 : decode cX2_change 61 = .ok (.invokevirtual 147, 3) := by decide +kernel
theorem dX2_change_64 : decode cX2_change 64 = .ok (.istore 5, 2) := by decide +kernel
theorem dX2_change_66 : decode cX2_change 66 = .ok (.iconst 0, 1) := by decide +kernel
theorem dX2_change_67 : decode cX2_change 67 = .ok (.istore 6, 2) := by decide +kernel
theorem dX2_change_69 : decode cX2_change 69 = .ok (.iconst 0, 1) := by decide +kernel
theorem dX2_change_70 : decode cX2_change 70 = .ok (.istore 7, 2) := by decide +kernel
theorem dX2_change_72 : decode cX2_change 72 = .ok (.iload 6, 2) := by decide +kernel
theorem dX2_change_74 : decode cX2_change 74 = .ok (.iload 5, 2) := by decide +kernel
theorem dX2_change_76 : decode cX2_change 76 = .ok (.if_icmp .ge 66, 3) := by decide +kernel
theorem dX2_change_79 : decode cX2_change 79 = .ok (.aload_n 0, 1) := by decide +kernel
theorem dX2_change_80 : decode cX2_change 80 = .ok (.getfield 23, 3) := by decide +kernel
theorem dX2_change_83 : decode cX2_change 83 = .ok (.iload 7, 2) := by decide +kernel
theorem dX2_change_85 : decode cX2_change 85 = .ok (.invokevirtual 186, 3) := by decide +kernel
theorem dX2_change_88 : decode cX2_change 88 = .ok (.istore 8, 2) := by decide +kernel
theorem dX2_change_90 : decode cX2_change 90 = .ok (.iload 8, 2) := by decide +kernel
theorem dX2_change_92 : decode cX2_change 92 = .ok (.bipush 12, 2) := by decide +kernel
theorem dX2_change_94 : decode cX2_change 94 = .ok (.ishr, 1) := by decide +kernel
theorem dX2_change_95 : decode cX2_change 95 = .ok (.iconst 1, 1) := by decide +kernel
theorem dX2_change_96 : decode cX2_change 96 = .ok (.iand, 1) := by decide +kernel
theorem dX2_change_97 : decode cX2_change 97 = .ok (.ifCond .eq 28, 3) := by decide +kernel
theorem dX2_change_100 : decode cX2_change 100 = .ok (.aload_n 0, 1) := by decide +kernel
theorem dX2_change_101 : decode cX2_change 101 = .ok (.aload_n 0, 1) := by decide +kernel
theorem dX2_change_102 : decode cX2_change 102 = .ok (.getfield 23, 3) := by decide +kernel
theorem dX2_change_105 : decode cX2_change 105 = .ok (.iload 7, 2) := by decide +kernel
theorem dX2_change_107 : decode cX2_change 107 = .ok (.iload 8, 2) := by decide +kernel
theorem dX2_change_109 : decode cX2_change 109 = .ok (.invokevirtual 189, 3) := by decide +kernel
theorem dX2_change_112 : decode cX2_change 112 = .ok (.aload_n 0, 1) := by decide +kernel
theorem dX2_change_113 : decode cX2_change 113 = .ok (.getfield 47, 3) := by decide +kernel
theorem dX2_change_116 : decode cX2_change 116 = .ok (.iload 7, 2) := by decide +kernel
theorem dX2_change_118 : decode cX2_change 118 = .ok (.iaload, 1) := by decide +kernel
theorem dX2_change_119 : decode cX2_change 119 = .ok (.if_icmp .eq 6, 3) := by decide +kernel
theorem dX2_change_122 : decode cX2_change 122 = .ok (.iinc 4 1, 3) := by decide +kernel
theorem dX2_change_125 : decode cX2_change 125 = .ok (.iinc 6 1, 3) := by decide +kernel
theorem dX2_change_128 : decode cX2_change 128 = .ok (.aload_n 0, 1) := by decide +kernel
theorem dX2_change_129 : decode cX2_change 129 = .ok (.getfield 12, 3) := by decide +kernel
theorem dX2_change_132 : decode cX2_change 132 = .ok (.iload 7, 2) := by decide +kernel
theorem dX2_change_134 : decode cX2_change 134 = .ok (.invokevirtual 209, 3) := by decide +kernel
theorem dX2_change_137 : decode cX2_change 137 = .ok (.istore 7, 2) := by decide +kernel
theorem dX2_change_139 : decode cX2_change 139 = .ok (.goto (-67), 3) := by decide +kernel
theorem dX2_change_142 : decode cX2_change 142 = .ok (.iload 4, 2) := by decide +kernel
theorem dX2_change_144 : decode cX2_change 144 = .ok (.ireturn, 1) := by decide +kernel
theorem dX2_settle_0 : decode cX2_settle 0 = .ok (.aload_n 0, 1) := by decide +kernel
theorem dX2_settle_1 : decode cX2_settle 1 = .ok (.iload_n 1, 1) := by decide +kernel
theorem dX2_settle_2 : decode cX2_settle 2 = .ok (.invokevirtual 144, 3) := by decide +kernel
theorem dX2_settle_5 : decode cX2_settle 5 = .ok (.ifCond .ne 5, 3) := by decide +kernel
theorem dX2_settle_8 : decode cX2_settle 8 = .ok (.iconst (-1), 1) := by decide +kernel
theorem dX2_settle_9 : decode cX2_settle 9 = .ok (.ireturn, 1) := by decide +kernel
theorem dX2_settle_10 : decode cX2_settle 10 = .ok (.aload_n 0, 1) := by decide +kernel
theorem dX2_settle_11 : decode cX2_settle 11 = .ok (.getfield 23, 3) := by decide +kernel
theorem dX2_settle_14 : decode cX2_settle 14 = .ok (.aload_n 0, 1) := by decide +kernel
theorem dX2_settle_15 : decode cX2_settle 15 = .ok (.getfield 18, 3) := by decide +kernel
theorem dX2_settle_18 : decode cX2_settle 18 = .ok (.iload_n 1, 1) := by decide +kernel
theorem dX2_settle_19 : decode cX2_settle 19 = .ok (.aaload, 1) := by decide +kernel
theorem dX2_settle_20 : decode cX2_settle 20 = .ok (.invokevirtual 218, 3) := by decide +kernel
theorem dX2_settle_23 : decode cX2_settle 23 = .ok (.iconst 0, 1) := by decide +kernel
theorem dX2_settle_24 : decode cX2_settle 24 = .ok (.istore_n 2, 1) := by decide +kernel
theorem dX2_settle_25 : decode cX2_settle 25 = .ok (.aload_n 0, 1) := by decide +kernel
theorem dX2_settle_26 : decode cX2_settle 26 = .ok (.aload_n 0, 1) := by decide +kernel
theorem dX2_settle_27 : decode cX2_settle 27 = .ok (.getfield 23, 3) := by decide +kernel
theorem dX2_settle_30 : decode cX2_settle 30 = .ok (.invokevirtual 147, 3) := by decide +kernel
theorem dX2_settle_33 : decode cX2_settle 33 = .ok (.istore_n 3, 1) := by decide +kernel
theorem dX2_settle_34 : decode cX2_settle 34 = .ok (.iconst 0, 1) := by decide +kernel
theorem dX2_settle_35 : decode cX2_settle 35 = .ok (.istore 4, 2) := by decide +kernel
theorem dX2_settle_37 : decode cX2_settle 37 = .ok (.iconst 0, 1) := by decide +kernel
theorem dX2_settle_38 : decode cX2_settle 38 = .ok (.istore 5, 2) := by decide +kernel
theorem dX2_settle_40 : decode cX2_settle 40 = .ok (.iload 4, 2) := by decide +kernel
theorem dX2_settle_42 : decode cX2_settle 42 = .ok (.iload_n 3, 1) := by decide +kernel
theorem dX2_settle_43 : decode cX2_settle 43 = .ok (.if_icmp .ge 77, 3) := by decide +kernel
theorem dX2_settle_46 : decode cX2_settle 46 = .ok (.aload_n 0, 1) := by decide +kernel
theorem dX2_settle_47 : decode cX2_settle 47 = .ok (.getfield 23, 3) := by decide +kernel
theorem dX2_settle_50 : decode cX2_settle 50 = .ok (.aload_n 0, 1) := by decide +kernel
theorem dX2_settle_51 : decode cX2_settle 51 = .ok (.getfield 23, 3) := by decide +kernel
theorem dX2_settle_54 : decode cX2_settle 54 = .ok (.iload 5, 2) := by decide +kernel
theorem dX2_settle_56 : decode cX2_settle 56 = .ok (.invokevirtual 186, 3) := by decide +kernel
theorem dX2_settle_59 : decode cX2_settle 59 = .ok (.invokevirtual 222, 3) := by decide +kernel
theorem dX2_settle_62 : decode cX2_settle 62 = .ok (.bipush (-2), 2) := by decide +kernel
theorem dX2_settle_64 : decode cX2_settle 64 = .ok (.if_icmp .ne 39, 3) := by decide +kernel
theorem dX2_settle_67 : decode cX2_settle 67 = .ok (.aload_n 0, 1) := by decide +kernel
theorem dX2_settle_68 : decode cX2_settle 68 = .ok (.getfield 23, 3) := by decide +kernel
theorem dX2_settle_71 : decode cX2_settle 71 = .ok (.invokevirtual 99, 3) := by decide +kernel
theorem dX2_settle_74 : decode cX2_settle 74 = .ok (.istore 6, 2) := by decide +kernel
theorem dX2_settle_76 : decode cX2_settle 76 = .ok (.iload 6, 2) := by decide +kernel
theorem dX2_settle_78 : decode cX2_settle 78 = .ok (.iconst (-1), 1) := by decide +kernel
theorem dX2_settle_79 : decode cX2_settle 79 = .ok (.if_icmp .ne 6, 3) := by decide +kernel
theorem dX2_settle_82 : decode cX2_settle 82 = .ok (.bipush (-2), 2) := by decide +kernel
theorem dX2_settle_84 : decode cX2_settle 84 = .ok (.ireturn, 1) := by decide +kernel
theorem dX2_settle_85 : decode cX2_settle 85 = .ok (.aload_n 0, 1) := by decide +kernel
theorem dX2_settle_86 : decode cX2_settle 86 = .ok (.getfield 23, 3) := by decide +kernel
theorem dX2_settle_89 : decode cX2_settle 89 = .ok (.iload 6, 2) := by decide +kernel
theorem dX2_settle_91 : decode cX2_settle 91 = .ok (.iload 5, 2) := by decide +kernel
theorem dX2_settle_93 : decode cX2_settle 93 = .ok (.aload_n 0, 1) := by decide +kernel
theorem dX2_settle_94 : decode cX2_settle 94 = .ok (.getfield 12, 3) := by decide +kernel
theorem dX2_settle_97 : decode cX2_settle 97 = .ok (.invokevirtual 106, 3) := by decide +kernel
theorem dX2_settle_100 : decode cX2_settle 100 = .ok (.iinc 2 1, 3) := by decide +kernel
theorem dX2_settle_103 : decode cX2_settle 103 = .ok (.iinc 4 1, 3) := by decide +kernel
theorem dX2_settle_106 : decode cX2_settle 106 = .ok (.aload_n 0, 1) := by decide +kernel
theorem dX2_settle_107 : decode cX2_settle 107 = .ok (.getfield 12, 3) := by decide +kernel
theorem dX2_settle_110 : decode cX2_settle 110 = .ok (.iload 5, 2) := by decide +kernel
theorem dX2_settle_112 : decode cX2_settle 112 = .ok (.invokevirtual 209, 3) := by decide +kernel
theorem dX2_settle_115 : decode cX2_settle 115 = .ok (.istore 5, 2) := by decide +kernel
theorem dX2_settle_117 : decode cX2_settle 117 = .ok (.goto (-77), 3) := by decide +kernel
theorem dX2_settle_120 : decode cX2_settle 120 = .ok (.iload_n 2, 1) := by decide +kernel
theorem dX2_settle_121 : decode cX2_settle 121 = .ok (.ireturn, 1) := by decide +kernel
theorem dX2_hasFunction_0 : decode cX2_hasFunction 0 = .ok (.iload_n 1, 1) := by decide +kernel
theorem dX2_hasFunction_1 : decode cX2_hasFunction 1 = .ok (.ifCond .lt 15, 3) := by decide +kernel
theorem dX2_hasFunction_4 : decode cX2_hasFunction 4 = .ok (.iload_n 1, 1) := by decide +kernel
theorem dX2_hasFunction_5 : decode cX2_hasFunction 5 = .ok (.aload_n 0, 1) := by decide +kernel
theorem dX2_hasFunction_6 : decode cX2_hasFunction 6 = .ok (.getfield 27, 3) := by decide +kernel
theorem dX2_hasFunction_9 : decode cX2_hasFunction 9 = .ok (.if_icmp .ge 7, 3) := by decide +kernel
theorem dX2_hasFunction_12 : decode cX2_hasFunction 12 = .ok (.iconst 1, 1) := by decide +kernel
theorem dX2_hasFunction_13 : decode cX2_hasFunction 13 = .ok (.goto 4, 3) := by decide +kernel
theorem dX2_hasFunction_16 : decode cX2_hasFunction 16 = .ok (.iconst 0, 1) := by decide +kernel
theorem dX2_hasFunction_17 : decode cX2_hasFunction 17 = .ok (.ireturn, 1) := by decide +kernel
theorem dX2_hasMethod_0 : decode cX2_hasMethod 0 = .ok (.aload_n 0, 1) := by decide +kernel
theorem dX2_hasMethod_1 : decode cX2_hasMethod 1 = .ok (.iload_n 1, 1) := by decide +kernel
theorem dX2_hasMethod_2 : decode cX2_hasMethod 2 = .ok (.invokevirtual 144, 3) := by decide +kernel
theorem dX2_hasMethod_5 : decode cX2_hasMethod 5 = .ok (.ifCond .eq 33, 3) := by decide +kernel
theorem dX2_hasMethod_8 : decode cX2_hasMethod 8 = .ok (.iload_n 2, 1) := by decide +kernel
theorem dX2_hasMethod_9 : decode cX2_hasMethod 9 = .ok (.ifCond .lt 29, 3) := by decide +kernel
theorem dX2_hasMethod_12 : decode cX2_hasMethod 12 = .ok (.iload_n 2, 1) := by decide +kernel
theorem dX2_hasMethod_13 : decode cX2_hasMethod 13 = .ok (.bipush 12, 2) := by decide +kernel
theorem dX2_hasMethod_15 : decode cX2_hasMethod 15 = .ok (.if_icmp .ge 23, 3) := by decide +kernel
theorem dX2_hasMethod_18 : decode cX2_hasMethod 18 = .ok (.aload_n 0, 1) := by decide +kernel
theorem dX2_hasMethod_19 : decode cX2_hasMethod 19 = .ok (.getfield 18, 3) := by decide +kernel
theorem dX2_hasMethod_22 : decode cX2_hasMethod 22 = .ok (.iload_n 1, 1) := by decide +kernel
theorem dX2_hasMethod_23 : decode cX2_hasMethod 23 = .ok (.aaload, 1) := by decide +kernel
theorem dX2_hasMethod_24 : decode cX2_hasMethod 24 = .ok (.getfield 126, 3) := by decide +kernel
theorem dX2_hasMethod_27 : decode cX2_hasMethod 27 = .ok (.iload_n 2, 1) := by decide +kernel
theorem dX2_hasMethod_28 : decode cX2_hasMethod 28 = .ok (.ishr, 1) := by decide +kernel
theorem dX2_hasMethod_29 : decode cX2_hasMethod 29 = .ok (.iconst 1, 1) := by decide +kernel
theorem dX2_hasMethod_30 : decode cX2_hasMethod 30 = .ok (.iand, 1) := by decide +kernel
theorem dX2_hasMethod_31 : decode cX2_hasMethod 31 = .ok (.ifCond .eq 7, 3) := by decide +kernel
theorem dX2_hasMethod_34 : decode cX2_hasMethod 34 = .ok (.iconst 1, 1) := by decide +kernel
theorem dX2_hasMethod_35 : decode cX2_hasMethod 35 = .ok (.goto 4, 3) := by decide +kernel
theorem dX2_hasMethod_38 : decode cX2_hasMethod 38 = .ok (.iconst 0, 1) := by decide +kernel
theorem dX2_hasMethod_39 : decode cX2_hasMethod 39 = .ok (.ireturn, 1) := by decide +kernel
theorem dX2_hasCall_0 : decode cX2_hasCall 0 = .ok (.aload_n 0, 1) := by decide +kernel
theorem dX2_hasCall_1 : decode cX2_hasCall 1 = .ok (.iload_n 1, 1) := by decide +kernel
theorem dX2_hasCall_2 : decode cX2_hasCall 2 = .ok (.invokevirtual 144, 3) := by decide +kernel
theorem dX2_hasCall_5 : decode cX2_hasCall 5 = .ok (.ifCond .eq 24, 3) := by decide +kernel
theorem dX2_hasCall_8 : decode cX2_hasCall 8 = .ok (.iload_n 2, 1) := by decide +kernel
theorem dX2_hasCall_9 : decode cX2_hasCall 9 = .ok (.ifCond .lt 20, 3) := by decide +kernel
theorem dX2_hasCall_12 : decode cX2_hasCall 12 = .ok (.iload_n 2, 1) := by decide +kernel
theorem dX2_hasCall_13 : decode cX2_hasCall 13 = .ok (.iconst 1, 1) := by decide +kernel
theorem dX2_hasCall_14 : decode cX2_hasCall 14 = .ok (.iconst 4, 1) := by decide +kernel
theorem dX2_hasCall_15 : decode cX2_hasCall 15 = .ok (.aload_n 0, 1) := by decide +kernel
theorem dX2_hasCall_16 : decode cX2_hasCall 16 = .ok (.getfield 18, 3) := by decide +kernel
theorem dX2_hasCall_19 : decode cX2_hasCall 19 = .ok (.iload_n 1, 1) := by decide +kernel
theorem dX2_hasCall_20 : decode cX2_hasCall 20 = .ok (.aaload, 1) := by decide +kernel
theorem dX2_hasCall_21 : decode cX2_hasCall 21 = .ok (.getfield 93, 3) := by decide +kernel
theorem dX2_hasCall_24 : decode cX2_hasCall 24 = .ok (.imul, 1) := by decide +kernel
theorem dX2_hasCall_25 : decode cX2_hasCall 25 = .ok (.ishl, 1) := by decide +kernel
theorem dX2_hasCall_26 : decode cX2_hasCall 26 = .ok (.if_icmp .lt 5, 3) := by decide +kernel
theorem dX2_hasCall_29 : decode cX2_hasCall 29 = .ok (.iconst 0, 1) := by decide +kernel
theorem dX2_hasCall_30 : decode cX2_hasCall 30 = .ok (.ireturn, 1) := by decide +kernel
theorem dX2_hasCall_31 : decode cX2_hasCall 31 = .ok (.aload_n 0, 1) := by decide +kernel
theorem dX2_hasCall_32 : decode cX2_hasCall 32 = .ok (.getfield 12, 3) := by decide +kernel
theorem dX2_hasCall_35 : decode cX2_hasCall 35 = .ok (.iload_n 2, 1) := by decide +kernel
theorem dX2_hasCall_36 : decode cX2_hasCall 36 = .ok (.iconst 0, 1) := by decide +kernel
theorem dX2_hasCall_37 : decode cX2_hasCall 37 = .ok (.invokestatic 225, 3) := by decide +kernel
theorem dX2_hasCall_40 : decode cX2_hasCall 40 = .ok (.invokevirtual 72, 3) := by decide +kernel
theorem dX2_hasCall_43 : decode cX2_hasCall 43 = .ok (.ifCond .eq 37, 3) := by decide +kernel
theorem dX2_hasCall_46 : decode cX2_hasCall 46 = .ok (.aload_n 0, 1) := by decide +kernel
theorem dX2_hasCall_47 : decode cX2_hasCall 47 = .ok (.getfield 12, 3) := by decide +kernel
theorem dX2_hasCall_50 : decode cX2_hasCall 50 = .ok (.iload_n 2, 1) := by decide +kernel
theorem dX2_hasCall_51 : decode cX2_hasCall 51 = .ok (.iconst 1, 1) := by decide +kernel
theorem dX2_hasCall_52 : decode cX2_hasCall 52 = .ok (.invokestatic 225, 3) := by decide +kernel
theorem dX2_hasCall_55 : decode cX2_hasCall 55 = .ok (.invokevirtual 72, 3) := by decide +kernel
theorem dX2_hasCall_58 : decode cX2_hasCall 58 = .ok (.ifCond .eq 22, 3) := by decide +kernel
theorem dX2_hasCall_61 : decode cX2_hasCall 61 = .ok (.aload_n 0, 1) := by decide +kernel
theorem dX2_hasCall_62 : decode cX2_hasCall 62 = .ok (.getfield 12, 3) := by decide +kernel
theorem dX2_hasCall_65 : decode cX2_hasCall 65 = .ok (.iload_n 2, 1) := by decide +kernel
theorem dX2_hasCall_66 : decode cX2_hasCall 66 = .ok (.iconst 2, 1) := by decide +kernel
theorem dX2_hasCall_67 : decode cX2_hasCall 67 = .ok (.invokestatic 225, 3) := by decide +kernel
theorem dX2_hasCall_70 : decode cX2_hasCall 70 = .ok (.invokevirtual 72, 3) := by decide +kernel
theorem dX2_hasCall_73 : decode cX2_hasCall 73 = .ok (.ifCond .eq 7, 3) := by decide +kernel
theorem dX2_hasCall_76 : decode cX2_hasCall 76 = .ok (.iconst 1, 1) := by decide +kernel
theorem dX2_hasCall_77 : decode cX2_hasCall 77 = .ok (.goto 4, 3) := by decide +kernel
theorem dX2_hasCall_80 : decode cX2_hasCall 80 = .ok (.iconst 0, 1) := by decide +kernel
theorem dX2_hasCall_81 : decode cX2_hasCall 81 = .ok (.ireturn, 1) := by decide +kernel
theorem dX2_classAt_0 : decode cX2_classAt 0 = .ok (.iload_n 0, 1) := by decide +kernel
theorem dX2_classAt_1 : decode cX2_classAt 1 = .ok (.iconst 4, 1) := by decide +kernel
theorem dX2_classAt_2 : decode cX2_classAt 2 = .ok (.iload_n 1, 1) := by decide +kernel
theorem dX2_classAt_3 : decode cX2_classAt 3 = .ok (.imul, 1) := by decide +kernel
theorem dX2_classAt_4 : decode cX2_classAt 4 = .ok (.ishr, 1) := by decide +kernel
theorem dX2_classAt_5 : decode cX2_classAt 5 = .ok (.bipush 15, 2) := by decide +kernel
theorem dX2_classAt_7 : decode cX2_classAt 7 = .ok (.iand, 1) := by decide +kernel
theorem dX2_classAt_8 : decode cX2_classAt 8 = .ok (.ireturn, 1) := by decide +kernel
theorem dX2_methodsOfAll_0 : decode cX2_methodsOfAll 0 = .ok (.iconst 0, 1) := by decide +kernel
theorem dX2_methodsOfAll_1 : decode cX2_methodsOfAll 1 = .ok (.istore_n 1, 1) := by decide +kernel
theorem dX2_methodsOfAll_2 : decode cX2_methodsOfAll 2 = .ok (.iconst 0, 1) := by decide +kernel
theorem dX2_methodsOfAll_3 : decode cX2_methodsOfAll 3 = .ok (.istore_n 2, 1) := by decide +kernel
theorem dX2_methodsOfAll_4 : decode cX2_methodsOfAll 4 = .ok (.iload_n 2, 1) := by decide +kernel
theorem dX2_methodsOfAll_5 : decode cX2_methodsOfAll 5 = .ok (.aload_n 0, 1) := by decide +kernel
theorem dX2_methodsOfAll_6 : decode cX2_methodsOfAll 6 = .ok (.getfield 27, 3) := by decide +kernel
theorem dX2_methodsOfAll_9 : decode cX2_methodsOfAll 9 = .ok (.if_icmp .ge 24, 3) := by decide +kernel
theorem dX2_methodsOfAll_12 : decode cX2_methodsOfAll 12 = .ok (.iload_n 1, 1) := by decide +kernel
theorem dX2_methodsOfAll_13 : decode cX2_methodsOfAll 13 = .ok (.aload_n 0, 1) := by decide +kernel
theorem dX2_methodsOfAll_14 : decode cX2_methodsOfAll 14 = .ok (.getfield 18, 3) := by decide +kernel
theorem dX2_methodsOfAll_17 : decode cX2_methodsOfAll 17 = .ok (.iload_n 2, 1) := by decide +kernel
theorem dX2_methodsOfAll_18 : decode cX2_methodsOfAll 18 = .ok (.aaload, 1) := by decide +kernel
theorem dX2_methodsOfAll_19 : decode cX2_methodsOfAll 19 = .ok (.getfield 126, 3) := by decide +kernel
theorem dX2_methodsOfAll_22 : decode cX2_methodsOfAll 22 = .ok (.invokestatic 129, 3) := by decide +kernel
theorem dX2_methodsOfAll_25 : decode cX2_methodsOfAll 25 = .ok (.iadd, 1) := by decide +kernel
theorem dX2_methodsOfAll_26 : decode cX2_methodsOfAll 26 = .ok (.istore_n 1, 1) := by decide +kernel
theorem dX2_methodsOfAll_27 : decode cX2_methodsOfAll 27 = .ok (.iinc 2 1, 3) := by decide +kernel
theorem dX2_methodsOfAll_30 : decode cX2_methodsOfAll 30 = .ok (.goto (-26), 3) := by decide +kernel
theorem dX2_methodsOfAll_33 : decode cX2_methodsOfAll 33 = .ok (.iload_n 1, 1) := by decide +kernel
theorem dX2_methodsOfAll_34 : decode cX2_methodsOfAll 34 = .ok (.ireturn, 1) := by decide +kernel
theorem dX2_keptOfAll_0 : decode cX2_keptOfAll 0 = .ok (.iconst 0, 1) := by decide +kernel
theorem dX2_keptOfAll_1 : decode cX2_keptOfAll 1 = .ok (.istore_n 1, 1) := by decide +kernel
theorem dX2_keptOfAll_2 : decode cX2_keptOfAll 2 = .ok (.iconst 0, 1) := by decide +kernel
theorem dX2_keptOfAll_3 : decode cX2_keptOfAll 3 = .ok (.istore_n 2, 1) := by decide +kernel
theorem dX2_keptOfAll_4 : decode cX2_keptOfAll 4 = .ok (.iload_n 2, 1) := by decide +kernel
theorem dX2_keptOfAll_5 : decode cX2_keptOfAll 5 = .ok (.aload_n 0, 1) := by decide +kernel
theorem dX2_keptOfAll_6 : decode cX2_keptOfAll 6 = .ok (.getfield 27, 3) := by decide +kernel
theorem dX2_keptOfAll_9 : decode cX2_keptOfAll 9 = .ok (.if_icmp .ge 21, 3) := by decide +kernel
theorem dX2_keptOfAll_12 : decode cX2_keptOfAll 12 = .ok (.iload_n 1, 1) := by decide +kernel
theorem dX2_keptOfAll_13 : decode cX2_keptOfAll 13 = .ok (.aload_n 0, 1) := by decide +kernel
theorem dX2_keptOfAll_14 : decode cX2_keptOfAll 14 = .ok (.getfield 18, 3) := by decide +kernel
theorem dX2_keptOfAll_17 : decode cX2_keptOfAll 17 = .ok (.iload_n 2, 1) := by decide +kernel
theorem dX2_keptOfAll_18 : decode cX2_keptOfAll 18 = .ok (.aaload, 1) := by decide +kernel
theorem dX2_keptOfAll_19 : decode cX2_keptOfAll 19 = .ok (.getfield 135, 3) := by decide +kernel
theorem dX2_keptOfAll_22 : decode cX2_keptOfAll 22 = .ok (.iadd, 1) := by decide +kernel
theorem dX2_keptOfAll_23 : decode cX2_keptOfAll 23 = .ok (.istore_n 1, 1) := by decide +kernel
theorem dX2_keptOfAll_24 : decode cX2_keptOfAll 24 = .ok (.iinc 2 1, 3) := by decide +kernel
theorem dX2_keptOfAll_27 : decode cX2_keptOfAll 27 = .ok (.goto (-23), 3) := by decide +kernel
theorem dX2_keptOfAll_30 : decode cX2_keptOfAll 30 = .ok (.iload_n 1, 1) := by decide +kernel
theorem dX2_keptOfAll_31 : decode cX2_keptOfAll 31 = .ok (.ireturn, 1) := by decide +kernel
theorem dX2_firstOf_0 : decode cX2_firstOf 0 = .ok (.aload_n 0, 1) := by decide +kernel
theorem dX2_firstOf_1 : decode cX2_firstOf 1 = .ok (.getfield 31, 3) := by decide +kernel
theorem dX2_firstOf_4 : decode cX2_firstOf 4 = .ok (.ifCond .ne 11, 3) := by decide +kernel
theorem dX2_firstOf_7 : decode cX2_firstOf 7 = .ok (.aload_n 1, 1) := by decide +kernel
theorem dX2_firstOf_8 : decode cX2_firstOf 8 = .ok (.iload_n 3, 1) := by decide +kernel
theorem dX2_firstOf_9 : decode cX2_firstOf 9 = .ok (.invokevirtual 222, 3) := by decide +kernel
theorem dX2_firstOf_12 : decode cX2_firstOf 12 = .ok (.goto 10, 3) := by decide +kernel
theorem dX2_firstOf_15 : decode cX2_firstOf 15 = .ok (.aload_n 0, 1) := by decide +kernel
theorem dX2_firstOf_16 : decode cX2_firstOf 16 = .ok (.aload_n 1, 1) := by decide +kernel
theorem dX2_firstOf_17 : decode cX2_firstOf 17 = .ok (.iload_n 2, 1) := by decide +kernel
theorem dX2_firstOf_18 : decode cX2_firstOf 18 = .ok (.iload_n 3, 1) := by decide +kernel
theorem dX2_firstOf_19 : decode cX2_firstOf 19 = .ok (.invokevirtual 228, 3) := by decide +kernel
theorem dX2_firstOf_22 : decode cX2_firstOf 22 = .ok (.ireturn, 1) := by decide +kernel
theorem dX2_foremostOf_0 : decode cX2_foremostOf 0 = .ok (.iconst (-1), 1) := by decide +kernel
theorem dX2_foremostOf_1 : decode cX2_foremostOf 1 = .ok (.istore 4, 2) := by decide +kernel
theorem dX2_foremostOf_3 : decode cX2_foremostOf 3 = .ok (.iconst 0, 1) := by decide +kernel
theorem dX2_foremostOf_4 : decode cX2_foremostOf 4 = .ok (.istore 5, 2) := by decide +kernel
theorem dX2_foremostOf_6 : decode cX2_foremostOf 6 = .ok (.iload 5, 2) := by decide +kernel
theorem dX2_foremostOf_8 : decode cX2_foremostOf 8 = .ok (.bipush 12, 2) := by decide +kernel
theorem dX2_foremostOf_10 : decode cX2_foremostOf 10 = .ok (.if_icmp .gt 50, 3) := by decide +kernel
theorem dX2_foremostOf_13 : decode cX2_foremostOf 13 = .ok (.iload_n 3, 1) := by decide +kernel
theorem dX2_foremostOf_14 : decode cX2_foremostOf 14 = .ok (.iload 5, 2) := by decide +kernel
theorem dX2_foremostOf_16 : decode cX2_foremostOf 16 = .ok (.ishr, 1) := by decide +kernel
theorem dX2_foremostOf_17 : decode cX2_foremostOf 17 = .ok (.iconst 1, 1) := by decide +kernel
theorem dX2_foremostOf_18 : decode cX2_foremostOf 18 = .ok (.iand, 1) := by decide +kernel
theorem dX2_foremostOf_19 : decode cX2_foremostOf 19 = .ok (.ifCond .eq 35, 3) := by decide +kernel
theorem dX2_foremostOf_22 : decode cX2_foremostOf 22 = .ok (.iload 4, 2) := by decide +kernel
theorem dX2_foremostOf_24 : decode cX2_foremostOf 24 = .ok (.iconst (-1), 1) := by decide +kernel
theorem dX2_foremostOf_25 : decode cX2_foremostOf 25 = .ok (.if_icmp .eq 25, 3) := by decide +kernel
theorem dX2_foremostOf_28 : decode cX2_foremostOf 28 = .ok (.aload_n 0, 1) := by decide +kernel
theorem dX2_foremostOf_29 : decode cX2_foremostOf 29 = .ok (.iload_n 2, 1) := by decide +kernel
theorem dX2_foremostOf_30 : decode cX2_foremostOf 30 = .ok (.aload_n 1, 1) := by decide +kernel
theorem dX2_foremostOf_31 : decode cX2_foremostOf 31 = .ok (.getfield 174, 3) := by decide +kernel
theorem dX2_foremostOf_34 : decode cX2_foremostOf 34 = .ok (.iload 5, 2) := by decide +kernel
theorem dX2_foremostOf_36 : decode cX2_foremostOf 36 = .ok (.iaload, 1) := by decide +kernel
theorem dX2_foremostOf_37 : decode cX2_foremostOf 37 = .ok (.aload_n 1, 1) := by decide +kernel
theorem dX2_foremostOf_38 : decode cX2_foremostOf 38 = .ok (.getfield 174, 3) := by decide +kernel
theorem dX2_foremostOf_41 : decode cX2_foremostOf 41 = .ok (.iload 4, 2) := by decide +kernel
theorem dX2_foremostOf_43 : decode cX2_foremostOf 43 = .ok (.iaload, 1) := by decide +kernel
theorem dX2_foremostOf_44 : decode cX2_foremostOf 44 = .ok (.invokevirtual 231, 3) := by decide +kernel
theorem dX2_foremostOf_47 : decode cX2_foremostOf 47 = .ok (.ifCond .eq 7, 3) := by decide +kernel
theorem dX2_foremostOf_50 : decode cX2_foremostOf 50 = .ok (.iload 5, 2) := by decide +kernel
theorem dX2_foremostOf_52 : decode cX2_foremostOf 52 = .ok (.istore 4, 2) := by decide +kernel
theorem dX2_foremostOf_54 : decode cX2_foremostOf 54 = .ok (.iinc 5 1, 3) := by decide +kernel
theorem dX2_foremostOf_57 : decode cX2_foremostOf 57 = .ok (.goto (-51), 3) := by decide +kernel
theorem dX2_foremostOf_60 : decode cX2_foremostOf 60 = .ok (.iload 4, 2) := by decide +kernel
theorem dX2_foremostOf_62 : decode cX2_foremostOf 62 = .ok (.ireturn, 1) := by decide +kernel
theorem dX2_comesAhead_0 : decode cX2_comesAhead 0 = .ok (.iconst 0, 1) := by decide +kernel
theorem dX2_comesAhead_1 : decode cX2_comesAhead 1 = .ok (.istore 4, 2) := by decide +kernel
theorem dX2_comesAhead_3 : decode cX2_comesAhead 3 = .ok (.iload 4, 2) := by decide +kernel
theorem dX2_comesAhead_5 : decode cX2_comesAhead 5 = .ok (.iconst 3, 1) := by decide +kernel
theorem dX2_comesAhead_6 : decode cX2_comesAhead 6 = .ok (.if_icmp .ge 78, 3) := by decide +kernel
theorem dX2_comesAhead_9 : decode cX2_comesAhead 9 = .ok (.iload_n 2, 1) := by decide +kernel
theorem dX2_comesAhead_10 : decode cX2_comesAhead 10 = .ok (.iload 4, 2) := by decide +kernel
theorem dX2_comesAhead_12 : decode cX2_comesAhead 12 = .ok (.invokestatic 225, 3) := by decide +kernel
theorem dX2_comesAhead_15 : decode cX2_comesAhead 15 = .ok (.iload_n 3, 1) := by decide +kernel
theorem dX2_comesAhead_16 : decode cX2_comesAhead 16 = .ok (.iload 4, 2) := by decide +kernel
theorem dX2_comesAhead_18 : decode cX2_comesAhead 18 = .ok (.invokestatic 225, 3) := by decide +kernel
theorem dX2_comesAhead_21 : decode cX2_comesAhead 21 = .ok (.if_icmp .eq 57, 3) := by decide +kernel
theorem dX2_comesAhead_24 : decode cX2_comesAhead 24 = .ok (.bipush 16, 2) := by decide +kernel
theorem dX2_comesAhead_26 : decode cX2_comesAhead 26 = .ok (.iload_n 1, 1) := by decide +kernel
theorem dX2_comesAhead_27 : decode cX2_comesAhead 27 = .ok (.iload 4, 2) := by decide +kernel
theorem dX2_comesAhead_29 : decode cX2_comesAhead 29 = .ok (.invokestatic 225, 3) := by decide +kernel
theorem dX2_comesAhead_32 : decode cX2_comesAhead 32 = .ok (.imul, 1) := by decide +kernel
theorem dX2_comesAhead_33 : decode cX2_comesAhead 33 = .ok (.istore 5, 2) := by decide +kernel
theorem dX2_comesAhead_35 : decode cX2_comesAhead 35 = .ok (.aload_n 0, 1) := by decide +kernel
theorem dX2_comesAhead_36 : decode cX2_comesAhead 36 = .ok (.getfield 12, 3) := by decide +kernel
theorem dX2_comesAhead_39 : decode cX2_comesAhead 39 = .ok (.getfield 234, 3) := by decide +kernel
theorem dX2_comesAhead_42 : decode cX2_comesAhead 42 = .ok (.iload 5, 2) := by decide +kernel
theorem dX2_comesAhead_44 : decode cX2_comesAhead 44 = .ok (.iload_n 2, 1) := by decide +kernel
theorem dX2_comesAhead_45 : decode cX2_comesAhead 45 = .ok (.iload 4, 2) := by decide +kernel
theorem dX2_comesAhead_47 : decode cX2_comesAhead 47 = .ok (.invokestatic 225, 3) := by decide +kernel
theorem dX2_comesAhead_50 : decode cX2_comesAhead 50 = .ok (.iadd, 1) := by decide +kernel
theorem dX2_comesAhead_51 : decode cX2_comesAhead 51 = .ok (.iaload, 1) := by decide +kernel
theorem dX2_comesAhead_52 : decode cX2_comesAhead 52 = .ok (.aload_n 0, 1) := by decide +kernel
theorem dX2_comesAhead_53 : decode cX2_comesAhead 53 = .ok (.getfield 12, 3) := by decide +kernel
theorem dX2_comesAhead_56 : decode cX2_comesAhead 56 = .ok (.getfield 234, 3) := by decide +kernel
theorem dX2_comesAhead_59 : decode cX2_comesAhead 59 = .ok (.iload 5, 2) := by decide +kernel
theorem dX2_comesAhead_61 : decode cX2_comesAhead 61 = .ok (.iload_n 3, 1) := by decide +kernel
theorem dX2_comesAhead_62 : decode cX2_comesAhead 62 = .ok (.iload 4, 2) := by decide +kernel
theorem dX2_comesAhead_64 : decode cX2_comesAhead 64 = .ok (.invokestatic 225, 3) := by decide +kernel
theorem dX2_comesAhead_67 : decode cX2_comesAhead 67 = .ok (.iadd, 1) := by decide +kernel
theorem dX2_comesAhead_68 : decode cX2_comesAhead 68 = .ok (.iaload, 1) := by decide +kernel
theorem dX2_comesAhead_69 : decode cX2_comesAhead 69 = .ok (.if_icmp .ge 7, 3) := by decide +kernel
theorem dX2_comesAhead_72 : decode cX2_comesAhead 72 = .ok (.iconst 1, 1) := by decide +kernel
theorem dX2_comesAhead_73 : decode cX2_comesAhead 73 = .ok (.goto 4, 3) := by decide +kernel
theorem dX2_comesAhead_76 : decode cX2_comesAhead 76 = .ok (.iconst 0, 1) := by decide +kernel
theorem dX2_comesAhead_77 : decode cX2_comesAhead 77 = .ok (.ireturn, 1) := by decide +kernel
theorem dX2_comesAhead_78 : decode cX2_comesAhead 78 = .ok (.iinc 4 1, 3) := by decide +kernel
theorem dX2_comesAhead_81 : decode cX2_comesAhead 81 = .ok (.goto (-78), 3) := by decide +kernel
theorem dX2_comesAhead_84 : decode cX2_comesAhead 84 = .ok (.iconst 0, 1) := by decide +kernel
theorem dX2_comesAhead_85 : decode cX2_comesAhead 85 = .ok (.ireturn, 1) := by decide +kernel
theorem dX2_layChain_0 : decode cX2_layChain 0 = .ok (.aload_n 1, 1) := by decide +kernel
theorem dX2_layChain_1 : decode cX2_layChain 1 = .ok (.iload_n 2, 1) := by decide +kernel
theorem dX2_layChain_2 : decode cX2_layChain 2 = .ok (.invokevirtual 186, 3) := by decide +kernel
theorem dX2_layChain_5 : decode cX2_layChain 5 = .ok (.istore_n 3, 1) := by decide +kernel
theorem dX2_layChain_6 : decode cX2_layChain 6 = .ok (.aload_n 0, 1) := by decide +kernel
theorem dX2_layChain_7 : decode cX2_layChain 7 = .ok (.iconst 0, 1) := by decide +kernel
theorem dX2_layChain_8 : decode cX2_layChain 8 = .ok (.putfield 44, 3) := by decide +kernel
theorem dX2_layChain_11 : decode cX2_layChain 11 = .ok (.iconst 0, 1) := by decide +kernel
theorem dX2_layChain_12 : decode cX2_layChain 12 = .ok (.istore 4, 2) := by decide +kernel
theorem dX2_layChain_14 : decode cX2_layChain 14 = .ok (.iload 4, 2) := by decide +kernel
theorem dX2_layChain_16 : decode cX2_layChain 16 = .ok (.bipush 12, 2) := by decide +kernel
theorem dX2_layChain_18 : decode cX2_layChain 18 = .ok (.if_icmp .ge 54, 3) := by decide +kernel
theorem dX2_layChain_21 : decode cX2_layChain 21 = .ok (.aload_n 0, 1) := by decide +kernel
theorem dX2_layChain_22 : decode cX2_layChain 22 = .ok (.aload_n 1, 1) := by decide +kernel
theorem dX2_layChain_23 : decode cX2_layChain 23 = .ok (.iload_n 2, 1) := by decide +kernel
theorem dX2_layChain_24 : decode cX2_layChain 24 = .ok (.iload_n 3, 1) := by decide +kernel
theorem dX2_layChain_25 : decode cX2_layChain 25 = .ok (.invokevirtual 189, 3) := by decide +kernel
theorem dX2_layChain_28 : decode cX2_layChain 28 = .ok (.istore 5, 2) := by decide +kernel
theorem dX2_layChain_30 : decode cX2_layChain 30 = .ok (.iload 5, 2) := by decide +kernel
theorem dX2_layChain_32 : decode cX2_layChain 32 = .ok (.ifCond .ge 6, 3) := by decide +kernel
theorem dX2_layChain_35 : decode cX2_layChain 35 = .ok (.goto 37, 3) := by decide +kernel
theorem dX2_layChain_38 : decode cX2_layChain 38 = .ok (.aload_n 0, 1) := by decide +kernel
theorem dX2_layChain_39 : decode cX2_layChain 39 = .ok (.getfield 40, 3) := by decide +kernel
theorem dX2_layChain_42 : decode cX2_layChain 42 = .ok (.iload 4, 2) := by decide +kernel
theorem dX2_layChain_44 : decode cX2_layChain 44 = .ok (.iload 5, 2) := by decide +kernel
theorem dX2_layChain_46 : decode cX2_layChain 46 = .ok (.iastore, 1) := by decide +kernel
theorem dX2_layChain_47 : decode cX2_layChain 47 = .ok (.aload_n 0, 1) := by decide +kernel
theorem dX2_layChain_48 : decode cX2_layChain 48 = .ok (.dup, 1) := by decide +kernel
theorem dX2_layChain_49 : decode cX2_layChain 49 = .ok (.getfield 44, 3) := by decide +kernel
theorem dX2_layChain_52 : decode cX2_layChain 52 = .ok (.iconst 1, 1) := by decide +kernel
theorem dX2_layChain_53 : decode cX2_layChain 53 = .ok (.iadd, 1) := by decide +kernel
theorem dX2_layChain_54 : decode cX2_layChain 54 = .ok (.putfield 44, 3) := by decide +kernel
theorem dX2_layChain_57 : decode cX2_layChain 57 = .ok (.iload_n 3, 1) := by decide +kernel
theorem dX2_layChain_58 : decode cX2_layChain 58 = .ok (.iconst 1, 1) := by decide +kernel
theorem dX2_layChain_59 : decode cX2_layChain 59 = .ok (.iload 5, 2) := by decide +kernel
theorem dX2_layChain_61 : decode cX2_layChain 61 = .ok (.ishl, 1) := by decide +kernel
theorem dX2_layChain_62 : decode cX2_layChain 62 = .ok (.iconst (-1), 1) := by decide +kernel
theorem dX2_layChain_63 : decode cX2_layChain 63 = .ok (.ixor, 1) := by decide +kernel
theorem dX2_layChain_64 : decode cX2_layChain 64 = .ok (.iand, 1) := by decide +kernel
theorem dX2_layChain_65 : decode cX2_layChain 65 = .ok (.istore_n 3, 1) := by decide +kernel
theorem dX2_layChain_66 : decode cX2_layChain 66 = .ok (.iinc 4 1, 3) := by decide +kernel
theorem dX2_layChain_69 : decode cX2_layChain 69 = .ok (.goto (-55), 3) := by decide +kernel
theorem dX2_layChain_72 : decode cX2_layChain 72 = .ok (.iload_n 3, 1) := by decide +kernel
theorem dX2_layChain_73 : decode cX2_layChain 73 = .ok (.ireturn, 1) := by decide +kernel
theorem dX2_callCount_0 : decode cX2_callCount 0 = .ok (.iconst 1, 1) := by decide +kernel
theorem dX2_callCount_1 : decode cX2_callCount 1 = .ok (.istore_n 2, 1) := by decide +kernel
theorem dX2_callCount_2 : decode cX2_callCount 2 = .ok (.iconst 0, 1) := by decide +kernel
theorem dX2_callCount_3 : decode cX2_callCount 3 = .ok (.istore_n 3, 1) := by decide +kernel
theorem dX2_callCount_4 : decode cX2_callCount 4 = .ok (.iload_n 3, 1) := by decide +kernel
theorem dX2_callCount_5 : decode cX2_callCount 5 = .ok (.aload_n 1, 1) := by decide +kernel
theorem dX2_callCount_6 : decode cX2_callCount 6 = .ok (.getfield 93, 3) := by decide +kernel
theorem dX2_callCount_9 : decode cX2_callCount 9 = .ok (.if_icmp .ge 19, 3) := by decide +kernel
theorem dX2_callCount_12 : decode cX2_callCount 12 = .ok (.iload_n 2, 1) := by decide +kernel
theorem dX2_callCount_13 : decode cX2_callCount 13 = .ok (.aload_n 0, 1) := by decide +kernel
theorem dX2_callCount_14 : decode cX2_callCount 14 = .ok (.getfield 12, 3) := by decide +kernel
theorem dX2_callCount_17 : decode cX2_callCount 17 = .ok (.getfield 57, 3) := by decide +kernel
theorem dX2_callCount_20 : decode cX2_callCount 20 = .ok (.imul, 1) := by decide +kernel
theorem dX2_callCount_21 : decode cX2_callCount 21 = .ok (.istore_n 2, 1) := by decide +kernel
theorem dX2_callCount_22 : decode cX2_callCount 22 = .ok (.iinc 3 1, 3) := by decide +kernel
theorem dX2_callCount_25 : decode cX2_callCount 25 = .ok (.goto (-21), 3) := by decide +kernel
theorem dX2_callCount_28 : decode cX2_callCount 28 = .ok (.iload_n 2, 1) := by decide +kernel
theorem dX2_callCount_29 : decode cX2_callCount 29 = .ok (.ireturn, 1) := by decide +kernel
theorem dX2_fillAnswers_0 : decode cX2_fillAnswers 0 = .ok (.aload_n 0, 1) := by decide +kernel
theorem dX2_fillAnswers_1 : decode cX2_fillAnswers 1 = .ok (.getfield 50, 3) := by decide +kernel
theorem dX2_fillAnswers_4 : decode cX2_fillAnswers 4 = .ok (.iload_n 1, 1) := by decide +kernel
theorem dX2_fillAnswers_5 : decode cX2_fillAnswers 5 = .ok (.if_icmp .ne 4, 3) := by decide +kernel
theorem dX2_fillAnswers_8 : decode cX2_fillAnswers 8 = .ok (.return_, 1) := by decide +kernel
theorem dX2_fillAnswers_9 : decode cX2_fillAnswers 9 = .ok (.aload_n 0, 1) := by decide +kernel
theorem dX2_fillAnswers_10 : decode cX2_fillAnswers 10 = .ok (.getfield 18, 3) := by decide +kernel
theorem dX2_fillAnswers_13 : decode cX2_fillAnswers 13 = .ok (.iload_n 1, 1) := by decide +kernel
theorem dX2_fillAnswers_14 : decode cX2_fillAnswers 14 = .ok (.aaload, 1) := by decide +kernel
theorem dX2_fillAnswers_15 : decode cX2_fillAnswers 15 = .ok (.astore_n 2, 1) := by decide +kernel
theorem dX2_fillAnswers_16 : decode cX2_fillAnswers 16 = .ok (.aload_n 0, 1) := by decide +kernel
theorem dX2_fillAnswers_17 : decode cX2_fillAnswers 17 = .ok (.aload_n 2, 1) := by decide +kernel
theorem dX2_fillAnswers_18 : decode cX2_fillAnswers 18 = .ok (.invokevirtual 147, 3) := by decide +kernel
theorem dX2_fillAnswers_21 : decode cX2_fillAnswers 21 = .ok (.istore_n 3, 1) := by decide +kernel
theorem dX2_fillAnswers_22 : decode cX2_fillAnswers 22 = .ok (.iconst 0, 1) := by decide +kernel
theorem dX2_fillAnswers_23 : decode cX2_fillAnswers 23 = .ok (.istore 4, 2) := by decide +kernel
theorem dX2_fillAnswers_25 : decode cX2_fillAnswers 25 = .ok (.iconst 0, 1) := by decide +kernel
theorem dX2_fillAnswers_26 : decode cX2_fillAnswers 26 = .ok (.istore 5, 2) := by decide +kernel
theorem dX2_fillAnswers_28 : decode cX2_fillAnswers 28 = .ok (.iload 4, 2) := by decide +kernel
theorem dX2_fillAnswers_30 : decode cX2_fillAnswers 30 = .ok (.iload_n 3, 1) := by decide +kernel
theorem dX2_fillAnswers_31 : decode cX2_fillAnswers 31 = .ok (.if_icmp .ge 40, 3) := by decide +kernel
theorem dX2_fillAnswers_34 : decode cX2_fillAnswers 34 = .ok (.aload_n 0, 1) := by decide +kernel
theorem dX2_fillAnswers_35 : decode cX2_fillAnswers 35 = .ok (.getfield 47, 3) := by decide +kernel
theorem dX2_fillAnswers_38 : decode cX2_fillAnswers 38 = .ok (.iload 5, 2) := by decide +kernel
theorem dX2_fillAnswers_40 : decode cX2_fillAnswers 40 = .ok (.aload_n 0, 1) := by decide +kernel
theorem dX2_fillAnswers_41 : decode cX2_fillAnswers 41 = .ok (.aload_n 2, 1) := by decide +kernel
theorem dX2_fillAnswers_42 : decode cX2_fillAnswers 42 = .ok (.iload 5, 2) := by decide +kernel
theorem dX2_fillAnswers_44 : decode cX2_fillAnswers 44 = .ok (.aload_n 2, 1) := by decide +kernel
theorem dX2_fillAnswers_45 : decode cX2_fillAnswers 45 = .ok (.iload 5, 2) := by decide +kernel
theorem dX2_fillAnswers_47 : decode cX2_fillAnswers 47 = .ok (.invokevirtual 186, 3) := by decide +kernel
theorem dX2_fillAnswers_50 : decode cX2_fillAnswers 50 = .ok (.invokevirtual 189, 3) := by decide +kernel
theorem dX2_fillAnswers_53 : decode cX2_fillAnswers 53 = .ok (.iastore, 1) := by decide +kernel
theorem dX2_fillAnswers_54 : decode cX2_fillAnswers 54 = .ok (.iinc 4 1, 3) := by decide +kernel
theorem dX2_fillAnswers_57 : decode cX2_fillAnswers 57 = .ok (.aload_n 0, 1) := by decide +kernel
theorem dX2_fillAnswers_58 : decode cX2_fillAnswers 58 = .ok (.getfield 12, 3) := by decide +kernel
theorem dX2_fillAnswers_61 : decode cX2_fillAnswers 61 = .ok (.iload 5, 2) := by decide +kernel
theorem dX2_fillAnswers_63 : decode cX2_fillAnswers 63 = .ok (.invokevirtual 209, 3) := by decide +kernel
theorem dX2_fillAnswers_66 : decode cX2_fillAnswers 66 = .ok (.istore 5, 2) := by decide +kernel
theorem dX2_fillAnswers_68 : decode cX2_fillAnswers 68 = .ok (.goto (-40), 3) := by decide +kernel
theorem dX2_fillAnswers_71 : decode cX2_fillAnswers 71 = .ok (.aload_n 0, 1) := by decide +kernel
theorem dX2_fillAnswers_72 : decode cX2_fillAnswers 72 = .ok (.iload_n 1, 1) := by decide +kernel
theorem dX2_fillAnswers_73 : decode cX2_fillAnswers 73 = .ok (.putfield 50, 3) := by decide +kernel
theorem dX2_fillAnswers_76 : decode cX2_fillAnswers 76 = .ok (.return_, 1) := by decide +kernel
theorem dX2_callsAnswered_0 : decode cX2_callsAnswered 0 = .ok (.aload_n 0, 1) := by decide +kernel
theorem dX2_callsAnswered_1 : decode cX2_callsAnswered 1 = .ok (.iload_n 1, 1) := by decide +kernel
theorem dX2_callsAnswered_2 : decode cX2_callsAnswered 2 = .ok (.invokevirtual 212, 3) := by decide +kernel
theorem dX2_callsAnswered_5 : decode cX2_callsAnswered 5 = .ok (.iconst 0, 1) := by decide +kernel
theorem dX2_callsAnswered_6 : decode cX2_callsAnswered 6 = .ok (.istore_n 3, 1) := by decide +kernel
theorem dX2_callsAnswered_7 : decode cX2_callsAnswered 7 = .ok (.aload_n 0, 1) := by decide +kernel
theorem dX2_callsAnswered_8 : decode cX2_callsAnswered 8 = .ok (.aload_n 0, 1) := by decide +kernel
theorem dX2_callsAnswered_9 : decode cX2_callsAnswered 9 = .ok (.getfield 18, 3) := by decide +kernel
theorem dX2_callsAnswered_12 : decode cX2_callsAnswered 12 = .ok (.iload_n 1, 1) := by decide +kernel
theorem dX2_callsAnswered_13 : decode cX2_callsAnswered 13 = .ok (.aaload, 1) := by decide +kernel
theorem dX2_callsAnswered_14 : decode cX2_callsAnswered 14 = .ok (.invokevirtual 147, 3) := by decide +kernel
theorem dX2_callsAnswered_17 : decode cX2_callsAnswered 17 = .ok (.istore 4, 2) := by decide +kernel
theorem dX2_callsAnswered_19 : decode cX2_callsAnswered 19 = .ok (.iconst 0, 1) := by decide +kernel
theorem dX2_callsAnswered_20 : decode cX2_callsAnswered 20 = .ok (.istore 5, 2) := by decide +kernel
theorem dX2_callsAnswered_22 : decode cX2_callsAnswered 22 = .ok (.iconst 0, 1) := by decide +kernel
theorem dX2_callsAnswered_23 : decode cX2_callsAnswered 23 = .ok (.istore 6, 2) := by decide +kernel
theorem dX2_callsAnswered_25 : decode cX2_callsAnswered 25 = .ok (.iload 5, 2) := by decide +kernel
theorem dX2_callsAnswered_27 : decode cX2_callsAnswered 27 = .ok (.iload 4, 2) := by decide +kernel
theorem dX2_callsAnswered_29 : decode cX2_callsAnswered 29 = .ok (.if_icmp .ge 34, 3) := by decide +kernel
theorem dX2_callsAnswered_32 : decode cX2_callsAnswered 32 = .ok (.aload_n 0, 1) := by decide +kernel
theorem dX2_callsAnswered_33 : decode cX2_callsAnswered 33 = .ok (.getfield 47, 3) := by decide +kernel
theorem dX2_callsAnswered_36 : decode cX2_callsAnswered 36 = .ok (.iload 6, 2) := by decide +kernel
theorem dX2_callsAnswered_38 : decode cX2_callsAnswered 38 = .ok (.iaload, 1) := by decide +kernel
theorem dX2_callsAnswered_39 : decode cX2_callsAnswered 39 = .ok (.iload_n 2, 1) := by decide +kernel
theorem dX2_callsAnswered_40 : decode cX2_callsAnswered 40 = .ok (.if_icmp .ne 6, 3) := by decide +kernel
theorem dX2_callsAnswered_43 : decode cX2_callsAnswered 43 = .ok (.iinc 3 1, 3) := by decide +kernel
theorem dX2_callsAnswered_46 : decode cX2_callsAnswered 46 = .ok (.iinc 5 1, 3) := by decide +kernel
theorem dX2_callsAnswered_49 : decode cX2_callsAnswered 49 = .ok (.aload_n 0, 1) := by decide +kernel
theorem dX2_callsAnswered_50 : decode cX2_callsAnswered 50 = .ok (.getfield 12, 3) := by decide +kernel
theorem dX2_callsAnswered_53 : decode cX2_callsAnswered 53 = .ok (.iload 6, 2) := by decide +kernel
theorem dX2_callsAnswered_55 : decode cX2_callsAnswered 55 = .ok (.invokevirtual 209, 3) := by decide +kernel
theorem dX2_callsAnswered_58 : decode cX2_callsAnswered 58 = .ok (.istore 6, 2) := by decide +kernel
theorem dX2_callsAnswered_60 : decode cX2_callsAnswered 60 = .ok (.goto (-35), 3) := by decide +kernel
theorem dX2_callsAnswered_63 : decode cX2_callsAnswered 63 = .ok (.iload_n 3, 1) := by decide +kernel
theorem dX2_callsAnswered_64 : decode cX2_callsAnswered 64 = .ok (.ireturn, 1) := by decide +kernel
theorem dX2_callsTaken_0 : decode cX2_callsTaken 0 = .ok (.iconst 0, 1) := by decide +kernel
theorem dX2_callsTaken_1 : decode cX2_callsTaken 1 = .ok (.istore_n 3, 1) := by decide +kernel
theorem dX2_callsTaken_2 : decode cX2_callsTaken 2 = .ok (.aload_n 0, 1) := by decide +kernel
theorem dX2_callsTaken_3 : decode cX2_callsTaken 3 = .ok (.aload_n 1, 1) := by decide +kernel
theorem dX2_callsTaken_4 : decode cX2_callsTaken 4 = .ok (.invokevirtual 147, 3) := by decide +kernel
theorem dX2_callsTaken_7 : decode cX2_callsTaken 7 = .ok (.istore 4, 2) := by decide +kernel
theorem dX2_callsTaken_9 : decode cX2_callsTaken 9 = .ok (.iconst 0, 1) := by decide +kernel
theorem dX2_callsTaken_10 : decode cX2_callsTaken 10 = .ok (.istore 5, 2) := by decide +kernel
theorem dX2_callsTaken_12 : decode cX2_callsTaken 12 = .ok (.iconst 0, 1) := by decide +kernel
theorem dX2_callsTaken_13 : decode cX2_callsTaken 13 = .ok (.istore 6, 2) := by decide +kernel
theorem dX2_callsTaken_15 : decode cX2_callsTaken 15 = .ok (.iload 5, 2) := by decide +kernel
theorem dX2_callsTaken_17 : decode cX2_callsTaken 17 = .ok (.iload 4, 2) := by decide +kernel
theorem dX2_callsTaken_19 : decode cX2_callsTaken 19 = .ok (.if_icmp .ge 33, 3) := by decide +kernel
theorem dX2_callsTaken_22 : decode cX2_callsTaken 22 = .ok (.iload_n 3, 1) := by decide +kernel
theorem dX2_callsTaken_23 : decode cX2_callsTaken 23 = .ok (.aload_n 1, 1) := by decide +kernel
theorem dX2_callsTaken_24 : decode cX2_callsTaken 24 = .ok (.iload 6, 2) := by decide +kernel
theorem dX2_callsTaken_26 : decode cX2_callsTaken 26 = .ok (.invokevirtual 186, 3) := by decide +kernel
theorem dX2_callsTaken_29 : decode cX2_callsTaken 29 = .ok (.iload_n 2, 1) := by decide +kernel
theorem dX2_callsTaken_30 : decode cX2_callsTaken 30 = .ok (.ishr, 1) := by decide +kernel
theorem dX2_callsTaken_31 : decode cX2_callsTaken 31 = .ok (.iconst 1, 1) := by decide +kernel
theorem dX2_callsTaken_32 : decode cX2_callsTaken 32 = .ok (.iand, 1) := by decide +kernel
theorem dX2_callsTaken_33 : decode cX2_callsTaken 33 = .ok (.iadd, 1) := by decide +kernel
theorem dX2_callsTaken_34 : decode cX2_callsTaken 34 = .ok (.istore_n 3, 1) := by decide +kernel
theorem dX2_callsTaken_35 : decode cX2_callsTaken 35 = .ok (.iinc 5 1, 3) := by decide +kernel
theorem dX2_callsTaken_38 : decode cX2_callsTaken 38 = .ok (.aload_n 0, 1) := by decide +kernel
theorem dX2_callsTaken_39 : decode cX2_callsTaken 39 = .ok (.getfield 12, 3) := by decide +kernel
theorem dX2_callsTaken_42 : decode cX2_callsTaken 42 = .ok (.iload 6, 2) := by decide +kernel
theorem dX2_callsTaken_44 : decode cX2_callsTaken 44 = .ok (.invokevirtual 209, 3) := by decide +kernel
theorem dX2_callsTaken_47 : decode cX2_callsTaken 47 = .ok (.istore 6, 2) := by decide +kernel
theorem dX2_callsTaken_49 : decode cX2_callsTaken 49 = .ok (.goto (-34), 3) := by decide +kernel
theorem dX2_callsTaken_52 : decode cX2_callsTaken 52 = .ok (.iload_n 3, 1) := by decide +kernel
theorem dX2_callsTaken_53 : decode cX2_callsTaken 53 = .ok (.ireturn, 1) := by decide +kernel
theorem dX2_ambiguousCalls_0 : decode cX2_ambiguousCalls 0 = .ok (.iconst 0, 1) := by decide +kernel
theorem dX2_ambiguousCalls_1 : decode cX2_ambiguousCalls 1 = .ok (.istore_n 2, 1) := by decide +kernel
theorem dX2_ambiguousCalls_2 : decode cX2_ambiguousCalls 2 = .ok (.aload_n 0, 1) := by decide +kernel
theorem dX2_ambiguousCalls_3 : decode cX2_ambiguousCalls 3 = .ok (.aload_n 1, 1) := by decide +kernel
theorem dX2_ambiguousCalls_4 : decode cX2_ambiguousCalls 4 = .ok (.invokevirtual 147, 3) := by decide +kernel
theorem dX2_ambiguousCalls_7 : decode cX2_ambiguousCalls 7 = .ok (.istore_n 3, 1) := by decide +kernel
theorem dX2_ambiguousCalls_8 : decode cX2_ambiguousCalls 8 = .ok (.iconst 0, 1) := by decide +kernel
theorem dX2_ambiguousCalls_9 : decode cX2_ambiguousCalls 9 = .ok (.istore 4, 2) := by decide +kernel
theorem dX2_ambiguousCalls_11 : decode cX2_ambiguousCalls 11 = .ok (.iconst 0, 1) := by decide +kernel
theorem dX2_ambiguousCalls_12 : decode cX2_ambiguousCalls 12 = .ok (.istore 5, 2) := by decide +kernel
theorem dX2_ambiguousCalls_14 : decode cX2_ambiguousCalls 14 = .ok (.iload 4, 2) := by decide +kernel
theorem dX2_ambiguousCalls_16 : decode cX2_ambiguousCalls 16 = .ok (.iload_n 3, 1) := by decide +kernel
theorem dX2_ambiguousCalls_17 : decode cX2_ambiguousCalls 17 = .ok (.if_icmp .ge 38, 3) := by decide +kernel
theorem dX2_ambiguousCalls_20 : decode cX2_ambiguousCalls 20 = .ok (.aload_n 1, 1) := by decide +kernel
theorem dX2_ambiguousCalls_21 : decode cX2_ambiguousCalls 21 = .ok (.aload_n 1, 1) := by decide +kernel
theorem dX2_ambiguousCalls_22 : decode cX2_ambiguousCalls 22 = .ok (.iload 5, 2) := by decide +kernel
theorem dX2_ambiguousCalls_24 : decode cX2_ambiguousCalls 24 = .ok (.invokevirtual 186, 3) := by decide +kernel
theorem dX2_ambiguousCalls_27 : decode cX2_ambiguousCalls 27 = .ok (.invokevirtual 222, 3) := by decide +kernel
theorem dX2_ambiguousCalls_30 : decode cX2_ambiguousCalls 30 = .ok (.bipush (-2), 2) := by decide +kernel
theorem dX2_ambiguousCalls_32 : decode cX2_ambiguousCalls 32 = .ok (.if_icmp .ne 6, 3) := by decide +kernel
theorem dX2_ambiguousCalls_35 : decode cX2_ambiguousCalls 35 = .ok (.iinc 2 1, 3) := by decide +kernel
theorem dX2_ambiguousCalls_38 : decode cX2_ambiguousCalls 38 = .ok (.iinc 4 1, 3) := by decide +kernel
theorem dX2_ambiguousCalls_41 : decode cX2_ambiguousCalls 41 = .ok (.aload_n 0, 1) := by decide +kernel
theorem dX2_ambiguousCalls_42 : decode cX2_ambiguousCalls 42 = .ok (.getfield 12, 3) := by decide +kernel
theorem dX2_ambiguousCalls_45 : decode cX2_ambiguousCalls 45 = .ok (.iload 5, 2) := by decide +kernel
theorem dX2_ambiguousCalls_47 : decode cX2_ambiguousCalls 47 = .ok (.invokevirtual 209, 3) := by decide +kernel
theorem dX2_ambiguousCalls_50 : decode cX2_ambiguousCalls 50 = .ok (.istore 5, 2) := by decide +kernel
theorem dX2_ambiguousCalls_52 : decode cX2_ambiguousCalls 52 = .ok (.goto (-38), 3) := by decide +kernel
theorem dX2_ambiguousCalls_55 : decode cX2_ambiguousCalls 55 = .ok (.iload_n 2, 1) := by decide +kernel
theorem dX2_ambiguousCalls_56 : decode cX2_ambiguousCalls 56 = .ok (.ireturn, 1) := by decide +kernel
theorem dX2_idleMethods_0 : decode cX2_idleMethods 0 = .ok (.aload_n 0, 1) := by decide +kernel
theorem dX2_idleMethods_1 : decode cX2_idleMethods 1 = .ok (.iload_n 1, 1) := by decide +kernel
theorem dX2_idleMethods_2 : decode cX2_idleMethods 2 = .ok (.invokevirtual 212, 3) := by decide +kernel
theorem dX2_idleMethods_5 : decode cX2_idleMethods 5 = .ok (.aload_n 0, 1) := by decide +kernel
theorem dX2_idleMethods_6 : decode cX2_idleMethods 6 = .ok (.getfield 18, 3) := by decide +kernel
theorem dX2_idleMethods_9 : decode cX2_idleMethods 9 = .ok (.iload_n 1, 1) := by decide +kernel
theorem dX2_idleMethods_10 : decode cX2_idleMethods 10 = .ok (.aaload, 1) := by decide +kernel
theorem dX2_idleMethods_11 : decode cX2_idleMethods 11 = .ok (.astore_n 2, 1) := by decide +kernel
theorem dX2_idleMethods_12 : decode cX2_idleMethods 12 = .ok (.aload_n 2, 1) := by decide +kernel
theorem dX2_idleMethods_13 : decode cX2_idleMethods 13 = .ok (.getfield 126, 3) := by decide +kernel
theorem dX2_idleMethods_16 : decode cX2_idleMethods 16 = .ok (.istore_n 3, 1) := by decide +kernel
theorem dX2_idleMethods_17 : decode cX2_idleMethods 17 = .ok (.aload_n 0, 1) := by decide +kernel
theorem dX2_idleMethods_18 : decode cX2_idleMethods 18 = .ok (.aload_n 2, 1) := by decide +kernel
theorem dX2_idleMethods_19 : decode cX2_idleMethods 19 = .ok (.invokevirtual 147, 3) := by decide +kernel
theorem dX2_idleMethods_22 : decode cX2_idleMethods 22 = .ok (.istore 4, 2) := by decide +kernel
theorem dX2_idleMethods_24 : decode cX2_idleMethods 24 = .ok (.iconst 0, 1) := by decide +kernel
theorem dX2_idleMethods_25 : decode cX2_idleMethods 25 = .ok (.istore 5, 2) := by decide +kernel
theorem dX2_idleMethods_27 : decode cX2_idleMethods 27 = .ok (.iconst 0, 1) := by decide +kernel
theorem dX2_idleMethods_28 : decode cX2_idleMethods 28 = .ok (.istore 6, 2) := by decide +kernel
theorem dX2_idleMethods_30 : decode cX2_idleMethods 30 = .ok (.iload 5, 2) := by decide +kernel
theorem dX2_idleMethods_32 : decode cX2_idleMethods 32 = .ok (.iload 4, 2) := by decide +kernel
theorem dX2_idleMethods_34 : decode cX2_idleMethods 34 = .ok (.if_icmp .ge 44, 3) := by decide +kernel
theorem dX2_idleMethods_37 : decode cX2_idleMethods 37 = .ok (.aload_n 0, 1) := by decide +kernel
theorem dX2_idleMethods_38 : decode cX2_idleMethods 38 = .ok (.getfield 47, 3) := by decide +kernel
theorem dX2_idleMethods_41 : decode cX2_idleMethods 41 = .ok (.iload 6, 2) := by decide +kernel
theorem dX2_idleMethods_43 : decode cX2_idleMethods 43 = .ok (.iaload, 1) := by decide +kernel
theorem dX2_idleMethods_44 : decode cX2_idleMethods 44 = .ok (.ifCond .lt 17, 3) := by decide +kernel
theorem dX2_idleMethods_47 : decode cX2_idleMethods 47 = .ok (.iload_n 3, 1) := by decide +kernel
theorem dX2_idleMethods_48 : decode cX2_idleMethods 48 = .ok (.iconst 1, 1) := by decide +kernel
theorem dX2_idleMethods_49 : decode cX2_idleMethods 49 = .ok (.aload_n 0, 1) := by decide +kernel
theorem dX2_idleMethods_50 : decode cX2_idleMethods 50 = .ok (.getfield 47, 3) := by decide +kernel
theorem dX2_idleMethods_53 : decode cX2_idleMethods 53 = .ok (.iload 6, 2) := by decide +kernel
theorem dX2_idleMethods_55 : decode cX2_idleMethods 55 = .ok (.iaload, 1) := by decide +kernel
theorem dX2_idleMethods_56 : decode cX2_idleMethods 56 = .ok (.ishl, 1) := by decide +kernel
theorem dX2_idleMethods_57 : decode cX2_idleMethods 57 = .ok (.iconst (-1), 1) := by decide +kernel
theorem dX2_idleMethods_58 : decode cX2_idleMethods 58 = .ok (.ixor, 1) := by decide +kernel
theorem dX2_idleMethods_59 : decode cX2_idleMethods 59 = .ok (.iand, 1) := by decide +kernel
theorem dX2_idleMethods_60 : decode cX2_idleMethods 60 = .ok (.istore_n 3, 1) := by decide +kernel
theorem dX2_idleMethods_61 : decode cX2_idleMethods 61 = .ok (.iinc 5 1, 3) := by decide +kernel
theorem dX2_idleMethods_64 : decode cX2_idleMethods 64 = .ok (.aload_n 0, 1) := by decide +kernel
theorem dX2_idleMethods_65 : decode cX2_idleMethods 65 = .ok (.getfield 12, 3) := by decide +kernel
theorem dX2_idleMethods_68 : decode cX2_idleMethods 68 = .ok (.iload 6, 2) := by decide +kernel
theorem dX2_idleMethods_70 : decode cX2_idleMethods 70 = .ok (.invokevirtual 209, 3) := by decide +kernel
theorem dX2_idleMethods_73 : decode cX2_idleMethods 73 = .ok (.istore 6, 2) := by decide +kernel
theorem dX2_idleMethods_75 : decode cX2_idleMethods 75 = .ok (.goto (-45), 3) := by decide +kernel
theorem dX2_idleMethods_78 : decode cX2_idleMethods 78 = .ok (.iload_n 3, 1) := by decide +kernel
theorem dX2_idleMethods_79 : decode cX2_idleMethods 79 = .ok (.ireturn, 1) := by decide +kernel
theorem dX2_greatestMarked_0 : decode cX2_greatestMarked 0 = .ok (.iconst 0, 1) := by decide +kernel
theorem dX2_greatestMarked_1 : decode cX2_greatestMarked 1 = .ok (.istore 4, 2) := by decide +kernel
theorem dX2_greatestMarked_3 : decode cX2_greatestMarked 3 = .ok (.aload_n 0, 1) := by decide +kernel
theorem dX2_greatestMarked_4 : decode cX2_greatestMarked 4 = .ok (.aload_n 1, 1) := by decide +kernel
theorem dX2_greatestMarked_5 : decode cX2_greatestMarked 5 = .ok (.invokevirtual 147, 3) := by decide +kernel
theorem dX2_greatestMarked_8 : decode cX2_greatestMarked 8 = .ok (.istore 5, 2) := by decide +kernel
theorem dX2_greatestMarked_10 : decode cX2_greatestMarked 10 = .ok (.iconst 0, 1) := by decide +kernel
theorem dX2_greatestMarked_11 : decode cX2_greatestMarked 11 = .ok (.istore 6, 2) := by decide +kernel
theorem dX2_greatestMarked_13 : decode cX2_greatestMarked 13 = .ok (.iconst 0, 1) := by decide +kernel
theorem dX2_greatestMarked_14 : decode cX2_greatestMarked 14 = .ok (.istore 7, 2) := by decide +kernel
theorem dX2_greatestMarked_16 : decode cX2_greatestMarked 16 = .ok (.iload 6, 2) := by decide +kernel
theorem dX2_greatestMarked_18 : decode cX2_greatestMarked 18 = .ok (.iload 5, 2) := by decide +kernel
theorem dX2_greatestMarked_20 : decode cX2_greatestMarked 20 = .ok (.if_icmp .ge 115, 3) := by decide +kernel
theorem dX2_greatestMarked_23 : decode cX2_greatestMarked 23 = .ok (.iload 4, 2) := by decide +kernel
theorem dX2_greatestMarked_25 : decode cX2_greatestMarked 25 = .ok (.ifCond .le 16, 3) := by decide +kernel
theorem dX2_greatestMarked_28 : decode cX2_greatestMarked 28 = .ok (.aload_n 0, 1) := by decide +kernel
theorem dX2_greatestMarked_29 : decode cX2_greatestMarked 29 = .ok (.iload 7, 2) := by decide +kernel
theorem dX2_greatestMarked_31 : decode cX2_greatestMarked 31 = .ok (.invokevirtual 237, 3) := by decide +kernel
theorem dX2_greatestMarked_34 : decode cX2_greatestMarked 34 = .ok (.ifCond .eq 7, 3) := by decide +kernel
theorem dX2_greatestMarked_37 : decode cX2_greatestMarked 37 = .ok (.iconst 1, 1) := by decide +kernel
theorem dX2_greatestMarked_38 : decode cX2_greatestMarked 38 = .ok (.goto 4, 3) := by decide +kernel
theorem dX2_greatestMarked_41 : decode cX2_greatestMarked 41 = .ok (.iconst 0, 1) := by decide +kernel
theorem dX2_greatestMarked_42 : decode cX2_greatestMarked 42 = .ok (.istore 8, 2) := by decide +kernel
theorem dX2_greatestMarked_44 : decode cX2_greatestMarked 44 = .ok (.aload_n 1, 1) := by decide +kernel
theorem dX2_greatestMarked_45 : decode cX2_greatestMarked 45 = .ok (.aload_n 1, 1) := by decide +kernel
theorem dX2_greatestMarked_46 : decode cX2_greatestMarked 46 = .ok (.iload 7, 2) := by decide +kernel
theorem dX2_greatestMarked_48 : decode cX2_greatestMarked 48 = .ok (.invokevirtual 186, 3) := by decide +kernel
theorem dX2_greatestMarked_51 : decode cX2_greatestMarked 51 = .ok (.invokevirtual 222, 3) := by decide +kernel
theorem dX2_greatestMarked_54 : decode cX2_greatestMarked 54 = .ok (.iload_n 2, 1) := by decide +kernel
theorem dX2_greatestMarked_55 : decode cX2_greatestMarked 55 = .ok (.ifCond .eq 7, 3) := by decide +kernel
theorem dX2_greatestMarked_58 : decode cX2_greatestMarked 58 = .ok (.iconst (-1), 1) := by decide +kernel
theorem dX2_greatestMarked_59 : decode cX2_greatestMarked 59 = .ok (.goto 5, 3) := by decide +kernel
theorem dX2_greatestMarked_62 : decode cX2_greatestMarked 62 = .ok (.bipush (-2), 2) := by decide +kernel
theorem dX2_greatestMarked_64 : decode cX2_greatestMarked 64 = .ok (.if_icmp .ne 7, 3) := by decide +kernel
theorem dX2_greatestMarked_67 : decode cX2_greatestMarked 67 = .ok (.iconst 1, 1) := by decide +kernel
theorem dX2_greatestMarked_68 : decode cX2_greatestMarked 68 = .ok (.goto 4, 3) := by decide +kernel
theorem dX2_greatestMarked_71 : decode cX2_greatestMarked 71 = .ok (.iconst 0, 1) := by decide +kernel
theorem dX2_greatestMarked_72 : decode cX2_greatestMarked 72 = .ok (.istore 9, 2) := by decide +kernel
theorem dX2_greatestMarked_74 : decode cX2_greatestMarked 74 = .ok (.aload_n 0, 1) := by decide +kernel
theorem dX2_greatestMarked_75 : decode cX2_greatestMarked 75 = .ok (.getfield 53, 3) := by decide +kernel
theorem dX2_greatestMarked_78 : decode cX2_greatestMarked 78 = .ok (.iload 7, 2) := by decide +kernel
theorem dX2_greatestMarked_80 : decode cX2_greatestMarked 80 = .ok (.iload 8, 2) := by decide +kernel
theorem dX2_greatestMarked_82 : decode cX2_greatestMarked 82 = .ok (.ifCond .ne 8, 3) := by decide +kernel
theorem dX2_greatestMarked_85 : decode cX2_greatestMarked 85 = .ok (.iload 9, 2) := by decide +kernel
theorem dX2_greatestMarked_87 : decode cX2_greatestMarked 87 = .ok (.ifCond .eq 7, 3) := by decide +kernel
theorem dX2_greatestMarked_90 : decode cX2_greatestMarked 90 = .ok (.iconst 1, 1) := by decide +kernel
theorem dX2_greatestMarked_91 : decode cX2_greatestMarked 91 = .ok (.goto 4, 3) := by decide +kernel
theorem dX2_greatestMarked_94 : decode cX2_greatestMarked 94 = .ok (.iconst 0, 1) := by decide +kernel
theorem dX2_greatestMarked_95 : decode cX2_greatestMarked 95 = .ok (.bastore, 1) := by decide +kernel
theorem dX2_greatestMarked_96 : decode cX2_greatestMarked 96 = .ok (.iload 9, 2) := by decide +kernel
theorem dX2_greatestMarked_98 : decode cX2_greatestMarked 98 = .ok (.ifCond .eq 20, 3) := by decide +kernel
theorem dX2_greatestMarked_101 : decode cX2_greatestMarked 101 = .ok (.iload 8, 2) := by decide +kernel
theorem dX2_greatestMarked_103 : decode cX2_greatestMarked 103 = .ok (.ifCond .ne 15, 3) := by decide +kernel
theorem dX2_greatestMarked_106 : decode cX2_greatestMarked 106 = .ok (.iload 4, 2) := by decide +kernel
theorem dX2_greatestMarked_108 : decode cX2_greatestMarked 108 = .ok (.iload_n 3, 1) := by decide +kernel
theorem dX2_greatestMarked_109 : decode cX2_greatestMarked 109 = .ok (.if_icmp .ne 6, 3) := by decide +kernel
theorem dX2_greatestMarked_112 : decode cX2_greatestMarked 112 = .ok (.iload 7, 2) := by decide +kernel
theorem dX2_greatestMarked_114 : decode cX2_greatestMarked 114 = .ok (.ireturn, 1) := by decide +kernel
theorem dX2_greatestMarked_115 : decode cX2_greatestMarked 115 = .ok (.iinc 4 1, 3) := by decide +kernel
theorem dX2_greatestMarked_118 : decode cX2_greatestMarked 118 = .ok (.iinc 6 1, 3) := by decide +kernel
theorem dX2_greatestMarked_121 : decode cX2_greatestMarked 121 = .ok (.aload_n 0, 1) := by decide +kernel
theorem dX2_greatestMarked_122 : decode cX2_greatestMarked 122 = .ok (.getfield 12, 3) := by decide +kernel
theorem dX2_greatestMarked_125 : decode cX2_greatestMarked 125 = .ok (.iload 7, 2) := by decide +kernel
theorem dX2_greatestMarked_127 : decode cX2_greatestMarked 127 = .ok (.invokevirtual 209, 3) := by decide +kernel
theorem dX2_greatestMarked_130 : decode cX2_greatestMarked 130 = .ok (.istore 7, 2) := by decide +kernel
theorem dX2_greatestMarked_132 : decode cX2_greatestMarked 132 = .ok (.goto (-116), 3) := by decide +kernel
theorem dX2_greatestMarked_135 : decode cX2_greatestMarked 135 = .ok (.iload_n 3, 1) := by decide +kernel
theorem dX2_greatestMarked_136 : decode cX2_greatestMarked 136 = .ok (.iconst (-1), 1) := by decide +kernel
theorem dX2_greatestMarked_137 : decode cX2_greatestMarked 137 = .ok (.if_icmp .ne 8, 3) := by decide +kernel
theorem dX2_greatestMarked_140 : decode cX2_greatestMarked 140 = .ok (.iload 4, 2) := by decide +kernel
theorem dX2_greatestMarked_142 : decode cX2_greatestMarked 142 = .ok (.goto 4, 3) := by decide +kernel
theorem dX2_greatestMarked_145 : decode cX2_greatestMarked 145 = .ok (.iconst (-1), 1) := by decide +kernel
theorem dX2_greatestMarked_146 : decode cX2_greatestMarked 146 = .ok (.ireturn, 1) := by decide +kernel
theorem dX2_isBelowCovered_0 : decode cX2_isBelowCovered 0 = .ok (.iconst 0, 1) := by decide +kernel
theorem dX2_isBelowCovered_1 : decode cX2_isBelowCovered 1 = .ok (.istore_n 2, 1) := by decide +kernel
theorem dX2_isBelowCovered_2 : decode cX2_isBelowCovered 2 = .ok (.iload_n 2, 1) := by decide +kernel
theorem dX2_isBelowCovered_3 : decode cX2_isBelowCovered 3 = .ok (.iconst 3, 1) := by decide +kernel
theorem dX2_isBelowCovered_4 : decode cX2_isBelowCovered 4 = .ok (.if_icmp .ge 74, 3) := by decide +kernel
theorem dX2_isBelowCovered_7 : decode cX2_isBelowCovered 7 = .ok (.iload_n 1, 1) := by decide +kernel
theorem dX2_isBelowCovered_8 : decode cX2_isBelowCovered 8 = .ok (.iload_n 2, 1) := by decide +kernel
theorem dX2_isBelowCovered_9 : decode cX2_isBelowCovered 9 = .ok (.invokestatic 225, 3) := by decide +kernel
theorem dX2_isBelowCovered_12 : decode cX2_isBelowCovered 12 = .ok (.istore_n 3, 1) := by decide +kernel
theorem dX2_isBelowCovered_13 : decode cX2_isBelowCovered 13 = .ok (.iconst 0, 1) := by decide +kernel
theorem dX2_isBelowCovered_14 : decode cX2_isBelowCovered 14 = .ok (.istore 4, 2) := by decide +kernel
theorem dX2_isBelowCovered_16 : decode cX2_isBelowCovered 16 = .ok (.iload 4, 2) := by decide +kernel
theorem dX2_isBelowCovered_18 : decode cX2_isBelowCovered 18 = .ok (.aload_n 0, 1) := by decide +kernel
theorem dX2_isBelowCovered_19 : decode cX2_isBelowCovered 19 = .ok (.getfield 12, 3) := by decide +kernel
theorem dX2_isBelowCovered_22 : decode cX2_isBelowCovered 22 = .ok (.getfield 240, 3) := by decide +kernel
theorem dX2_isBelowCovered_25 : decode cX2_isBelowCovered 25 = .ok (.iload_n 3, 1) := by decide +kernel
theorem dX2_isBelowCovered_26 : decode cX2_isBelowCovered 26 = .ok (.iaload, 1) := by decide +kernel
theorem dX2_isBelowCovered_27 : decode cX2_isBelowCovered 27 = .ok (.if_icmp .ge 45, 3) := by decide +kernel
theorem dX2_isBelowCovered_30 : decode cX2_isBelowCovered 30 = .ok (.aload_n 0, 1) := by decide +kernel
theorem dX2_isBelowCovered_31 : decode cX2_isBelowCovered 31 = .ok (.getfield 12, 3) := by decide +kernel
theorem dX2_isBelowCovered_34 : decode cX2_isBelowCovered 34 = .ok (.getfield 243, 3) := by decide +kernel
theorem dX2_isBelowCovered_37 : decode cX2_isBelowCovered 37 = .ok (.iconst 3, 1) := by decide +kernel
theorem dX2_isBelowCovered_38 : decode cX2_isBelowCovered 38 = .ok (.iload_n 3, 1) := by decide +kernel
theorem dX2_isBelowCovered_39 : decode cX2_isBelowCovered 39 = .ok (.imul, 1) := by decide +kernel
theorem dX2_isBelowCovered_40 : decode cX2_isBelowCovered 40 = .ok (.iload 4, 2) := by decide +kernel
theorem dX2_isBelowCovered_42 : decode cX2_isBelowCovered 42 = .ok (.iadd, 1) := by decide +kernel
theorem dX2_isBelowCovered_43 : decode cX2_isBelowCovered 43 = .ok (.iaload, 1) := by decide +kernel
theorem dX2_isBelowCovered_44 : decode cX2_isBelowCovered 44 = .ok (.istore 5, 2) := by decide +kernel
theorem dX2_isBelowCovered_46 : decode cX2_isBelowCovered 46 = .ok (.aload_n 0, 1) := by decide +kernel
theorem dX2_isBelowCovered_47 : decode cX2_isBelowCovered 47 = .ok (.getfield 53, 3) := by decide +kernel
theorem dX2_isBelowCovered_50 : decode cX2_isBelowCovered 50 = .ok (.iload_n 1, 1) := by decide +kernel
theorem dX2_isBelowCovered_51 : decode cX2_isBelowCovered 51 = .ok (.iload_n 3, 1) := by decide +kernel
theorem dX2_isBelowCovered_52 : decode cX2_isBelowCovered 52 = .ok (.iload 5, 2) := by decide +kernel
theorem dX2_isBelowCovered_54 : decode cX2_isBelowCovered 54 = .ok (.isub, 1) := by decide +kernel
theorem dX2_isBelowCovered_55 : decode cX2_isBelowCovered 55 = .ok (.iconst 4, 1) := by decide +kernel
theorem dX2_isBelowCovered_56 : decode cX2_isBelowCovered 56 = .ok (.iload_n 2, 1) := by decide +kernel
theorem dX2_isBelowCovered_57 : decode cX2_isBelowCovered 57 = .ok (.imul, 1) := by decide +kernel
theorem dX2_isBelowCovered_58 : decode cX2_isBelowCovered 58 = .ok (.ishl, 1) := by decide +kernel
theorem dX2_isBelowCovered_59 : decode cX2_isBelowCovered 59 = .ok (.isub, 1) := by decide +kernel
theorem dX2_isBelowCovered_60 : decode cX2_isBelowCovered 60 = .ok (.baload, 1) := by decide +kernel
theorem dX2_isBelowCovered_61 : decode cX2_isBelowCovered 61 = .ok (.ifCond .eq 5, 3) := by decide +kernel
theorem dX2_isBelowCovered_64 : decode cX2_isBelowCovered 64 = .ok (.iconst 1, 1) := by decide +kernel
theorem dX2_isBelowCovered_65 : decode cX2_isBelowCovered 65 = .ok (.ireturn, 1) := by decide +kernel
theorem dX2_isBelowCovered_66 : decode cX2_isBelowCovered 66 = .ok (.iinc 4 1, 3) := by decide +kernel
theorem dX2_isBelowCovered_69 : decode cX2_isBelowCovered 69 = .ok (.goto (-53), 3) := by decide +kernel
theorem dX2_isBelowCovered_72 : decode cX2_isBelowCovered 72 = .ok (.iinc 2 1, 3) := by decide +kernel
theorem dX2_isBelowCovered_75 : decode cX2_isBelowCovered 75 = .ok (.goto (-73), 3) := by decide +kernel
theorem dX2_isBelowCovered_78 : decode cX2_isBelowCovered 78 = .ok (.iconst 0, 1) := by decide +kernel
theorem dX2_isBelowCovered_79 : decode cX2_isBelowCovered 79 = .ok (.ireturn, 1) := by decide +kernel
theorem dX2_tableSize_0 : decode cX2_tableSize 0 = .ok (.aload_n 0, 1) := by decide +kernel
theorem dX2_tableSize_1 : decode cX2_tableSize 1 = .ok (.iload_n 1, 1) := by decide +kernel
theorem dX2_tableSize_2 : decode cX2_tableSize 2 = .ok (.invokevirtual 212, 3) := by decide +kernel
theorem dX2_tableSize_5 : decode cX2_tableSize 5 = .ok (.aload_n 0, 1) := by decide +kernel
theorem dX2_tableSize_6 : decode cX2_tableSize 6 = .ok (.getfield 18, 3) := by decide +kernel
theorem dX2_tableSize_9 : decode cX2_tableSize 9 = .ok (.iload_n 1, 1) := by decide +kernel
theorem dX2_tableSize_10 : decode cX2_tableSize 10 = .ok (.aaload, 1) := by decide +kernel
theorem dX2_tableSize_11 : decode cX2_tableSize 11 = .ok (.astore_n 2, 1) := by decide +kernel
theorem dX2_tableSize_12 : decode cX2_tableSize 12 = .ok (.iconst 1, 1) := by decide +kernel
theorem dX2_tableSize_13 : decode cX2_tableSize 13 = .ok (.istore_n 3, 1) := by decide +kernel
theorem dX2_tableSize_14 : decode cX2_tableSize 14 = .ok (.iconst 0, 1) := by decide +kernel
theorem dX2_tableSize_15 : decode cX2_tableSize 15 = .ok (.istore 4, 2) := by decide +kernel
theorem dX2_tableSize_17 : decode cX2_tableSize 17 = .ok (.iload 4, 2) := by decide +kernel
theorem dX2_tableSize_19 : decode cX2_tableSize 19 = .ok (.aload_n 2, 1) := by decide +kernel
theorem dX2_tableSize_20 : decode cX2_tableSize 20 = .ok (.getfield 93, 3) := by decide +kernel
theorem dX2_tableSize_23 : decode cX2_tableSize 23 = .ok (.if_icmp .ge 55, 3) := by decide +kernel
theorem dX2_tableSize_26 : decode cX2_tableSize 26 = .ok (.iconst 0, 1) := by decide +kernel
theorem dX2_tableSize_27 : decode cX2_tableSize 27 = .ok (.istore 5, 2) := by decide +kernel
theorem dX2_tableSize_29 : decode cX2_tableSize 29 = .ok (.iconst 0, 1) := by decide +kernel
theorem dX2_tableSize_30 : decode cX2_tableSize 30 = .ok (.istore 6, 2) := by decide +kernel
theorem dX2_tableSize_32 : decode cX2_tableSize 32 = .ok (.iload 6, 2) := by decide +kernel
theorem dX2_tableSize_34 : decode cX2_tableSize 34 = .ok (.aload_n 0, 1) := by decide +kernel
theorem dX2_tableSize_35 : decode cX2_tableSize 35 = .ok (.getfield 12, 3) := by decide +kernel
theorem dX2_tableSize_38 : decode cX2_tableSize 38 = .ok (.getfield 57, 3) := by decide +kernel
theorem dX2_tableSize_41 : decode cX2_tableSize 41 = .ok (.if_icmp .ge 26, 3) := by decide +kernel
theorem dX2_tableSize_44 : decode cX2_tableSize 44 = .ok (.aload_n 0, 1) := by decide +kernel
theorem dX2_tableSize_45 : decode cX2_tableSize 45 = .ok (.aload_n 2, 1) := by decide +kernel
theorem dX2_tableSize_46 : decode cX2_tableSize 46 = .ok (.iload 4, 2) := by decide +kernel
theorem dX2_tableSize_48 : decode cX2_tableSize 48 = .ok (.iload 6, 2) := by decide +kernel
theorem dX2_tableSize_50 : decode cX2_tableSize 50 = .ok (.invokevirtual 215, 3) := by decide +kernel
theorem dX2_tableSize_53 : decode cX2_tableSize 53 = .ok (.iload 6, 2) := by decide +kernel
theorem dX2_tableSize_55 : decode cX2_tableSize 55 = .ok (.if_icmp .ne 6, 3) := by decide +kernel
theorem dX2_tableSize_58 : decode cX2_tableSize 58 = .ok (.iinc 5 1, 3) := by decide +kernel
theorem dX2_tableSize_61 : decode cX2_tableSize 61 = .ok (.iinc 6 1, 3) := by decide +kernel
theorem dX2_tableSize_64 : decode cX2_tableSize 64 = .ok (.goto (-32), 3) := by decide +kernel
theorem dX2_tableSize_67 : decode cX2_tableSize 67 = .ok (.iload_n 3, 1) := by decide +kernel
theorem dX2_tableSize_68 : decode cX2_tableSize 68 = .ok (.iload 5, 2) := by decide +kernel
theorem dX2_tableSize_70 : decode cX2_tableSize 70 = .ok (.imul, 1) := by decide +kernel
theorem dX2_tableSize_71 : decode cX2_tableSize 71 = .ok (.istore_n 3, 1) := by decide +kernel
theorem dX2_tableSize_72 : decode cX2_tableSize 72 = .ok (.iinc 4 1, 3) := by decide +kernel
theorem dX2_tableSize_75 : decode cX2_tableSize 75 = .ok (.goto (-58), 3) := by decide +kernel
theorem dX2_tableSize_78 : decode cX2_tableSize 78 = .ok (.iload_n 3, 1) := by decide +kernel
theorem dX2_tableSize_79 : decode cX2_tableSize 79 = .ok (.ireturn, 1) := by decide +kernel
theorem dX2_leastAlike_0 : decode cX2_leastAlike 0 = .ok (.iconst 0, 1) := by decide +kernel
theorem dX2_leastAlike_1 : decode cX2_leastAlike 1 = .ok (.istore 4, 2) := by decide +kernel
theorem dX2_leastAlike_3 : decode cX2_leastAlike 3 = .ok (.iload 4, 2) := by decide +kernel
theorem dX2_leastAlike_5 : decode cX2_leastAlike 5 = .ok (.iload_n 3, 1) := by decide +kernel
theorem dX2_leastAlike_6 : decode cX2_leastAlike 6 = .ok (.if_icmp .ge 24, 3) := by decide +kernel
theorem dX2_leastAlike_9 : decode cX2_leastAlike 9 = .ok (.aload_n 0, 1) := by decide +kernel
theorem dX2_leastAlike_10 : decode cX2_leastAlike 10 = .ok (.aload_n 1, 1) := by decide +kernel
theorem dX2_leastAlike_11 : decode cX2_leastAlike 11 = .ok (.iload_n 2, 1) := by decide +kernel
theorem dX2_leastAlike_12 : decode cX2_leastAlike 12 = .ok (.iload 4, 2) := by decide +kernel
theorem dX2_leastAlike_14 : decode cX2_leastAlike 14 = .ok (.iload_n 3, 1) := by decide +kernel
theorem dX2_leastAlike_15 : decode cX2_leastAlike 15 = .ok (.invokevirtual 246, 3) := by decide +kernel
theorem dX2_leastAlike_18 : decode cX2_leastAlike 18 = .ok (.ifCond .eq 6, 3) := by decide +kernel
theorem dX2_leastAlike_21 : decode cX2_leastAlike 21 = .ok (.iload 4, 2) := by decide +kernel
theorem dX2_leastAlike_23 : decode cX2_leastAlike 23 = .ok (.ireturn, 1) := by decide +kernel
theorem dX2_leastAlike_24 : decode cX2_leastAlike 24 = .ok (.iinc 4 1, 3) := by decide +kernel
theorem dX2_leastAlike_27 : decode cX2_leastAlike 27 = .ok (.goto (-24), 3) := by decide +kernel
theorem dX2_leastAlike_30 : decode cX2_leastAlike 30 = .ok (.iload_n 3, 1) := by decide +kernel
theorem dX2_leastAlike_31 : decode cX2_leastAlike 31 = .ok (.ireturn, 1) := by decide +kernel
theorem dX2_areAlike_0 : decode cX2_areAlike 0 = .ok (.iload_n 2, 1) := by decide +kernel
theorem dX2_areAlike_1 : decode cX2_areAlike 1 = .ok (.ifCond .ne 7, 3) := by decide +kernel
theorem dX2_areAlike_4 : decode cX2_areAlike 4 = .ok (.iconst 1, 1) := by decide +kernel
theorem dX2_areAlike_5 : decode cX2_areAlike 5 = .ok (.goto 4, 3) := by decide +kernel
theorem dX2_areAlike_8 : decode cX2_areAlike 8 = .ok (.iconst 0, 1) := by decide +kernel
theorem dX2_areAlike_9 : decode cX2_areAlike 9 = .ok (.istore 5, 2) := by decide +kernel
theorem dX2_areAlike_11 : decode cX2_areAlike 11 = .ok (.iload_n 2, 1) := by decide +kernel
theorem dX2_areAlike_12 : decode cX2_areAlike 12 = .ok (.iconst 2, 1) := by decide +kernel
theorem dX2_areAlike_13 : decode cX2_areAlike 13 = .ok (.if_icmp .ne 7, 3) := by decide +kernel
theorem dX2_areAlike_16 : decode cX2_areAlike 16 = .ok (.iconst 1, 1) := by decide +kernel
theorem dX2_areAlike_17 : decode cX2_areAlike 17 = .ok (.goto 4, 3) := by decide +kernel
theorem dX2_areAlike_20 : decode cX2_areAlike 20 = .ok (.iconst 2, 1) := by decide +kernel
theorem dX2_areAlike_21 : decode cX2_areAlike 21 = .ok (.istore 6, 2) := by decide +kernel
theorem dX2_areAlike_23 : decode cX2_areAlike 23 = .ok (.iload 5, 2) := by decide +kernel
theorem dX2_areAlike_25 : decode cX2_areAlike 25 = .ok (.aload_n 1, 1) := by decide +kernel
theorem dX2_areAlike_26 : decode cX2_areAlike 26 = .ok (.getfield 93, 3) := by decide +kernel
theorem dX2_areAlike_29 : decode cX2_areAlike 29 = .ok (.if_icmp .ge 13, 3) := by decide +kernel
theorem dX2_areAlike_32 : decode cX2_areAlike 32 = .ok (.aload_n 0, 1) := by decide +kernel
theorem dX2_areAlike_33 : decode cX2_areAlike 33 = .ok (.getfield 12, 3) := by decide +kernel
theorem dX2_areAlike_36 : decode cX2_areAlike 36 = .ok (.getfield 57, 3) := by decide +kernel
theorem dX2_areAlike_39 : decode cX2_areAlike 39 = .ok (.goto 4, 3) := by decide +kernel
theorem dX2_areAlike_42 : decode cX2_areAlike 42 = .ok (.iconst 1, 1) := by decide +kernel
theorem dX2_areAlike_43 : decode cX2_areAlike 43 = .ok (.istore 7, 2) := by decide +kernel
theorem dX2_areAlike_45 : decode cX2_areAlike 45 = .ok (.iload 6, 2) := by decide +kernel
theorem dX2_areAlike_47 : decode cX2_areAlike 47 = .ok (.aload_n 1, 1) := by decide +kernel
theorem dX2_areAlike_48 : decode cX2_areAlike 48 = .ok (.getfield 93, 3) := by decide +kernel
theorem dX2_areAlike_51 : decode cX2_areAlike 51 = .ok (.if_icmp .ge 13, 3) := by decide +kernel
theorem dX2_areAlike_54 : decode cX2_areAlike 54 = .ok (.aload_n 0, 1) := by decide +kernel
theorem dX2_areAlike_55 : decode cX2_areAlike 55 = .ok (.getfield 12, 3) := by decide +kernel
theorem dX2_areAlike_58 : decode cX2_areAlike 58 = .ok (.getfield 57, 3) := by decide +kernel
theorem dX2_areAlike_61 : decode cX2_areAlike 61 = .ok (.goto 4, 3) := by decide +kernel
theorem dX2_areAlike_64 : decode cX2_areAlike 64 = .ok (.iconst 1, 1) := by decide +kernel
theorem dX2_areAlike_65 : decode cX2_areAlike 65 = .ok (.istore 8, 2) := by decide +kernel
theorem dX2_areAlike_67 : decode cX2_areAlike 67 = .ok (.iconst 0, 1) := by decide +kernel
theorem dX2_areAlike_68 : decode cX2_areAlike 68 = .ok (.istore 9, 2) := by decide +kernel
theorem dX2_areAlike_70 : decode cX2_areAlike 70 = .ok (.iload 9, 2) := by decide +kernel
theorem dX2_areAlike_72 : decode cX2_areAlike 72 = .ok (.iload 8, 2) := by decide +kernel
theorem dX2_areAlike_74 : decode cX2_areAlike 74 = .ok (.if_icmp .ge 74, 3) := by decide +kernel
theorem dX2_areAlike_77 : decode cX2_areAlike 77 = .ok (.iconst 0, 1) := by decide +kernel
theorem dX2_areAlike_78 : decode cX2_areAlike 78 = .ok (.istore 10, 2) := by decide +kernel
theorem dX2_areAlike_80 : decode cX2_areAlike 80 = .ok (.iload 10, 2) := by decide +kernel
theorem dX2_areAlike_82 : decode cX2_areAlike 82 = .ok (.iload 7, 2) := by decide +kernel
theorem dX2_areAlike_84 : decode cX2_areAlike 84 = .ok (.if_icmp .ge 58, 3) := by decide +kernel
theorem dX2_areAlike_87 : decode cX2_areAlike 87 = .ok (.iload 9, 2) := by decide +kernel
theorem dX2_areAlike_89 : decode cX2_areAlike 89 = .ok (.iconst 4, 1) := by decide +kernel
theorem dX2_areAlike_90 : decode cX2_areAlike 90 = .ok (.iload 6, 2) := by decide +kernel
theorem dX2_areAlike_92 : decode cX2_areAlike 92 = .ok (.imul, 1) := by decide +kernel
theorem dX2_areAlike_93 : decode cX2_areAlike 93 = .ok (.ishl, 1) := by decide +kernel
theorem dX2_areAlike_94 : decode cX2_areAlike 94 = .ok (.iload 10, 2) := by decide +kernel
theorem dX2_areAlike_96 : decode cX2_areAlike 96 = .ok (.iconst 4, 1) := by decide +kernel
theorem dX2_areAlike_97 : decode cX2_areAlike 97 = .ok (.iload 5, 2) := by decide +kernel
theorem dX2_areAlike_99 : decode cX2_areAlike 99 = .ok (.imul, 1) := by decide +kernel
theorem dX2_areAlike_100 : decode cX2_areAlike 100 = .ok (.ishl, 1) := by decide +kernel
theorem dX2_areAlike_101 : decode cX2_areAlike 101 = .ok (.iadd, 1) := by decide +kernel
theorem dX2_areAlike_102 : decode cX2_areAlike 102 = .ok (.istore 11, 2) := by decide +kernel
theorem dX2_areAlike_104 : decode cX2_areAlike 104 = .ok (.aload_n 0, 1) := by decide +kernel
theorem dX2_areAlike_105 : decode cX2_areAlike 105 = .ok (.getfield 47, 3) := by decide +kernel
theorem dX2_areAlike_108 : decode cX2_areAlike 108 = .ok (.iload 11, 2) := by decide +kernel
theorem dX2_areAlike_110 : decode cX2_areAlike 110 = .ok (.iload_n 3, 1) := by decide +kernel
theorem dX2_areAlike_111 : decode cX2_areAlike 111 = .ok (.iconst 4, 1) := by decide +kernel
theorem dX2_areAlike_112 : decode cX2_areAlike 112 = .ok (.iload_n 2, 1) := by decide +kernel
theorem dX2_areAlike_113 : decode cX2_areAlike 113 = .ok (.imul, 1) := by decide +kernel
theorem dX2_areAlike_114 : decode cX2_areAlike 114 = .ok (.ishl, 1) := by decide +kernel
theorem dX2_areAlike_115 : decode cX2_areAlike 115 = .ok (.iadd, 1) := by decide +kernel
theorem dX2_areAlike_116 : decode cX2_areAlike 116 = .ok (.iaload, 1) := by decide +kernel
theorem dX2_areAlike_117 : decode cX2_areAlike 117 = .ok (.aload_n 0, 1) := by decide +kernel
theorem dX2_areAlike_118 : decode cX2_areAlike 118 = .ok (.getfield 47, 3) := by decide +kernel
theorem dX2_areAlike_121 : decode cX2_areAlike 121 = .ok (.iload 11, 2) := by decide +kernel
theorem dX2_areAlike_123 : decode cX2_areAlike 123 = .ok (.iload 4, 2) := by decide +kernel
theorem dX2_areAlike_125 : decode cX2_areAlike 125 = .ok (.iconst 4, 1) := by decide +kernel
theorem dX2_areAlike_126 : decode cX2_areAlike 126 = .ok (.iload_n 2, 1) := by decide +kernel
theorem dX2_areAlike_127 : decode cX2_areAlike 127 = .ok (.imul, 1) := by decide +kernel
theorem dX2_areAlike_128 : decode cX2_areAlike 128 = .ok (.ishl, 1) := by decide +kernel
theorem dX2_areAlike_129 : decode cX2_areAlike 129 = .ok (.iadd, 1) := by decide +kernel
theorem dX2_areAlike_130 : decode cX2_areAlike 130 = .ok (.iaload, 1) := by decide +kernel
theorem dX2_areAlike_131 : decode cX2_areAlike 131 = .ok (.if_icmp .eq 5, 3) := by decide +kernel
theorem dX2_areAlike_134 : decode cX2_areAlike 134 = .ok (.iconst 0, 1) := by decide +kernel
theorem dX2_areAlike_135 : decode cX2_areAlike 135 = .ok (.ireturn, 1) := by decide +kernel
theorem dX2_areAlike_136 : decode cX2_areAlike 136 = .ok (.iinc 10 1, 3) := by decide +kernel
theorem dX2_areAlike_139 : decode cX2_areAlike 139 = .ok (.goto (-59), 3) := by decide +kernel
theorem dX2_areAlike_142 : decode cX2_areAlike 142 = .ok (.iinc 9 1, 3) := by decide +kernel
theorem dX2_areAlike_145 : decode cX2_areAlike 145 = .ok (.goto (-75), 3) := by decide +kernel
theorem dX2_areAlike_148 : decode cX2_areAlike 148 = .ok (.iconst 1, 1) := by decide +kernel
theorem dX2_areAlike_149 : decode cX2_areAlike 149 = .ok (.ireturn, 1) := by decide +kernel
