theorem dX3_kept_7 : decode cX3_kept 7 = .ok (.invokevirtual 104, 3) := by decide +kernel
theorem dX3_kept_10 : decode cX3_kept 10 = .ok (.ifCond .eq 33, 3) := by decide +kernel
theorem dX3_kept_13 : decode cX3_kept 13 = .ok (.iload_n 2, 1) := by decide +kernel
theorem dX3_kept_14 : decode cX3_kept 14 = .ok (.iconst 0, 1) := by decide +kernel
theorem dX3_kept_15 : decode cX3_kept 15 = .ok (.aload_n 0, 1) := by decide +kernel
theorem dX3_kept_16 : decode cX3_kept 16 = .ok (.getfield 37, 3) := by decide +kernel
theorem dX3_kept_19 : decode cX3_kept 19 = .ok (.iload_n 1, 1) := by decide +kernel
theorem dX3_kept_20 : decode cX3_kept 20 = .ok (.iaload, 1) := by decide +kernel
theorem dX3_kept_21 : decode cX3_kept 21 = .ok (.iconst 1, 1) := by decide +kernel
theorem dX3_kept_22 : decode cX3_kept 22 = .ok (.isub, 1) := by decide +kernel
theorem dX3_kept_23 : decode cX3_kept 23 = .ok (.invokestatic 68, 3) := by decide +kernel
theorem dX3_kept_26 : decode cX3_kept 26 = .ok (.ifCond .eq 17, 3) := by decide +kernel
theorem dX3_kept_29 : decode cX3_kept 29 = .ok (.aload_n 0, 1) := by decide +kernel
theorem dX3_kept_30 : decode cX3_kept 30 = .ok (.getfield 34, 3) := by decide +kernel
theorem dX3_kept_33 : decode cX3_kept 33 = .ok (.bipush 6, 2) := by decide +kernel
theorem dX3_kept_35 : decode cX3_kept 35 = .ok (.iload_n 1, 1) := by decide +kernel
theorem dX3_kept_36 : decode cX3_kept 36 = .ok (.imul, 1) := by decide +kernel
theorem dX3_kept_37 : decode cX3_kept 37 = .ok (.iload_n 2, 1) := by decide +kernel
theorem dX3_kept_38 : decode cX3_kept 38 = .ok (.iadd, 1) := by decide +kernel
theorem dX3_kept_39 : decode cX3_kept 39 = .ok (.iaload, 1) := by decide +kernel
theorem dX3_kept_40 : decode cX3_kept 40 = .ok (.goto 4, 3) := by decide +kernel
theorem dX3_kept_43 : decode cX3_kept 43 = .ok (.iconst (-1), 1) := by decide +kernel
theorem dX3_kept_44 : decode cX3_kept 44 = .ok (.ireturn, 1) := by decide +kernel
theorem dX3_callsOf_0 : decode cX3_callsOf 0 = .ok (.iconst 1, 1) := by decide +kernel
theorem dX3_callsOf_1 : decode cX3_callsOf 1 = .ok (.iconst 4, 1) := by decide +kernel
theorem dX3_callsOf_2 : decode cX3_callsOf 2 = .ok (.aload_n 0, 1) := by decide +kernel
theorem dX3_callsOf_3 : decode cX3_callsOf 3 = .ok (.getfield 22, 3) := by decide +kernel
theorem dX3_callsOf_6 : decode cX3_callsOf 6 = .ok (.iload_n 1, 1) := by decide +kernel
theorem dX3_callsOf_7 : decode cX3_callsOf 7 = .ok (.iaload, 1) := by decide +kernel
theorem dX3_callsOf_8 : decode cX3_callsOf 8 = .ok (.imul, 1) := by decide +kernel
theorem dX3_callsOf_9 : decode cX3_callsOf 9 = .ok (.ishl, 1) := by decide +kernel
theorem dX3_callsOf_10 : decode cX3_callsOf 10 = .ok (.ireturn, 1) := by decide +kernel
theorem dX3_laysAnswers_0 : decode cX3_laysAnswers 0 = .ok (.iconst 0, 1) := by decide +kernel
theorem dX3_laysAnswers_1 : decode cX3_laysAnswers 1 = .ok (.istore_n 3, 1) := by decide +kernel
theorem dX3_laysAnswers_2 : decode cX3_laysAnswers 2 = .ok (.iload_n 3, 1) := by decide +kernel
theorem dX3_laysAnswers_3 : decode cX3_laysAnswers 3 = .ok (.aload_n 0, 1) := by decide +kernel
theorem dX3_laysAnswers_4 : decode cX3_laysAnswers 4 = .ok (.iload_n 1, 1) := by decide +kernel
theorem dX3_laysAnswers_5 : decode cX3_laysAnswers 5 = .ok (.invokevirtual 172, 3) := by decide +kernel
theorem dX3_laysAnswers_8 : decode cX3_laysAnswers 8 = .ok (.if_icmp .ge 36, 3) := by decide +kernel
theorem dX3_laysAnswers_11 : decode cX3_laysAnswers 11 = .ok (.aload_n 0, 1) := by decide +kernel
theorem dX3_laysAnswers_12 : decode cX3_laysAnswers 12 = .ok (.getfield 56, 3) := by decide +kernel
theorem dX3_laysAnswers_15 : decode cX3_laysAnswers 15 = .ok (.iload_n 3, 1) := by decide +kernel
theorem dX3_laysAnswers_16 : decode cX3_laysAnswers 16 = .ok (.aload_n 0, 1) := by decide +kernel
theorem dX3_laysAnswers_17 : decode cX3_laysAnswers 17 = .ok (.iload_n 1, 1) := by decide +kernel
theorem dX3_laysAnswers_18 : decode cX3_laysAnswers 18 = .ok (.iload_n 3, 1) := by decide +kernel
theorem dX3_laysAnswers_19 : decode cX3_laysAnswers 19 = .ok (.invokevirtual 114, 3) := by decide +kernel
theorem dX3_laysAnswers_22 : decode cX3_laysAnswers 22 = .ok (.ifCond .eq 13, 3) := by decide +kernel
theorem dX3_laysAnswers_25 : decode cX3_laysAnswers 25 = .ok (.aload_n 0, 1) := by decide +kernel
theorem dX3_laysAnswers_26 : decode cX3_laysAnswers 26 = .ok (.iload_n 1, 1) := by decide +kernel
theorem dX3_laysAnswers_27 : decode cX3_laysAnswers 27 = .ok (.iload_n 3, 1) := by decide +kernel
theorem dX3_laysAnswers_28 : decode cX3_laysAnswers 28 = .ok (.iload_n 2, 1) := by decide +kernel
theorem dX3_laysAnswers_29 : decode cX3_laysAnswers 29 = .ok (.invokevirtual 159, 3) := by decide +kernel
theorem dX3_laysAnswers_32 : decode cX3_laysAnswers 32 = .ok (.goto 5, 3) := by decide +kernel
theorem dX3_laysAnswers_35 : decode cX3_laysAnswers 35 = .ok (.bipush (-3), 2) := by decide +kernel
theorem dX3_laysAnswers_37 : decode cX3_laysAnswers 37 = .ok (.iastore, 1) := by decide +kernel
theorem dX3_laysAnswers_38 : decode cX3_laysAnswers 38 = .ok (.iinc 3 1, 3) := by decide +kernel
theorem dX3_laysAnswers_41 : decode cX3_laysAnswers 41 = .ok (.goto (-39), 3) := by decide +kernel
theorem dX3_laysAnswers_44 : decode cX3_laysAnswers 44 = .ok (.return_, 1) := by decide +kernel
theorem dX3_howMany_0 : decode cX3_howMany 0 = .ok (.iconst 0, 1) := by decide +kernel
theorem dX3_howMany_1 : decode cX3_howMany 1 = .ok (.istore_n 3, 1) := by decide +kernel
theorem dX3_howMany_2 : decode cX3_howMany 2 = .ok (.iconst 0, 1) := by decide +kernel
theorem dX3_howMany_3 : decode cX3_howMany 3 = .ok (.istore 4, 2) := by decide +kernel
theorem dX3_howMany_5 : decode cX3_howMany 5 = .ok (.iload 4, 2) := by decide +kernel
theorem dX3_howMany_7 : decode cX3_howMany 7 = .ok (.aload_n 0, 1) := by decide +kernel
theorem dX3_howMany_8 : decode cX3_howMany 8 = .ok (.iload_n 1, 1) := by decide +kernel
theorem dX3_howMany_9 : decode cX3_howMany 9 = .ok (.invokevirtual 172, 3) := by decide +kernel
theorem dX3_howMany_12 : decode cX3_howMany 12 = .ok (.if_icmp .ge 28, 3) := by decide +kernel
theorem dX3_howMany_15 : decode cX3_howMany 15 = .ok (.iload_n 3, 1) := by decide +kernel
theorem dX3_howMany_16 : decode cX3_howMany 16 = .ok (.aload_n 0, 1) := by decide +kernel
theorem dX3_howMany_17 : decode cX3_howMany 17 = .ok (.getfield 56, 3) := by decide +kernel
theorem dX3_howMany_20 : decode cX3_howMany 20 = .ok (.iload 4, 2) := by decide +kernel
theorem dX3_howMany_22 : decode cX3_howMany 22 = .ok (.iaload, 1) := by decide +kernel
theorem dX3_howMany_23 : decode cX3_howMany 23 = .ok (.iload_n 2, 1) := by decide +kernel
theorem dX3_howMany_24 : decode cX3_howMany 24 = .ok (.if_icmp .ne 7, 3) := by decide +kernel
theorem dX3_howMany_27 : decode cX3_howMany 27 = .ok (.iconst 1, 1) := by decide +kernel
theorem dX3_howMany_28 : decode cX3_howMany 28 = .ok (.goto 4, 3) := by decide +kernel
theorem dX3_howMany_31 : decode cX3_howMany 31 = .ok (.iconst 0, 1) := by decide +kernel
theorem dX3_howMany_32 : decode cX3_howMany 32 = .ok (.iadd, 1) := by decide +kernel
theorem dX3_howMany_33 : decode cX3_howMany 33 = .ok (.istore_n 3, 1) := by decide +kernel
theorem dX3_howMany_34 : decode cX3_howMany 34 = .ok (.iinc 4 1, 3) := by decide +kernel
theorem dX3_howMany_37 : decode cX3_howMany 37 = .ok (.goto (-32), 3) := by decide +kernel
theorem dX3_howMany_40 : decode cX3_howMany 40 = .ok (.iload_n 3, 1) := by decide +kernel
theorem dX3_howMany_41 : decode cX3_howMany 41 = .ok (.ireturn, 1) := by decide +kernel
theorem dX3_isTop_0 : decode cX3_isTop 0 = .ok (.iconst 0, 1) := by decide +kernel
theorem dX3_isTop_1 : decode cX3_isTop 1 = .ok (.istore_n 3, 1) := by decide +kernel
theorem dX3_isTop_2 : decode cX3_isTop 2 = .ok (.iload_n 3, 1) := by decide +kernel
theorem dX3_isTop_3 : decode cX3_isTop 3 = .ok (.aload_n 0, 1) := by decide +kernel
theorem dX3_isTop_4 : decode cX3_isTop 4 = .ok (.iload_n 1, 1) := by decide +kernel
theorem dX3_isTop_5 : decode cX3_isTop 5 = .ok (.invokevirtual 172, 3) := by decide +kernel
theorem dX3_isTop_8 : decode cX3_isTop 8 = .ok (.if_icmp .ge 41, 3) := by decide +kernel
theorem dX3_isTop_11 : decode cX3_isTop 11 = .ok (.iload_n 3, 1) := by decide +kernel
theorem dX3_isTop_12 : decode cX3_isTop 12 = .ok (.iload_n 2, 1) := by decide +kernel
theorem dX3_isTop_13 : decode cX3_isTop 13 = .ok (.if_icmp .eq 30, 3) := by decide +kernel
theorem dX3_isTop_16 : decode cX3_isTop 16 = .ok (.aload_n 0, 1) := by decide +kernel
theorem dX3_isTop_17 : decode cX3_isTop 17 = .ok (.getfield 56, 3) := by decide +kernel
theorem dX3_isTop_20 : decode cX3_isTop 20 = .ok (.iload_n 3, 1) := by decide +kernel
theorem dX3_isTop_21 : decode cX3_isTop 21 = .ok (.iaload, 1) := by decide +kernel
theorem dX3_isTop_22 : decode cX3_isTop 22 = .ok (.aload_n 0, 1) := by decide +kernel
theorem dX3_isTop_23 : decode cX3_isTop 23 = .ok (.getfield 56, 3) := by decide +kernel
theorem dX3_isTop_26 : decode cX3_isTop 26 = .ok (.iload_n 2, 1) := by decide +kernel
theorem dX3_isTop_27 : decode cX3_isTop 27 = .ok (.iaload, 1) := by decide +kernel
theorem dX3_isTop_28 : decode cX3_isTop 28 = .ok (.if_icmp .ne 15, 3) := by decide +kernel
theorem dX3_isTop_31 : decode cX3_isTop 31 = .ok (.aload_n 0, 1) := by decide +kernel
theorem dX3_isTop_32 : decode cX3_isTop 32 = .ok (.iload_n 1, 1) := by decide +kernel
theorem dX3_isTop_33 : decode cX3_isTop 33 = .ok (.iload_n 2, 1) := by decide +kernel
theorem dX3_isTop_34 : decode cX3_isTop 34 = .ok (.iload_n 3, 1) := by decide +kernel
theorem dX3_isTop_35 : decode cX3_isTop 35 = .ok (.invokevirtual 111, 3) := by decide +kernel
theorem dX3_isTop_38 : decode cX3_isTop 38 = .ok (.ifCond .eq 5, 3) := by decide +kernel
theorem dX3_isTop_41 : decode cX3_isTop 41 = .ok (.iconst 0, 1) := by decide +kernel
theorem dX3_isTop_42 : decode cX3_isTop 42 = .ok (.ireturn, 1) := by decide +kernel
theorem dX3_isTop_43 : decode cX3_isTop 43 = .ok (.iinc 3 1, 3) := by decide +kernel
theorem dX3_isTop_46 : decode cX3_isTop 46 = .ok (.goto (-44), 3) := by decide +kernel
theorem dX3_isTop_49 : decode cX3_isTop 49 = .ok (.iconst 1, 1) := by decide +kernel
theorem dX3_isTop_50 : decode cX3_isTop 50 = .ok (.ireturn, 1) := by decide +kernel
theorem dX3_topOf_0 : decode cX3_topOf 0 = .ok (.iconst 0, 1) := by decide +kernel
theorem dX3_topOf_1 : decode cX3_topOf 1 = .ok (.istore 4, 2) := by decide +kernel
theorem dX3_topOf_3 : decode cX3_topOf 3 = .ok (.iconst 0, 1) := by decide +kernel
theorem dX3_topOf_4 : decode cX3_topOf 4 = .ok (.istore 5, 2) := by decide +kernel
theorem dX3_topOf_6 : decode cX3_topOf 6 = .ok (.iload 5, 2) := by decide +kernel
theorem dX3_topOf_8 : decode cX3_topOf 8 = .ok (.aload_n 0, 1) := by decide +kernel
theorem dX3_topOf_9 : decode cX3_topOf 9 = .ok (.iload_n 1, 1) := by decide +kernel
theorem dX3_topOf_10 : decode cX3_topOf 10 = .ok (.invokevirtual 172, 3) := by decide +kernel
theorem dX3_topOf_13 : decode cX3_topOf 13 = .ok (.if_icmp .ge 42, 3) := by decide +kernel
theorem dX3_topOf_16 : decode cX3_topOf 16 = .ok (.aload_n 0, 1) := by decide +kernel
theorem dX3_topOf_17 : decode cX3_topOf 17 = .ok (.getfield 56, 3) := by decide +kernel
theorem dX3_topOf_20 : decode cX3_topOf 20 = .ok (.iload 5, 2) := by decide +kernel
theorem dX3_topOf_22 : decode cX3_topOf 22 = .ok (.iaload, 1) := by decide +kernel
theorem dX3_topOf_23 : decode cX3_topOf 23 = .ok (.iload_n 2, 1) := by decide +kernel
theorem dX3_topOf_24 : decode cX3_topOf 24 = .ok (.if_icmp .ne 25, 3) := by decide +kernel
theorem dX3_topOf_27 : decode cX3_topOf 27 = .ok (.aload_n 0, 1) := by decide +kernel
theorem dX3_topOf_28 : decode cX3_topOf 28 = .ok (.iload_n 1, 1) := by decide +kernel
theorem dX3_topOf_29 : decode cX3_topOf 29 = .ok (.iload 5, 2) := by decide +kernel
theorem dX3_topOf_31 : decode cX3_topOf 31 = .ok (.invokevirtual 175, 3) := by decide +kernel
theorem dX3_topOf_34 : decode cX3_topOf 34 = .ok (.ifCond .eq 15, 3) := by decide +kernel
theorem dX3_topOf_37 : decode cX3_topOf 37 = .ok (.iload 4, 2) := by decide +kernel
theorem dX3_topOf_39 : decode cX3_topOf 39 = .ok (.iload_n 3, 1) := by decide +kernel
theorem dX3_topOf_40 : decode cX3_topOf 40 = .ok (.if_icmp .ne 6, 3) := by decide +kernel
theorem dX3_topOf_43 : decode cX3_topOf 43 = .ok (.iload 5, 2) := by decide +kernel
theorem dX3_topOf_45 : decode cX3_topOf 45 = .ok (.ireturn, 1) := by decide +kernel
theorem dX3_topOf_46 : decode cX3_topOf 46 = .ok (.iinc 4 1, 3) := by decide +kernel
theorem dX3_topOf_49 : decode cX3_topOf 49 = .ok (.iinc 5 1, 3) := by decide +kernel
theorem dX3_topOf_52 : decode cX3_topOf 52 = .ok (.goto (-46), 3) := by decide +kernel
theorem dX3_topOf_55 : decode cX3_topOf 55 = .ok (.iload_n 3, 1) := by decide +kernel
theorem dX3_topOf_56 : decode cX3_topOf 56 = .ok (.iconst (-1), 1) := by decide +kernel
theorem dX3_topOf_57 : decode cX3_topOf 57 = .ok (.if_icmp .ne 8, 3) := by decide +kernel
theorem dX3_topOf_60 : decode cX3_topOf 60 = .ok (.iload 4, 2) := by decide +kernel
theorem dX3_topOf_62 : decode cX3_topOf 62 = .ok (.goto 4, 3) := by decide +kernel
theorem dX3_topOf_65 : decode cX3_topOf 65 = .ok (.iconst (-1), 1) := by decide +kernel
theorem dX3_topOf_66 : decode cX3_topOf 66 = .ok (.ireturn, 1) := by decide +kernel
theorem dX3_areAlike_0 : decode cX3_areAlike 0 = .ok (.iload 4, 2) := by decide +kernel
theorem dX3_areAlike_2 : decode cX3_areAlike 2 = .ok (.iload_n 3, 1) := by decide +kernel
theorem dX3_areAlike_3 : decode cX3_areAlike 3 = .ok (.isub, 1) := by decide +kernel
theorem dX3_areAlike_4 : decode cX3_areAlike 4 = .ok (.iconst 4, 1) := by decide +kernel
theorem dX3_areAlike_5 : decode cX3_areAlike 5 = .ok (.iload_n 2, 1) := by decide +kernel
theorem dX3_areAlike_6 : decode cX3_areAlike 6 = .ok (.imul, 1) := by decide +kernel
theorem dX3_areAlike_7 : decode cX3_areAlike 7 = .ok (.ishl, 1) := by decide +kernel
theorem dX3_areAlike_8 : decode cX3_areAlike 8 = .ok (.istore 5, 2) := by decide +kernel
theorem dX3_areAlike_10 : decode cX3_areAlike 10 = .ok (.iconst 0, 1) := by decide +kernel
theorem dX3_areAlike_11 : decode cX3_areAlike 11 = .ok (.istore 6, 2) := by decide +kernel
theorem dX3_areAlike_13 : decode cX3_areAlike 13 = .ok (.iload 6, 2) := by decide +kernel
theorem dX3_areAlike_15 : decode cX3_areAlike 15 = .ok (.aload_n 0, 1) := by decide +kernel
theorem dX3_areAlike_16 : decode cX3_areAlike 16 = .ok (.iload_n 1, 1) := by decide +kernel
theorem dX3_areAlike_17 : decode cX3_areAlike 17 = .ok (.invokevirtual 172, 3) := by decide +kernel
theorem dX3_areAlike_20 : decode cX3_areAlike 20 = .ok (.if_icmp .ge 53, 3) := by decide +kernel
theorem dX3_areAlike_23 : decode cX3_areAlike 23 = .ok (.aload_n 0, 1) := by decide +kernel
theorem dX3_areAlike_24 : decode cX3_areAlike 24 = .ok (.getfield 56, 3) := by decide +kernel
theorem dX3_areAlike_27 : decode cX3_areAlike 27 = .ok (.iload 6, 2) := by decide +kernel
theorem dX3_areAlike_29 : decode cX3_areAlike 29 = .ok (.iaload, 1) := by decide +kernel
theorem dX3_areAlike_30 : decode cX3_areAlike 30 = .ok (.bipush (-3), 2) := by decide +kernel
theorem dX3_areAlike_32 : decode cX3_areAlike 32 = .ok (.if_icmp .eq 35, 3) := by decide +kernel
theorem dX3_areAlike_35 : decode cX3_areAlike 35 = .ok (.iload 6, 2) := by decide +kernel
theorem dX3_areAlike_37 : decode cX3_areAlike 37 = .ok (.iload_n 2, 1) := by decide +kernel
theorem dX3_areAlike_38 : decode cX3_areAlike 38 = .ok (.invokestatic 107, 3) := by decide +kernel
theorem dX3_areAlike_41 : decode cX3_areAlike 41 = .ok (.iload_n 3, 1) := by decide +kernel
theorem dX3_areAlike_42 : decode cX3_areAlike 42 = .ok (.if_icmp .ne 25, 3) := by decide +kernel
theorem dX3_areAlike_45 : decode cX3_areAlike 45 = .ok (.aload_n 0, 1) := by decide +kernel
theorem dX3_areAlike_46 : decode cX3_areAlike 46 = .ok (.getfield 56, 3) := by decide +kernel
theorem dX3_areAlike_49 : decode cX3_areAlike 49 = .ok (.iload 6, 2) := by decide +kernel
theorem dX3_areAlike_51 : decode cX3_areAlike 51 = .ok (.iaload, 1) := by decide +kernel
theorem dX3_areAlike_52 : decode cX3_areAlike 52 = .ok (.aload_n 0, 1) := by decide +kernel
theorem dX3_areAlike_53 : decode cX3_areAlike 53 = .ok (.getfield 56, 3) := by decide +kernel
theorem dX3_areAlike_56 : decode cX3_areAlike 56 = .ok (.iload 6, 2) := by decide +kernel
theorem dX3_areAlike_58 : decode cX3_areAlike 58 = .ok (.iload 5, 2) := by decide +kernel
theorem dX3_areAlike_60 : decode cX3_areAlike 60 = .ok (.iadd, 1) := by decide +kernel
theorem dX3_areAlike_61 : decode cX3_areAlike 61 = .ok (.iaload, 1) := by decide +kernel
theorem dX3_areAlike_62 : decode cX3_areAlike 62 = .ok (.if_icmp .eq 5, 3) := by decide +kernel
theorem dX3_areAlike_65 : decode cX3_areAlike 65 = .ok (.iconst 0, 1) := by decide +kernel
theorem dX3_areAlike_66 : decode cX3_areAlike 66 = .ok (.ireturn, 1) := by decide +kernel
theorem dX3_areAlike_67 : decode cX3_areAlike 67 = .ok (.iinc 6 1, 3) := by decide +kernel
theorem dX3_areAlike_70 : decode cX3_areAlike 70 = .ok (.goto (-57), 3) := by decide +kernel
theorem dX3_areAlike_73 : decode cX3_areAlike 73 = .ok (.iconst 1, 1) := by decide +kernel
theorem dX3_areAlike_74 : decode cX3_areAlike 74 = .ok (.ireturn, 1) := by decide +kernel
theorem dX3_poleOf_0 : decode cX3_poleOf 0 = .ok (.iconst 0, 1) := by decide +kernel
theorem dX3_poleOf_1 : decode cX3_poleOf 1 = .ok (.istore 4, 2) := by decide +kernel
theorem dX3_poleOf_3 : decode cX3_poleOf 3 = .ok (.aload_n 0, 1) := by decide +kernel
theorem dX3_poleOf_4 : decode cX3_poleOf 4 = .ok (.iload_n 1, 1) := by decide +kernel
theorem dX3_poleOf_5 : decode cX3_poleOf 5 = .ok (.iload_n 2, 1) := by decide +kernel
theorem dX3_poleOf_6 : decode cX3_poleOf 6 = .ok (.iload_n 3, 1) := by decide +kernel
theorem dX3_poleOf_7 : decode cX3_poleOf 7 = .ok (.iload 4, 2) := by decide +kernel
theorem dX3_poleOf_9 : decode cX3_poleOf 9 = .ok (.invokevirtual 178, 3) := by decide +kernel
theorem dX3_poleOf_12 : decode cX3_poleOf 12 = .ok (.ifCond .ne 9, 3) := by decide +kernel
theorem dX3_poleOf_15 : decode cX3_poleOf 15 = .ok (.iinc 4 1, 3) := by decide +kernel
theorem dX3_poleOf_18 : decode cX3_poleOf 18 = .ok (.goto (-15), 3) := by decide +kernel
theorem dX3_poleOf_21 : decode cX3_poleOf 21 = .ok (.iload 4, 2) := by decide +kernel
theorem dX3_poleOf_23 : decode cX3_poleOf 23 = .ok (.ireturn, 1) := by decide +kernel
theorem dX3_sizeOf_0 : decode cX3_sizeOf 0 = .ok (.iconst 1, 1) := by decide +kernel
theorem dX3_sizeOf_1 : decode cX3_sizeOf 1 = .ok (.istore_n 2, 1) := by decide +kernel
theorem dX3_sizeOf_2 : decode cX3_sizeOf 2 = .ok (.iconst 0, 1) := by decide +kernel
theorem dX3_sizeOf_3 : decode cX3_sizeOf 3 = .ok (.istore_n 3, 1) := by decide +kernel
theorem dX3_sizeOf_4 : decode cX3_sizeOf 4 = .ok (.iload_n 3, 1) := by decide +kernel
theorem dX3_sizeOf_5 : decode cX3_sizeOf 5 = .ok (.aload_n 0, 1) := by decide +kernel
theorem dX3_sizeOf_6 : decode cX3_sizeOf 6 = .ok (.getfield 22, 3) := by decide +kernel
theorem dX3_sizeOf_9 : decode cX3_sizeOf 9 = .ok (.iload_n 1, 1) := by decide +kernel
theorem dX3_sizeOf_10 : decode cX3_sizeOf 10 = .ok (.iaload, 1) := by decide +kernel
theorem dX3_sizeOf_11 : decode cX3_sizeOf 11 = .ok (.if_icmp .ge 58, 3) := by decide +kernel
theorem dX3_sizeOf_14 : decode cX3_sizeOf 14 = .ok (.iconst 0, 1) := by decide +kernel
theorem dX3_sizeOf_15 : decode cX3_sizeOf 15 = .ok (.istore 4, 2) := by decide +kernel
theorem dX3_sizeOf_17 : decode cX3_sizeOf 17 = .ok (.iconst 0, 1) := by decide +kernel
theorem dX3_sizeOf_18 : decode cX3_sizeOf 18 = .ok (.istore 5, 2) := by decide +kernel
theorem dX3_sizeOf_20 : decode cX3_sizeOf 20 = .ok (.iload 5, 2) := by decide +kernel
theorem dX3_sizeOf_22 : decode cX3_sizeOf 22 = .ok (.aload_n 0, 1) := by decide +kernel
theorem dX3_sizeOf_23 : decode cX3_sizeOf 23 = .ok (.getfield 62, 3) := by decide +kernel
theorem dX3_sizeOf_26 : decode cX3_sizeOf 26 = .ok (.if_icmp .ge 32, 3) := by decide +kernel
theorem dX3_sizeOf_29 : decode cX3_sizeOf 29 = .ok (.iload 4, 2) := by decide +kernel
theorem dX3_sizeOf_31 : decode cX3_sizeOf 31 = .ok (.aload_n 0, 1) := by decide +kernel
theorem dX3_sizeOf_32 : decode cX3_sizeOf 32 = .ok (.iload_n 1, 1) := by decide +kernel
theorem dX3_sizeOf_33 : decode cX3_sizeOf 33 = .ok (.iload_n 3, 1) := by decide +kernel
theorem dX3_sizeOf_34 : decode cX3_sizeOf 34 = .ok (.iload 5, 2) := by decide +kernel
theorem dX3_sizeOf_36 : decode cX3_sizeOf 36 = .ok (.invokevirtual 181, 3) := by decide +kernel
theorem dX3_sizeOf_39 : decode cX3_sizeOf 39 = .ok (.iload 5, 2) := by decide +kernel
theorem dX3_sizeOf_41 : decode cX3_sizeOf 41 = .ok (.if_icmp .ne 7, 3) := by decide +kernel
theorem dX3_sizeOf_44 : decode cX3_sizeOf 44 = .ok (.iconst 1, 1) := by decide +kernel
theorem dX3_sizeOf_45 : decode cX3_sizeOf 45 = .ok (.goto 4, 3) := by decide +kernel
theorem dX3_sizeOf_48 : decode cX3_sizeOf 48 = .ok (.iconst 0, 1) := by decide +kernel
theorem dX3_sizeOf_49 : decode cX3_sizeOf 49 = .ok (.iadd, 1) := by decide +kernel
theorem dX3_sizeOf_50 : decode cX3_sizeOf 50 = .ok (.istore 4, 2) := by decide +kernel
theorem dX3_sizeOf_52 : decode cX3_sizeOf 52 = .ok (.iinc 5 1, 3) := by decide +kernel
theorem dX3_sizeOf_55 : decode cX3_sizeOf 55 = .ok (.goto (-35), 3) := by decide +kernel
theorem dX3_sizeOf_58 : decode cX3_sizeOf 58 = .ok (.iload_n 2, 1) := by decide +kernel
theorem dX3_sizeOf_59 : decode cX3_sizeOf 59 = .ok (.iload 4, 2) := by decide +kernel
theorem dX3_sizeOf_61 : decode cX3_sizeOf 61 = .ok (.imul, 1) := by decide +kernel
theorem dX3_sizeOf_62 : decode cX3_sizeOf 62 = .ok (.istore_n 2, 1) := by decide +kernel
theorem dX3_sizeOf_63 : decode cX3_sizeOf 63 = .ok (.iinc 3 1, 3) := by decide +kernel
theorem dX3_sizeOf_66 : decode cX3_sizeOf 66 = .ok (.goto (-62), 3) := by decide +kernel
theorem dX3_sizeOf_69 : decode cX3_sizeOf 69 = .ok (.iload_n 2, 1) := by decide +kernel
theorem dX3_sizeOf_70 : decode cX3_sizeOf 70 = .ok (.ireturn, 1) := by decide +kernel
theorem dX3_idleOf_0 : decode cX3_idleOf 0 = .ok (.aload_n 0, 1) := by decide +kernel
theorem dX3_idleOf_1 : decode cX3_idleOf 1 = .ok (.iload_n 1, 1) := by decide +kernel
theorem dX3_idleOf_2 : decode cX3_idleOf 2 = .ok (.invokevirtual 126, 3) := by decide +kernel
theorem dX3_idleOf_5 : decode cX3_idleOf 5 = .ok (.istore_n 2, 1) := by decide +kernel
theorem dX3_idleOf_6 : decode cX3_idleOf 6 = .ok (.iconst 0, 1) := by decide +kernel
theorem dX3_idleOf_7 : decode cX3_idleOf 7 = .ok (.istore_n 3, 1) := by decide +kernel
theorem dX3_idleOf_8 : decode cX3_idleOf 8 = .ok (.iload_n 3, 1) := by decide +kernel
theorem dX3_idleOf_9 : decode cX3_idleOf 9 = .ok (.aload_n 0, 1) := by decide +kernel
theorem dX3_idleOf_10 : decode cX3_idleOf 10 = .ok (.iload_n 1, 1) := by decide +kernel
theorem dX3_idleOf_11 : decode cX3_idleOf 11 = .ok (.invokevirtual 172, 3) := by decide +kernel
theorem dX3_idleOf_14 : decode cX3_idleOf 14 = .ok (.if_icmp .ge 35, 3) := by decide +kernel
theorem dX3_idleOf_17 : decode cX3_idleOf 17 = .ok (.iload_n 2, 1) := by decide +kernel
theorem dX3_idleOf_18 : decode cX3_idleOf 18 = .ok (.aload_n 0, 1) := by decide +kernel
theorem dX3_idleOf_19 : decode cX3_idleOf 19 = .ok (.getfield 56, 3) := by decide +kernel
theorem dX3_idleOf_22 : decode cX3_idleOf 22 = .ok (.iload_n 3, 1) := by decide +kernel
theorem dX3_idleOf_23 : decode cX3_idleOf 23 = .ok (.iaload, 1) := by decide +kernel
theorem dX3_idleOf_24 : decode cX3_idleOf 24 = .ok (.ifCond .lt 16, 3) := by decide +kernel
theorem dX3_idleOf_27 : decode cX3_idleOf 27 = .ok (.iconst 1, 1) := by decide +kernel
theorem dX3_idleOf_28 : decode cX3_idleOf 28 = .ok (.aload_n 0, 1) := by decide +kernel
theorem dX3_idleOf_29 : decode cX3_idleOf 29 = .ok (.getfield 56, 3) := by decide +kernel
theorem dX3_idleOf_32 : decode cX3_idleOf 32 = .ok (.iload_n 3, 1) := by decide +kernel
theorem dX3_idleOf_33 : decode cX3_idleOf 33 = .ok (.iaload, 1) := by decide +kernel
theorem dX3_idleOf_34 : decode cX3_idleOf 34 = .ok (.ishl, 1) := by decide +kernel
theorem dX3_idleOf_35 : decode cX3_idleOf 35 = .ok (.iconst (-1), 1) := by decide +kernel
theorem dX3_idleOf_36 : decode cX3_idleOf 36 = .ok (.ixor, 1) := by decide +kernel
theorem dX3_idleOf_37 : decode cX3_idleOf 37 = .ok (.goto 4, 3) := by decide +kernel
theorem dX3_idleOf_40 : decode cX3_idleOf 40 = .ok (.iconst (-1), 1) := by decide +kernel
theorem dX3_idleOf_41 : decode cX3_idleOf 41 = .ok (.iand, 1) := by decide +kernel
theorem dX3_idleOf_42 : decode cX3_idleOf 42 = .ok (.istore_n 2, 1) := by decide +kernel
theorem dX3_idleOf_43 : decode cX3_idleOf 43 = .ok (.iinc 3 1, 3) := by decide +kernel
theorem dX3_idleOf_46 : decode cX3_idleOf 46 = .ok (.goto (-38), 3) := by decide +kernel
theorem dX3_idleOf_49 : decode cX3_idleOf 49 = .ok (.iload_n 2, 1) := by decide +kernel
theorem dX3_idleOf_50 : decode cX3_idleOf 50 = .ok (.ireturn, 1) := by decide +kernel
theorem dX3_allCalls_0 : decode cX3_allCalls 0 = .ok (.iconst 1, 1) := by decide +kernel
theorem dX3_allCalls_1 : decode cX3_allCalls 1 = .ok (.istore_n 2, 1) := by decide +kernel
theorem dX3_allCalls_2 : decode cX3_allCalls 2 = .ok (.iconst 0, 1) := by decide +kernel
theorem dX3_allCalls_3 : decode cX3_allCalls 3 = .ok (.istore_n 3, 1) := by decide +kernel
theorem dX3_allCalls_4 : decode cX3_allCalls 4 = .ok (.iload_n 3, 1) := by decide +kernel
theorem dX3_allCalls_5 : decode cX3_allCalls 5 = .ok (.aload_n 0, 1) := by decide +kernel
theorem dX3_allCalls_6 : decode cX3_allCalls 6 = .ok (.getfield 22, 3) := by decide +kernel
theorem dX3_allCalls_9 : decode cX3_allCalls 9 = .ok (.iload_n 1, 1) := by decide +kernel
theorem dX3_allCalls_10 : decode cX3_allCalls 10 = .ok (.iaload, 1) := by decide +kernel
theorem dX3_allCalls_11 : decode cX3_allCalls 11 = .ok (.if_icmp .ge 16, 3) := by decide +kernel
theorem dX3_allCalls_14 : decode cX3_allCalls 14 = .ok (.iload_n 2, 1) := by decide +kernel
theorem dX3_allCalls_15 : decode cX3_allCalls 15 = .ok (.aload_n 0, 1) := by decide +kernel
theorem dX3_allCalls_16 : decode cX3_allCalls 16 = .ok (.getfield 62, 3) := by decide +kernel
theorem dX3_allCalls_19 : decode cX3_allCalls 19 = .ok (.imul, 1) := by decide +kernel
theorem dX3_allCalls_20 : decode cX3_allCalls 20 = .ok (.istore_n 2, 1) := by decide +kernel
theorem dX3_allCalls_21 : decode cX3_allCalls 21 = .ok (.iinc 3 1, 3) := by decide +kernel
theorem dX3_allCalls_24 : decode cX3_allCalls 24 = .ok (.goto (-20), 3) := by decide +kernel
theorem dX3_allCalls_27 : decode cX3_allCalls 27 = .ok (.iload_n 2, 1) := by decide +kernel
theorem dX3_allCalls_28 : decode cX3_allCalls 28 = .ok (.ireturn, 1) := by decide +kernel
theorem dX3_of_0 : decode cX3_of 0 = .ok (.aload_n 0, 1) := by decide +kernel
theorem dX3_of_1 : decode cX3_of 1 = .ok (.iconst 0, 1) := by decide +kernel
theorem dX3_of_2 : decode cX3_of 2 = .ok (.putfield 65, 3) := by decide +kernel
theorem dX3_of_5 : decode cX3_of 5 = .ok (.aload_n 0, 1) := by decide +kernel
theorem dX3_of_6 : decode cX3_of 6 = .ok (.iload_n 1, 1) := by decide +kernel
theorem dX3_of_7 : decode cX3_of 7 = .ok (.invokevirtual 104, 3) := by decide +kernel
theorem dX3_of_10 : decode cX3_of 10 = .ok (.ifCond .ne 5, 3) := by decide +kernel
theorem dX3_of_13 : decode cX3_of 13 = .ok (.iconst (-1), 1) := by decide +kernel
theorem dX3_of_14 : decode cX3_of 14 = .ok (.ireturn, 1) := by decide +kernel
theorem dX3_of_15 : decode cX3_of 15 = .ok (.aload_n 0, 1) := by decide +kernel
theorem dX3_of_16 : decode cX3_of 16 = .ok (.iload_n 1, 1) := by decide +kernel
theorem dX3_of_17 : decode cX3_of 17 = .ok (.iload_n 2, 1) := by decide +kernel
theorem dX3_of_18 : decode cX3_of 18 = .ok (.iconst 4, 1) := by decide +kernel
theorem dX3_of_19 : decode cX3_of 19 = .ok (.iconst 5, 1) := by decide +kernel
theorem dX3_of_20 : decode cX3_of 20 = .ok (.invokestatic 68, 3) := by decide +kernel
theorem dX3_of_23 : decode cX3_of 23 = .ok (.ifCond .eq 7, 3) := by decide +kernel
theorem dX3_of_26 : decode cX3_of 26 = .ok (.iconst 0, 1) := by decide +kernel
theorem dX3_of_27 : decode cX3_of 27 = .ok (.goto 7, 3) := by decide +kernel
theorem dX3_of_30 : decode cX3_of 30 = .ok (.aload_n 0, 1) := by decide +kernel
theorem dX3_of_31 : decode cX3_of 31 = .ok (.getfield 133, 3) := by decide +kernel
theorem dX3_of_34 : decode cX3_of 34 = .ok (.invokevirtual 184, 3) := by decide +kernel
theorem dX3_of_37 : decode cX3_of 37 = .ok (.iload_n 2, 1) := by decide +kernel
theorem dX3_of_38 : decode cX3_of 38 = .ok (.tableswitch 124 0 9 #[54, 61, 67, 73, 80, 88, 97, 105, 111, 117], 54) := by decide +kernel
theorem dX3_of_92 : decode cX3_of 92 = .ok (.aload_n 0, 1) := by decide +kernel
theorem dX3_of_93 : decode cX3_of 93 = .ok (.getfield 22, 3) := by decide +kernel
theorem dX3_of_96 : decode cX3_of 96 = .ok (.iload_n 1, 1) := by decide +kernel
theorem dX3_of_97 : decode cX3_of 97 = .ok (.iaload, 1) := by decide +kernel
theorem dX3_of_98 : decode cX3_of 98 = .ok (.ireturn, 1) := by decide +kernel
theorem dX3_of_99 : decode cX3_of 99 = .ok (.aload_n 0, 1) := by decide +kernel
theorem dX3_of_100 : decode cX3_of 100 = .ok (.iload_n 1, 1) := by decide +kernel
theorem dX3_of_101 : decode cX3_of 101 = .ok (.invokevirtual 126, 3) := by decide +kernel
theorem dX3_of_104 : decode cX3_of 104 = .ok (.ireturn, 1) := by decide +kernel
theorem dX3_of_105 : decode cX3_of 105 = .ok (.aload_n 0, 1) := by decide +kernel
theorem dX3_of_106 : decode cX3_of 106 = .ok (.iload_n 1, 1) := by decide +kernel
theorem dX3_of_107 : decode cX3_of 107 = .ok (.invokevirtual 187, 3) := by decide +kernel
theorem dX3_of_110 : decode cX3_of 110 = .ok (.ireturn, 1) := by decide +kernel
theorem dX3_of_111 : decode cX3_of 111 = .ok (.aload_n 0, 1) := by decide +kernel
theorem dX3_of_112 : decode cX3_of 112 = .ok (.iload_n 1, 1) := by decide +kernel
theorem dX3_of_113 : decode cX3_of 113 = .ok (.iconst (-1), 1) := by decide +kernel
theorem dX3_of_114 : decode cX3_of 114 = .ok (.invokevirtual 190, 3) := by decide +kernel
theorem dX3_of_117 : decode cX3_of 117 = .ok (.ireturn, 1) := by decide +kernel
theorem dX3_of_118 : decode cX3_of 118 = .ok (.aload_n 0, 1) := by decide +kernel
theorem dX3_of_119 : decode cX3_of 119 = .ok (.iload_n 1, 1) := by decide +kernel
theorem dX3_of_120 : decode cX3_of 120 = .ok (.bipush (-2), 2) := by decide +kernel
theorem dX3_of_122 : decode cX3_of 122 = .ok (.invokevirtual 190, 3) := by decide +kernel
theorem dX3_of_125 : decode cX3_of 125 = .ok (.ireturn, 1) := by decide +kernel
theorem dX3_of_126 : decode cX3_of 126 = .ok (.aload_n 0, 1) := by decide +kernel
theorem dX3_of_127 : decode cX3_of 127 = .ok (.iload_n 1, 1) := by decide +kernel
theorem dX3_of_128 : decode cX3_of 128 = .ok (.bipush (-2), 2) := by decide +kernel
theorem dX3_of_130 : decode cX3_of 130 = .ok (.iconst (-1), 1) := by decide +kernel
theorem dX3_of_131 : decode cX3_of 131 = .ok (.invokevirtual 193, 3) := by decide +kernel
theorem dX3_of_134 : decode cX3_of 134 = .ok (.ireturn, 1) := by decide +kernel
theorem dX3_of_135 : decode cX3_of 135 = .ok (.aload_n 0, 1) := by decide +kernel
theorem dX3_of_136 : decode cX3_of 136 = .ok (.iload_n 1, 1) := by decide +kernel
theorem dX3_of_137 : decode cX3_of 137 = .ok (.iconst (-1), 1) := by decide +kernel
theorem dX3_of_138 : decode cX3_of 138 = .ok (.iconst (-1), 1) := by decide +kernel
theorem dX3_of_139 : decode cX3_of 139 = .ok (.invokevirtual 193, 3) := by decide +kernel
theorem dX3_of_142 : decode cX3_of 142 = .ok (.ireturn, 1) := by decide +kernel
theorem dX3_of_143 : decode cX3_of 143 = .ok (.aload_n 0, 1) := by decide +kernel
theorem dX3_of_144 : decode cX3_of 144 = .ok (.iload_n 1, 1) := by decide +kernel
theorem dX3_of_145 : decode cX3_of 145 = .ok (.invokevirtual 196, 3) := by decide +kernel
theorem dX3_of_148 : decode cX3_of 148 = .ok (.ireturn, 1) := by decide +kernel
theorem dX3_of_149 : decode cX3_of 149 = .ok (.aload_n 0, 1) := by decide +kernel
theorem dX3_of_150 : decode cX3_of 150 = .ok (.iload_n 1, 1) := by decide +kernel
theorem dX3_of_151 : decode cX3_of 151 = .ok (.invokevirtual 199, 3) := by decide +kernel
theorem dX3_of_154 : decode cX3_of 154 = .ok (.ireturn, 1) := by decide +kernel
theorem dX3_of_155 : decode cX3_of 155 = .ok (.aload_n 0, 1) := by decide +kernel
theorem dX3_of_156 : decode cX3_of 156 = .ok (.getfield 37, 3) := by decide +kernel
theorem dX3_of_159 : decode cX3_of 159 = .ok (.iload_n 1, 1) := by decide +kernel
theorem dX3_of_160 : decode cX3_of 160 = .ok (.iaload, 1) := by decide +kernel
theorem dX3_of_161 : decode cX3_of 161 = .ok (.ireturn, 1) := by decide +kernel
theorem dX3_of_162 : decode cX3_of 162 = .ok (.iconst (-1), 1) := by decide +kernel
theorem dX3_of_163 : decode cX3_of 163 = .ok (.ireturn, 1) := by decide +kernel
theorem dX3_applicableMany_0 : decode cX3_applicableMany 0 = .ok (.iconst 0, 1) := by decide +kernel
theorem dX3_applicableMany_1 : decode cX3_applicableMany 1 = .ok (.istore_n 3, 1) := by decide +kernel
theorem dX3_applicableMany_2 : decode cX3_applicableMany 2 = .ok (.iconst 0, 1) := by decide +kernel
theorem dX3_applicableMany_3 : decode cX3_applicableMany 3 = .ok (.istore 4, 2) := by decide +kernel
theorem dX3_applicableMany_5 : decode cX3_applicableMany 5 = .ok (.iload 4, 2) := by decide +kernel
theorem dX3_applicableMany_7 : decode cX3_applicableMany 7 = .ok (.aload_n 0, 1) := by decide +kernel
theorem dX3_applicableMany_8 : decode cX3_applicableMany 8 = .ok (.iload_n 1, 1) := by decide +kernel
theorem dX3_applicableMany_9 : decode cX3_applicableMany 9 = .ok (.invokevirtual 172, 3) := by decide +kernel
theorem dX3_applicableMany_12 : decode cX3_applicableMany 12 = .ok (.if_icmp .ge 48, 3) := by decide +kernel
theorem dX3_applicableMany_15 : decode cX3_applicableMany 15 = .ok (.iload_n 3, 1) := by decide +kernel
theorem dX3_applicableMany_16 : decode cX3_applicableMany 16 = .ok (.aload_n 0, 1) := by decide +kernel
theorem dX3_applicableMany_17 : decode cX3_applicableMany 17 = .ok (.iload_n 1, 1) := by decide +kernel
theorem dX3_applicableMany_18 : decode cX3_applicableMany 18 = .ok (.iload 4, 2) := by decide +kernel
theorem dX3_applicableMany_20 : decode cX3_applicableMany 20 = .ok (.invokevirtual 114, 3) := by decide +kernel
theorem dX3_applicableMany_23 : decode cX3_applicableMany 23 = .ok (.ifCond .eq 28, 3) := by decide +kernel
theorem dX3_applicableMany_26 : decode cX3_applicableMany 26 = .ok (.aload_n 0, 1) := by decide +kernel
theorem dX3_applicableMany_27 : decode cX3_applicableMany 27 = .ok (.iload_n 1, 1) := by decide +kernel
theorem dX3_applicableMany_28 : decode cX3_applicableMany 28 = .ok (.iload 4, 2) := by decide +kernel
theorem dX3_applicableMany_30 : decode cX3_applicableMany 30 = .ok (.aload_n 0, 1) := by decide +kernel
theorem dX3_applicableMany_31 : decode cX3_applicableMany 31 = .ok (.getfield 25, 3) := by decide +kernel
theorem dX3_applicableMany_34 : decode cX3_applicableMany 34 = .ok (.bipush 12, 2) := by decide +kernel
theorem dX3_applicableMany_36 : decode cX3_applicableMany 36 = .ok (.iload_n 1, 1) := by decide +kernel
theorem dX3_applicableMany_37 : decode cX3_applicableMany 37 = .ok (.imul, 1) := by decide +kernel
theorem dX3_applicableMany_38 : decode cX3_applicableMany 38 = .ok (.iload_n 2, 1) := by decide +kernel
theorem dX3_applicableMany_39 : decode cX3_applicableMany 39 = .ok (.iadd, 1) := by decide +kernel
theorem dX3_applicableMany_40 : decode cX3_applicableMany 40 = .ok (.iaload, 1) := by decide +kernel
theorem dX3_applicableMany_41 : decode cX3_applicableMany 41 = .ok (.invokevirtual 111, 3) := by decide +kernel
theorem dX3_applicableMany_44 : decode cX3_applicableMany 44 = .ok (.ifCond .eq 7, 3) := by decide +kernel
theorem dX3_applicableMany_47 : decode cX3_applicableMany 47 = .ok (.iconst 1, 1) := by decide +kernel
theorem dX3_applicableMany_48 : decode cX3_applicableMany 48 = .ok (.goto 4, 3) := by decide +kernel
theorem dX3_applicableMany_51 : decode cX3_applicableMany 51 = .ok (.iconst 0, 1) := by decide +kernel
theorem dX3_applicableMany_52 : decode cX3_applicableMany 52 = .ok (.iadd, 1) := by decide +kernel
theorem dX3_applicableMany_53 : decode cX3_applicableMany 53 = .ok (.istore_n 3, 1) := by decide +kernel
theorem dX3_applicableMany_54 : decode cX3_applicableMany 54 = .ok (.iinc 4 1, 3) := by decide +kernel
theorem dX3_applicableMany_57 : decode cX3_applicableMany 57 = .ok (.goto (-52), 3) := by decide +kernel
theorem dX3_applicableMany_60 : decode cX3_applicableMany 60 = .ok (.iload_n 3, 1) := by decide +kernel
theorem dX3_applicableMany_61 : decode cX3_applicableMany 61 = .ok (.ireturn, 1) := by decide +kernel
theorem dX3_at_0 : decode cX3_at 0 = .ok (.aload_n 0, 1) := by decide +kernel
theorem dX3_at_1 : decode cX3_at 1 = .ok (.aload_n 0, 1) := by decide +kernel
theorem dX3_at_2 : decode cX3_at 2 = .ok (.iload_n 1, 1) := by decide +kernel
theorem dX3_at_3 : decode cX3_at 3 = .ok (.iload_n 2, 1) := by decide +kernel
theorem dX3_at_4 : decode cX3_at 4 = .ok (.invokevirtual 123, 3) := by decide +kernel
theorem dX3_at_7 : decode cX3_at 7 = .ok (.ifCond .eq 16, 3) := by decide +kernel
theorem dX3_at_10 : decode cX3_at 10 = .ok (.iload_n 3, 1) := by decide +kernel
theorem dX3_at_11 : decode cX3_at 11 = .ok (.iconst 0, 1) := by decide +kernel
theorem dX3_at_12 : decode cX3_at 12 = .ok (.iconst 4, 1) := by decide +kernel
theorem dX3_at_13 : decode cX3_at 13 = .ok (.invokestatic 68, 3) := by decide +kernel
theorem dX3_at_16 : decode cX3_at 16 = .ok (.ifCond .eq 7, 3) := by decide +kernel
theorem dX3_at_19 : decode cX3_at 19 = .ok (.iconst 0, 1) := by decide +kernel
theorem dX3_at_20 : decode cX3_at 20 = .ok (.goto 4, 3) := by decide +kernel
theorem dX3_at_23 : decode cX3_at 23 = .ok (.iconst 1, 1) := by decide +kernel
theorem dX3_at_24 : decode cX3_at 24 = .ok (.putfield 65, 3) := by decide +kernel
theorem dX3_at_27 : decode cX3_at 27 = .ok (.aload_n 0, 1) := by decide +kernel
theorem dX3_at_28 : decode cX3_at 28 = .ok (.getfield 65, 3) := by decide +kernel
theorem dX3_at_31 : decode cX3_at 31 = .ok (.ifCond .le 5, 3) := by decide +kernel
theorem dX3_at_34 : decode cX3_at 34 = .ok (.iconst 0, 1) := by decide +kernel
theorem dX3_at_35 : decode cX3_at 35 = .ok (.ireturn, 1) := by decide +kernel
theorem dX3_at_36 : decode cX3_at 36 = .ok (.iload_n 3, 1) := by decide +kernel
theorem dX3_at_37 : decode cX3_at 37 = .ok (.tableswitch 83 0 3 #[31, 43, 55, 67], 31) := by decide +kernel
theorem dX3_at_68 : decode cX3_at 68 = .ok (.aload_n 0, 1) := by decide +kernel
theorem dX3_at_69 : decode cX3_at 69 = .ok (.getfield 25, 3) := by decide +kernel
theorem dX3_at_72 : decode cX3_at 72 = .ok (.bipush 12, 2) := by decide +kernel
theorem dX3_at_74 : decode cX3_at 74 = .ok (.iload_n 1, 1) := by decide +kernel
theorem dX3_at_75 : decode cX3_at 75 = .ok (.imul, 1) := by decide +kernel
theorem dX3_at_76 : decode cX3_at 76 = .ok (.iload_n 2, 1) := by decide +kernel
theorem dX3_at_77 : decode cX3_at 77 = .ok (.iadd, 1) := by decide +kernel
theorem dX3_at_78 : decode cX3_at 78 = .ok (.iaload, 1) := by decide +kernel
theorem dX3_at_79 : decode cX3_at 79 = .ok (.ireturn, 1) := by decide +kernel
theorem dX3_at_80 : decode cX3_at 80 = .ok (.aload_n 0, 1) := by decide +kernel
theorem dX3_at_81 : decode cX3_at 81 = .ok (.getfield 28, 3) := by decide +kernel
theorem dX3_at_84 : decode cX3_at 84 = .ok (.bipush 12, 2) := by decide +kernel
theorem dX3_at_86 : decode cX3_at 86 = .ok (.iload_n 1, 1) := by decide +kernel
theorem dX3_at_87 : decode cX3_at 87 = .ok (.imul, 1) := by decide +kernel
theorem dX3_at_88 : decode cX3_at 88 = .ok (.iload_n 2, 1) := by decide +kernel
theorem dX3_at_89 : decode cX3_at 89 = .ok (.iadd, 1) := by decide +kernel
theorem dX3_at_90 : decode cX3_at 90 = .ok (.iaload, 1) := by decide +kernel
theorem dX3_at_91 : decode cX3_at 91 = .ok (.ireturn, 1) := by decide +kernel
theorem dX3_at_92 : decode cX3_at 92 = .ok (.aload_n 0, 1) := by decide +kernel
theorem dX3_at_93 : decode cX3_at 93 = .ok (.getfield 31, 3) := by decide +kernel
theorem dX3_at_96 : decode cX3_at 96 = .ok (.bipush 12, 2) := by decide +kernel
theorem dX3_at_98 : decode cX3_at 98 = .ok (.iload_n 1, 1) := by decide +kernel
theorem dX3_at_99 : decode cX3_at 99 = .ok (.imul, 1) := by decide +kernel
theorem dX3_at_100 : decode cX3_at 100 = .ok (.iload_n 2, 1) := by decide +kernel
theorem dX3_at_101 : decode cX3_at 101 = .ok (.iadd, 1) := by decide +kernel
theorem dX3_at_102 : decode cX3_at 102 = .ok (.iaload, 1) := by decide +kernel
theorem dX3_at_103 : decode cX3_at 103 = .ok (.ireturn, 1) := by decide +kernel
theorem dX3_at_104 : decode cX3_at 104 = .ok (.aload_n 0, 1) := by decide +kernel
theorem dX3_at_105 : decode cX3_at 105 = .ok (.iload_n 1, 1) := by decide +kernel
theorem dX3_at_106 : decode cX3_at 106 = .ok (.aload_n 0, 1) := by decide +kernel
theorem dX3_at_107 : decode cX3_at 107 = .ok (.getfield 133, 3) := by decide +kernel
theorem dX3_at_110 : decode cX3_at 110 = .ok (.invokevirtual 184, 3) := by decide +kernel
theorem dX3_at_113 : decode cX3_at 113 = .ok (.aload_n 0, 1) := by decide +kernel
theorem dX3_at_114 : decode cX3_at 114 = .ok (.iload_n 1, 1) := by decide +kernel
theorem dX3_at_115 : decode cX3_at 115 = .ok (.iload_n 2, 1) := by decide +kernel
theorem dX3_at_116 : decode cX3_at 116 = .ok (.invokevirtual 190, 3) := by decide +kernel
theorem dX3_at_119 : decode cX3_at 119 = .ok (.ireturn, 1) := by decide +kernel
theorem dX3_at_120 : decode cX3_at 120 = .ok (.aload_n 0, 1) := by decide +kernel
theorem dX3_at_121 : decode cX3_at 121 = .ok (.iload_n 1, 1) := by decide +kernel
theorem dX3_at_122 : decode cX3_at 122 = .ok (.iload_n 2, 1) := by decide +kernel
theorem dX3_at_123 : decode cX3_at 123 = .ok (.invokevirtual 202, 3) := by decide +kernel
theorem dX3_at_126 : decode cX3_at 126 = .ok (.ireturn, 1) := by decide +kernel
theorem dX3_clash_0 : decode cX3_clash 0 = .ok (.aload_n 0, 1) := by decide +kernel
theorem dX3_clash_1 : decode cX3_clash 1 = .ok (.iconst 0, 1) := by decide +kernel
theorem dX3_clash_2 : decode cX3_clash 2 = .ok (.putfield 65, 3) := by decide +kernel
theorem dX3_clash_5 : decode cX3_clash 5 = .ok (.aload_n 0, 1) := by decide +kernel
theorem dX3_clash_6 : decode cX3_clash 6 = .ok (.iload_n 1, 1) := by decide +kernel
theorem dX3_clash_7 : decode cX3_clash 7 = .ok (.invokevirtual 104, 3) := by decide +kernel
theorem dX3_clash_10 : decode cX3_clash 10 = .ok (.ifCond .eq 7, 3) := by decide +kernel
theorem dX3_clash_13 : decode cX3_clash 13 = .ok (.iload_n 2, 1) := by decide +kernel
theorem dX3_clash_14 : decode cX3_clash 14 = .ok (.ifCond .ge 5, 3) := by decide +kernel
theorem dX3_clash_17 : decode cX3_clash 17 = .ok (.iconst (-1), 1) := by decide +kernel
theorem dX3_clash_18 : decode cX3_clash 18 = .ok (.ireturn, 1) := by decide +kernel
theorem dX3_clash_19 : decode cX3_clash 19 = .ok (.aload_n 0, 1) := by decide +kernel
theorem dX3_clash_20 : decode cX3_clash 20 = .ok (.iload_n 1, 1) := by decide +kernel
theorem dX3_clash_21 : decode cX3_clash 21 = .ok (.iconst 0, 1) := by decide +kernel
theorem dX3_clash_22 : decode cX3_clash 22 = .ok (.invokevirtual 184, 3) := by decide +kernel
theorem dX3_clash_25 : decode cX3_clash 25 = .ok (.aload_n 0, 1) := by decide +kernel
theorem dX3_clash_26 : decode cX3_clash 26 = .ok (.iload_n 1, 1) := by decide +kernel
theorem dX3_clash_27 : decode cX3_clash 27 = .ok (.bipush (-2), 2) := by decide +kernel
theorem dX3_clash_29 : decode cX3_clash 29 = .ok (.iload_n 2, 1) := by decide +kernel
theorem dX3_clash_30 : decode cX3_clash 30 = .ok (.invokevirtual 193, 3) := by decide +kernel
theorem dX3_clash_33 : decode cX3_clash 33 = .ok (.ireturn, 1) := by decide +kernel
theorem dX3_gap_0 : decode cX3_gap 0 = .ok (.aload_n 0, 1) := by decide +kernel
theorem dX3_gap_1 : decode cX3_gap 1 = .ok (.iconst 0, 1) := by decide +kernel
theorem dX3_gap_2 : decode cX3_gap 2 = .ok (.putfield 65, 3) := by decide +kernel
theorem dX3_gap_5 : decode cX3_gap 5 = .ok (.aload_n 0, 1) := by decide +kernel
theorem dX3_gap_6 : decode cX3_gap 6 = .ok (.iload_n 1, 1) := by decide +kernel
theorem dX3_gap_7 : decode cX3_gap 7 = .ok (.invokevirtual 104, 3) := by decide +kernel
theorem dX3_gap_10 : decode cX3_gap 10 = .ok (.ifCond .eq 7, 3) := by decide +kernel
theorem dX3_gap_13 : decode cX3_gap 13 = .ok (.iload_n 2, 1) := by decide +kernel
theorem dX3_gap_14 : decode cX3_gap 14 = .ok (.ifCond .ge 5, 3) := by decide +kernel
theorem dX3_gap_17 : decode cX3_gap 17 = .ok (.iconst (-1), 1) := by decide +kernel
theorem dX3_gap_18 : decode cX3_gap 18 = .ok (.ireturn, 1) := by decide +kernel
theorem dX3_gap_19 : decode cX3_gap 19 = .ok (.aload_n 0, 1) := by decide +kernel
theorem dX3_gap_20 : decode cX3_gap 20 = .ok (.iload_n 1, 1) := by decide +kernel
theorem dX3_gap_21 : decode cX3_gap 21 = .ok (.iconst 0, 1) := by decide +kernel
theorem dX3_gap_22 : decode cX3_gap 22 = .ok (.invokevirtual 184, 3) := by decide +kernel
theorem dX3_gap_25 : decode cX3_gap 25 = .ok (.aload_n 0, 1) := by decide +kernel
theorem dX3_gap_26 : decode cX3_gap 26 = .ok (.iload_n 1, 1) := by decide +kernel
theorem dX3_gap_27 : decode cX3_gap 27 = .ok (.iconst (-1), 1) := by decide +kernel
theorem dX3_gap_28 : decode cX3_gap 28 = .ok (.iload_n 2, 1) := by decide +kernel
theorem dX3_gap_29 : decode cX3_gap 29 = .ok (.invokevirtual 193, 3) := by decide +kernel
theorem dX3_gap_32 : decode cX3_gap 32 = .ok (.ireturn, 1) := by decide +kernel
theorem dX3_fightIn_0 : decode cX3_fightIn 0 = .ok (.aload_n 0, 1) := by decide +kernel
theorem dX3_fightIn_1 : decode cX3_fightIn 1 = .ok (.iload_n 1, 1) := by decide +kernel
theorem dX3_fightIn_2 : decode cX3_fightIn 2 = .ok (.iload_n 2, 1) := by decide +kernel
theorem dX3_fightIn_3 : decode cX3_fightIn 3 = .ok (.invokevirtual 152, 3) := by decide +kernel
theorem dX3_fightIn_6 : decode cX3_fightIn 6 = .ok (.istore 5, 2) := by decide +kernel
theorem dX3_fightIn_8 : decode cX3_fightIn 8 = .ok (.iload 5, 2) := by decide +kernel
theorem dX3_fightIn_10 : decode cX3_fightIn 10 = .ok (.iload_n 3, 1) := by decide +kernel
theorem dX3_fightIn_11 : decode cX3_fightIn 11 = .ok (.invokestatic 97, 3) := by decide +kernel
theorem dX3_fightIn_14 : decode cX3_fightIn 14 = .ok (.ifCond .eq 13, 3) := by decide +kernel
theorem dX3_fightIn_17 : decode cX3_fightIn 17 = .ok (.iload 5, 2) := by decide +kernel
theorem dX3_fightIn_19 : decode cX3_fightIn 19 = .ok (.iload 4, 2) := by decide +kernel
theorem dX3_fightIn_21 : decode cX3_fightIn 21 = .ok (.invokestatic 97, 3) := by decide +kernel
theorem dX3_fightIn_24 : decode cX3_fightIn 24 = .ok (.ifCond .ne 5, 3) := by decide +kernel
theorem dX3_fightIn_27 : decode cX3_fightIn 27 = .ok (.iconst 0, 1) := by decide +kernel
theorem dX3_fightIn_28 : decode cX3_fightIn 28 = .ok (.ireturn, 1) := by decide +kernel
theorem dX3_fightIn_29 : decode cX3_fightIn 29 = .ok (.iconst 0, 1) := by decide +kernel
theorem dX3_fightIn_30 : decode cX3_fightIn 30 = .ok (.istore 6, 2) := by decide +kernel
theorem dX3_fightIn_32 : decode cX3_fightIn 32 = .ok (.iload 6, 2) := by decide +kernel
theorem dX3_fightIn_34 : decode cX3_fightIn 34 = .ok (.bipush 12, 2) := by decide +kernel
theorem dX3_fightIn_36 : decode cX3_fightIn 36 = .ok (.if_icmp .ge 84, 3) := by decide +kernel
theorem dX3_fightIn_39 : decode cX3_fightIn 39 = .ok (.iload 5, 2) := by decide +kernel
theorem dX3_fightIn_41 : decode cX3_fightIn 41 = .ok (.iload 6, 2) := by decide +kernel
theorem dX3_fightIn_43 : decode cX3_fightIn 43 = .ok (.invokestatic 97, 3) := by decide +kernel
theorem dX3_fightIn_46 : decode cX3_fightIn 46 = .ok (.ifCond .eq 68, 3) := by decide +kernel
theorem dX3_fightIn_49 : decode cX3_fightIn 49 = .ok (.aload_n 0, 1) := by decide +kernel
theorem dX3_fightIn_50 : decode cX3_fightIn 50 = .ok (.iload_n 1, 1) := by decide +kernel
theorem dX3_fightIn_51 : decode cX3_fightIn 51 = .ok (.aload_n 0, 1) := by decide +kernel
theorem dX3_fightIn_52 : decode cX3_fightIn 52 = .ok (.getfield 25, 3) := by decide +kernel
theorem dX3_fightIn_55 : decode cX3_fightIn 55 = .ok (.bipush 12, 2) := by decide +kernel
theorem dX3_fightIn_57 : decode cX3_fightIn 57 = .ok (.iload_n 1, 1) := by decide +kernel
theorem dX3_fightIn_58 : decode cX3_fightIn 58 = .ok (.imul, 1) := by decide +kernel
theorem dX3_fightIn_59 : decode cX3_fightIn 59 = .ok (.iload 6, 2) := by decide +kernel
theorem dX3_fightIn_61 : decode cX3_fightIn 61 = .ok (.iadd, 1) := by decide +kernel
theorem dX3_fightIn_62 : decode cX3_fightIn 62 = .ok (.iaload, 1) := by decide +kernel
theorem dX3_fightIn_63 : decode cX3_fightIn 63 = .ok (.aload_n 0, 1) := by decide +kernel
theorem dX3_fightIn_64 : decode cX3_fightIn 64 = .ok (.getfield 25, 3) := by decide +kernel
theorem dX3_fightIn_67 : decode cX3_fightIn 67 = .ok (.bipush 12, 2) := by decide +kernel
theorem dX3_fightIn_69 : decode cX3_fightIn 69 = .ok (.iload_n 1, 1) := by decide +kernel
theorem dX3_fightIn_70 : decode cX3_fightIn 70 = .ok (.imul, 1) := by decide +kernel
theorem dX3_fightIn_71 : decode cX3_fightIn 71 = .ok (.iload_n 3, 1) := by decide +kernel
theorem dX3_fightIn_72 : decode cX3_fightIn 72 = .ok (.iadd, 1) := by decide +kernel
theorem dX3_fightIn_73 : decode cX3_fightIn 73 = .ok (.iaload, 1) := by decide +kernel
theorem dX3_fightIn_74 : decode cX3_fightIn 74 = .ok (.invokevirtual 111, 3) := by decide +kernel
theorem dX3_fightIn_77 : decode cX3_fightIn 77 = .ok (.ifCond .eq 37, 3) := by decide +kernel
theorem dX3_fightIn_80 : decode cX3_fightIn 80 = .ok (.aload_n 0, 1) := by decide +kernel
theorem dX3_fightIn_81 : decode cX3_fightIn 81 = .ok (.iload_n 1, 1) := by decide +kernel
theorem dX3_fightIn_82 : decode cX3_fightIn 82 = .ok (.aload_n 0, 1) := by decide +kernel
theorem dX3_fightIn_83 : decode cX3_fightIn 83 = .ok (.getfield 25, 3) := by decide +kernel
theorem dX3_fightIn_86 : decode cX3_fightIn 86 = .ok (.bipush 12, 2) := by decide +kernel
theorem dX3_fightIn_88 : decode cX3_fightIn 88 = .ok (.iload_n 1, 1) := by decide +kernel
theorem dX3_fightIn_89 : decode cX3_fightIn 89 = .ok (.imul, 1) := by decide +kernel
theorem dX3_fightIn_90 : decode cX3_fightIn 90 = .ok (.iload 6, 2) := by decide +kernel
theorem dX3_fightIn_92 : decode cX3_fightIn 92 = .ok (.iadd, 1) := by decide +kernel
theorem dX3_fightIn_93 : decode cX3_fightIn 93 = .ok (.iaload, 1) := by decide +kernel
theorem dX3_fightIn_94 : decode cX3_fightIn 94 = .ok (.aload_n 0, 1) := by decide +kernel
theorem dX3_fightIn_95 : decode cX3_fightIn 95 = .ok (.getfield 25, 3) := by decide +kernel
theorem dX3_fightIn_98 : decode cX3_fightIn 98 = .ok (.bipush 12, 2) := by decide +kernel
theorem dX3_fightIn_100 : decode cX3_fightIn 100 = .ok (.iload_n 1, 1) := by decide +kernel
theorem dX3_fightIn_101 : decode cX3_fightIn 101 = .ok (.imul, 1) := by decide +kernel
theorem dX3_fightIn_102 : decode cX3_fightIn 102 = .ok (.iload 4, 2) := by decide +kernel
theorem dX3_fightIn_104 : decode cX3_fightIn 104 = .ok (.iadd, 1) := by decide +kernel
theorem dX3_fightIn_105 : decode cX3_fightIn 105 = .ok (.iaload, 1) := by decide +kernel
theorem dX3_fightIn_106 : decode cX3_fightIn 106 = .ok (.invokevirtual 111, 3) := by decide +kernel
theorem dX3_fightIn_109 : decode cX3_fightIn 109 = .ok (.ifCond .eq 5, 3) := by decide +kernel
theorem dX3_fightIn_112 : decode cX3_fightIn 112 = .ok (.iconst 0, 1) := by decide +kernel
theorem dX3_fightIn_113 : decode cX3_fightIn 113 = .ok (.ireturn, 1) := by decide +kernel
theorem dX3_fightIn_114 : decode cX3_fightIn 114 = .ok (.iinc 6 1, 3) := by decide +kernel
theorem dX3_fightIn_117 : decode cX3_fightIn 117 = .ok (.goto (-85), 3) := by decide +kernel
theorem dX3_fightIn_120 : decode cX3_fightIn 120 = .ok (.iconst 1, 1) := by decide +kernel
theorem dX3_fightIn_121 : decode cX3_fightIn 121 = .ok (.ireturn, 1) := by decide +kernel
theorem dX3_fight_0 : decode cX3_fight 0 = .ok (.aload_n 0, 1) := by decide +kernel
theorem dX3_fight_1 : decode cX3_fight 1 = .ok (.iconst 0, 1) := by decide +kernel
theorem dX3_fight_2 : decode cX3_fight 2 = .ok (.putfield 65, 3) := by decide +kernel
theorem dX3_fight_5 : decode cX3_fight 5 = .ok (.aload_n 0, 1) := by decide +kernel
theorem dX3_fight_6 : decode cX3_fight 6 = .ok (.iload_n 1, 1) := by decide +kernel
theorem dX3_fight_7 : decode cX3_fight 7 = .ok (.iload_n 2, 1) := by decide +kernel
theorem dX3_fight_8 : decode cX3_fight 8 = .ok (.invokevirtual 123, 3) := by decide +kernel
theorem dX3_fight_11 : decode cX3_fight 11 = .ok (.ifCond .eq 17, 3) := by decide +kernel
theorem dX3_fight_14 : decode cX3_fight 14 = .ok (.aload_n 0, 1) := by decide +kernel
theorem dX3_fight_15 : decode cX3_fight 15 = .ok (.iload_n 1, 1) := by decide +kernel
theorem dX3_fight_16 : decode cX3_fight 16 = .ok (.iload_n 3, 1) := by decide +kernel
theorem dX3_fight_17 : decode cX3_fight 17 = .ok (.invokevirtual 123, 3) := by decide +kernel
theorem dX3_fight_20 : decode cX3_fight 20 = .ok (.ifCond .eq 8, 3) := by decide +kernel
theorem dX3_fight_23 : decode cX3_fight 23 = .ok (.iload_n 2, 1) := by decide +kernel
theorem dX3_fight_24 : decode cX3_fight 24 = .ok (.iload_n 3, 1) := by decide +kernel
theorem dX3_fight_25 : decode cX3_fight 25 = .ok (.if_icmp .ne 5, 3) := by decide +kernel
theorem dX3_fight_28 : decode cX3_fight 28 = .ok (.iconst (-1), 1) := by decide +kernel
theorem dX3_fight_29 : decode cX3_fight 29 = .ok (.ireturn, 1) := by decide +kernel
theorem dX3_fight_30 : decode cX3_fight 30 = .ok (.iconst 0, 1) := by decide +kernel
theorem dX3_fight_31 : decode cX3_fight 31 = .ok (.istore 4, 2) := by decide +kernel
theorem dX3_fight_33 : decode cX3_fight 33 = .ok (.iload 4, 2) := by decide +kernel
theorem dX3_fight_35 : decode cX3_fight 35 = .ok (.aload_n 0, 1) := by decide +kernel
theorem dX3_fight_36 : decode cX3_fight 36 = .ok (.iload_n 1, 1) := by decide +kernel
theorem dX3_fight_37 : decode cX3_fight 37 = .ok (.invokevirtual 172, 3) := by decide +kernel
theorem dX3_fight_40 : decode cX3_fight 40 = .ok (.if_icmp .ge 34, 3) := by decide +kernel
theorem dX3_fight_43 : decode cX3_fight 43 = .ok (.aload_n 0, 1) := by decide +kernel
theorem dX3_fight_44 : decode cX3_fight 44 = .ok (.iload_n 1, 1) := by decide +kernel
theorem dX3_fight_45 : decode cX3_fight 45 = .ok (.iload 4, 2) := by decide +kernel
theorem dX3_fight_47 : decode cX3_fight 47 = .ok (.invokevirtual 114, 3) := by decide +kernel
theorem dX3_fight_50 : decode cX3_fight 50 = .ok (.ifCond .eq 18, 3) := by decide +kernel
theorem dX3_fight_53 : decode cX3_fight 53 = .ok (.aload_n 0, 1) := by decide +kernel
theorem dX3_fight_54 : decode cX3_fight 54 = .ok (.iload_n 1, 1) := by decide +kernel
theorem dX3_fight_55 : decode cX3_fight 55 = .ok (.iload 4, 2) := by decide +kernel
theorem dX3_fight_57 : decode cX3_fight 57 = .ok (.iload_n 2, 1) := by decide +kernel
theorem dX3_fight_58 : decode cX3_fight 58 = .ok (.iload_n 3, 1) := by decide +kernel
theorem dX3_fight_59 : decode cX3_fight 59 = .ok (.invokevirtual 205, 3) := by decide +kernel
theorem dX3_fight_62 : decode cX3_fight 62 = .ok (.ifCond .eq 6, 3) := by decide +kernel
theorem dX3_fight_65 : decode cX3_fight 65 = .ok (.iload 4, 2) := by decide +kernel
theorem dX3_fight_67 : decode cX3_fight 67 = .ok (.ireturn, 1) := by decide +kernel
theorem dX3_fight_68 : decode cX3_fight 68 = .ok (.iinc 4 1, 3) := by decide +kernel
theorem dX3_fight_71 : decode cX3_fight 71 = .ok (.goto (-38), 3) := by decide +kernel
theorem dX3_fight_74 : decode cX3_fight 74 = .ok (.iconst (-1), 1) := by decide +kernel
theorem dX3_fight_75 : decode cX3_fight 75 = .ok (.ireturn, 1) := by decide +kernel
theorem dX3_pole_0 : decode cX3_pole 0 = .ok (.aload_n 0, 1) := by decide +kernel
theorem dX3_pole_1 : decode cX3_pole 1 = .ok (.iconst 0, 1) := by decide +kernel
theorem dX3_pole_2 : decode cX3_pole 2 = .ok (.putfield 65, 3) := by decide +kernel
theorem dX3_pole_5 : decode cX3_pole 5 = .ok (.aload_n 0, 1) := by decide +kernel
theorem dX3_pole_6 : decode cX3_pole 6 = .ok (.iload_n 1, 1) := by decide +kernel
theorem dX3_pole_7 : decode cX3_pole 7 = .ok (.invokevirtual 104, 3) := by decide +kernel
theorem dX3_pole_10 : decode cX3_pole 10 = .ok (.ifCond .eq 27, 3) := by decide +kernel
theorem dX3_pole_13 : decode cX3_pole 13 = .ok (.iload_n 2, 1) := by decide +kernel
theorem dX3_pole_14 : decode cX3_pole 14 = .ok (.iconst 0, 1) := by decide +kernel
theorem dX3_pole_15 : decode cX3_pole 15 = .ok (.aload_n 0, 1) := by decide +kernel
theorem dX3_pole_16 : decode cX3_pole 16 = .ok (.getfield 22, 3) := by decide +kernel
theorem dX3_pole_19 : decode cX3_pole 19 = .ok (.iload_n 1, 1) := by decide +kernel
theorem dX3_pole_20 : decode cX3_pole 20 = .ok (.iaload, 1) := by decide +kernel
theorem dX3_pole_21 : decode cX3_pole 21 = .ok (.iconst 1, 1) := by decide +kernel
theorem dX3_pole_22 : decode cX3_pole 22 = .ok (.isub, 1) := by decide +kernel
theorem dX3_pole_23 : decode cX3_pole 23 = .ok (.invokestatic 68, 3) := by decide +kernel
theorem dX3_pole_26 : decode cX3_pole 26 = .ok (.ifCond .eq 11, 3) := by decide +kernel
theorem dX3_pole_29 : decode cX3_pole 29 = .ok (.aload_n 0, 1) := by decide +kernel
theorem dX3_pole_30 : decode cX3_pole 30 = .ok (.iload_n 3, 1) := by decide +kernel
theorem dX3_pole_31 : decode cX3_pole 31 = .ok (.invokevirtual 87, 3) := by decide +kernel
theorem dX3_pole_34 : decode cX3_pole 34 = .ok (.ifCond .ne 5, 3) := by decide +kernel
theorem dX3_pole_37 : decode cX3_pole 37 = .ok (.iconst (-1), 1) := by decide +kernel
theorem dX3_pole_38 : decode cX3_pole 38 = .ok (.ireturn, 1) := by decide +kernel
theorem dX3_pole_39 : decode cX3_pole 39 = .ok (.aload_n 0, 1) := by decide +kernel
theorem dX3_pole_40 : decode cX3_pole 40 = .ok (.iload_n 1, 1) := by decide +kernel
theorem dX3_pole_41 : decode cX3_pole 41 = .ok (.aload_n 0, 1) := by decide +kernel
theorem dX3_pole_42 : decode cX3_pole 42 = .ok (.getfield 133, 3) := by decide +kernel
theorem dX3_pole_45 : decode cX3_pole 45 = .ok (.invokevirtual 184, 3) := by decide +kernel
theorem dX3_pole_48 : decode cX3_pole 48 = .ok (.aload_n 0, 1) := by decide +kernel
theorem dX3_pole_49 : decode cX3_pole 49 = .ok (.iload_n 1, 1) := by decide +kernel
theorem dX3_pole_50 : decode cX3_pole 50 = .ok (.iload_n 2, 1) := by decide +kernel
theorem dX3_pole_51 : decode cX3_pole 51 = .ok (.iload_n 3, 1) := by decide +kernel
theorem dX3_pole_52 : decode cX3_pole 52 = .ok (.invokevirtual 181, 3) := by decide +kernel
theorem dX3_pole_55 : decode cX3_pole 55 = .ok (.ireturn, 1) := by decide +kernel
theorem dX3_change_0 : decode cX3_change 0 = .ok (.aload_n 0, 1) := by decide +kernel
theorem dX3_change_1 : decode cX3_change 1 = .ok (.iconst 0, 1) := by decide +kernel
theorem dX3_change_2 : decode cX3_change 2 = .ok (.putfield 65, 3) := by decide +kernel
theorem dX3_change_5 : decode cX3_change 5 = .ok (.aload_n 0, 1) := by decide +kernel
theorem dX3_change_6 : decode cX3_change 6 = .ok (.iload_n 1, 1) := by decide +kernel
theorem dX3_change_7 : decode cX3_change 7 = .ok (.iload_n 2, 1) := by decide +kernel
theorem dX3_change_8 : decode cX3_change 8 = .ok (.invokevirtual 114, 3) := by decide +kernel
theorem dX3_change_11 : decode cX3_change 11 = .ok (.ifCond .ne 5, 3) := by decide +kernel
theorem dX3_change_14 : decode cX3_change 14 = .ok (.iconst (-1), 1) := by decide +kernel
theorem dX3_change_15 : decode cX3_change 15 = .ok (.ireturn, 1) := by decide +kernel
theorem dX3_change_16 : decode cX3_change 16 = .ok (.aload_n 0, 1) := by decide +kernel
theorem dX3_change_17 : decode cX3_change 17 = .ok (.iload_n 1, 1) := by decide +kernel
theorem dX3_change_18 : decode cX3_change 18 = .ok (.iload_n 2, 1) := by decide +kernel
theorem dX3_change_19 : decode cX3_change 19 = .ok (.invokevirtual 117, 3) := by decide +kernel
theorem dX3_change_22 : decode cX3_change 22 = .ok (.iconst (-1), 1) := by decide +kernel
theorem dX3_change_23 : decode cX3_change 23 = .ok (.if_icmp .eq 6, 3) := by decide +kernel
theorem dX3_change_26 : decode cX3_change 26 = .ok (.bipush (-2), 2) := by decide +kernel
theorem dX3_change_28 : decode cX3_change 28 = .ok (.ireturn, 1) := by decide +kernel
theorem dX3_change_29 : decode cX3_change 29 = .ok (.aload_n 0, 1) := by decide +kernel
theorem dX3_change_30 : decode cX3_change 30 = .ok (.iload_n 1, 1) := by decide +kernel
theorem dX3_change_31 : decode cX3_change 31 = .ok (.aload_n 0, 1) := by decide +kernel
theorem dX3_change_32 : decode cX3_change 32 = .ok (.getfield 133, 3) := by decide +kernel
theorem dX3_change_35 : decode cX3_change 35 = .ok (.invokevirtual 184, 3) := by decide +kernel
theorem dX3_change_38 : decode cX3_change 38 = .ok (.aload_n 0, 1) := by decide +kernel
theorem dX3_change_39 : decode cX3_change 39 = .ok (.aload_n 0, 1) := by decide +kernel
theorem dX3_change_40 : decode cX3_change 40 = .ok (.iload_n 1, 1) := by decide +kernel
theorem dX3_change_41 : decode cX3_change 41 = .ok (.iconst (-1), 1) := by decide +kernel
theorem dX3_change_42 : decode cX3_change 42 = .ok (.invokevirtual 117, 3) := by decide +kernel
theorem dX3_change_45 : decode cX3_change 45 = .ok (.iconst (-1), 1) := by decide +kernel
theorem dX3_change_46 : decode cX3_change 46 = .ok (.if_icmp .ne 8, 3) := by decide +kernel
theorem dX3_change_49 : decode cX3_change 49 = .ok (.bipush 12, 2) := by decide +kernel
theorem dX3_change_51 : decode cX3_change 51 = .ok (.goto 9, 3) := by decide +kernel
theorem dX3_change_54 : decode cX3_change 54 = .ok (.aload_n 0, 1) := by decide +kernel
theorem dX3_change_55 : decode cX3_change 55 = .ok (.iload_n 1, 1) := by decide +kernel
theorem dX3_change_56 : decode cX3_change 56 = .ok (.iconst (-1), 1) := by decide +kernel
theorem dX3_change_57 : decode cX3_change 57 = .ok (.invokevirtual 117, 3) := by decide +kernel
theorem dX3_change_60 : decode cX3_change 60 = .ok (.putfield 142, 3) := by decide +kernel
theorem dX3_change_63 : decode cX3_change 63 = .ok (.aload_n 0, 1) := by decide +kernel
theorem dX3_change_64 : decode cX3_change 64 = .ok (.iload_n 2, 1) := by decide +kernel
theorem dX3_change_65 : decode cX3_change 65 = .ok (.putfield 49, 3) := by decide +kernel
theorem dX3_change_68 : decode cX3_change 68 = .ok (.iconst 0, 1) := by decide +kernel
theorem dX3_change_69 : decode cX3_change 69 = .ok (.istore_n 3, 1) := by decide +kernel
theorem dX3_change_70 : decode cX3_change 70 = .ok (.iconst 0, 1) := by decide +kernel
theorem dX3_change_71 : decode cX3_change 71 = .ok (.istore 4, 2) := by decide +kernel
theorem dX3_change_73 : decode cX3_change 73 = .ok (.iload 4, 2) := by decide +kernel
theorem dX3_change_75 : decode cX3_change 75 = .ok (.aload_n 0, 1) := by decide +kernel
theorem dX3_change_76 : decode cX3_change 76 = .ok (.iload_n 1, 1) := by decide +kernel
theorem dX3_change_77 : decode cX3_change 77 = .ok (.invokevirtual 172, 3) := by decide +kernel
theorem dX3_change_80 : decode cX3_change 80 = .ok (.if_icmp .ge 50, 3) := by decide +kernel
theorem dX3_change_83 : decode cX3_change 83 = .ok (.iload_n 3, 1) := by decide +kernel
theorem dX3_change_84 : decode cX3_change 84 = .ok (.aload_n 0, 1) := by decide +kernel
theorem dX3_change_85 : decode cX3_change 85 = .ok (.getfield 56, 3) := by decide +kernel
theorem dX3_change_88 : decode cX3_change 88 = .ok (.iload 4, 2) := by decide +kernel
theorem dX3_change_90 : decode cX3_change 90 = .ok (.iaload, 1) := by decide +kernel
theorem dX3_change_91 : decode cX3_change 91 = .ok (.bipush (-3), 2) := by decide +kernel
theorem dX3_change_93 : decode cX3_change 93 = .ok (.if_icmp .eq 28, 3) := by decide +kernel
theorem dX3_change_96 : decode cX3_change 96 = .ok (.aload_n 0, 1) := by decide +kernel
theorem dX3_change_97 : decode cX3_change 97 = .ok (.iload_n 1, 1) := by decide +kernel
theorem dX3_change_98 : decode cX3_change 98 = .ok (.iload 4, 2) := by decide +kernel
theorem dX3_change_100 : decode cX3_change 100 = .ok (.aload_n 0, 1) := by decide +kernel
theorem dX3_change_101 : decode cX3_change 101 = .ok (.getfield 133, 3) := by decide +kernel
theorem dX3_change_104 : decode cX3_change 104 = .ok (.invokevirtual 159, 3) := by decide +kernel
theorem dX3_change_107 : decode cX3_change 107 = .ok (.aload_n 0, 1) := by decide +kernel
theorem dX3_change_108 : decode cX3_change 108 = .ok (.getfield 56, 3) := by decide +kernel
theorem dX3_change_111 : decode cX3_change 111 = .ok (.iload 4, 2) := by decide +kernel
theorem dX3_change_113 : decode cX3_change 113 = .ok (.iaload, 1) := by decide +kernel
theorem dX3_change_114 : decode cX3_change 114 = .ok (.if_icmp .eq 7, 3) := by decide +kernel
theorem dX3_change_117 : decode cX3_change 117 = .ok (.iconst 1, 1) := by decide +kernel
theorem dX3_change_118 : decode cX3_change 118 = .ok (.goto 4, 3) := by decide +kernel
theorem dX3_change_121 : decode cX3_change 121 = .ok (.iconst 0, 1) := by decide +kernel
theorem dX3_change_122 : decode cX3_change 122 = .ok (.iadd, 1) := by decide +kernel
theorem dX3_change_123 : decode cX3_change 123 = .ok (.istore_n 3, 1) := by decide +kernel
theorem dX3_change_124 : decode cX3_change 124 = .ok (.iinc 4 1, 3) := by decide +kernel
theorem dX3_change_127 : decode cX3_change 127 = .ok (.goto (-54), 3) := by decide +kernel
theorem dX3_change_130 : decode cX3_change 130 = .ok (.aload_n 0, 1) := by decide +kernel
theorem dX3_change_131 : decode cX3_change 131 = .ok (.iconst (-1), 1) := by decide +kernel
theorem dX3_change_132 : decode cX3_change 132 = .ok (.putfield 49, 3) := by decide +kernel
theorem dX3_change_135 : decode cX3_change 135 = .ok (.iload_n 3, 1) := by decide +kernel
theorem dX3_change_136 : decode cX3_change 136 = .ok (.ireturn, 1) := by decide +kernel
theorem dX3_settle_0 : decode cX3_settle 0 = .ok (.aload_n 0, 1) := by decide +kernel
theorem dX3_settle_1 : decode cX3_settle 1 = .ok (.iconst 0, 1) := by decide +kernel
theorem dX3_settle_2 : decode cX3_settle 2 = .ok (.putfield 65, 3) := by decide +kernel
theorem dX3_settle_5 : decode cX3_settle 5 = .ok (.aload_n 0, 1) := by decide +kernel
theorem dX3_settle_6 : decode cX3_settle 6 = .ok (.iload_n 1, 1) := by decide +kernel
theorem dX3_settle_7 : decode cX3_settle 7 = .ok (.invokevirtual 104, 3) := by decide +kernel
theorem dX3_settle_10 : decode cX3_settle 10 = .ok (.ifCond .ne 5, 3) := by decide +kernel
theorem dX3_settle_13 : decode cX3_settle 13 = .ok (.iconst (-1), 1) := by decide +kernel
theorem dX3_settle_14 : decode cX3_settle 14 = .ok (.ireturn, 1) := by decide +kernel
theorem dX3_settle_15 : decode cX3_settle 15 = .ok (.iconst 0, 1) := by decide +kernel
theorem dX3_settle_16 : decode cX3_settle 16 = .ok (.istore_n 2, 1) := by decide +kernel
theorem dX3_settle_17 : decode cX3_settle 17 = .ok (.iload_n 2, 1) := by decide +kernel
theorem dX3_settle_18 : decode cX3_settle 18 = .ok (.bipush 12, 2) := by decide +kernel
theorem dX3_settle_20 : decode cX3_settle 20 = .ok (.if_icmp .ge 26, 3) := by decide +kernel
theorem dX3_settle_23 : decode cX3_settle 23 = .ok (.aload_n 0, 1) := by decide +kernel
theorem dX3_settle_24 : decode cX3_settle 24 = .ok (.getfield 59, 3) := by decide +kernel
theorem dX3_settle_27 : decode cX3_settle 27 = .ok (.iload_n 2, 1) := by decide +kernel
theorem dX3_settle_28 : decode cX3_settle 28 = .ok (.aload_n 0, 1) := by decide +kernel
theorem dX3_settle_29 : decode cX3_settle 29 = .ok (.getfield 25, 3) := by decide +kernel
theorem dX3_settle_32 : decode cX3_settle 32 = .ok (.bipush 12, 2) := by decide +kernel
theorem dX3_settle_34 : decode cX3_settle 34 = .ok (.iload_n 1, 1) := by decide +kernel
theorem dX3_settle_35 : decode cX3_settle 35 = .ok (.imul, 1) := by decide +kernel
theorem dX3_settle_36 : decode cX3_settle 36 = .ok (.iload_n 2, 1) := by decide +kernel
theorem dX3_settle_37 : decode cX3_settle 37 = .ok (.iadd, 1) := by decide +kernel
theorem dX3_settle_38 : decode cX3_settle 38 = .ok (.iaload, 1) := by decide +kernel
theorem dX3_settle_39 : decode cX3_settle 39 = .ok (.iastore, 1) := by decide +kernel
theorem dX3_settle_40 : decode cX3_settle 40 = .ok (.iinc 2 1, 3) := by decide +kernel
theorem dX3_settle_43 : decode cX3_settle 43 = .ok (.goto (-26), 3) := by decide +kernel
theorem dX3_settle_46 : decode cX3_settle 46 = .ok (.iconst 0, 1) := by decide +kernel
theorem dX3_settle_47 : decode cX3_settle 47 = .ok (.istore_n 2, 1) := by decide +kernel
theorem dX3_settle_48 : decode cX3_settle 48 = .ok (.aload_n 0, 1) := by decide +kernel
theorem dX3_settle_49 : decode cX3_settle 49 = .ok (.iload_n 1, 1) := by decide +kernel
theorem dX3_settle_50 : decode cX3_settle 50 = .ok (.iconst 0, 1) := by decide +kernel
theorem dX3_settle_51 : decode cX3_settle 51 = .ok (.invokevirtual 184, 3) := by decide +kernel
theorem dX3_settle_54 : decode cX3_settle 54 = .ok (.aload_n 0, 1) := by decide +kernel
theorem dX3_settle_55 : decode cX3_settle 55 = .ok (.iload_n 1, 1) := by decide +kernel
theorem dX3_settle_56 : decode cX3_settle 56 = .ok (.bipush (-2), 2) := by decide +kernel
theorem dX3_settle_58 : decode cX3_settle 58 = .ok (.iconst 0, 1) := by decide +kernel
theorem dX3_settle_59 : decode cX3_settle 59 = .ok (.invokevirtual 193, 3) := by decide +kernel
theorem dX3_settle_62 : decode cX3_settle 62 = .ok (.istore_n 3, 1) := by decide +kernel
theorem dX3_settle_63 : decode cX3_settle 63 = .ok (.iload_n 3, 1) := by decide +kernel
theorem dX3_settle_64 : decode cX3_settle 64 = .ok (.iconst (-1), 1) := by decide +kernel
theorem dX3_settle_65 : decode cX3_settle 65 = .ok (.if_icmp .eq 51, 3) := by decide +kernel
theorem dX3_settle_68 : decode cX3_settle 68 = .ok (.aload_n 0, 1) := by decide +kernel
theorem dX3_settle_69 : decode cX3_settle 69 = .ok (.iload_n 1, 1) := by decide +kernel
theorem dX3_settle_70 : decode cX3_settle 70 = .ok (.iconst (-1), 1) := by decide +kernel
theorem dX3_settle_71 : decode cX3_settle 71 = .ok (.invokevirtual 117, 3) := by decide +kernel
theorem dX3_settle_74 : decode cX3_settle 74 = .ok (.iconst (-1), 1) := by decide +kernel
theorem dX3_settle_75 : decode cX3_settle 75 = .ok (.if_icmp .eq 41, 3) := by decide +kernel
theorem dX3_settle_78 : decode cX3_settle 78 = .ok (.aload_n 0, 1) := by decide +kernel
theorem dX3_settle_79 : decode cX3_settle 79 = .ok (.getfield 25, 3) := by decide +kernel
theorem dX3_settle_82 : decode cX3_settle 82 = .ok (.bipush 12, 2) := by decide +kernel
theorem dX3_settle_84 : decode cX3_settle 84 = .ok (.iload_n 1, 1) := by decide +kernel
theorem dX3_settle_85 : decode cX3_settle 85 = .ok (.imul, 1) := by decide +kernel
theorem dX3_settle_86 : decode cX3_settle 86 = .ok (.aload_n 0, 1) := by decide +kernel
theorem dX3_settle_87 : decode cX3_settle 87 = .ok (.iload_n 1, 1) := by decide +kernel
theorem dX3_settle_88 : decode cX3_settle 88 = .ok (.iconst (-1), 1) := by decide +kernel
theorem dX3_settle_89 : decode cX3_settle 89 = .ok (.invokevirtual 117, 3) := by decide +kernel
theorem dX3_settle_92 : decode cX3_settle 92 = .ok (.iadd, 1) := by decide +kernel
theorem dX3_settle_93 : decode cX3_settle 93 = .ok (.iload_n 3, 1) := by decide +kernel
theorem dX3_settle_94 : decode cX3_settle 94 = .ok (.iastore, 1) := by decide +kernel
theorem dX3_settle_95 : decode cX3_settle 95 = .ok (.iinc 2 1, 3) := by decide +kernel
theorem dX3_settle_98 : decode cX3_settle 98 = .ok (.aload_n 0, 1) := by decide +kernel
theorem dX3_settle_99 : decode cX3_settle 99 = .ok (.iload_n 1, 1) := by decide +kernel
theorem dX3_settle_100 : decode cX3_settle 100 = .ok (.iconst 0, 1) := by decide +kernel
theorem dX3_settle_101 : decode cX3_settle 101 = .ok (.invokevirtual 184, 3) := by decide +kernel
theorem dX3_settle_104 : decode cX3_settle 104 = .ok (.aload_n 0, 1) := by decide +kernel
theorem dX3_settle_105 : decode cX3_settle 105 = .ok (.iload_n 1, 1) := by decide +kernel
theorem dX3_settle_106 : decode cX3_settle 106 = .ok (.bipush (-2), 2) := by decide +kernel
theorem dX3_settle_108 : decode cX3_settle 108 = .ok (.iconst 0, 1) := by decide +kernel
theorem dX3_settle_109 : decode cX3_settle 109 = .ok (.invokevirtual 193, 3) := by decide +kernel
theorem dX3_settle_112 : decode cX3_settle 112 = .ok (.istore_n 3, 1) := by decide +kernel
theorem dX3_settle_113 : decode cX3_settle 113 = .ok (.goto (-50), 3) := by decide +kernel
theorem dX3_settle_116 : decode cX3_settle 116 = .ok (.iconst 0, 1) := by decide +kernel
theorem dX3_settle_117 : decode cX3_settle 117 = .ok (.istore 4, 2) := by decide +kernel
theorem dX3_settle_119 : decode cX3_settle 119 = .ok (.iload 4, 2) := by decide +kernel
theorem dX3_settle_121 : decode cX3_settle 121 = .ok (.bipush 12, 2) := by decide +kernel
theorem dX3_settle_123 : decode cX3_settle 123 = .ok (.if_icmp .ge 28, 3) := by decide +kernel
theorem dX3_settle_126 : decode cX3_settle 126 = .ok (.aload_n 0, 1) := by decide +kernel
theorem dX3_settle_127 : decode cX3_settle 127 = .ok (.getfield 25, 3) := by decide +kernel
theorem dX3_settle_130 : decode cX3_settle 130 = .ok (.bipush 12, 2) := by decide +kernel
theorem dX3_settle_132 : decode cX3_settle 132 = .ok (.iload_n 1, 1) := by decide +kernel
theorem dX3_settle_133 : decode cX3_settle 133 = .ok (.imul, 1) := by decide +kernel
theorem dX3_settle_134 : decode cX3_settle 134 = .ok (.iload 4, 2) := by decide +kernel
theorem dX3_settle_136 : decode cX3_settle 136 = .ok (.iadd, 1) := by decide +kernel
theorem dX3_settle_137 : decode cX3_settle 137 = .ok (.aload_n 0, 1) := by decide +kernel
theorem dX3_settle_138 : decode cX3_settle 138 = .ok (.getfield 59, 3) := by decide +kernel
theorem dX3_settle_141 : decode cX3_settle 141 = .ok (.iload 4, 2) := by decide +kernel
theorem dX3_settle_143 : decode cX3_settle 143 = .ok (.iaload, 1) := by decide +kernel
theorem dX3_settle_144 : decode cX3_settle 144 = .ok (.iastore, 1) := by decide +kernel
theorem dX3_settle_145 : decode cX3_settle 145 = .ok (.iinc 4 1, 3) := by decide +kernel
theorem dX3_settle_148 : decode cX3_settle 148 = .ok (.goto (-29), 3) := by decide +kernel
theorem dX3_settle_151 : decode cX3_settle 151 = .ok (.iload_n 3, 1) := by decide +kernel
theorem dX3_settle_152 : decode cX3_settle 152 = .ok (.iconst (-1), 1) := by decide +kernel
theorem dX3_settle_153 : decode cX3_settle 153 = .ok (.if_icmp .ne 7, 3) := by decide +kernel
theorem dX3_settle_156 : decode cX3_settle 156 = .ok (.iload_n 2, 1) := by decide +kernel
theorem dX3_settle_157 : decode cX3_settle 157 = .ok (.goto 5, 3) := by decide +kernel
theorem dX3_settle_160 : decode cX3_settle 160 = .ok (.bipush (-2), 2) := by decide +kernel
theorem dX3_settle_162 : decode cX3_settle 162 = .ok (.ireturn, 1) := by decide +kernel
