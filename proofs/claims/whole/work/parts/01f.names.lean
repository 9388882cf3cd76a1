theorem dX3_init_0 : decode cX3_init 0 = .ok (.aload_n 0, 1) := by decide +kernel
theorem dX3_init_1 : decode cX3_init 1 = .ok (.invokespecial 1, 3) := by decide +kernel
theorem dX3_init_4 : decode cX3_init 4 = .ok (.aload_n 0, 1) := by decide +kernel
theorem dX3_init_5 : decode cX3_init 5 = .ok (.bipush 16, 2) := by decide +kernel
theorem dX3_init_7 : decode cX3_init 7 = .ok (.newarray .int, 2) := by decide +kernel
theorem dX3_init_9 : decode cX3_init 9 = .ok (.putfield 7, 3) := by decide +kernel
theorem dX3_init_12 : decode cX3_init 12 = .ok (.aload_n 0, 1) := by decide +kernel
theorem dX3_init_13 : decode cX3_init 13 = .ok (.sipush 256, 3) := by decide +kernel
theorem dX3_init_16 : decode cX3_init 16 = .ok (.newarray .int, 2) := by decide +kernel
theorem dX3_init_18 : decode cX3_init 18 = .ok (.putfield 13, 3) := by decide +kernel
theorem dX3_init_21 : decode cX3_init 21 = .ok (.aload_n 0, 1) := by decide +kernel
theorem dX3_init_22 : decode cX3_init 22 = .ok (.bipush 16, 2) := by decide +kernel
theorem dX3_init_24 : decode cX3_init 24 = .ok (.newarray .int, 2) := by decide +kernel
theorem dX3_init_26 : decode cX3_init 26 = .ok (.putfield 16, 3) := by decide +kernel
theorem dX3_init_29 : decode cX3_init 29 = .ok (.aload_n 0, 1) := by decide +kernel
theorem dX3_init_30 : decode cX3_init 30 = .ok (.sipush 256, 3) := by decide +kernel
theorem dX3_init_33 : decode cX3_init 33 = .ok (.newarray .int, 2) := by decide +kernel
theorem dX3_init_35 : decode cX3_init 35 = .ok (.putfield 19, 3) := by decide +kernel
theorem dX3_init_38 : decode cX3_init 38 = .ok (.aload_n 0, 1) := by decide +kernel
theorem dX3_init_39 : decode cX3_init 39 = .ok (.iconst 4, 1) := by decide +kernel
theorem dX3_init_40 : decode cX3_init 40 = .ok (.newarray .int, 2) := by decide +kernel
theorem dX3_init_42 : decode cX3_init 42 = .ok (.putfield 22, 3) := by decide +kernel
theorem dX3_init_45 : decode cX3_init 45 = .ok (.aload_n 0, 1) := by decide +kernel
theorem dX3_init_46 : decode cX3_init 46 = .ok (.bipush 48, 2) := by decide +kernel
theorem dX3_init_48 : decode cX3_init 48 = .ok (.newarray .int, 2) := by decide +kernel
theorem dX3_init_50 : decode cX3_init 50 = .ok (.putfield 25, 3) := by decide +kernel
theorem dX3_init_53 : decode cX3_init 53 = .ok (.aload_n 0, 1) := by decide +kernel
theorem dX3_init_54 : decode cX3_init 54 = .ok (.bipush 48, 2) := by decide +kernel
theorem dX3_init_56 : decode cX3_init 56 = .ok (.newarray .int, 2) := by decide +kernel
theorem dX3_init_58 : decode cX3_init 58 = .ok (.putfield 28, 3) := by decide +kernel
theorem dX3_init_61 : decode cX3_init 61 = .ok (.aload_n 0, 1) := by decide +kernel
theorem dX3_init_62 : decode cX3_init 62 = .ok (.bipush 48, 2) := by decide +kernel
theorem dX3_init_64 : decode cX3_init 64 = .ok (.newarray .int, 2) := by decide +kernel
theorem dX3_init_66 : decode cX3_init 66 = .ok (.putfield 31, 3) := by decide +kernel
theorem dX3_init_69 : decode cX3_init 69 = .ok (.aload_n 0, 1) := by decide +kernel
theorem dX3_init_70 : decode cX3_init 70 = .ok (.bipush 24, 2) := by decide +kernel
theorem dX3_init_72 : decode cX3_init 72 = .ok (.newarray .int, 2) := by decide +kernel
theorem dX3_init_74 : decode cX3_init 74 = .ok (.putfield 34, 3) := by decide +kernel
theorem dX3_init_77 : decode cX3_init 77 = .ok (.aload_n 0, 1) := by decide +kernel
theorem dX3_init_78 : decode cX3_init 78 = .ok (.iconst 4, 1) := by decide +kernel
theorem dX3_init_79 : decode cX3_init 79 = .ok (.newarray .int, 2) := by decide +kernel
theorem dX3_init_81 : decode cX3_init 81 = .ok (.putfield 37, 3) := by decide +kernel
theorem dX3_init_84 : decode cX3_init 84 = .ok (.aload_n 0, 1) := by decide +kernel
theorem dX3_init_85 : decode cX3_init 85 = .ok (.bipush 64, 2) := by decide +kernel
theorem dX3_init_87 : decode cX3_init 87 = .ok (.newarray .int, 2) := by decide +kernel
theorem dX3_init_89 : decode cX3_init 89 = .ok (.putfield 40, 3) := by decide +kernel
theorem dX3_init_92 : decode cX3_init 92 = .ok (.aload_n 0, 1) := by decide +kernel
theorem dX3_init_93 : decode cX3_init 93 = .ok (.iconst 4, 1) := by decide +kernel
theorem dX3_init_94 : decode cX3_init 94 = .ok (.newarray .int, 2) := by decide +kernel
theorem dX3_init_96 : decode cX3_init 96 = .ok (.putfield 43, 3) := by decide +kernel
theorem dX3_init_99 : decode cX3_init 99 = .ok (.aload_n 0, 1) := by decide +kernel
theorem dX3_init_100 : decode cX3_init 100 = .ok (.iconst 4, 1) := by decide +kernel
theorem dX3_init_101 : decode cX3_init 101 = .ok (.newarray .int, 2) := by decide +kernel
theorem dX3_init_103 : decode cX3_init 103 = .ok (.putfield 46, 3) := by decide +kernel
theorem dX3_init_106 : decode cX3_init 106 = .ok (.aload_n 0, 1) := by decide +kernel
theorem dX3_init_107 : decode cX3_init 107 = .ok (.iconst (-1), 1) := by decide +kernel
theorem dX3_init_108 : decode cX3_init 108 = .ok (.putfield 49, 3) := by decide +kernel
theorem dX3_init_111 : decode cX3_init 111 = .ok (.aload_n 0, 1) := by decide +kernel
theorem dX3_init_112 : decode cX3_init 112 = .ok (.bipush 13, 2) := by decide +kernel
theorem dX3_init_114 : decode cX3_init 114 = .ok (.newarray .int, 2) := by decide +kernel
theorem dX3_init_116 : decode cX3_init 116 = .ok (.putfield 53, 3) := by decide +kernel
theorem dX3_init_119 : decode cX3_init 119 = .ok (.aload_n 0, 1) := by decide +kernel
theorem dX3_init_120 : decode cX3_init 120 = .ok (.sipush 4096, 3) := by decide +kernel
theorem dX3_init_123 : decode cX3_init 123 = .ok (.newarray .int, 2) := by decide +kernel
theorem dX3_init_125 : decode cX3_init 125 = .ok (.putfield 56, 3) := by decide +kernel
theorem dX3_init_128 : decode cX3_init 128 = .ok (.aload_n 0, 1) := by decide +kernel
theorem dX3_init_129 : decode cX3_init 129 = .ok (.bipush 12, 2) := by decide +kernel
theorem dX3_init_131 : decode cX3_init 131 = .ok (.newarray .int, 2) := by decide +kernel
theorem dX3_init_133 : decode cX3_init 133 = .ok (.putfield 59, 3) := by decide +kernel
theorem dX3_init_136 : decode cX3_init 136 = .ok (.aload_n 0, 1) := by decide +kernel
theorem dX3_init_137 : decode cX3_init 137 = .ok (.getfield 7, 3) := by decide +kernel
theorem dX3_init_140 : decode cX3_init 140 = .ok (.iconst 0, 1) := by decide +kernel
theorem dX3_init_141 : decode cX3_init 141 = .ok (.iconst 1, 1) := by decide +kernel
theorem dX3_init_142 : decode cX3_init 142 = .ok (.iastore, 1) := by decide +kernel
theorem dX3_init_143 : decode cX3_init 143 = .ok (.aload_n 0, 1) := by decide +kernel
theorem dX3_init_144 : decode cX3_init 144 = .ok (.getfield 16, 3) := by decide +kernel
theorem dX3_init_147 : decode cX3_init 147 = .ok (.iconst 0, 1) := by decide +kernel
theorem dX3_init_148 : decode cX3_init 148 = .ok (.iconst 1, 1) := by decide +kernel
theorem dX3_init_149 : decode cX3_init 149 = .ok (.iastore, 1) := by decide +kernel
theorem dX3_init_150 : decode cX3_init 150 = .ok (.aload_n 0, 1) := by decide +kernel
theorem dX3_init_151 : decode cX3_init 151 = .ok (.iconst 1, 1) := by decide +kernel
theorem dX3_init_152 : decode cX3_init 152 = .ok (.putfield 62, 3) := by decide +kernel
theorem dX3_init_155 : decode cX3_init 155 = .ok (.return_, 1) := by decide +kernel
theorem dX3_thrown_0 : decode cX3_thrown 0 = .ok (.aload_n 0, 1) := by decide +kernel
theorem dX3_thrown_1 : decode cX3_thrown 1 = .ok (.getfield 65, 3) := by decide +kernel
theorem dX3_thrown_4 : decode cX3_thrown 4 = .ok (.ireturn, 1) := by decide +kernel
theorem dX3_in_0 : decode cX3_in 0 = .ok (.iload_n 0, 1) := by decide +kernel
theorem dX3_in_1 : decode cX3_in 1 = .ok (.iload_n 1, 1) := by decide +kernel
theorem dX3_in_2 : decode cX3_in 2 = .ok (.if_icmp .lt 12, 3) := by decide +kernel
theorem dX3_in_5 : decode cX3_in 5 = .ok (.iload_n 0, 1) := by decide +kernel
theorem dX3_in_6 : decode cX3_in 6 = .ok (.iload_n 2, 1) := by decide +kernel
theorem dX3_in_7 : decode cX3_in 7 = .ok (.if_icmp .gt 7, 3) := by decide +kernel
theorem dX3_in_10 : decode cX3_in 10 = .ok (.iconst 1, 1) := by decide +kernel
theorem dX3_in_11 : decode cX3_in 11 = .ok (.goto 4, 3) := by decide +kernel
theorem dX3_in_14 : decode cX3_in 14 = .ok (.iconst 0, 1) := by decide +kernel
theorem dX3_in_15 : decode cX3_in 15 = .ok (.ireturn, 1) := by decide +kernel
theorem dX3_isOn_0 : decode cX3_isOn 0 = .ok (.iload_n 0, 1) := by decide +kernel
theorem dX3_isOn_1 : decode cX3_isOn 1 = .ok (.iload_n 1, 1) := by decide +kernel
theorem dX3_isOn_2 : decode cX3_isOn 2 = .ok (.ishr, 1) := by decide +kernel
theorem dX3_isOn_3 : decode cX3_isOn 3 = .ok (.iconst 1, 1) := by decide +kernel
theorem dX3_isOn_4 : decode cX3_isOn 4 = .ok (.iand, 1) := by decide +kernel
theorem dX3_isOn_5 : decode cX3_isOn 5 = .ok (.iconst 1, 1) := by decide +kernel
theorem dX3_isOn_6 : decode cX3_isOn 6 = .ok (.if_icmp .ne 7, 3) := by decide +kernel
theorem dX3_isOn_9 : decode cX3_isOn 9 = .ok (.iconst 1, 1) := by decide +kernel
theorem dX3_isOn_10 : decode cX3_isOn 10 = .ok (.goto 4, 3) := by decide +kernel
theorem dX3_isOn_13 : decode cX3_isOn 13 = .ok (.iconst 0, 1) := by decide +kernel
theorem dX3_isOn_14 : decode cX3_isOn 14 = .ok (.ireturn, 1) := by decide +kernel
theorem dX3_bits_0 : decode cX3_bits 0 = .ok (.iconst 0, 1) := by decide +kernel
theorem dX3_bits_1 : decode cX3_bits 1 = .ok (.istore_n 1, 1) := by decide +kernel
theorem dX3_bits_2 : decode cX3_bits 2 = .ok (.iconst 0, 1) := by decide +kernel
theorem dX3_bits_3 : decode cX3_bits 3 = .ok (.istore_n 2, 1) := by decide +kernel
theorem dX3_bits_4 : decode cX3_bits 4 = .ok (.iload_n 2, 1) := by decide +kernel
theorem dX3_bits_5 : decode cX3_bits 5 = .ok (.bipush 16, 2) := by decide +kernel
theorem dX3_bits_7 : decode cX3_bits 7 = .ok (.if_icmp .ge 17, 3) := by decide +kernel
theorem dX3_bits_10 : decode cX3_bits 10 = .ok (.iload_n 1, 1) := by decide +kernel
theorem dX3_bits_11 : decode cX3_bits 11 = .ok (.iload_n 0, 1) := by decide +kernel
theorem dX3_bits_12 : decode cX3_bits 12 = .ok (.iload_n 2, 1) := by decide +kernel
theorem dX3_bits_13 : decode cX3_bits 13 = .ok (.ishr, 1) := by decide +kernel
theorem dX3_bits_14 : decode cX3_bits 14 = .ok (.iconst 1, 1) := by decide +kernel
theorem dX3_bits_15 : decode cX3_bits 15 = .ok (.iand, 1) := by decide +kernel
theorem dX3_bits_16 : decode cX3_bits 16 = .ok (.iadd, 1) := by decide +kernel
theorem dX3_bits_17 : decode cX3_bits 17 = .ok (.istore_n 1, 1) := by decide +kernel
theorem dX3_bits_18 : decode cX3_bits 18 = .ok (.iinc 2 1, 3) := by decide +kernel
theorem dX3_bits_21 : decode cX3_bits 21 = .ok (.goto (-17), 3) := by decide +kernel
theorem dX3_bits_24 : decode cX3_bits 24 = .ok (.iload_n 1, 1) := by decide +kernel
theorem dX3_bits_25 : decode cX3_bits 25 = .ok (.ireturn, 1) := by decide +kernel
theorem dX3_isClass_0 : decode cX3_isClass 0 = .ok (.iload_n 1, 1) := by decide +kernel
theorem dX3_isClass_1 : decode cX3_isClass 1 = .ok (.iconst 0, 1) := by decide +kernel
theorem dX3_isClass_2 : decode cX3_isClass 2 = .ok (.aload_n 0, 1) := by decide +kernel
theorem dX3_isClass_3 : decode cX3_isClass 3 = .ok (.getfield 62, 3) := by decide +kernel
theorem dX3_isClass_6 : decode cX3_isClass 6 = .ok (.iconst 1, 1) := by decide +kernel
theorem dX3_isClass_7 : decode cX3_isClass 7 = .ok (.isub, 1) := by decide +kernel
theorem dX3_isClass_8 : decode cX3_isClass 8 = .ok (.invokestatic 68, 3) := by decide +kernel
theorem dX3_isClass_11 : decode cX3_isClass 11 = .ok (.ireturn, 1) := by decide +kernel
theorem dX3_isFunction_0 : decode cX3_isFunction 0 = .ok (.iload_n 1, 1) := by decide +kernel
theorem dX3_isFunction_1 : decode cX3_isFunction 1 = .ok (.iconst 0, 1) := by decide +kernel
theorem dX3_isFunction_2 : decode cX3_isFunction 2 = .ok (.aload_n 0, 1) := by decide +kernel
theorem dX3_isFunction_3 : decode cX3_isFunction 3 = .ok (.getfield 72, 3) := by decide +kernel
theorem dX3_isFunction_6 : decode cX3_isFunction 6 = .ok (.iconst 1, 1) := by decide +kernel
theorem dX3_isFunction_7 : decode cX3_isFunction 7 = .ok (.isub, 1) := by decide +kernel
theorem dX3_isFunction_8 : decode cX3_isFunction 8 = .ok (.invokestatic 68, 3) := by decide +kernel
theorem dX3_isFunction_11 : decode cX3_isFunction 11 = .ok (.ireturn, 1) := by decide +kernel
theorem dX3_laysRow_0 : decode cX3_laysRow 0 = .ok (.aload_n 0, 1) := by decide +kernel
theorem dX3_laysRow_1 : decode cX3_laysRow 1 = .ok (.getfield 43, 3) := by decide +kernel
theorem dX3_laysRow_4 : decode cX3_laysRow 4 = .ok (.iload_n 1, 1) := by decide +kernel
theorem dX3_laysRow_5 : decode cX3_laysRow 5 = .ok (.iconst 0, 1) := by decide +kernel
theorem dX3_laysRow_6 : decode cX3_laysRow 6 = .ok (.iastore, 1) := by decide +kernel
theorem dX3_laysRow_7 : decode cX3_laysRow 7 = .ok (.aload_n 0, 1) := by decide +kernel
theorem dX3_laysRow_8 : decode cX3_laysRow 8 = .ok (.getfield 46, 3) := by decide +kernel
theorem dX3_laysRow_11 : decode cX3_laysRow 11 = .ok (.iload_n 1, 1) := by decide +kernel
theorem dX3_laysRow_12 : decode cX3_laysRow 12 = .ok (.iconst 0, 1) := by decide +kernel
theorem dX3_laysRow_13 : decode cX3_laysRow 13 = .ok (.iastore, 1) := by decide +kernel
theorem dX3_laysRow_14 : decode cX3_laysRow 14 = .ok (.iconst 0, 1) := by decide +kernel
theorem dX3_laysRow_15 : decode cX3_laysRow 15 = .ok (.istore_n 3, 1) := by decide +kernel
theorem dX3_laysRow_16 : decode cX3_laysRow 16 = .ok (.iload_n 2, 1) := by decide +kernel
theorem dX3_laysRow_17 : decode cX3_laysRow 17 = .ok (.iconst (-1), 1) := by decide +kernel
theorem dX3_laysRow_18 : decode cX3_laysRow 18 = .ok (.if_icmp .eq 51, 3) := by decide +kernel
theorem dX3_laysRow_21 : decode cX3_laysRow 21 = .ok (.iload_n 3, 1) := by decide +kernel
theorem dX3_laysRow_22 : decode cX3_laysRow 22 = .ok (.aload_n 0, 1) := by decide +kernel
theorem dX3_laysRow_23 : decode cX3_laysRow 23 = .ok (.getfield 16, 3) := by decide +kernel
theorem dX3_laysRow_26 : decode cX3_laysRow 26 = .ok (.iload_n 2, 1) := by decide +kernel
theorem dX3_laysRow_27 : decode cX3_laysRow 27 = .ok (.iaload, 1) := by decide +kernel
theorem dX3_laysRow_28 : decode cX3_laysRow 28 = .ok (.if_icmp .ge 41, 3) := by decide +kernel
theorem dX3_laysRow_31 : decode cX3_laysRow 31 = .ok (.aload_n 0, 1) := by decide +kernel
theorem dX3_laysRow_32 : decode cX3_laysRow 32 = .ok (.getfield 40, 3) := by decide +kernel
theorem dX3_laysRow_35 : decode cX3_laysRow 35 = .ok (.bipush 16, 2) := by decide +kernel
theorem dX3_laysRow_37 : decode cX3_laysRow 37 = .ok (.iload_n 1, 1) := by decide +kernel
theorem dX3_laysRow_38 : decode cX3_laysRow 38 = .ok (.imul, 1) := by decide +kernel
theorem dX3_laysRow_39 : decode cX3_laysRow 39 = .ok (.iload_n 3, 1) := by decide +kernel
theorem dX3_laysRow_40 : decode cX3_laysRow 40 = .ok (.iadd, 1) := by decide +kernel
theorem dX3_laysRow_41 : decode cX3_laysRow 41 = .ok (.aload_n 0, 1) := by decide +kernel
theorem dX3_laysRow_42 : decode cX3_laysRow 42 = .ok (.getfield 13, 3) := by decide +kernel
theorem dX3_laysRow_45 : decode cX3_laysRow 45 = .ok (.bipush 16, 2) := by decide +kernel
theorem dX3_laysRow_47 : decode cX3_laysRow 47 = .ok (.iload_n 2, 1) := by decide +kernel
theorem dX3_laysRow_48 : decode cX3_laysRow 48 = .ok (.imul, 1) := by decide +kernel
theorem dX3_laysRow_49 : decode cX3_laysRow 49 = .ok (.iload_n 3, 1) := by decide +kernel
theorem dX3_laysRow_50 : decode cX3_laysRow 50 = .ok (.iadd, 1) := by decide +kernel
theorem dX3_laysRow_51 : decode cX3_laysRow 51 = .ok (.iaload, 1) := by decide +kernel
theorem dX3_laysRow_52 : decode cX3_laysRow 52 = .ok (.iastore, 1) := by decide +kernel
theorem dX3_laysRow_53 : decode cX3_laysRow 53 = .ok (.aload_n 0, 1) := by decide +kernel
theorem dX3_laysRow_54 : decode cX3_laysRow 54 = .ok (.getfield 46, 3) := by decide +kernel
theorem dX3_laysRow_57 : decode cX3_laysRow 57 = .ok (.iload_n 1, 1) := by decide +kernel
theorem dX3_laysRow_58 : decode cX3_laysRow 58 = .ok (.dup2, 1) := by decide +kernel
theorem dX3_laysRow_59 : decode cX3_laysRow 59 = .ok (.iaload, 1) := by decide +kernel
theorem dX3_laysRow_60 : decode cX3_laysRow 60 = .ok (.iconst 1, 1) := by decide +kernel
theorem dX3_laysRow_61 : decode cX3_laysRow 61 = .ok (.iadd, 1) := by decide +kernel
theorem dX3_laysRow_62 : decode cX3_laysRow 62 = .ok (.iastore, 1) := by decide +kernel
theorem dX3_laysRow_63 : decode cX3_laysRow 63 = .ok (.iinc 3 1, 3) := by decide +kernel
theorem dX3_laysRow_66 : decode cX3_laysRow 66 = .ok (.goto (-50), 3) := by decide +kernel
theorem dX3_laysRow_69 : decode cX3_laysRow 69 = .ok (.return_, 1) := by decide +kernel
theorem dX3_standsBehind_0 : decode cX3_standsBehind 0 = .ok (.iconst 0, 1) := by decide +kernel
theorem dX3_standsBehind_1 : decode cX3_standsBehind 1 = .ok (.istore_n 2, 1) := by decide +kernel
theorem dX3_standsBehind_2 : decode cX3_standsBehind 2 = .ok (.iload_n 2, 1) := by decide +kernel
theorem dX3_standsBehind_3 : decode cX3_standsBehind 3 = .ok (.iconst 4, 1) := by decide +kernel
theorem dX3_standsBehind_4 : decode cX3_standsBehind 4 = .ok (.if_icmp .ge 51, 3) := by decide +kernel
theorem dX3_standsBehind_7 : decode cX3_standsBehind 7 = .ok (.aload_n 0, 1) := by decide +kernel
theorem dX3_standsBehind_8 : decode cX3_standsBehind 8 = .ok (.getfield 43, 3) := by decide +kernel
theorem dX3_standsBehind_11 : decode cX3_standsBehind 11 = .ok (.iload_n 2, 1) := by decide +kernel
theorem dX3_standsBehind_12 : decode cX3_standsBehind 12 = .ok (.iaload, 1) := by decide +kernel
theorem dX3_standsBehind_13 : decode cX3_standsBehind 13 = .ok (.iconst 1, 1) := by decide +kernel
theorem dX3_standsBehind_14 : decode cX3_standsBehind 14 = .ok (.iadd, 1) := by decide +kernel
theorem dX3_standsBehind_15 : decode cX3_standsBehind 15 = .ok (.istore_n 3, 1) := by decide +kernel
theorem dX3_standsBehind_16 : decode cX3_standsBehind 16 = .ok (.iload_n 3, 1) := by decide +kernel
theorem dX3_standsBehind_17 : decode cX3_standsBehind 17 = .ok (.aload_n 0, 1) := by decide +kernel
theorem dX3_standsBehind_18 : decode cX3_standsBehind 18 = .ok (.getfield 46, 3) := by decide +kernel
theorem dX3_standsBehind_21 : decode cX3_standsBehind 21 = .ok (.iload_n 2, 1) := by decide +kernel
theorem dX3_standsBehind_22 : decode cX3_standsBehind 22 = .ok (.iaload, 1) := by decide +kernel
theorem dX3_standsBehind_23 : decode cX3_standsBehind 23 = .ok (.if_icmp .ge 26, 3) := by decide +kernel
theorem dX3_standsBehind_26 : decode cX3_standsBehind 26 = .ok (.aload_n 0, 1) := by decide +kernel
theorem dX3_standsBehind_27 : decode cX3_standsBehind 27 = .ok (.getfield 40, 3) := by decide +kernel
theorem dX3_standsBehind_30 : decode cX3_standsBehind 30 = .ok (.bipush 16, 2) := by decide +kernel
theorem dX3_standsBehind_32 : decode cX3_standsBehind 32 = .ok (.iload_n 2, 1) := by decide +kernel
theorem dX3_standsBehind_33 : decode cX3_standsBehind 33 = .ok (.imul, 1) := by decide +kernel
theorem dX3_standsBehind_34 : decode cX3_standsBehind 34 = .ok (.iload_n 3, 1) := by decide +kernel
theorem dX3_standsBehind_35 : decode cX3_standsBehind 35 = .ok (.iadd, 1) := by decide +kernel
theorem dX3_standsBehind_36 : decode cX3_standsBehind 36 = .ok (.iaload, 1) := by decide +kernel
theorem dX3_standsBehind_37 : decode cX3_standsBehind 37 = .ok (.iload_n 1, 1) := by decide +kernel
theorem dX3_standsBehind_38 : decode cX3_standsBehind 38 = .ok (.if_icmp .ne 5, 3) := by decide +kernel
theorem dX3_standsBehind_41 : decode cX3_standsBehind 41 = .ok (.iconst 1, 1) := by decide +kernel
theorem dX3_standsBehind_42 : decode cX3_standsBehind 42 = .ok (.ireturn, 1) := by decide +kernel
theorem dX3_standsBehind_43 : decode cX3_standsBehind 43 = .ok (.iinc 3 1, 3) := by decide +kernel
theorem dX3_standsBehind_46 : decode cX3_standsBehind 46 = .ok (.goto (-30), 3) := by decide +kernel
theorem dX3_standsBehind_49 : decode cX3_standsBehind 49 = .ok (.iinc 2 1, 3) := by decide +kernel
theorem dX3_standsBehind_52 : decode cX3_standsBehind 52 = .ok (.goto (-50), 3) := by decide +kernel
theorem dX3_standsBehind_55 : decode cX3_standsBehind 55 = .ok (.iconst 0, 1) := by decide +kernel
theorem dX3_standsBehind_56 : decode cX3_standsBehind 56 = .ok (.ireturn, 1) := by decide +kernel
theorem dX3_comesNext_0 : decode cX3_comesNext 0 = .ok (.iconst 0, 1) := by decide +kernel
theorem dX3_comesNext_1 : decode cX3_comesNext 1 = .ok (.istore_n 1, 1) := by decide +kernel
theorem dX3_comesNext_2 : decode cX3_comesNext 2 = .ok (.iload_n 1, 1) := by decide +kernel
theorem dX3_comesNext_3 : decode cX3_comesNext 3 = .ok (.iconst 4, 1) := by decide +kernel
theorem dX3_comesNext_4 : decode cX3_comesNext 4 = .ok (.if_icmp .ge 64, 3) := by decide +kernel
theorem dX3_comesNext_7 : decode cX3_comesNext 7 = .ok (.aload_n 0, 1) := by decide +kernel
theorem dX3_comesNext_8 : decode cX3_comesNext 8 = .ok (.getfield 43, 3) := by decide +kernel
theorem dX3_comesNext_11 : decode cX3_comesNext 11 = .ok (.iload_n 1, 1) := by decide +kernel
theorem dX3_comesNext_12 : decode cX3_comesNext 12 = .ok (.iaload, 1) := by decide +kernel
theorem dX3_comesNext_13 : decode cX3_comesNext 13 = .ok (.aload_n 0, 1) := by decide +kernel
theorem dX3_comesNext_14 : decode cX3_comesNext 14 = .ok (.getfield 46, 3) := by decide +kernel
theorem dX3_comesNext_17 : decode cX3_comesNext 17 = .ok (.iload_n 1, 1) := by decide +kernel
theorem dX3_comesNext_18 : decode cX3_comesNext 18 = .ok (.iaload, 1) := by decide +kernel
theorem dX3_comesNext_19 : decode cX3_comesNext 19 = .ok (.if_icmp .ge 43, 3) := by decide +kernel
theorem dX3_comesNext_22 : decode cX3_comesNext 22 = .ok (.aload_n 0, 1) := by decide +kernel
theorem dX3_comesNext_23 : decode cX3_comesNext 23 = .ok (.aload_n 0, 1) := by decide +kernel
theorem dX3_comesNext_24 : decode cX3_comesNext 24 = .ok (.getfield 40, 3) := by decide +kernel
theorem dX3_comesNext_27 : decode cX3_comesNext 27 = .ok (.bipush 16, 2) := by decide +kernel
theorem dX3_comesNext_29 : decode cX3_comesNext 29 = .ok (.iload_n 1, 1) := by decide +kernel
theorem dX3_comesNext_30 : decode cX3_comesNext 30 = .ok (.imul, 1) := by decide +kernel
theorem dX3_comesNext_31 : decode cX3_comesNext 31 = .ok (.aload_n 0, 1) := by decide +kernel
theorem dX3_comesNext_32 : decode cX3_comesNext 32 = .ok (.getfield 43, 3) := by decide +kernel
theorem dX3_comesNext_35 : decode cX3_comesNext 35 = .ok (.iload_n 1, 1) := by decide +kernel
theorem dX3_comesNext_36 : decode cX3_comesNext 36 = .ok (.iaload, 1) := by decide +kernel
theorem dX3_comesNext_37 : decode cX3_comesNext 37 = .ok (.iadd, 1) := by decide +kernel
theorem dX3_comesNext_38 : decode cX3_comesNext 38 = .ok (.iaload, 1) := by decide +kernel
theorem dX3_comesNext_39 : decode cX3_comesNext 39 = .ok (.invokevirtual 75, 3) := by decide +kernel
theorem dX3_comesNext_42 : decode cX3_comesNext 42 = .ok (.ifCond .ne 20, 3) := by decide +kernel
theorem dX3_comesNext_45 : decode cX3_comesNext 45 = .ok (.aload_n 0, 1) := by decide +kernel
theorem dX3_comesNext_46 : decode cX3_comesNext 46 = .ok (.getfield 40, 3) := by decide +kernel
theorem dX3_comesNext_49 : decode cX3_comesNext 49 = .ok (.bipush 16, 2) := by decide +kernel
theorem dX3_comesNext_51 : decode cX3_comesNext 51 = .ok (.iload_n 1, 1) := by decide +kernel
theorem dX3_comesNext_52 : decode cX3_comesNext 52 = .ok (.imul, 1) := by decide +kernel
theorem dX3_comesNext_53 : decode cX3_comesNext 53 = .ok (.aload_n 0, 1) := by decide +kernel
theorem dX3_comesNext_54 : decode cX3_comesNext 54 = .ok (.getfield 43, 3) := by decide +kernel
theorem dX3_comesNext_57 : decode cX3_comesNext 57 = .ok (.iload_n 1, 1) := by decide +kernel
theorem dX3_comesNext_58 : decode cX3_comesNext 58 = .ok (.iaload, 1) := by decide +kernel
theorem dX3_comesNext_59 : decode cX3_comesNext 59 = .ok (.iadd, 1) := by decide +kernel
theorem dX3_comesNext_60 : decode cX3_comesNext 60 = .ok (.iaload, 1) := by decide +kernel
theorem dX3_comesNext_61 : decode cX3_comesNext 61 = .ok (.ireturn, 1) := by decide +kernel
theorem dX3_comesNext_62 : decode cX3_comesNext 62 = .ok (.iinc 1 1, 3) := by decide +kernel
theorem dX3_comesNext_65 : decode cX3_comesNext 65 = .ok (.goto (-63), 3) := by decide +kernel
theorem dX3_comesNext_68 : decode cX3_comesNext 68 = .ok (.iconst (-1), 1) := by decide +kernel
theorem dX3_comesNext_69 : decode cX3_comesNext 69 = .ok (.ireturn, 1) := by decide +kernel
theorem dX3_isLeft_0 : decode cX3_isLeft 0 = .ok (.iconst 0, 1) := by decide +kernel
theorem dX3_isLeft_1 : decode cX3_isLeft 1 = .ok (.istore_n 1, 1) := by decide +kernel
theorem dX3_isLeft_2 : decode cX3_isLeft 2 = .ok (.iconst 0, 1) := by decide +kernel
theorem dX3_isLeft_3 : decode cX3_isLeft 3 = .ok (.istore_n 2, 1) := by decide +kernel
theorem dX3_isLeft_4 : decode cX3_isLeft 4 = .ok (.iload_n 2, 1) := by decide +kernel
theorem dX3_isLeft_5 : decode cX3_isLeft 5 = .ok (.iconst 4, 1) := by decide +kernel
theorem dX3_isLeft_6 : decode cX3_isLeft 6 = .ok (.if_icmp .ge 34, 3) := by decide +kernel
theorem dX3_isLeft_9 : decode cX3_isLeft 9 = .ok (.iload_n 1, 1) := by decide +kernel
theorem dX3_isLeft_10 : decode cX3_isLeft 10 = .ok (.ifCond .ne 18, 3) := by decide +kernel
theorem dX3_isLeft_13 : decode cX3_isLeft 13 = .ok (.aload_n 0, 1) := by decide +kernel
theorem dX3_isLeft_14 : decode cX3_isLeft 14 = .ok (.getfield 43, 3) := by decide +kernel
theorem dX3_isLeft_17 : decode cX3_isLeft 17 = .ok (.iload_n 2, 1) := by decide +kernel
theorem dX3_isLeft_18 : decode cX3_isLeft 18 = .ok (.iaload, 1) := by decide +kernel
theorem dX3_isLeft_19 : decode cX3_isLeft 19 = .ok (.aload_n 0, 1) := by decide +kernel
theorem dX3_isLeft_20 : decode cX3_isLeft 20 = .ok (.getfield 46, 3) := by decide +kernel
theorem dX3_isLeft_23 : decode cX3_isLeft 23 = .ok (.iload_n 2, 1) := by decide +kernel
theorem dX3_isLeft_24 : decode cX3_isLeft 24 = .ok (.iaload, 1) := by decide +kernel
theorem dX3_isLeft_25 : decode cX3_isLeft 25 = .ok (.if_icmp .ge 7, 3) := by decide +kernel
theorem dX3_isLeft_28 : decode cX3_isLeft 28 = .ok (.iconst 1, 1) := by decide +kernel
theorem dX3_isLeft_29 : decode cX3_isLeft 29 = .ok (.goto 4, 3) := by decide +kernel
theorem dX3_isLeft_32 : decode cX3_isLeft 32 = .ok (.iconst 0, 1) := by decide +kernel
theorem dX3_isLeft_33 : decode cX3_isLeft 33 = .ok (.istore_n 1, 1) := by decide +kernel
theorem dX3_isLeft_34 : decode cX3_isLeft 34 = .ok (.iinc 2 1, 3) := by decide +kernel
theorem dX3_isLeft_37 : decode cX3_isLeft 37 = .ok (.goto (-33), 3) := by decide +kernel
theorem dX3_isLeft_40 : decode cX3_isLeft 40 = .ok (.iload_n 1, 1) := by decide +kernel
theorem dX3_isLeft_41 : decode cX3_isLeft 41 = .ok (.ireturn, 1) := by decide +kernel
theorem dX3_merges_0 : decode cX3_merges 0 = .ok (.aload_n 0, 1) := by decide +kernel
theorem dX3_merges_1 : decode cX3_merges 1 = .ok (.getfield 13, 3) := by decide +kernel
theorem dX3_merges_4 : decode cX3_merges 4 = .ok (.bipush 16, 2) := by decide +kernel
theorem dX3_merges_6 : decode cX3_merges 6 = .ok (.iload_n 1, 1) := by decide +kernel
theorem dX3_merges_7 : decode cX3_merges 7 = .ok (.imul, 1) := by decide +kernel
theorem dX3_merges_8 : decode cX3_merges 8 = .ok (.iload_n 1, 1) := by decide +kernel
theorem dX3_merges_9 : decode cX3_merges 9 = .ok (.iastore, 1) := by decide +kernel
theorem dX3_merges_10 : decode cX3_merges 10 = .ok (.aload_n 0, 1) := by decide +kernel
theorem dX3_merges_11 : decode cX3_merges 11 = .ok (.getfield 16, 3) := by decide +kernel
theorem dX3_merges_14 : decode cX3_merges 14 = .ok (.iload_n 1, 1) := by decide +kernel
theorem dX3_merges_15 : decode cX3_merges 15 = .ok (.iconst 1, 1) := by decide +kernel
theorem dX3_merges_16 : decode cX3_merges 16 = .ok (.iastore, 1) := by decide +kernel
theorem dX3_merges_17 : decode cX3_merges 17 = .ok (.aload_n 0, 1) := by decide +kernel
theorem dX3_merges_18 : decode cX3_merges 18 = .ok (.invokevirtual 79, 3) := by decide +kernel
theorem dX3_merges_21 : decode cX3_merges 21 = .ok (.ifCond .eq 107, 3) := by decide +kernel
theorem dX3_merges_24 : decode cX3_merges 24 = .ok (.aload_n 0, 1) := by decide +kernel
theorem dX3_merges_25 : decode cX3_merges 25 = .ok (.invokevirtual 83, 3) := by decide +kernel
theorem dX3_merges_28 : decode cX3_merges 28 = .ok (.istore_n 2, 1) := by decide +kernel
theorem dX3_merges_29 : decode cX3_merges 29 = .ok (.iload_n 2, 1) := by decide +kernel
theorem dX3_merges_30 : decode cX3_merges 30 = .ok (.iconst (-1), 1) := by decide +kernel
theorem dX3_merges_31 : decode cX3_merges 31 = .ok (.if_icmp .ne 5, 3) := by decide +kernel
theorem dX3_merges_34 : decode cX3_merges 34 = .ok (.iconst 0, 1) := by decide +kernel
theorem dX3_merges_35 : decode cX3_merges 35 = .ok (.ireturn, 1) := by decide +kernel
theorem dX3_merges_36 : decode cX3_merges 36 = .ok (.aload_n 0, 1) := by decide +kernel
theorem dX3_merges_37 : decode cX3_merges 37 = .ok (.getfield 13, 3) := by decide +kernel
theorem dX3_merges_40 : decode cX3_merges 40 = .ok (.bipush 16, 2) := by decide +kernel
theorem dX3_merges_42 : decode cX3_merges 42 = .ok (.iload_n 1, 1) := by decide +kernel
theorem dX3_merges_43 : decode cX3_merges 43 = .ok (.imul, 1) := by decide +kernel
theorem dX3_merges_44 : decode cX3_merges 44 = .ok (.aload_n 0, 1) := by decide +kernel
theorem dX3_merges_45 : decode cX3_merges 45 = .ok (.getfield 16, 3) := by decide +kernel
theorem dX3_merges_48 : decode cX3_merges 48 = .ok (.iload_n 1, 1) := by decide +kernel
theorem dX3_merges_49 : decode cX3_merges 49 = .ok (.iaload, 1) := by decide +kernel
theorem dX3_merges_50 : decode cX3_merges 50 = .ok (.iadd, 1) := by decide +kernel
theorem dX3_merges_51 : decode cX3_merges 51 = .ok (.iload_n 2, 1) := by decide +kernel
theorem dX3_merges_52 : decode cX3_merges 52 = .ok (.iastore, 1) := by decide +kernel
theorem dX3_merges_53 : decode cX3_merges 53 = .ok (.aload_n 0, 1) := by decide +kernel
theorem dX3_merges_54 : decode cX3_merges 54 = .ok (.getfield 16, 3) := by decide +kernel
theorem dX3_merges_57 : decode cX3_merges 57 = .ok (.iload_n 1, 1) := by decide +kernel
theorem dX3_merges_58 : decode cX3_merges 58 = .ok (.dup2, 1) := by decide +kernel
theorem dX3_merges_59 : decode cX3_merges 59 = .ok (.iaload, 1) := by decide +kernel
theorem dX3_merges_60 : decode cX3_merges 60 = .ok (.iconst 1, 1) := by decide +kernel
theorem dX3_merges_61 : decode cX3_merges 61 = .ok (.iadd, 1) := by decide +kernel
theorem dX3_merges_62 : decode cX3_merges 62 = .ok (.iastore, 1) := by decide +kernel
theorem dX3_merges_63 : decode cX3_merges 63 = .ok (.iconst 0, 1) := by decide +kernel
theorem dX3_merges_64 : decode cX3_merges 64 = .ok (.istore_n 3, 1) := by decide +kernel
theorem dX3_merges_65 : decode cX3_merges 65 = .ok (.iload_n 3, 1) := by decide +kernel
theorem dX3_merges_66 : decode cX3_merges 66 = .ok (.iconst 4, 1) := by decide +kernel
theorem dX3_merges_67 : decode cX3_merges 67 = .ok (.if_icmp .ge 58, 3) := by decide +kernel
theorem dX3_merges_70 : decode cX3_merges 70 = .ok (.aload_n 0, 1) := by decide +kernel
theorem dX3_merges_71 : decode cX3_merges 71 = .ok (.getfield 43, 3) := by decide +kernel
theorem dX3_merges_74 : decode cX3_merges 74 = .ok (.iload_n 3, 1) := by decide +kernel
theorem dX3_merges_75 : decode cX3_merges 75 = .ok (.dup2, 1) := by decide +kernel
theorem dX3_merges_76 : decode cX3_merges 76 = .ok (.iaload, 1) := by decide +kernel
theorem dX3_merges_77 : decode cX3_merges 77 = .ok (.aload_n 0, 1) := by decide +kernel
theorem dX3_merges_78 : decode cX3_merges 78 = .ok (.getfield 43, 3) := by decide +kernel
theorem dX3_merges_81 : decode cX3_merges 81 = .ok (.iload_n 3, 1) := by decide +kernel
theorem dX3_merges_82 : decode cX3_merges 82 = .ok (.iaload, 1) := by decide +kernel
theorem dX3_merges_83 : decode cX3_merges 83 = .ok (.aload_n 0, 1) := by decide +kernel
theorem dX3_merges_84 : decode cX3_merges 84 = .ok (.getfield 46, 3) := by decide +kernel
theorem dX3_merges_87 : decode cX3_merges 87 = .ok (.iload_n 3, 1) := by decide +kernel
theorem dX3_merges_88 : decode cX3_merges 88 = .ok (.iaload, 1) := by decide +kernel
theorem dX3_merges_89 : decode cX3_merges 89 = .ok (.if_icmp .ge 27, 3) := by decide +kernel
theorem dX3_merges_92 : decode cX3_merges 92 = .ok (.aload_n 0, 1) := by decide +kernel
theorem dX3_merges_93 : decode cX3_merges 93 = .ok (.getfield 40, 3) := by decide +kernel
theorem dX3_merges_96 : decode cX3_merges 96 = .ok (.bipush 16, 2) := by decide +kernel
theorem dX3_merges_98 : decode cX3_merges 98 = .ok (.iload_n 3, 1) := by decide +kernel
theorem dX3_merges_99 : decode cX3_merges 99 = .ok (.imul, 1) := by decide +kernel
theorem dX3_merges_100 : decode cX3_merges 100 = .ok (.aload_n 0, 1) := by decide +kernel
theorem dX3_merges_101 : decode cX3_merges 101 = .ok (.getfield 43, 3) := by decide +kernel
theorem dX3_merges_104 : decode cX3_merges 104 = .ok (.iload_n 3, 1) := by decide +kernel
theorem dX3_merges_105 : decode cX3_merges 105 = .ok (.iaload, 1) := by decide +kernel
theorem dX3_merges_106 : decode cX3_merges 106 = .ok (.iadd, 1) := by decide +kernel
theorem dX3_merges_107 : decode cX3_merges 107 = .ok (.iaload, 1) := by decide +kernel
theorem dX3_merges_108 : decode cX3_merges 108 = .ok (.iload_n 2, 1) := by decide +kernel
theorem dX3_merges_109 : decode cX3_merges 109 = .ok (.if_icmp .ne 7, 3) := by decide +kernel
theorem dX3_merges_112 : decode cX3_merges 112 = .ok (.iconst 1, 1) := by decide +kernel
theorem dX3_merges_113 : decode cX3_merges 113 = .ok (.goto 4, 3) := by decide +kernel
theorem dX3_merges_116 : decode cX3_merges 116 = .ok (.iconst 0, 1) := by decide +kernel
theorem dX3_merges_117 : decode cX3_merges 117 = .ok (.iadd, 1) := by decide +kernel
theorem dX3_merges_118 : decode cX3_merges 118 = .ok (.iastore, 1) := by decide +kernel
theorem dX3_merges_119 : decode cX3_merges 119 = .ok (.iinc 3 1, 3) := by decide +kernel
theorem dX3_merges_122 : decode cX3_merges 122 = .ok (.goto (-57), 3) := by decide +kernel
theorem dX3_merges_125 : decode cX3_merges 125 = .ok (.goto (-108), 3) := by decide +kernel
theorem dX3_merges_128 : decode cX3_merges 128 = .ok (.iconst 1, 1) := by decide +kernel
theorem dX3_merges_129 : decode cX3_merges 129 = .ok (.ireturn, 1) := by decide +kernel
theorem dX3_kind_0 : decode cX3_kind 0 = .ok (.aload_n 0, 1) := by decide +kernel
theorem dX3_kind_1 : decode cX3_kind 1 = .ok (.iconst 0, 1) := by decide +kernel
theorem dX3_kind_2 : decode cX3_kind 2 = .ok (.putfield 65, 3) := by decide +kernel
theorem dX3_kind_5 : decode cX3_kind 5 = .ok (.aload_n 0, 1) := by decide +kernel
theorem dX3_kind_6 : decode cX3_kind 6 = .ok (.iload_n 1, 1) := by decide +kernel
theorem dX3_kind_7 : decode cX3_kind 7 = .ok (.invokevirtual 87, 3) := by decide +kernel
theorem dX3_kind_10 : decode cX3_kind 10 = .ok (.ifCond .eq 41, 3) := by decide +kernel
theorem dX3_kind_13 : decode cX3_kind 13 = .ok (.iload_n 2, 1) := by decide +kernel
theorem dX3_kind_14 : decode cX3_kind 14 = .ok (.iconst (-1), 1) := by decide +kernel
theorem dX3_kind_15 : decode cX3_kind 15 = .ok (.if_icmp .ne 11, 3) := by decide +kernel
theorem dX3_kind_18 : decode cX3_kind 18 = .ok (.iload_n 3, 1) := by decide +kernel
theorem dX3_kind_19 : decode cX3_kind 19 = .ok (.iconst (-1), 1) := by decide +kernel
theorem dX3_kind_20 : decode cX3_kind 20 = .ok (.if_icmp .ne 31, 3) := by decide +kernel
theorem dX3_kind_23 : decode cX3_kind 23 = .ok (.goto 11, 3) := by decide +kernel
theorem dX3_kind_26 : decode cX3_kind 26 = .ok (.aload_n 0, 1) := by decide +kernel
theorem dX3_kind_27 : decode cX3_kind 27 = .ok (.iload_n 2, 1) := by decide +kernel
theorem dX3_kind_28 : decode cX3_kind 28 = .ok (.invokevirtual 87, 3) := by decide +kernel
theorem dX3_kind_31 : decode cX3_kind 31 = .ok (.ifCond .eq 20, 3) := by decide +kernel
theorem dX3_kind_34 : decode cX3_kind 34 = .ok (.iload_n 3, 1) := by decide +kernel
theorem dX3_kind_35 : decode cX3_kind 35 = .ok (.iconst (-1), 1) := by decide +kernel
theorem dX3_kind_36 : decode cX3_kind 36 = .ok (.if_icmp .eq 11, 3) := by decide +kernel
theorem dX3_kind_39 : decode cX3_kind 39 = .ok (.aload_n 0, 1) := by decide +kernel
theorem dX3_kind_40 : decode cX3_kind 40 = .ok (.iload_n 3, 1) := by decide +kernel
theorem dX3_kind_41 : decode cX3_kind 41 = .ok (.invokevirtual 87, 3) := by decide +kernel
theorem dX3_kind_44 : decode cX3_kind 44 = .ok (.ifCond .eq 7, 3) := by decide +kernel
theorem dX3_kind_47 : decode cX3_kind 47 = .ok (.iconst 1, 1) := by decide +kernel
theorem dX3_kind_48 : decode cX3_kind 48 = .ok (.goto 4, 3) := by decide +kernel
theorem dX3_kind_51 : decode cX3_kind 51 = .ok (.iconst 0, 1) := by decide +kernel
theorem dX3_kind_52 : decode cX3_kind 52 = .ok (.istore 4, 2) := by decide +kernel
theorem dX3_kind_54 : decode cX3_kind 54 = .ok (.iload 4, 2) := by decide +kernel
theorem dX3_kind_56 : decode cX3_kind 56 = .ok (.ifCond .eq 32, 3) := by decide +kernel
theorem dX3_kind_59 : decode cX3_kind 59 = .ok (.aload_n 0, 1) := by decide +kernel
theorem dX3_kind_60 : decode cX3_kind 60 = .ok (.getfield 62, 3) := by decide +kernel
theorem dX3_kind_63 : decode cX3_kind 63 = .ok (.bipush 16, 2) := by decide +kernel
theorem dX3_kind_65 : decode cX3_kind 65 = .ok (.if_icmp .eq 23, 3) := by decide +kernel
theorem dX3_kind_68 : decode cX3_kind 68 = .ok (.iload_n 1, 1) := by decide +kernel
theorem dX3_kind_69 : decode cX3_kind 69 = .ok (.iload_n 2, 1) := by decide +kernel
theorem dX3_kind_70 : decode cX3_kind 70 = .ok (.if_icmp .eq 18, 3) := by decide +kernel
theorem dX3_kind_73 : decode cX3_kind 73 = .ok (.iload_n 1, 1) := by decide +kernel
theorem dX3_kind_74 : decode cX3_kind 74 = .ok (.iload_n 3, 1) := by decide +kernel
theorem dX3_kind_75 : decode cX3_kind 75 = .ok (.if_icmp .eq 13, 3) := by decide +kernel
theorem dX3_kind_78 : decode cX3_kind 78 = .ok (.iload_n 2, 1) := by decide +kernel
theorem dX3_kind_79 : decode cX3_kind 79 = .ok (.iload_n 3, 1) := by decide +kernel
theorem dX3_kind_80 : decode cX3_kind 80 = .ok (.if_icmp .ne 10, 3) := by decide +kernel
theorem dX3_kind_83 : decode cX3_kind 83 = .ok (.iload_n 2, 1) := by decide +kernel
theorem dX3_kind_84 : decode cX3_kind 84 = .ok (.iconst (-1), 1) := by decide +kernel
theorem dX3_kind_85 : decode cX3_kind 85 = .ok (.if_icmp .eq 5, 3) := by decide +kernel
theorem dX3_kind_88 : decode cX3_kind 88 = .ok (.iconst (-1), 1) := by decide +kernel
theorem dX3_kind_89 : decode cX3_kind 89 = .ok (.ireturn, 1) := by decide +kernel
theorem dX3_kind_90 : decode cX3_kind 90 = .ok (.aload_n 0, 1) := by decide +kernel
theorem dX3_kind_91 : decode cX3_kind 91 = .ok (.getfield 62, 3) := by decide +kernel
theorem dX3_kind_94 : decode cX3_kind 94 = .ok (.istore 5, 2) := by decide +kernel
theorem dX3_kind_96 : decode cX3_kind 96 = .ok (.aload_n 0, 1) := by decide +kernel
theorem dX3_kind_97 : decode cX3_kind 97 = .ok (.iconst 0, 1) := by decide +kernel
theorem dX3_kind_98 : decode cX3_kind 98 = .ok (.iload_n 1, 1) := by decide +kernel
theorem dX3_kind_99 : decode cX3_kind 99 = .ok (.invokevirtual 90, 3) := by decide +kernel
theorem dX3_kind_102 : decode cX3_kind 102 = .ok (.aload_n 0, 1) := by decide +kernel
theorem dX3_kind_103 : decode cX3_kind 103 = .ok (.iconst 1, 1) := by decide +kernel
theorem dX3_kind_104 : decode cX3_kind 104 = .ok (.iload_n 2, 1) := by decide +kernel
theorem dX3_kind_105 : decode cX3_kind 105 = .ok (.invokevirtual 90, 3) := by decide +kernel
theorem dX3_kind_108 : decode cX3_kind 108 = .ok (.aload_n 0, 1) := by decide +kernel
theorem dX3_kind_109 : decode cX3_kind 109 = .ok (.iconst 2, 1) := by decide +kernel
theorem dX3_kind_110 : decode cX3_kind 110 = .ok (.iload_n 3, 1) := by decide +kernel
theorem dX3_kind_111 : decode cX3_kind 111 = .ok (.invokevirtual 90, 3) := by decide +kernel
theorem dX3_kind_114 : decode cX3_kind 114 = .ok (.aload_n 0, 1) := by decide +kernel
theorem dX3_kind_115 : decode cX3_kind 115 = .ok (.getfield 43, 3) := by decide +kernel
theorem dX3_kind_118 : decode cX3_kind 118 = .ok (.iconst 3, 1) := by decide +kernel
theorem dX3_kind_119 : decode cX3_kind 119 = .ok (.iconst 0, 1) := by decide +kernel
theorem dX3_kind_120 : decode cX3_kind 120 = .ok (.iastore, 1) := by decide +kernel
theorem dX3_kind_121 : decode cX3_kind 121 = .ok (.aload_n 0, 1) := by decide +kernel
theorem dX3_kind_122 : decode cX3_kind 122 = .ok (.getfield 40, 3) := by decide +kernel
theorem dX3_kind_125 : decode cX3_kind 125 = .ok (.bipush 48, 2) := by decide +kernel
theorem dX3_kind_127 : decode cX3_kind 127 = .ok (.iload_n 1, 1) := by decide +kernel
theorem dX3_kind_128 : decode cX3_kind 128 = .ok (.iastore, 1) := by decide +kernel
theorem dX3_kind_129 : decode cX3_kind 129 = .ok (.aload_n 0, 1) := by decide +kernel
theorem dX3_kind_130 : decode cX3_kind 130 = .ok (.getfield 40, 3) := by decide +kernel
theorem dX3_kind_133 : decode cX3_kind 133 = .ok (.bipush 49, 2) := by decide +kernel
theorem dX3_kind_135 : decode cX3_kind 135 = .ok (.iload_n 2, 1) := by decide +kernel
theorem dX3_kind_136 : decode cX3_kind 136 = .ok (.iastore, 1) := by decide +kernel
theorem dX3_kind_137 : decode cX3_kind 137 = .ok (.aload_n 0, 1) := by decide +kernel
theorem dX3_kind_138 : decode cX3_kind 138 = .ok (.getfield 40, 3) := by decide +kernel
theorem dX3_kind_141 : decode cX3_kind 141 = .ok (.bipush 50, 2) := by decide +kernel
theorem dX3_kind_143 : decode cX3_kind 143 = .ok (.iload_n 3, 1) := by decide +kernel
theorem dX3_kind_144 : decode cX3_kind 144 = .ok (.iastore, 1) := by decide +kernel
theorem dX3_kind_145 : decode cX3_kind 145 = .ok (.aload_n 0, 1) := by decide +kernel
theorem dX3_kind_146 : decode cX3_kind 146 = .ok (.getfield 46, 3) := by decide +kernel
theorem dX3_kind_149 : decode cX3_kind 149 = .ok (.iconst 3, 1) := by decide +kernel
theorem dX3_kind_150 : decode cX3_kind 150 = .ok (.iload_n 2, 1) := by decide +kernel
theorem dX3_kind_151 : decode cX3_kind 151 = .ok (.iconst (-1), 1) := by decide +kernel
theorem dX3_kind_152 : decode cX3_kind 152 = .ok (.if_icmp .ne 7, 3) := by decide +kernel
theorem dX3_kind_155 : decode cX3_kind 155 = .ok (.iconst 1, 1) := by decide +kernel
theorem dX3_kind_156 : decode cX3_kind 156 = .ok (.goto 13, 3) := by decide +kernel
theorem dX3_kind_159 : decode cX3_kind 159 = .ok (.iload_n 3, 1) := by decide +kernel
theorem dX3_kind_160 : decode cX3_kind 160 = .ok (.iconst (-1), 1) := by decide +kernel
theorem dX3_kind_161 : decode cX3_kind 161 = .ok (.if_icmp .ne 7, 3) := by decide +kernel
theorem dX3_kind_164 : decode cX3_kind 164 = .ok (.iconst 2, 1) := by decide +kernel
theorem dX3_kind_165 : decode cX3_kind 165 = .ok (.goto 4, 3) := by decide +kernel
theorem dX3_kind_168 : decode cX3_kind 168 = .ok (.iconst 3, 1) := by decide +kernel
theorem dX3_kind_169 : decode cX3_kind 169 = .ok (.iastore, 1) := by decide +kernel
theorem dX3_kind_170 : decode cX3_kind 170 = .ok (.aload_n 0, 1) := by decide +kernel
theorem dX3_kind_171 : decode cX3_kind 171 = .ok (.iload 5, 2) := by decide +kernel
theorem dX3_kind_173 : decode cX3_kind 173 = .ok (.invokevirtual 94, 3) := by decide +kernel
theorem dX3_kind_176 : decode cX3_kind 176 = .ok (.ifCond .ne 6, 3) := by decide +kernel
theorem dX3_kind_179 : decode cX3_kind 179 = .ok (.bipush (-2), 2) := by decide +kernel
theorem dX3_kind_181 : decode cX3_kind 181 = .ok (.ireturn, 1) := by decide +kernel
theorem dX3_kind_182 : decode cX3_kind 182 = .ok (.aload_n 0, 1) := by decide +kernel
theorem dX3_kind_183 : decode cX3_kind 183 = .ok (.getfield 7, 3) := by decide +kernel
theorem dX3_kind_186 : decode cX3_kind 186 = .ok (.iload 5, 2) := by decide +kernel
theorem dX3_kind_188 : decode cX3_kind 188 = .ok (.iconst 0, 1) := by decide +kernel
theorem dX3_kind_189 : decode cX3_kind 189 = .ok (.iastore, 1) := by decide +kernel
theorem dX3_kind_190 : decode cX3_kind 190 = .ok (.iconst 0, 1) := by decide +kernel
theorem dX3_kind_191 : decode cX3_kind 191 = .ok (.istore 6, 2) := by decide +kernel
theorem dX3_kind_193 : decode cX3_kind 193 = .ok (.iload 6, 2) := by decide +kernel
theorem dX3_kind_195 : decode cX3_kind 195 = .ok (.aload_n 0, 1) := by decide +kernel
theorem dX3_kind_196 : decode cX3_kind 196 = .ok (.getfield 16, 3) := by decide +kernel
theorem dX3_kind_199 : decode cX3_kind 199 = .ok (.iload 5, 2) := by decide +kernel
theorem dX3_kind_201 : decode cX3_kind 201 = .ok (.iaload, 1) := by decide +kernel
theorem dX3_kind_202 : decode cX3_kind 202 = .ok (.if_icmp .ge 60, 3) := by decide +kernel
theorem dX3_kind_205 : decode cX3_kind 205 = .ok (.aload_n 0, 1) := by decide +kernel
theorem dX3_kind_206 : decode cX3_kind 206 = .ok (.getfield 7, 3) := by decide +kernel
theorem dX3_kind_209 : decode cX3_kind 209 = .ok (.iload 5, 2) := by decide +kernel
theorem dX3_kind_211 : decode cX3_kind 211 = .ok (.dup2, 1) := by decide +kernel
theorem dX3_kind_212 : decode cX3_kind 212 = .ok (.iaload, 1) := by decide +kernel
theorem dX3_kind_213 : decode cX3_kind 213 = .ok (.iconst 1, 1) := by decide +kernel
theorem dX3_kind_214 : decode cX3_kind 214 = .ok (.aload_n 0, 1) := by decide +kernel
theorem dX3_kind_215 : decode cX3_kind 215 = .ok (.getfield 13, 3) := by decide +kernel
theorem dX3_kind_218 : decode cX3_kind 218 = .ok (.bipush 16, 2) := by decide +kernel
theorem dX3_kind_220 : decode cX3_kind 220 = .ok (.iload 5, 2) := by decide +kernel
theorem dX3_kind_222 : decode cX3_kind 222 = .ok (.imul, 1) := by decide +kernel
theorem dX3_kind_223 : decode cX3_kind 223 = .ok (.iload 6, 2) := by decide +kernel
theorem dX3_kind_225 : decode cX3_kind 225 = .ok (.iadd, 1) := by decide +kernel
theorem dX3_kind_226 : decode cX3_kind 226 = .ok (.iaload, 1) := by decide +kernel
theorem dX3_kind_227 : decode cX3_kind 227 = .ok (.ishl, 1) := by decide +kernel
theorem dX3_kind_228 : decode cX3_kind 228 = .ok (.ior, 1) := by decide +kernel
theorem dX3_kind_229 : decode cX3_kind 229 = .ok (.iastore, 1) := by decide +kernel
theorem dX3_kind_230 : decode cX3_kind 230 = .ok (.aload_n 0, 1) := by decide +kernel
theorem dX3_kind_231 : decode cX3_kind 231 = .ok (.getfield 19, 3) := by decide +kernel
theorem dX3_kind_234 : decode cX3_kind 234 = .ok (.bipush 16, 2) := by decide +kernel
theorem dX3_kind_236 : decode cX3_kind 236 = .ok (.iload 5, 2) := by decide +kernel
theorem dX3_kind_238 : decode cX3_kind 238 = .ok (.imul, 1) := by decide +kernel
theorem dX3_kind_239 : decode cX3_kind 239 = .ok (.aload_n 0, 1) := by decide +kernel
theorem dX3_kind_240 : decode cX3_kind 240 = .ok (.getfield 13, 3) := by decide +kernel
theorem dX3_kind_243 : decode cX3_kind 243 = .ok (.bipush 16, 2) := by decide +kernel
theorem dX3_kind_245 : decode cX3_kind 245 = .ok (.iload 5, 2) := by decide +kernel
theorem dX3_kind_247 : decode cX3_kind 247 = .ok (.imul, 1) := by decide +kernel
theorem dX3_kind_248 : decode cX3_kind 248 = .ok (.iload 6, 2) := by decide +kernel
theorem dX3_kind_250 : decode cX3_kind 250 = .ok (.iadd, 1) := by decide +kernel
theorem dX3_kind_251 : decode cX3_kind 251 = .ok (.iaload, 1) := by decide +kernel
theorem dX3_kind_252 : decode cX3_kind 252 = .ok (.iadd, 1) := by decide +kernel
theorem dX3_kind_253 : decode cX3_kind 253 = .ok (.iload 6, 2) := by decide +kernel
theorem dX3_kind_255 : decode cX3_kind 255 = .ok (.iastore, 1) := by decide +kernel
theorem dX3_kind_256 : decode cX3_kind 256 = .ok (.iinc 6 1, 3) := by decide +kernel
theorem dX3_kind_259 : decode cX3_kind 259 = .ok (.goto (-66), 3) := by decide +kernel
theorem dX3_kind_262 : decode cX3_kind 262 = .ok (.aload_n 0, 1) := by decide +kernel
theorem dX3_kind_263 : decode cX3_kind 263 = .ok (.dup, 1) := by decide +kernel
theorem dX3_kind_264 : decode cX3_kind 264 = .ok (.getfield 62, 3) := by decide +kernel
theorem dX3_kind_267 : decode cX3_kind 267 = .ok (.iconst 1, 1) := by decide +kernel
theorem dX3_kind_268 : decode cX3_kind 268 = .ok (.iadd, 1) := by decide +kernel
theorem dX3_kind_269 : decode cX3_kind 269 = .ok (.putfield 62, 3) := by decide +kernel
theorem dX3_kind_272 : decode cX3_kind 272 = .ok (.iload 5, 2) := by decide +kernel
theorem dX3_kind_274 : decode cX3_kind 274 = .ok (.ireturn, 1) := by decide +kernel
theorem dX3_is_0 : decode cX3_is 0 = .ok (.aload_n 0, 1) := by decide +kernel
theorem dX3_is_1 : decode cX3_is 1 = .ok (.iconst 0, 1) := by decide +kernel
theorem dX3_is_2 : decode cX3_is 2 = .ok (.putfield 65, 3) := by decide +kernel
theorem dX3_is_5 : decode cX3_is 5 = .ok (.aload_n 0, 1) := by decide +kernel
theorem dX3_is_6 : decode cX3_is 6 = .ok (.iload_n 1, 1) := by decide +kernel
theorem dX3_is_7 : decode cX3_is 7 = .ok (.invokevirtual 87, 3) := by decide +kernel
theorem dX3_is_10 : decode cX3_is 10 = .ok (.ifCond .eq 28, 3) := by decide +kernel
theorem dX3_is_13 : decode cX3_is 13 = .ok (.aload_n 0, 1) := by decide +kernel
theorem dX3_is_14 : decode cX3_is 14 = .ok (.iload_n 2, 1) := by decide +kernel
theorem dX3_is_15 : decode cX3_is 15 = .ok (.invokevirtual 87, 3) := by decide +kernel
theorem dX3_is_18 : decode cX3_is 18 = .ok (.ifCond .eq 20, 3) := by decide +kernel
theorem dX3_is_21 : decode cX3_is 21 = .ok (.aload_n 0, 1) := by decide +kernel
theorem dX3_is_22 : decode cX3_is 22 = .ok (.getfield 7, 3) := by decide +kernel
theorem dX3_is_25 : decode cX3_is 25 = .ok (.iload_n 1, 1) := by decide +kernel
theorem dX3_is_26 : decode cX3_is 26 = .ok (.iaload, 1) := by decide +kernel
theorem dX3_is_27 : decode cX3_is 27 = .ok (.iload_n 2, 1) := by decide +kernel
theorem dX3_is_28 : decode cX3_is 28 = .ok (.invokestatic 97, 3) := by decide +kernel
theorem dX3_is_31 : decode cX3_is 31 = .ok (.ifCond .eq 7, 3) := by decide +kernel
theorem dX3_is_34 : decode cX3_is 34 = .ok (.iconst 1, 1) := by decide +kernel
theorem dX3_is_35 : decode cX3_is 35 = .ok (.goto 4, 3) := by decide +kernel
theorem dX3_is_38 : decode cX3_is 38 = .ok (.iconst 0, 1) := by decide +kernel
theorem dX3_is_39 : decode cX3_is 39 = .ok (.ireturn, 1) := by decide +kernel
theorem dX3_list_0 : decode cX3_list 0 = .ok (.aload_n 0, 1) := by decide +kernel
theorem dX3_list_1 : decode cX3_list 1 = .ok (.iconst 0, 1) := by decide +kernel
theorem dX3_list_2 : decode cX3_list 2 = .ok (.putfield 65, 3) := by decide +kernel
theorem dX3_list_5 : decode cX3_list 5 = .ok (.aload_n 0, 1) := by decide +kernel
theorem dX3_list_6 : decode cX3_list 6 = .ok (.iload_n 1, 1) := by decide +kernel
theorem dX3_list_7 : decode cX3_list 7 = .ok (.invokevirtual 87, 3) := by decide +kernel
theorem dX3_list_10 : decode cX3_list 10 = .ok (.ifCond .ne 5, 3) := by decide +kernel
theorem dX3_list_13 : decode cX3_list 13 = .ok (.iconst (-1), 1) := by decide +kernel
theorem dX3_list_14 : decode cX3_list 14 = .ok (.ireturn, 1) := by decide +kernel
theorem dX3_list_15 : decode cX3_list 15 = .ok (.iload_n 2, 1) := by decide +kernel
theorem dX3_list_16 : decode cX3_list 16 = .ok (.iconst (-1), 1) := by decide +kernel
theorem dX3_list_17 : decode cX3_list 17 = .ok (.if_icmp .ne 12, 3) := by decide +kernel
theorem dX3_list_20 : decode cX3_list 20 = .ok (.aload_n 0, 1) := by decide +kernel
theorem dX3_list_21 : decode cX3_list 21 = .ok (.getfield 16, 3) := by decide +kernel
theorem dX3_list_24 : decode cX3_list 24 = .ok (.iload_n 1, 1) := by decide +kernel
theorem dX3_list_25 : decode cX3_list 25 = .ok (.iaload, 1) := by decide +kernel
theorem dX3_list_26 : decode cX3_list 26 = .ok (.goto 34, 3) := by decide +kernel
theorem dX3_list_29 : decode cX3_list 29 = .ok (.iload_n 2, 1) := by decide +kernel
theorem dX3_list_30 : decode cX3_list 30 = .ok (.iconst 0, 1) := by decide +kernel
theorem dX3_list_31 : decode cX3_list 31 = .ok (.aload_n 0, 1) := by decide +kernel
theorem dX3_list_32 : decode cX3_list 32 = .ok (.getfield 16, 3) := by decide +kernel
theorem dX3_list_35 : decode cX3_list 35 = .ok (.iload_n 1, 1) := by decide +kernel
theorem dX3_list_36 : decode cX3_list 36 = .ok (.iaload, 1) := by decide +kernel
theorem dX3_list_37 : decode cX3_list 37 = .ok (.iconst 1, 1) := by decide +kernel
theorem dX3_list_38 : decode cX3_list 38 = .ok (.isub, 1) := by decide +kernel
theorem dX3_list_39 : decode cX3_list 39 = .ok (.invokestatic 68, 3) := by decide +kernel
theorem dX3_list_42 : decode cX3_list 42 = .ok (.ifCond .eq 17, 3) := by decide +kernel
theorem dX3_list_45 : decode cX3_list 45 = .ok (.aload_n 0, 1) := by decide +kernel
theorem dX3_list_46 : decode cX3_list 46 = .ok (.getfield 13, 3) := by decide +kernel
theorem dX3_list_49 : decode cX3_list 49 = .ok (.bipush 16, 2) := by decide +kernel
theorem dX3_list_51 : decode cX3_list 51 = .ok (.iload_n 1, 1) := by decide +kernel
theorem dX3_list_52 : decode cX3_list 52 = .ok (.imul, 1) := by decide +kernel
theorem dX3_list_53 : decode cX3_list 53 = .ok (.iload_n 2, 1) := by decide +kernel
theorem dX3_list_54 : decode cX3_list 54 = .ok (.iadd, 1) := by decide +kernel
theorem dX3_list_55 : decode cX3_list 55 = .ok (.iaload, 1) := by decide +kernel
theorem dX3_list_56 : decode cX3_list 56 = .ok (.goto 4, 3) := by decide +kernel
theorem dX3_list_59 : decode cX3_list 59 = .ok (.iconst (-1), 1) := by decide +kernel
theorem dX3_list_60 : decode cX3_list 60 = .ok (.ireturn, 1) := by decide +kernel
theorem dX3_isMeet_0 : decode cX3_isMeet 0 = .ok (.aload_n 0, 1) := by decide +kernel
theorem dX3_isMeet_1 : decode cX3_isMeet 1 = .ok (.getfield 7, 3) := by decide +kernel
theorem dX3_isMeet_4 : decode cX3_isMeet 4 = .ok (.iload_n 1, 1) := by decide +kernel
theorem dX3_isMeet_5 : decode cX3_isMeet 5 = .ok (.iaload, 1) := by decide +kernel
theorem dX3_isMeet_6 : decode cX3_isMeet 6 = .ok (.iload_n 2, 1) := by decide +kernel
theorem dX3_isMeet_7 : decode cX3_isMeet 7 = .ok (.invokestatic 97, 3) := by decide +kernel
theorem dX3_isMeet_10 : decode cX3_isMeet 10 = .ok (.ifCond .eq 16, 3) := by decide +kernel
theorem dX3_isMeet_13 : decode cX3_isMeet 13 = .ok (.aload_n 0, 1) := by decide +kernel
theorem dX3_isMeet_14 : decode cX3_isMeet 14 = .ok (.getfield 7, 3) := by decide +kernel
theorem dX3_isMeet_17 : decode cX3_isMeet 17 = .ok (.iload_n 1, 1) := by decide +kernel
theorem dX3_isMeet_18 : decode cX3_isMeet 18 = .ok (.iaload, 1) := by decide +kernel
theorem dX3_isMeet_19 : decode cX3_isMeet 19 = .ok (.iload_n 3, 1) := by decide +kernel
theorem dX3_isMeet_20 : decode cX3_isMeet 20 = .ok (.invokestatic 97, 3) := by decide +kernel
theorem dX3_isMeet_23 : decode cX3_isMeet 23 = .ok (.ifCond .ne 5, 3) := by decide +kernel
theorem dX3_isMeet_26 : decode cX3_isMeet 26 = .ok (.iconst 0, 1) := by decide +kernel
theorem dX3_isMeet_27 : decode cX3_isMeet 27 = .ok (.ireturn, 1) := by decide +kernel
theorem dX3_isMeet_28 : decode cX3_isMeet 28 = .ok (.iconst 0, 1) := by decide +kernel
theorem dX3_isMeet_29 : decode cX3_isMeet 29 = .ok (.istore 4, 2) := by decide +kernel
theorem dX3_isMeet_31 : decode cX3_isMeet 31 = .ok (.iload 4, 2) := by decide +kernel
theorem dX3_isMeet_33 : decode cX3_isMeet 33 = .ok (.aload_n 0, 1) := by decide +kernel
theorem dX3_isMeet_34 : decode cX3_isMeet 34 = .ok (.getfield 62, 3) := by decide +kernel
theorem dX3_isMeet_37 : decode cX3_isMeet 37 = .ok (.if_icmp .ge 59, 3) := by decide +kernel
theorem dX3_isMeet_40 : decode cX3_isMeet 40 = .ok (.iload 4, 2) := by decide +kernel
theorem dX3_isMeet_42 : decode cX3_isMeet 42 = .ok (.iload_n 1, 1) := by decide +kernel
theorem dX3_isMeet_43 : decode cX3_isMeet 43 = .ok (.if_icmp .eq 47, 3) := by decide +kernel
theorem dX3_isMeet_46 : decode cX3_isMeet 46 = .ok (.aload_n 0, 1) := by decide +kernel
theorem dX3_isMeet_47 : decode cX3_isMeet 47 = .ok (.getfield 7, 3) := by decide +kernel
theorem dX3_isMeet_50 : decode cX3_isMeet 50 = .ok (.iload_n 1, 1) := by decide +kernel
theorem dX3_isMeet_51 : decode cX3_isMeet 51 = .ok (.iaload, 1) := by decide +kernel
theorem dX3_isMeet_52 : decode cX3_isMeet 52 = .ok (.iload 4, 2) := by decide +kernel
theorem dX3_isMeet_54 : decode cX3_isMeet 54 = .ok (.invokestatic 97, 3) := by decide +kernel
theorem dX3_isMeet_57 : decode cX3_isMeet 57 = .ok (.ifCond .eq 33, 3) := by decide +kernel
theorem dX3_isMeet_60 : decode cX3_isMeet 60 = .ok (.aload_n 0, 1) := by decide +kernel
theorem dX3_isMeet_61 : decode cX3_isMeet 61 = .ok (.getfield 7, 3) := by decide +kernel
theorem dX3_isMeet_64 : decode cX3_isMeet 64 = .ok (.iload 4, 2) := by decide +kernel
theorem dX3_isMeet_66 : decode cX3_isMeet 66 = .ok (.iaload, 1) := by decide +kernel
theorem dX3_isMeet_67 : decode cX3_isMeet 67 = .ok (.iload_n 2, 1) := by decide +kernel
theorem dX3_isMeet_68 : decode cX3_isMeet 68 = .ok (.invokestatic 97, 3) := by decide +kernel
theorem dX3_isMeet_71 : decode cX3_isMeet 71 = .ok (.ifCond .eq 19, 3) := by decide +kernel
theorem dX3_isMeet_74 : decode cX3_isMeet 74 = .ok (.aload_n 0, 1) := by decide +kernel
theorem dX3_isMeet_75 : decode cX3_isMeet 75 = .ok (.getfield 7, 3) := by decide +kernel
theorem dX3_isMeet_78 : decode cX3_isMeet 78 = .ok (.iload 4, 2) := by decide +kernel
theorem dX3_isMeet_80 : decode cX3_isMeet 80 = .ok (.iaload, 1) := by decide +kernel
theorem dX3_isMeet_81 : decode cX3_isMeet 81 = .ok (.iload_n 3, 1) := by decide +kernel
theorem dX3_isMeet_82 : decode cX3_isMeet 82 = .ok (.invokestatic 97, 3) := by decide +kernel
theorem dX3_isMeet_85 : decode cX3_isMeet 85 = .ok (.ifCond .eq 5, 3) := by decide +kernel
theorem dX3_isMeet_88 : decode cX3_isMeet 88 = .ok (.iconst 0, 1) := by decide +kernel
theorem dX3_isMeet_89 : decode cX3_isMeet 89 = .ok (.ireturn, 1) := by decide +kernel
theorem dX3_isMeet_90 : decode cX3_isMeet 90 = .ok (.iinc 4 1, 3) := by decide +kernel
theorem dX3_isMeet_93 : decode cX3_isMeet 93 = .ok (.goto (-62), 3) := by decide +kernel
theorem dX3_isMeet_96 : decode cX3_isMeet 96 = .ok (.iconst 1, 1) := by decide +kernel
theorem dX3_isMeet_97 : decode cX3_isMeet 97 = .ok (.ireturn, 1) := by decide +kernel
theorem dX3_meet_0 : decode cX3_meet 0 = .ok (.aload_n 0, 1) := by decide +kernel
theorem dX3_meet_1 : decode cX3_meet 1 = .ok (.iconst 0, 1) := by decide +kernel
theorem dX3_meet_2 : decode cX3_meet 2 = .ok (.putfield 65, 3) := by decide +kernel
theorem dX3_meet_5 : decode cX3_meet 5 = .ok (.aload_n 0, 1) := by decide +kernel
theorem dX3_meet_6 : decode cX3_meet 6 = .ok (.iload_n 1, 1) := by decide +kernel
theorem dX3_meet_7 : decode cX3_meet 7 = .ok (.invokevirtual 87, 3) := by decide +kernel
theorem dX3_meet_10 : decode cX3_meet 10 = .ok (.ifCond .eq 11, 3) := by decide +kernel
theorem dX3_meet_13 : decode cX3_meet 13 = .ok (.aload_n 0, 1) := by decide +kernel
theorem dX3_meet_14 : decode cX3_meet 14 = .ok (.iload_n 2, 1) := by decide +kernel
theorem dX3_meet_15 : decode cX3_meet 15 = .ok (.invokevirtual 87, 3) := by decide +kernel
theorem dX3_meet_18 : decode cX3_meet 18 = .ok (.ifCond .ne 5, 3) := by decide +kernel
theorem dX3_meet_21 : decode cX3_meet 21 = .ok (.iconst (-1), 1) := by decide +kernel
theorem dX3_meet_22 : decode cX3_meet 22 = .ok (.ireturn, 1) := by decide +kernel
theorem dX3_meet_23 : decode cX3_meet 23 = .ok (.iconst 0, 1) := by decide +kernel
theorem dX3_meet_24 : decode cX3_meet 24 = .ok (.istore 4, 2) := by decide +kernel
theorem dX3_meet_26 : decode cX3_meet 26 = .ok (.iconst 0, 1) := by decide +kernel
theorem dX3_meet_27 : decode cX3_meet 27 = .ok (.istore 5, 2) := by decide +kernel
theorem dX3_meet_29 : decode cX3_meet 29 = .ok (.iload 5, 2) := by decide +kernel
theorem dX3_meet_31 : decode cX3_meet 31 = .ok (.aload_n 0, 1) := by decide +kernel
theorem dX3_meet_32 : decode cX3_meet 32 = .ok (.getfield 62, 3) := by decide +kernel
theorem dX3_meet_35 : decode cX3_meet 35 = .ok (.if_icmp .ge 32, 3) := by decide +kernel
theorem dX3_meet_38 : decode cX3_meet 38 = .ok (.aload_n 0, 1) := by decide +kernel
theorem dX3_meet_39 : decode cX3_meet 39 = .ok (.iload 5, 2) := by decide +kernel
theorem dX3_meet_41 : decode cX3_meet 41 = .ok (.iload_n 1, 1) := by decide +kernel
theorem dX3_meet_42 : decode cX3_meet 42 = .ok (.iload_n 2, 1) := by decide +kernel
theorem dX3_meet_43 : decode cX3_meet 43 = .ok (.invokevirtual 101, 3) := by decide +kernel
theorem dX3_meet_46 : decode cX3_meet 46 = .ok (.ifCond .eq 15, 3) := by decide +kernel
theorem dX3_meet_49 : decode cX3_meet 49 = .ok (.iload 4, 2) := by decide +kernel
theorem dX3_meet_51 : decode cX3_meet 51 = .ok (.iload_n 3, 1) := by decide +kernel
theorem dX3_meet_52 : decode cX3_meet 52 = .ok (.if_icmp .ne 6, 3) := by decide +kernel
theorem dX3_meet_55 : decode cX3_meet 55 = .ok (.iload 5, 2) := by decide +kernel
theorem dX3_meet_57 : decode cX3_meet 57 = .ok (.ireturn, 1) := by decide +kernel
theorem dX3_meet_58 : decode cX3_meet 58 = .ok (.iinc 4 1, 3) := by decide +kernel
theorem dX3_meet_61 : decode cX3_meet 61 = .ok (.iinc 5 1, 3) := by decide +kernel
theorem dX3_meet_64 : decode cX3_meet 64 = .ok (.goto (-35), 3) := by decide +kernel
theorem dX3_meet_67 : decode cX3_meet 67 = .ok (.iload_n 3, 1) := by decide +kernel
theorem dX3_meet_68 : decode cX3_meet 68 = .ok (.iconst (-1), 1) := by decide +kernel
theorem dX3_meet_69 : decode cX3_meet 69 = .ok (.if_icmp .ne 8, 3) := by decide +kernel
theorem dX3_meet_72 : decode cX3_meet 72 = .ok (.iload 4, 2) := by decide +kernel
theorem dX3_meet_74 : decode cX3_meet 74 = .ok (.goto 4, 3) := by decide +kernel
theorem dX3_meet_77 : decode cX3_meet 77 = .ok (.iconst (-1), 1) := by decide +kernel
theorem dX3_meet_78 : decode cX3_meet 78 = .ok (.ireturn, 1) := by decide +kernel
theorem dX3_function_0 : decode cX3_function 0 = .ok (.aload_n 0, 1) := by decide +kernel
theorem dX3_function_1 : decode cX3_function 1 = .ok (.iconst 0, 1) := by decide +kernel
theorem dX3_function_2 : decode cX3_function 2 = .ok (.putfield 65, 3) := by decide +kernel
theorem dX3_function_5 : decode cX3_function 5 = .ok (.aload_n 0, 1) := by decide +kernel
theorem dX3_function_6 : decode cX3_function 6 = .ok (.getfield 72, 3) := by decide +kernel
theorem dX3_function_9 : decode cX3_function 9 = .ok (.iconst 4, 1) := by decide +kernel
theorem dX3_function_10 : decode cX3_function 10 = .ok (.if_icmp .eq 12, 3) := by decide +kernel
theorem dX3_function_13 : decode cX3_function 13 = .ok (.iload_n 1, 1) := by decide +kernel
theorem dX3_function_14 : decode cX3_function 14 = .ok (.iconst 1, 1) := by decide +kernel
theorem dX3_function_15 : decode cX3_function 15 = .ok (.iconst 3, 1) := by decide +kernel
theorem dX3_function_16 : decode cX3_function 16 = .ok (.invokestatic 68, 3) := by decide +kernel
theorem dX3_function_19 : decode cX3_function 19 = .ok (.ifCond .ne 5, 3) := by decide +kernel
theorem dX3_function_22 : decode cX3_function 22 = .ok (.iconst (-1), 1) := by decide +kernel
theorem dX3_function_23 : decode cX3_function 23 = .ok (.ireturn, 1) := by decide +kernel
theorem dX3_function_24 : decode cX3_function 24 = .ok (.aload_n 0, 1) := by decide +kernel
theorem dX3_function_25 : decode cX3_function 25 = .ok (.getfield 22, 3) := by decide +kernel
theorem dX3_function_28 : decode cX3_function 28 = .ok (.aload_n 0, 1) := by decide +kernel
theorem dX3_function_29 : decode cX3_function 29 = .ok (.getfield 72, 3) := by decide +kernel
theorem dX3_function_32 : decode cX3_function 32 = .ok (.iload_n 1, 1) := by decide +kernel
theorem dX3_function_33 : decode cX3_function 33 = .ok (.iastore, 1) := by decide +kernel
theorem dX3_function_34 : decode cX3_function 34 = .ok (.iconst 0, 1) := by decide +kernel
theorem dX3_function_35 : decode cX3_function 35 = .ok (.istore_n 2, 1) := by decide +kernel
theorem dX3_function_36 : decode cX3_function 36 = .ok (.iload_n 2, 1) := by decide +kernel
theorem dX3_function_37 : decode cX3_function 37 = .ok (.bipush 12, 2) := by decide +kernel
theorem dX3_function_39 : decode cX3_function 39 = .ok (.if_icmp .ge 24, 3) := by decide +kernel
theorem dX3_function_42 : decode cX3_function 42 = .ok (.aload_n 0, 1) := by decide +kernel
theorem dX3_function_43 : decode cX3_function 43 = .ok (.getfield 25, 3) := by decide +kernel
theorem dX3_function_46 : decode cX3_function 46 = .ok (.bipush 12, 2) := by decide +kernel
theorem dX3_function_48 : decode cX3_function 48 = .ok (.aload_n 0, 1) := by decide +kernel
theorem dX3_function_49 : decode cX3_function 49 = .ok (.getfield 72, 3) := by decide +kernel
theorem dX3_function_52 : decode cX3_function 52 = .ok (.imul, 1) := by decide +kernel
theorem dX3_function_53 : decode cX3_function 53 = .ok (.iload_n 2, 1) := by decide +kernel
theorem dX3_function_54 : decode cX3_function 54 = .ok (.iadd, 1) := by decide +kernel
theorem dX3_function_55 : decode cX3_function 55 = .ok (.iconst (-1), 1) := by decide +kernel
theorem dX3_function_56 : decode cX3_function 56 = .ok (.iastore, 1) := by decide +kernel
theorem dX3_function_57 : decode cX3_function 57 = .ok (.iinc 2 1, 3) := by decide +kernel
theorem dX3_function_60 : decode cX3_function 60 = .ok (.goto (-24), 3) := by decide +kernel
theorem dX3_function_63 : decode cX3_function 63 = .ok (.aload_n 0, 1) := by decide +kernel
theorem dX3_function_64 : decode cX3_function 64 = .ok (.dup, 1) := by decide +kernel
theorem dX3_function_65 : decode cX3_function 65 = .ok (.getfield 72, 3) := by decide +kernel
theorem dX3_function_68 : decode cX3_function 68 = .ok (.iconst 1, 1) := by decide +kernel
theorem dX3_function_69 : decode cX3_function 69 = .ok (.iadd, 1) := by decide +kernel
theorem dX3_function_70 : decode cX3_function 70 = .ok (.putfield 72, 3) := by decide +kernel
theorem dX3_function_73 : decode cX3_function 73 = .ok (.aload_n 0, 1) := by decide +kernel
theorem dX3_function_74 : decode cX3_function 74 = .ok (.getfield 72, 3) := by decide +kernel
theorem dX3_function_77 : decode cX3_function 77 = .ok (.iconst 1, 1) := by decide +kernel
theorem dX3_function_78 : decode cX3_function 78 = .ok (.isub, 1) := by decide +kernel
theorem dX3_function_79 : decode cX3_function 79 = .ok (.ireturn, 1) := by decide +kernel
theorem dX3_digit_0 : decode cX3_digit 0 = .ok (.iload_n 0, 1) := by decide +kernel
theorem dX3_digit_1 : decode cX3_digit 1 = .ok (.iconst 4, 1) := by decide +kernel
theorem dX3_digit_2 : decode cX3_digit 2 = .ok (.iload_n 1, 1) := by decide +kernel
theorem dX3_digit_3 : decode cX3_digit 3 = .ok (.imul, 1) := by decide +kernel
theorem dX3_digit_4 : decode cX3_digit 4 = .ok (.ishr, 1) := by decide +kernel
theorem dX3_digit_5 : decode cX3_digit 5 = .ok (.bipush 15, 2) := by decide +kernel
theorem dX3_digit_7 : decode cX3_digit 7 = .ok (.iand, 1) := by decide +kernel
theorem dX3_digit_8 : decode cX3_digit 8 = .ok (.ireturn, 1) := by decide +kernel
theorem dX3_isCall_0 : decode cX3_isCall 0 = .ok (.aload_n 0, 1) := by decide +kernel
theorem dX3_isCall_1 : decode cX3_isCall 1 = .ok (.iload_n 1, 1) := by decide +kernel
theorem dX3_isCall_2 : decode cX3_isCall 2 = .ok (.invokevirtual 104, 3) := by decide +kernel
theorem dX3_isCall_5 : decode cX3_isCall 5 = .ok (.ifCond .eq 21, 3) := by decide +kernel
theorem dX3_isCall_8 : decode cX3_isCall 8 = .ok (.iload_n 2, 1) := by decide +kernel
theorem dX3_isCall_9 : decode cX3_isCall 9 = .ok (.ifCond .lt 17, 3) := by decide +kernel
theorem dX3_isCall_12 : decode cX3_isCall 12 = .ok (.iload_n 2, 1) := by decide +kernel
theorem dX3_isCall_13 : decode cX3_isCall 13 = .ok (.iconst 1, 1) := by decide +kernel
theorem dX3_isCall_14 : decode cX3_isCall 14 = .ok (.iconst 4, 1) := by decide +kernel
theorem dX3_isCall_15 : decode cX3_isCall 15 = .ok (.aload_n 0, 1) := by decide +kernel
theorem dX3_isCall_16 : decode cX3_isCall 16 = .ok (.getfield 22, 3) := by decide +kernel
theorem dX3_isCall_19 : decode cX3_isCall 19 = .ok (.iload_n 1, 1) := by decide +kernel
theorem dX3_isCall_20 : decode cX3_isCall 20 = .ok (.iaload, 1) := by decide +kernel
theorem dX3_isCall_21 : decode cX3_isCall 21 = .ok (.imul, 1) := by decide +kernel
theorem dX3_isCall_22 : decode cX3_isCall 22 = .ok (.ishl, 1) := by decide +kernel
theorem dX3_isCall_23 : decode cX3_isCall 23 = .ok (.if_icmp .lt 5, 3) := by decide +kernel
theorem dX3_isCall_26 : decode cX3_isCall 26 = .ok (.iconst 0, 1) := by decide +kernel
theorem dX3_isCall_27 : decode cX3_isCall 27 = .ok (.ireturn, 1) := by decide +kernel
theorem dX3_isCall_28 : decode cX3_isCall 28 = .ok (.iconst 0, 1) := by decide +kernel
theorem dX3_isCall_29 : decode cX3_isCall 29 = .ok (.istore_n 3, 1) := by decide +kernel
theorem dX3_isCall_30 : decode cX3_isCall 30 = .ok (.iload_n 3, 1) := by decide +kernel
theorem dX3_isCall_31 : decode cX3_isCall 31 = .ok (.aload_n 0, 1) := by decide +kernel
theorem dX3_isCall_32 : decode cX3_isCall 32 = .ok (.getfield 22, 3) := by decide +kernel
theorem dX3_isCall_35 : decode cX3_isCall 35 = .ok (.iload_n 1, 1) := by decide +kernel
theorem dX3_isCall_36 : decode cX3_isCall 36 = .ok (.iaload, 1) := by decide +kernel
theorem dX3_isCall_37 : decode cX3_isCall 37 = .ok (.if_icmp .ge 23, 3) := by decide +kernel
theorem dX3_isCall_40 : decode cX3_isCall 40 = .ok (.aload_n 0, 1) := by decide +kernel
theorem dX3_isCall_41 : decode cX3_isCall 41 = .ok (.iload_n 2, 1) := by decide +kernel
theorem dX3_isCall_42 : decode cX3_isCall 42 = .ok (.iload_n 3, 1) := by decide +kernel
theorem dX3_isCall_43 : decode cX3_isCall 43 = .ok (.invokestatic 107, 3) := by decide +kernel
theorem dX3_isCall_46 : decode cX3_isCall 46 = .ok (.invokevirtual 87, 3) := by decide +kernel
theorem dX3_isCall_49 : decode cX3_isCall 49 = .ok (.ifCond .ne 5, 3) := by decide +kernel
theorem dX3_isCall_52 : decode cX3_isCall 52 = .ok (.iconst 0, 1) := by decide +kernel
theorem dX3_isCall_53 : decode cX3_isCall 53 = .ok (.ireturn, 1) := by decide +kernel
theorem dX3_isCall_54 : decode cX3_isCall 54 = .ok (.iinc 3 1, 3) := by decide +kernel
theorem dX3_isCall_57 : decode cX3_isCall 57 = .ok (.goto (-27), 3) := by decide +kernel
theorem dX3_isCall_60 : decode cX3_isCall 60 = .ok (.iconst 1, 1) := by decide +kernel
theorem dX3_isCall_61 : decode cX3_isCall 61 = .ok (.ireturn, 1) := by decide +kernel
theorem dX3_areOf_0 : decode cX3_areOf 0 = .ok (.iconst 0, 1) := by decide +kernel
theorem dX3_areOf_1 : decode cX3_areOf 1 = .ok (.istore 4, 2) := by decide +kernel
theorem dX3_areOf_3 : decode cX3_areOf 3 = .ok (.iload 4, 2) := by decide +kernel
theorem dX3_areOf_5 : decode cX3_areOf 5 = .ok (.aload_n 0, 1) := by decide +kernel
theorem dX3_areOf_6 : decode cX3_areOf 6 = .ok (.getfield 22, 3) := by decide +kernel
theorem dX3_areOf_9 : decode cX3_areOf 9 = .ok (.iload_n 1, 1) := by decide +kernel
theorem dX3_areOf_10 : decode cX3_areOf 10 = .ok (.iaload, 1) := by decide +kernel
theorem dX3_areOf_11 : decode cX3_areOf 11 = .ok (.if_icmp .ge 34, 3) := by decide +kernel
theorem dX3_areOf_14 : decode cX3_areOf 14 = .ok (.aload_n 0, 1) := by decide +kernel
theorem dX3_areOf_15 : decode cX3_areOf 15 = .ok (.getfield 7, 3) := by decide +kernel
theorem dX3_areOf_18 : decode cX3_areOf 18 = .ok (.iload_n 2, 1) := by decide +kernel
theorem dX3_areOf_19 : decode cX3_areOf 19 = .ok (.iload 4, 2) := by decide +kernel
theorem dX3_areOf_21 : decode cX3_areOf 21 = .ok (.invokestatic 107, 3) := by decide +kernel
theorem dX3_areOf_24 : decode cX3_areOf 24 = .ok (.iaload, 1) := by decide +kernel
theorem dX3_areOf_25 : decode cX3_areOf 25 = .ok (.iload_n 3, 1) := by decide +kernel
theorem dX3_areOf_26 : decode cX3_areOf 26 = .ok (.iload 4, 2) := by decide +kernel
theorem dX3_areOf_28 : decode cX3_areOf 28 = .ok (.invokestatic 107, 3) := by decide +kernel
theorem dX3_areOf_31 : decode cX3_areOf 31 = .ok (.invokestatic 97, 3) := by decide +kernel
theorem dX3_areOf_34 : decode cX3_areOf 34 = .ok (.ifCond .ne 5, 3) := by decide +kernel
theorem dX3_areOf_37 : decode cX3_areOf 37 = .ok (.iconst 0, 1) := by decide +kernel
theorem dX3_areOf_38 : decode cX3_areOf 38 = .ok (.ireturn, 1) := by decide +kernel
theorem dX3_areOf_39 : decode cX3_areOf 39 = .ok (.iinc 4 1, 3) := by decide +kernel
theorem dX3_areOf_42 : decode cX3_areOf 42 = .ok (.goto (-39), 3) := by decide +kernel
theorem dX3_areOf_45 : decode cX3_areOf 45 = .ok (.iconst 1, 1) := by decide +kernel
theorem dX3_areOf_46 : decode cX3_areOf 46 = .ok (.ireturn, 1) := by decide +kernel
theorem dX3_methodFor_0 : decode cX3_methodFor 0 = .ok (.iconst 0, 1) := by decide +kernel
theorem dX3_methodFor_1 : decode cX3_methodFor 1 = .ok (.istore_n 3, 1) := by decide +kernel
theorem dX3_methodFor_2 : decode cX3_methodFor 2 = .ok (.iload_n 3, 1) := by decide +kernel
theorem dX3_methodFor_3 : decode cX3_methodFor 3 = .ok (.bipush 12, 2) := by decide +kernel
theorem dX3_methodFor_5 : decode cX3_methodFor 5 = .ok (.if_icmp .ge 26, 3) := by decide +kernel
theorem dX3_methodFor_8 : decode cX3_methodFor 8 = .ok (.aload_n 0, 1) := by decide +kernel
theorem dX3_methodFor_9 : decode cX3_methodFor 9 = .ok (.getfield 25, 3) := by decide +kernel
theorem dX3_methodFor_12 : decode cX3_methodFor 12 = .ok (.bipush 12, 2) := by decide +kernel
theorem dX3_methodFor_14 : decode cX3_methodFor 14 = .ok (.iload_n 1, 1) := by decide +kernel
theorem dX3_methodFor_15 : decode cX3_methodFor 15 = .ok (.imul, 1) := by decide +kernel
theorem dX3_methodFor_16 : decode cX3_methodFor 16 = .ok (.iload_n 3, 1) := by decide +kernel
theorem dX3_methodFor_17 : decode cX3_methodFor 17 = .ok (.iadd, 1) := by decide +kernel
theorem dX3_methodFor_18 : decode cX3_methodFor 18 = .ok (.iaload, 1) := by decide +kernel
theorem dX3_methodFor_19 : decode cX3_methodFor 19 = .ok (.iload_n 2, 1) := by decide +kernel
theorem dX3_methodFor_20 : decode cX3_methodFor 20 = .ok (.if_icmp .ne 5, 3) := by decide +kernel
theorem dX3_methodFor_23 : decode cX3_methodFor 23 = .ok (.iload_n 3, 1) := by decide +kernel
theorem dX3_methodFor_24 : decode cX3_methodFor 24 = .ok (.ireturn, 1) := by decide +kernel
theorem dX3_methodFor_25 : decode cX3_methodFor 25 = .ok (.iinc 3 1, 3) := by decide +kernel
theorem dX3_methodFor_28 : decode cX3_methodFor 28 = .ok (.goto (-26), 3) := by decide +kernel
theorem dX3_methodFor_31 : decode cX3_methodFor 31 = .ok (.iconst (-1), 1) := by decide +kernel
theorem dX3_methodFor_32 : decode cX3_methodFor 32 = .ok (.ireturn, 1) := by decide +kernel
theorem dX3_isMethod_0 : decode cX3_isMethod 0 = .ok (.aload_n 0, 1) := by decide +kernel
