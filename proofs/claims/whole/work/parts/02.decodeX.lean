theorem dX1_init_0 : decode cX1_init 0 = .ok (.aload_n 0, 1) := by decide +kernel
theorem dX1_init_1 : decode cX1_init 1 = .ok (.invokespecial 1, 3) := by decide +kernel
theorem dX1_init_4 : decode cX1_init 4 = .ok (.aload_n 0, 1) := by decide +kernel
theorem dX1_init_5 : decode cX1_init 5 = .ok (.getstatic 7, 3) := by decide +kernel
theorem dX1_init_8 : decode cX1_init 8 = .ok (.putfield 13, 3) := by decide +kernel
theorem dX1_init_11 : decode cX1_init 11 = .ok (.return_, 1) := by decide +kernel
theorem dX1_faultIn_0 : decode cX1_faultIn 0 = .ok (.getstatic 18, 3) := by decide +kernel
theorem dX1_faultIn_3 : decode cX1_faultIn 3 = .ok (.aload_n 0, 1) := by decide +kernel
theorem dX1_faultIn_4 : decode cX1_faultIn 4 = .ok (.getfield 13, 3) := by decide +kernel
theorem dX1_faultIn_7 : decode cX1_faultIn 7 = .ok (.invokevirtual 24, 3) := by decide +kernel
theorem dX1_faultIn_10 : decode cX1_faultIn 10 = .ok (.iaload, 1) := by decide +kernel
theorem dX1_faultIn_11 : decode cX1_faultIn 11 = .ok (.tableswitch 98 1 5 #[33, 54, 67, 80, 89], 33) := by decide +kernel
theorem dX1_faultIn_44 : decode cX1_faultIn 44 = .ok (.aload_n 1, 1) := by decide +kernel
theorem dX1_faultIn_45 : decode cX1_faultIn 45 = .ok (.aload_n 0, 1) := by decide +kernel
theorem dX1_faultIn_46 : decode cX1_faultIn 46 = .ok (.getfield 28, 3) := by decide +kernel
theorem dX1_faultIn_49 : decode cX1_faultIn 49 = .ok (.aload_n 0, 1) := by decide +kernel
theorem dX1_faultIn_50 : decode cX1_faultIn 50 = .ok (.getfield 32, 3) := by decide +kernel
theorem dX1_faultIn_53 : decode cX1_faultIn 53 = .ok (.aload_n 0, 1) := by decide +kernel
theorem dX1_faultIn_54 : decode cX1_faultIn 54 = .ok (.getfield 35, 3) := by decide +kernel
theorem dX1_faultIn_57 : decode cX1_faultIn 57 = .ok (.aload_n 0, 1) := by decide +kernel
theorem dX1_faultIn_58 : decode cX1_faultIn 58 = .ok (.getfield 38, 3) := by decide +kernel
theorem dX1_faultIn_61 : decode cX1_faultIn 61 = .ok (.invokevirtual 41, 3) := by decide +kernel
theorem dX1_faultIn_64 : decode cX1_faultIn 64 = .ok (.areturn, 1) := by decide +kernel
theorem dX1_faultIn_65 : decode cX1_faultIn 65 = .ok (.aload_n 1, 1) := by decide +kernel
theorem dX1_faultIn_66 : decode cX1_faultIn 66 = .ok (.aload_n 0, 1) := by decide +kernel
theorem dX1_faultIn_67 : decode cX1_faultIn 67 = .ok (.getfield 32, 3) := by decide +kernel
theorem dX1_faultIn_70 : decode cX1_faultIn 70 = .ok (.aload_n 0, 1) := by decide +kernel
theorem dX1_faultIn_71 : decode cX1_faultIn 71 = .ok (.getfield 35, 3) := by decide +kernel
theorem dX1_faultIn_74 : decode cX1_faultIn 74 = .ok (.invokevirtual 47, 3) := by decide +kernel
theorem dX1_faultIn_77 : decode cX1_faultIn 77 = .ok (.areturn, 1) := by decide +kernel
theorem dX1_faultIn_78 : decode cX1_faultIn 78 = .ok (.aload_n 1, 1) := by decide +kernel
theorem dX1_faultIn_79 : decode cX1_faultIn 79 = .ok (.aload_n 0, 1) := by decide +kernel
theorem dX1_faultIn_80 : decode cX1_faultIn 80 = .ok (.getfield 32, 3) := by decide +kernel
theorem dX1_faultIn_83 : decode cX1_faultIn 83 = .ok (.aload_n 0, 1) := by decide +kernel
theorem dX1_faultIn_84 : decode cX1_faultIn 84 = .ok (.getfield 35, 3) := by decide +kernel
theorem dX1_faultIn_87 : decode cX1_faultIn 87 = .ok (.invokevirtual 51, 3) := by decide +kernel
theorem dX1_faultIn_90 : decode cX1_faultIn 90 = .ok (.areturn, 1) := by decide +kernel
theorem dX1_faultIn_91 : decode cX1_faultIn 91 = .ok (.aload_n 1, 1) := by decide +kernel
theorem dX1_faultIn_92 : decode cX1_faultIn 92 = .ok (.aload_n 0, 1) := by decide +kernel
theorem dX1_faultIn_93 : decode cX1_faultIn 93 = .ok (.getfield 35, 3) := by decide +kernel
theorem dX1_faultIn_96 : decode cX1_faultIn 96 = .ok (.invokevirtual 54, 3) := by decide +kernel
theorem dX1_faultIn_99 : decode cX1_faultIn 99 = .ok (.areturn, 1) := by decide +kernel
theorem dX1_faultIn_100 : decode cX1_faultIn 100 = .ok (.aload_n 1, 1) := by decide +kernel
theorem dX1_faultIn_101 : decode cX1_faultIn 101 = .ok (.aload_n 0, 1) := by decide +kernel
theorem dX1_faultIn_102 : decode cX1_faultIn 102 = .ok (.getfield 35, 3) := by decide +kernel
theorem dX1_faultIn_105 : decode cX1_faultIn 105 = .ok (.invokevirtual 58, 3) := by decide +kernel
theorem dX1_faultIn_108 : decode cX1_faultIn 108 = .ok (.areturn, 1) := by decide +kernel
theorem dX1_faultIn_109 : decode cX1_faultIn 109 = .ok (.aload_n 1, 1) := by decide +kernel
theorem dX1_faultIn_110 : decode cX1_faultIn 110 = .ok (.aload_n 0, 1) := by decide +kernel
theorem dX1_faultIn_111 : decode cX1_faultIn 111 = .ok (.getfield 35, 3) := by decide +kernel
theorem dX1_faultIn_114 : decode cX1_faultIn 114 = .ok (.invokevirtual 61, 3) := by decide +kernel
theorem dX1_faultIn_117 : decode cX1_faultIn 117 = .ok (.areturn, 1) := by decide +kernel
theorem dX1_applyTo_0 : decode cX1_applyTo 0 = .ok (.getstatic 18, 3) := by decide +kernel
theorem dX1_applyTo_3 : decode cX1_applyTo 3 = .ok (.aload_n 0, 1) := by decide +kernel
theorem dX1_applyTo_4 : decode cX1_applyTo 4 = .ok (.getfield 13, 3) := by decide +kernel
theorem dX1_applyTo_7 : decode cX1_applyTo 7 = .ok (.invokevirtual 24, 3) := by decide +kernel
theorem dX1_applyTo_10 : decode cX1_applyTo 10 = .ok (.iaload, 1) := by decide +kernel
theorem dX1_applyTo_11 : decode cX1_applyTo 11 = .ok (.tableswitch 181 1 8 #[89, 113, 129, 145, 157, 45, 69, 169], 45) := by decide +kernel
theorem dX1_applyTo_56 : decode cX1_applyTo 56 = .ok (.aload_n 1, 1) := by decide +kernel
theorem dX1_applyTo_57 : decode cX1_applyTo 57 = .ok (.aload_n 0, 1) := by decide +kernel
theorem dX1_applyTo_58 : decode cX1_applyTo 58 = .ok (.getfield 64, 3) := by decide +kernel
theorem dX1_applyTo_61 : decode cX1_applyTo 61 = .ok (.aload_n 0, 1) := by decide +kernel
theorem dX1_applyTo_62 : decode cX1_applyTo 62 = .ok (.getfield 35, 3) := by decide +kernel
theorem dX1_applyTo_65 : decode cX1_applyTo 65 = .ok (.aload_n 0, 1) := by decide +kernel
theorem dX1_applyTo_66 : decode cX1_applyTo 66 = .ok (.getfield 38, 3) := by decide +kernel
theorem dX1_applyTo_69 : decode cX1_applyTo 69 = .ok (.aload_n 0, 1) := by decide +kernel
theorem dX1_applyTo_70 : decode cX1_applyTo 70 = .ok (.getfield 68, 3) := by decide +kernel
theorem dX1_applyTo_73 : decode cX1_applyTo 73 = .ok (.invokevirtual 71, 3) := by decide +kernel
theorem dX1_applyTo_76 : decode cX1_applyTo 76 = .ok (.pop, 1) := by decide +kernel
theorem dX1_applyTo_77 : decode cX1_applyTo 77 = .ok (.goto 124, 3) := by decide +kernel
theorem dX1_applyTo_80 : decode cX1_applyTo 80 = .ok (.aload_n 1, 1) := by decide +kernel
theorem dX1_applyTo_81 : decode cX1_applyTo 81 = .ok (.aload_n 0, 1) := by decide +kernel
theorem dX1_applyTo_82 : decode cX1_applyTo 82 = .ok (.getfield 64, 3) := by decide +kernel
theorem dX1_applyTo_85 : decode cX1_applyTo 85 = .ok (.aload_n 0, 1) := by decide +kernel
theorem dX1_applyTo_86 : decode cX1_applyTo 86 = .ok (.getfield 35, 3) := by decide +kernel
theorem dX1_applyTo_89 : decode cX1_applyTo 89 = .ok (.aload_n 0, 1) := by decide +kernel
theorem dX1_applyTo_90 : decode cX1_applyTo 90 = .ok (.getfield 38, 3) := by decide +kernel
theorem dX1_applyTo_93 : decode cX1_applyTo 93 = .ok (.invokevirtual 75, 3) := by decide +kernel
theorem dX1_applyTo_96 : decode cX1_applyTo 96 = .ok (.pop, 1) := by decide +kernel
theorem dX1_applyTo_97 : decode cX1_applyTo 97 = .ok (.goto 104, 3) := by decide +kernel
theorem dX1_applyTo_100 : decode cX1_applyTo 100 = .ok (.aload_n 1, 1) := by decide +kernel
theorem dX1_applyTo_101 : decode cX1_applyTo 101 = .ok (.aload_n 0, 1) := by decide +kernel
theorem dX1_applyTo_102 : decode cX1_applyTo 102 = .ok (.getfield 28, 3) := by decide +kernel
theorem dX1_applyTo_105 : decode cX1_applyTo 105 = .ok (.aload_n 0, 1) := by decide +kernel
theorem dX1_applyTo_106 : decode cX1_applyTo 106 = .ok (.getfield 32, 3) := by decide +kernel
theorem dX1_applyTo_109 : decode cX1_applyTo 109 = .ok (.aload_n 0, 1) := by decide +kernel
theorem dX1_applyTo_110 : decode cX1_applyTo 110 = .ok (.getfield 35, 3) := by decide +kernel
theorem dX1_applyTo_113 : decode cX1_applyTo 113 = .ok (.aload_n 0, 1) := by decide +kernel
theorem dX1_applyTo_114 : decode cX1_applyTo 114 = .ok (.getfield 38, 3) := by decide +kernel
theorem dX1_applyTo_117 : decode cX1_applyTo 117 = .ok (.invokevirtual 79, 3) := by decide +kernel
theorem dX1_applyTo_120 : decode cX1_applyTo 120 = .ok (.pop, 1) := by decide +kernel
theorem dX1_applyTo_121 : decode cX1_applyTo 121 = .ok (.goto 80, 3) := by decide +kernel
theorem dX1_applyTo_124 : decode cX1_applyTo 124 = .ok (.aload_n 1, 1) := by decide +kernel
theorem dX1_applyTo_125 : decode cX1_applyTo 125 = .ok (.aload_n 0, 1) := by decide +kernel
theorem dX1_applyTo_126 : decode cX1_applyTo 126 = .ok (.getfield 32, 3) := by decide +kernel
theorem dX1_applyTo_129 : decode cX1_applyTo 129 = .ok (.aload_n 0, 1) := by decide +kernel
theorem dX1_applyTo_130 : decode cX1_applyTo 130 = .ok (.getfield 35, 3) := by decide +kernel
theorem dX1_applyTo_133 : decode cX1_applyTo 133 = .ok (.invokevirtual 83, 3) := by decide +kernel
theorem dX1_applyTo_136 : decode cX1_applyTo 136 = .ok (.pop, 1) := by decide +kernel
theorem dX1_applyTo_137 : decode cX1_applyTo 137 = .ok (.goto 64, 3) := by decide +kernel
theorem dX1_applyTo_140 : decode cX1_applyTo 140 = .ok (.aload_n 1, 1) := by decide +kernel
theorem dX1_applyTo_141 : decode cX1_applyTo 141 = .ok (.aload_n 0, 1) := by decide +kernel
theorem dX1_applyTo_142 : decode cX1_applyTo 142 = .ok (.getfield 32, 3) := by decide +kernel
theorem dX1_applyTo_145 : decode cX1_applyTo 145 = .ok (.aload_n 0, 1) := by decide +kernel
theorem dX1_applyTo_146 : decode cX1_applyTo 146 = .ok (.getfield 35, 3) := by decide +kernel
theorem dX1_applyTo_149 : decode cX1_applyTo 149 = .ok (.invokevirtual 87, 3) := by decide +kernel
theorem dX1_applyTo_152 : decode cX1_applyTo 152 = .ok (.pop, 1) := by decide +kernel
theorem dX1_applyTo_153 : decode cX1_applyTo 153 = .ok (.goto 48, 3) := by decide +kernel
theorem dX1_applyTo_156 : decode cX1_applyTo 156 = .ok (.aload_n 1, 1) := by decide +kernel
theorem dX1_applyTo_157 : decode cX1_applyTo 157 = .ok (.aload_n 0, 1) := by decide +kernel
theorem dX1_applyTo_158 : decode cX1_applyTo 158 = .ok (.getfield 35, 3) := by decide +kernel
theorem dX1_applyTo_161 : decode cX1_applyTo 161 = .ok (.invokevirtual 90, 3) := by decide +kernel
theorem dX1_applyTo_164 : decode cX1_applyTo 164 = .ok (.pop, 1) := by decide +kernel
theorem dX1_applyTo_165 : decode cX1_applyTo 165 = .ok (.goto 36, 3) := by decide +kernel
theorem dX1_applyTo_168 : decode cX1_applyTo 168 = .ok (.aload_n 1, 1) := by decide +kernel
theorem dX1_applyTo_169 : decode cX1_applyTo 169 = .ok (.aload_n 0, 1) := by decide +kernel
theorem dX1_applyTo_170 : decode cX1_applyTo 170 = .ok (.getfield 35, 3) := by decide +kernel
theorem dX1_applyTo_173 : decode cX1_applyTo 173 = .ok (.invokevirtual 94, 3) := by decide +kernel
theorem dX1_applyTo_176 : decode cX1_applyTo 176 = .ok (.pop, 1) := by decide +kernel
theorem dX1_applyTo_177 : decode cX1_applyTo 177 = .ok (.goto 24, 3) := by decide +kernel
theorem dX1_applyTo_180 : decode cX1_applyTo 180 = .ok (.aload_n 1, 1) := by decide +kernel
theorem dX1_applyTo_181 : decode cX1_applyTo 181 = .ok (.aload_n 0, 1) := by decide +kernel
theorem dX1_applyTo_182 : decode cX1_applyTo 182 = .ok (.getfield 35, 3) := by decide +kernel
theorem dX1_applyTo_185 : decode cX1_applyTo 185 = .ok (.invokevirtual 97, 3) := by decide +kernel
theorem dX1_applyTo_188 : decode cX1_applyTo 188 = .ok (.pop, 1) := by decide +kernel
theorem dX1_applyTo_189 : decode cX1_applyTo 189 = .ok (.goto 12, 3) := by decide +kernel
theorem dX1_applyTo_192 : decode cX1_applyTo 192 = .ok (.aload_n 1, 1) := by decide +kernel
theorem dX1_applyTo_193 : decode cX1_applyTo 193 = .ok (.aload_n 0, 1) := by decide +kernel
theorem dX1_applyTo_194 : decode cX1_applyTo 194 = .ok (.getfield 35, 3) := by decide +kernel
theorem dX1_applyTo_197 : decode cX1_applyTo 197 = .ok (.invokevirtual 100, 3) := by decide +kernel
theorem dX1_applyTo_200 : decode cX1_applyTo 200 = .ok (.pop, 1) := by decide +kernel
theorem dX1_applyTo_201 : decode cX1_applyTo 201 = .ok (.return_, 1) := by decide +kernel
theorem dX2_init_0 : decode cX2_init 0 = .ok (.aload_n 0, 1) := by decide +kernel
theorem dX2_init_1 : decode cX2_init 1 = .ok (.invokespecial 3, 3) := by decide +kernel
theorem dX2_init_4 : decode cX2_init 4 = .ok (.return_, 1) := by decide +kernel
theorem dX2_copyFrom_0 : decode cX2_copyFrom 0 = .ok (.aload_n 0, 1) := by decide +kernel
theorem dX2_copyFrom_1 : decode cX2_copyFrom 1 = .ok (.aload_n 1, 1) := by decide +kernel
theorem dX2_copyFrom_2 : decode cX2_copyFrom 2 = .ok (.getfield 9, 3) := by decide +kernel
theorem dX2_copyFrom_5 : decode cX2_copyFrom 5 = .ok (.putfield 9, 3) := by decide +kernel
theorem dX2_copyFrom_8 : decode cX2_copyFrom 8 = .ok (.aload_n 0, 1) := by decide +kernel
theorem dX2_copyFrom_9 : decode cX2_copyFrom 9 = .ok (.aload_n 1, 1) := by decide +kernel
theorem dX2_copyFrom_10 : decode cX2_copyFrom 10 = .ok (.getfield 15, 3) := by decide +kernel
theorem dX2_copyFrom_13 : decode cX2_copyFrom 13 = .ok (.putfield 15, 3) := by decide +kernel
theorem dX2_copyFrom_16 : decode cX2_copyFrom 16 = .ok (.aload_n 0, 1) := by decide +kernel
theorem dX2_copyFrom_17 : decode cX2_copyFrom 17 = .ok (.aload_n 1, 1) := by decide +kernel
theorem dX2_copyFrom_18 : decode cX2_copyFrom 18 = .ok (.getfield 19, 3) := by decide +kernel
theorem dX2_copyFrom_21 : decode cX2_copyFrom 21 = .ok (.putfield 19, 3) := by decide +kernel
theorem dX2_copyFrom_24 : decode cX2_copyFrom 24 = .ok (.aload_n 0, 1) := by decide +kernel
theorem dX2_copyFrom_25 : decode cX2_copyFrom 25 = .ok (.aload_n 1, 1) := by decide +kernel
theorem dX2_copyFrom_26 : decode cX2_copyFrom 26 = .ok (.getfield 22, 3) := by decide +kernel
theorem dX2_copyFrom_29 : decode cX2_copyFrom 29 = .ok (.putfield 22, 3) := by decide +kernel
theorem dX2_copyFrom_32 : decode cX2_copyFrom 32 = .ok (.aload_n 0, 1) := by decide +kernel
theorem dX2_copyFrom_33 : decode cX2_copyFrom 33 = .ok (.aload_n 1, 1) := by decide +kernel
theorem dX2_copyFrom_34 : decode cX2_copyFrom 34 = .ok (.getfield 25, 3) := by decide +kernel
theorem dX2_copyFrom_37 : decode cX2_copyFrom 37 = .ok (.putfield 25, 3) := by decide +kernel
theorem dX2_copyFrom_40 : decode cX2_copyFrom 40 = .ok (.aload_n 0, 1) := by decide +kernel
theorem dX2_copyFrom_41 : decode cX2_copyFrom 41 = .ok (.aload_n 1, 1) := by decide +kernel
theorem dX2_copyFrom_42 : decode cX2_copyFrom 42 = .ok (.getfield 28, 3) := by decide +kernel
theorem dX2_copyFrom_45 : decode cX2_copyFrom 45 = .ok (.putfield 28, 3) := by decide +kernel
theorem dX2_copyFrom_48 : decode cX2_copyFrom 48 = .ok (.aload_n 0, 1) := by decide +kernel
theorem dX2_copyFrom_49 : decode cX2_copyFrom 49 = .ok (.aload_n 1, 1) := by decide +kernel
theorem dX2_copyFrom_50 : decode cX2_copyFrom 50 = .ok (.getfield 31, 3) := by decide +kernel
theorem dX2_copyFrom_53 : decode cX2_copyFrom 53 = .ok (.putfield 31, 3) := by decide +kernel
theorem dX2_copyFrom_56 : decode cX2_copyFrom 56 = .ok (.return_, 1) := by decide +kernel
theorem dX2_hasAnger_0 : decode cX2_hasAnger 0 = .ok (.aload_n 0, 1) := by decide +kernel
theorem dX2_hasAnger_1 : decode cX2_hasAnger 1 = .ok (.getfield 25, 3) := by decide +kernel
theorem dX2_hasAnger_4 : decode cX2_hasAnger 4 = .ok (.iconst 3, 1) := by decide +kernel
theorem dX2_hasAnger_5 : decode cX2_hasAnger 5 = .ok (.if_icmp .lt 7, 3) := by decide +kernel
theorem dX2_hasAnger_8 : decode cX2_hasAnger 8 = .ok (.iconst 1, 1) := by decide +kernel
theorem dX2_hasAnger_9 : decode cX2_hasAnger 9 = .ok (.goto 4, 3) := by decide +kernel
theorem dX2_hasAnger_12 : decode cX2_hasAnger 12 = .ok (.iconst 0, 1) := by decide +kernel
theorem dX2_hasAnger_13 : decode cX2_hasAnger 13 = .ok (.ireturn, 1) := by decide +kernel
theorem dX3_init_0 : decode cX3_init 0 = .ok (.aload_n 0, 1) := by decide +kernel
theorem dX3_init_1 : decode cX3_init 1 = .ok (.invokespecial 3, 3) := by decide +kernel
theorem dX3_init_4 : decode cX3_init 4 = .ok (.aload_n 0, 1) := by decide +kernel
theorem dX3_init_5 : decode cX3_init 5 = .ok (.new 9, 3) := by decide +kernel
theorem dX3_init_8 : decode cX3_init 8 = .ok (.dup, 1) := by decide +kernel
theorem dX3_init_9 : decode cX3_init 9 = .ok (.invokespecial 11, 3) := by decide +kernel
theorem dX3_init_12 : decode cX3_init 12 = .ok (.putfield 12, 3) := by decide +kernel
theorem dX3_init_15 : decode cX3_init 15 = .ok (.return_, 1) := by decide +kernel
theorem dX3_read_0 : decode cX3_read 0 = .ok (.aload_n 2, 1) := by decide +kernel
theorem dX3_read_1 : decode cX3_read 1 = .ok (.invokevirtual 18, 3) := by decide +kernel
theorem dX3_read_4 : decode cX3_read 4 = .ok (.aload_n 1, 1) := by decide +kernel
theorem dX3_read_5 : decode cX3_read 5 = .ok (.invokevirtual 23, 3) := by decide +kernel
theorem dX3_read_8 : decode cX3_read 8 = .ok (.aload_n 1, 1) := by decide +kernel
theorem dX3_read_9 : decode cX3_read 9 = .ok (.aload_n 1, 1) := by decide +kernel
theorem dX3_read_10 : decode cX3_read 10 = .ok (.invokevirtual 28, 3) := by decide +kernel
theorem dX3_read_13 : decode cX3_read 13 = .ok (.getstatic 32, 3) := by decide +kernel
theorem dX3_read_16 : decode cX3_read 16 = .ok (.if_acmp .eq 7, 3) := by decide +kernel
theorem dX3_read_19 : decode cX3_read 19 = .ok (.iconst 1, 1) := by decide +kernel
theorem dX3_read_20 : decode cX3_read 20 = .ok (.goto 4, 3) := by decide +kernel
theorem dX3_read_23 : decode cX3_read 23 = .ok (.iconst 0, 1) := by decide +kernel
theorem dX3_read_24 : decode cX3_read 24 = .ok (.iconst 1, 1) := by decide +kernel
theorem dX3_read_25 : decode cX3_read 25 = .ok (.invokevirtual 38, 3) := by decide +kernel
theorem dX3_read_28 : decode cX3_read 28 = .ok (.aload_n 1, 1) := by decide +kernel
theorem dX3_read_29 : decode cX3_read 29 = .ok (.invokevirtual 42, 3) := by decide +kernel
theorem dX3_read_32 : decode cX3_read 32 = .ok (.aload_n 1, 1) := by decide +kernel
theorem dX3_read_33 : decode cX3_read 33 = .ok (.bipush 59, 2) := by decide +kernel
theorem dX3_read_35 : decode cX3_read 35 = .ok (.invokevirtual 45, 3) := by decide +kernel
theorem dX3_read_38 : decode cX3_read 38 = .ok (.iconst 0, 1) := by decide +kernel
theorem dX3_read_39 : decode cX3_read 39 = .ok (.istore_n 3, 1) := by decide +kernel
theorem dX3_read_40 : decode cX3_read 40 = .ok (.iload_n 3, 1) := by decide +kernel
theorem dX3_read_41 : decode cX3_read 41 = .ok (.sipush 600, 3) := by decide +kernel
theorem dX3_read_44 : decode cX3_read 44 = .ok (.if_icmp .ge 43, 3) := by decide +kernel
theorem dX3_read_47 : decode cX3_read 47 = .ok (.aload_n 1, 1) := by decide +kernel
theorem dX3_read_48 : decode cX3_read 48 = .ok (.invokevirtual 49, 3) := by decide +kernel
theorem dX3_read_51 : decode cX3_read 51 = .ok (.ifCond .eq 36, 3) := by decide +kernel
theorem dX3_read_54 : decode cX3_read 54 = .ok (.aload_n 0, 1) := by decide +kernel
theorem dX3_read_55 : decode cX3_read 55 = .ok (.aload_n 1, 1) := by decide +kernel
theorem dX3_read_56 : decode cX3_read 56 = .ok (.aload_n 2, 1) := by decide +kernel
theorem dX3_read_57 : decode cX3_read 57 = .ok (.invokevirtual 53, 3) := by decide +kernel
theorem dX3_read_60 : decode cX3_read 60 = .ok (.aload_n 1, 1) := by decide +kernel
theorem dX3_read_61 : decode cX3_read 61 = .ok (.bipush 59, 2) := by decide +kernel
theorem dX3_read_63 : decode cX3_read 63 = .ok (.invokevirtual 45, 3) := by decide +kernel
theorem dX3_read_66 : decode cX3_read 66 = .ok (.aload_n 1, 1) := by decide +kernel
theorem dX3_read_67 : decode cX3_read 67 = .ok (.invokevirtual 57, 3) := by decide +kernel
theorem dX3_read_70 : decode cX3_read 70 = .ok (.ifCond .ne 11, 3) := by decide +kernel
theorem dX3_read_73 : decode cX3_read 73 = .ok (.aload_n 0, 1) := by decide +kernel
theorem dX3_read_74 : decode cX3_read 74 = .ok (.getfield 12, 3) := by decide +kernel
theorem dX3_read_77 : decode cX3_read 77 = .ok (.aload_n 2, 1) := by decide +kernel
theorem dX3_read_78 : decode cX3_read 78 = .ok (.invokevirtual 60, 3) := by decide +kernel
theorem dX3_read_81 : decode cX3_read 81 = .ok (.iinc 3 1, 3) := by decide +kernel
theorem dX3_read_84 : decode cX3_read 84 = .ok (.goto (-44), 3) := by decide +kernel
theorem dX3_read_87 : decode cX3_read 87 = .ok (.aload_n 1, 1) := by decide +kernel
theorem dX3_read_88 : decode cX3_read 88 = .ok (.invokevirtual 57, 3) := by decide +kernel
theorem dX3_read_91 : decode cX3_read 91 = .ok (.ifCond .ne 7, 3) := by decide +kernel
theorem dX3_read_94 : decode cX3_read 94 = .ok (.iconst 1, 1) := by decide +kernel
theorem dX3_read_95 : decode cX3_read 95 = .ok (.goto 4, 3) := by decide +kernel
theorem dX3_read_98 : decode cX3_read 98 = .ok (.iconst 0, 1) := by decide +kernel
theorem dX3_read_99 : decode cX3_read 99 = .ok (.ireturn, 1) := by decide +kernel
theorem dX3_readStatement_0 : decode cX3_readStatement 0 = .ok (.aload_n 0, 1) := by decide +kernel
theorem dX3_readStatement_1 : decode cX3_readStatement 1 = .ok (.getfield 12, 3) := by decide +kernel
theorem dX3_readStatement_4 : decode cX3_readStatement 4 = .ok (.aload_n 1, 1) := by decide +kernel
theorem dX3_readStatement_5 : decode cX3_readStatement 5 = .ok (.invokevirtual 28, 3) := by decide +kernel
theorem dX3_readStatement_8 : decode cX3_readStatement 8 = .ok (.putfield 64, 3) := by decide +kernel
theorem dX3_readStatement_11 : decode cX3_readStatement 11 = .ok (.aload_n 1, 1) := by decide +kernel
theorem dX3_readStatement_12 : decode cX3_readStatement 12 = .ok (.aload_n 0, 1) := by decide +kernel
theorem dX3_readStatement_13 : decode cX3_readStatement 13 = .ok (.getfield 12, 3) := by decide +kernel
theorem dX3_readStatement_16 : decode cX3_readStatement 16 = .ok (.getfield 64, 3) := by decide +kernel
theorem dX3_readStatement_19 : decode cX3_readStatement 19 = .ok (.getfield 66, 3) := by decide +kernel
theorem dX3_readStatement_22 : decode cX3_readStatement 22 = .ok (.ifCond .ne 7, 3) := by decide +kernel
theorem dX3_readStatement_25 : decode cX3_readStatement 25 = .ok (.iconst 1, 1) := by decide +kernel
theorem dX3_readStatement_26 : decode cX3_readStatement 26 = .ok (.goto 4, 3) := by decide +kernel
theorem dX3_readStatement_29 : decode cX3_readStatement 29 = .ok (.iconst 0, 1) := by decide +kernel
theorem dX3_readStatement_30 : decode cX3_readStatement 30 = .ok (.iconst 1, 1) := by decide +kernel
theorem dX3_readStatement_31 : decode cX3_readStatement 31 = .ok (.invokevirtual 38, 3) := by decide +kernel
theorem dX3_readStatement_34 : decode cX3_readStatement 34 = .ok (.aload_n 1, 1) := by decide +kernel
theorem dX3_readStatement_35 : decode cX3_readStatement 35 = .ok (.aload_n 0, 1) := by decide +kernel
theorem dX3_readStatement_36 : decode cX3_readStatement 36 = .ok (.getfield 12, 3) := by decide +kernel
theorem dX3_readStatement_39 : decode cX3_readStatement 39 = .ok (.getfield 64, 3) := by decide +kernel
theorem dX3_readStatement_42 : decode cX3_readStatement 42 = .ok (.getstatic 70, 3) := by decide +kernel
theorem dX3_readStatement_45 : decode cX3_readStatement 45 = .ok (.if_acmp .ne 16, 3) := by decide +kernel
theorem dX3_readStatement_48 : decode cX3_readStatement 48 = .ok (.aload_n 2, 1) := by decide +kernel
theorem dX3_readStatement_49 : decode cX3_readStatement 49 = .ok (.getfield 73, 3) := by decide +kernel
theorem dX3_readStatement_52 : decode cX3_readStatement 52 = .ok (.bipush 8, 2) := by decide +kernel
theorem dX3_readStatement_54 : decode cX3_readStatement 54 = .ok (.if_icmp .lt 7, 3) := by decide +kernel
theorem dX3_readStatement_57 : decode cX3_readStatement 57 = .ok (.iconst 1, 1) := by decide +kernel
theorem dX3_readStatement_58 : decode cX3_readStatement 58 = .ok (.goto 4, 3) := by decide +kernel
theorem dX3_readStatement_61 : decode cX3_readStatement 61 = .ok (.iconst 0, 1) := by decide +kernel
theorem dX3_readStatement_62 : decode cX3_readStatement 62 = .ok (.iconst 5, 1) := by decide +kernel
theorem dX3_readStatement_63 : decode cX3_readStatement 63 = .ok (.invokevirtual 38, 3) := by decide +kernel
theorem dX3_readStatement_66 : decode cX3_readStatement 66 = .ok (.aload_n 1, 1) := by decide +kernel
theorem dX3_readStatement_67 : decode cX3_readStatement 67 = .ok (.aload_n 0, 1) := by decide +kernel
theorem dX3_readStatement_68 : decode cX3_readStatement 68 = .ok (.getfield 12, 3) := by decide +kernel
theorem dX3_readStatement_71 : decode cX3_readStatement 71 = .ok (.getfield 64, 3) := by decide +kernel
theorem dX3_readStatement_74 : decode cX3_readStatement 74 = .ok (.getstatic 77, 3) := by decide +kernel
theorem dX3_readStatement_77 : decode cX3_readStatement 77 = .ok (.if_acmp .ne 16, 3) := by decide +kernel
theorem dX3_readStatement_80 : decode cX3_readStatement 80 = .ok (.aload_n 2, 1) := by decide +kernel
theorem dX3_readStatement_81 : decode cX3_readStatement 81 = .ok (.getfield 80, 3) := by decide +kernel
theorem dX3_readStatement_84 : decode cX3_readStatement 84 = .ok (.bipush 8, 2) := by decide +kernel
theorem dX3_readStatement_86 : decode cX3_readStatement 86 = .ok (.if_icmp .lt 7, 3) := by decide +kernel
theorem dX3_readStatement_89 : decode cX3_readStatement 89 = .ok (.iconst 1, 1) := by decide +kernel
theorem dX3_readStatement_90 : decode cX3_readStatement 90 = .ok (.goto 4, 3) := by decide +kernel
theorem dX3_readStatement_93 : decode cX3_readStatement 93 = .ok (.iconst 0, 1) := by decide +kernel
theorem dX3_readStatement_94 : decode cX3_readStatement 94 = .ok (.iconst 5, 1) := by decide +kernel
theorem dX3_readStatement_95 : decode cX3_readStatement 95 = .ok (.invokevirtual 38, 3) := by decide +kernel
theorem dX3_readStatement_98 : decode cX3_readStatement 98 = .ok (.aload_n 1, 1) := by decide +kernel
theorem dX3_readStatement_99 : decode cX3_readStatement 99 = .ok (.invokevirtual 42, 3) := by decide +kernel
theorem dX3_readStatement_102 : decode cX3_readStatement 102 = .ok (.getstatic 83, 3) := by decide +kernel
theorem dX3_readStatement_105 : decode cX3_readStatement 105 = .ok (.aload_n 0, 1) := by decide +kernel
theorem dX3_readStatement_106 : decode cX3_readStatement 106 = .ok (.getfield 12, 3) := by decide +kernel
theorem dX3_readStatement_109 : decode cX3_readStatement 109 = .ok (.getfield 64, 3) := by decide +kernel
theorem dX3_readStatement_112 : decode cX3_readStatement 112 = .ok (.invokevirtual 89, 3) := by decide +kernel
theorem dX3_readStatement_115 : decode cX3_readStatement 115 = .ok (.iaload, 1) := by decide +kernel
theorem dX3_readStatement_116 : decode cX3_readStatement 116 = .ok (.tableswitch 168 1 8 #[66, 75, 104, 133, 150, 48, 57, 159], 48) := by decide +kernel
theorem dX3_readStatement_164 : decode cX3_readStatement 164 = .ok (.aload_n 0, 1) := by decide +kernel
theorem dX3_readStatement_165 : decode cX3_readStatement 165 = .ok (.aload_n 1, 1) := by decide +kernel
theorem dX3_readStatement_166 : decode cX3_readStatement 166 = .ok (.aload_n 2, 1) := by decide +kernel
theorem dX3_readStatement_167 : decode cX3_readStatement 167 = .ok (.invokevirtual 93, 3) := by decide +kernel
theorem dX3_readStatement_170 : decode cX3_readStatement 170 = .ok (.goto 114, 3) := by decide +kernel
theorem dX3_readStatement_173 : decode cX3_readStatement 173 = .ok (.aload_n 0, 1) := by decide +kernel
theorem dX3_readStatement_174 : decode cX3_readStatement 174 = .ok (.aload_n 1, 1) := by decide +kernel
theorem dX3_readStatement_175 : decode cX3_readStatement 175 = .ok (.aload_n 2, 1) := by decide +kernel
theorem dX3_readStatement_176 : decode cX3_readStatement 176 = .ok (.invokevirtual 96, 3) := by decide +kernel
theorem dX3_readStatement_179 : decode cX3_readStatement 179 = .ok (.goto 105, 3) := by decide +kernel
theorem dX3_readStatement_182 : decode cX3_readStatement 182 = .ok (.aload_n 0, 1) := by decide +kernel
theorem dX3_readStatement_183 : decode cX3_readStatement 183 = .ok (.aload_n 1, 1) := by decide +kernel
theorem dX3_readStatement_184 : decode cX3_readStatement 184 = .ok (.aload_n 2, 1) := by decide +kernel
theorem dX3_readStatement_185 : decode cX3_readStatement 185 = .ok (.invokevirtual 99, 3) := by decide +kernel
theorem dX3_readStatement_188 : decode cX3_readStatement 188 = .ok (.goto 96, 3) := by decide +kernel
theorem dX3_readStatement_191 : decode cX3_readStatement 191 = .ok (.aload_n 0, 1) := by decide +kernel
theorem dX3_readStatement_192 : decode cX3_readStatement 192 = .ok (.getfield 12, 3) := by decide +kernel
theorem dX3_readStatement_195 : decode cX3_readStatement 195 = .ok (.aload_n 1, 1) := by decide +kernel
theorem dX3_readStatement_196 : decode cX3_readStatement 196 = .ok (.aload_n 2, 1) := by decide +kernel
theorem dX3_readStatement_197 : decode cX3_readStatement 197 = .ok (.invokevirtual 102, 3) := by decide +kernel
theorem dX3_readStatement_200 : decode cX3_readStatement 200 = .ok (.putfield 106, 3) := by decide +kernel
theorem dX3_readStatement_203 : decode cX3_readStatement 203 = .ok (.aload_n 0, 1) := by decide +kernel
theorem dX3_readStatement_204 : decode cX3_readStatement 204 = .ok (.getfield 12, 3) := by decide +kernel
theorem dX3_readStatement_207 : decode cX3_readStatement 207 = .ok (.aload_n 1, 1) := by decide +kernel
theorem dX3_readStatement_208 : decode cX3_readStatement 208 = .ok (.iconst 0, 1) := by decide +kernel
theorem dX3_readStatement_209 : decode cX3_readStatement 209 = .ok (.bipush 9, 2) := by decide +kernel
theorem dX3_readStatement_211 : decode cX3_readStatement 211 = .ok (.invokevirtual 109, 3) := by decide +kernel
theorem dX3_readStatement_214 : decode cX3_readStatement 214 = .ok (.putfield 113, 3) := by decide +kernel
theorem dX3_readStatement_217 : decode cX3_readStatement 217 = .ok (.goto 67, 3) := by decide +kernel
theorem dX3_readStatement_220 : decode cX3_readStatement 220 = .ok (.aload_n 0, 1) := by decide +kernel
theorem dX3_readStatement_221 : decode cX3_readStatement 221 = .ok (.getfield 12, 3) := by decide +kernel
theorem dX3_readStatement_224 : decode cX3_readStatement 224 = .ok (.aload_n 1, 1) := by decide +kernel
theorem dX3_readStatement_225 : decode cX3_readStatement 225 = .ok (.aload_n 2, 1) := by decide +kernel
theorem dX3_readStatement_226 : decode cX3_readStatement 226 = .ok (.invokevirtual 102, 3) := by decide +kernel
theorem dX3_readStatement_229 : decode cX3_readStatement 229 = .ok (.putfield 106, 3) := by decide +kernel
theorem dX3_readStatement_232 : decode cX3_readStatement 232 = .ok (.aload_n 0, 1) := by decide +kernel
theorem dX3_readStatement_233 : decode cX3_readStatement 233 = .ok (.getfield 12, 3) := by decide +kernel
theorem dX3_readStatement_236 : decode cX3_readStatement 236 = .ok (.aload_n 1, 1) := by decide +kernel
theorem dX3_readStatement_237 : decode cX3_readStatement 237 = .ok (.iconst 1, 1) := by decide +kernel
theorem dX3_readStatement_238 : decode cX3_readStatement 238 = .ok (.bipush 99, 2) := by decide +kernel
theorem dX3_readStatement_240 : decode cX3_readStatement 240 = .ok (.invokevirtual 109, 3) := by decide +kernel
theorem dX3_readStatement_243 : decode cX3_readStatement 243 = .ok (.putfield 113, 3) := by decide +kernel
theorem dX3_readStatement_246 : decode cX3_readStatement 246 = .ok (.goto 38, 3) := by decide +kernel
theorem dX3_readStatement_249 : decode cX3_readStatement 249 = .ok (.aload_n 0, 1) := by decide +kernel
theorem dX3_readStatement_250 : decode cX3_readStatement 250 = .ok (.getfield 12, 3) := by decide +kernel
theorem dX3_readStatement_253 : decode cX3_readStatement 253 = .ok (.aload_n 1, 1) := by decide +kernel
theorem dX3_readStatement_254 : decode cX3_readStatement 254 = .ok (.iconst 0, 1) := by decide +kernel
theorem dX3_readStatement_255 : decode cX3_readStatement 255 = .ok (.bipush 20, 2) := by decide +kernel
theorem dX3_readStatement_257 : decode cX3_readStatement 257 = .ok (.invokevirtual 109, 3) := by decide +kernel
theorem dX3_readStatement_260 : decode cX3_readStatement 260 = .ok (.putfield 113, 3) := by decide +kernel
theorem dX3_readStatement_263 : decode cX3_readStatement 263 = .ok (.goto 21, 3) := by decide +kernel
theorem dX3_readStatement_266 : decode cX3_readStatement 266 = .ok (.aload_n 0, 1) := by decide +kernel
theorem dX3_readStatement_267 : decode cX3_readStatement 267 = .ok (.aload_n 1, 1) := by decide +kernel
theorem dX3_readStatement_268 : decode cX3_readStatement 268 = .ok (.aload_n 2, 1) := by decide +kernel
theorem dX3_readStatement_269 : decode cX3_readStatement 269 = .ok (.invokevirtual 116, 3) := by decide +kernel
theorem dX3_readStatement_272 : decode cX3_readStatement 272 = .ok (.goto 12, 3) := by decide +kernel
theorem dX3_readStatement_275 : decode cX3_readStatement 275 = .ok (.aload_n 0, 1) := by decide +kernel
theorem dX3_readStatement_276 : decode cX3_readStatement 276 = .ok (.aload_n 1, 1) := by decide +kernel
theorem dX3_readStatement_277 : decode cX3_readStatement 277 = .ok (.aload_n 2, 1) := by decide +kernel
theorem dX3_readStatement_278 : decode cX3_readStatement 278 = .ok (.invokevirtual 119, 3) := by decide +kernel
theorem dX3_readStatement_281 : decode cX3_readStatement 281 = .ok (.goto 3, 3) := by decide +kernel
theorem dX3_readStatement_284 : decode cX3_readStatement 284 = .ok (.return_, 1) := by decide +kernel
theorem dX3_readValley_0 : decode cX3_readValley 0 = .ok (.aload_n 0, 1) := by decide +kernel
theorem dX3_readValley_1 : decode cX3_readValley 1 = .ok (.getfield 12, 3) := by decide +kernel
theorem dX3_readValley_4 : decode cX3_readValley 4 = .ok (.aload_n 1, 1) := by decide +kernel
theorem dX3_readValley_5 : decode cX3_readValley 5 = .ok (.aload_n 2, 1) := by decide +kernel
theorem dX3_readValley_6 : decode cX3_readValley 6 = .ok (.aload_n 1, 1) := by decide +kernel
theorem dX3_readValley_7 : decode cX3_readValley 7 = .ok (.invokevirtual 122, 3) := by decide +kernel
theorem dX3_readValley_10 : decode cX3_readValley 10 = .ok (.invokevirtual 126, 3) := by decide +kernel
theorem dX3_readValley_13 : decode cX3_readValley 13 = .ok (.invokevirtual 130, 3) := by decide +kernel
theorem dX3_readValley_16 : decode cX3_readValley 16 = .ok (.putfield 134, 3) := by decide +kernel
theorem dX3_readValley_19 : decode cX3_readValley 19 = .ok (.aload_n 0, 1) := by decide +kernel
theorem dX3_readValley_20 : decode cX3_readValley 20 = .ok (.getfield 12, 3) := by decide +kernel
theorem dX3_readValley_23 : decode cX3_readValley 23 = .ok (.aload_n 1, 1) := by decide +kernel
theorem dX3_readValley_24 : decode cX3_readValley 24 = .ok (.iconst 1, 1) := by decide +kernel
theorem dX3_readValley_25 : decode cX3_readValley 25 = .ok (.bipush 60, 2) := by decide +kernel
theorem dX3_readValley_27 : decode cX3_readValley 27 = .ok (.invokevirtual 109, 3) := by decide +kernel
theorem dX3_readValley_30 : decode cX3_readValley 30 = .ok (.putfield 113, 3) := by decide +kernel
theorem dX3_readValley_33 : decode cX3_readValley 33 = .ok (.aload_n 0, 1) := by decide +kernel
theorem dX3_readValley_34 : decode cX3_readValley 34 = .ok (.getfield 12, 3) := by decide +kernel
theorem dX3_readValley_37 : decode cX3_readValley 37 = .ok (.aload_n 1, 1) := by decide +kernel
theorem dX3_readValley_38 : decode cX3_readValley 38 = .ok (.iconst 1, 1) := by decide +kernel
theorem dX3_readValley_39 : decode cX3_readValley 39 = .ok (.iconst 4, 1) := by decide +kernel
theorem dX3_readValley_40 : decode cX3_readValley 40 = .ok (.invokevirtual 109, 3) := by decide +kernel
theorem dX3_readValley_43 : decode cX3_readValley 43 = .ok (.putfield 138, 3) := by decide +kernel
theorem dX3_readValley_46 : decode cX3_readValley 46 = .ok (.aload_n 0, 1) := by decide +kernel
theorem dX3_readValley_47 : decode cX3_readValley 47 = .ok (.getfield 12, 3) := by decide +kernel
theorem dX3_readValley_50 : decode cX3_readValley 50 = .ok (.aload_n 1, 1) := by decide +kernel
theorem dX3_readValley_51 : decode cX3_readValley 51 = .ok (.iconst 1, 1) := by decide +kernel
theorem dX3_readValley_52 : decode cX3_readValley 52 = .ok (.bipush 99, 2) := by decide +kernel
theorem dX3_readValley_54 : decode cX3_readValley 54 = .ok (.invokevirtual 109, 3) := by decide +kernel
theorem dX3_readValley_57 : decode cX3_readValley 57 = .ok (.putfield 141, 3) := by decide +kernel
theorem dX3_readValley_60 : decode cX3_readValley 60 = .ok (.return_, 1) := by decide +kernel
theorem dX3_readCustomer_0 : decode cX3_readCustomer 0 = .ok (.aload_n 0, 1) := by decide +kernel
theorem dX3_readCustomer_1 : decode cX3_readCustomer 1 = .ok (.getfield 12, 3) := by decide +kernel
theorem dX3_readCustomer_4 : decode cX3_readCustomer 4 = .ok (.aload_n 1, 1) := by decide +kernel
theorem dX3_readCustomer_5 : decode cX3_readCustomer 5 = .ok (.aload_n 2, 1) := by decide +kernel
theorem dX3_readCustomer_6 : decode cX3_readCustomer 6 = .ok (.aload_n 1, 1) := by decide +kernel
theorem dX3_readCustomer_7 : decode cX3_readCustomer 7 = .ok (.invokevirtual 122, 3) := by decide +kernel
theorem dX3_readCustomer_10 : decode cX3_readCustomer 10 = .ok (.invokevirtual 144, 3) := by decide +kernel
theorem dX3_readCustomer_13 : decode cX3_readCustomer 13 = .ok (.invokevirtual 130, 3) := by decide +kernel
theorem dX3_readCustomer_16 : decode cX3_readCustomer 16 = .ok (.putfield 134, 3) := by decide +kernel
theorem dX3_readCustomer_19 : decode cX3_readCustomer 19 = .ok (.aload_n 0, 1) := by decide +kernel
theorem dX3_readCustomer_20 : decode cX3_readCustomer 20 = .ok (.getfield 12, 3) := by decide +kernel
theorem dX3_readCustomer_23 : decode cX3_readCustomer 23 = .ok (.aload_n 1, 1) := by decide +kernel
theorem dX3_readCustomer_24 : decode cX3_readCustomer 24 = .ok (.iconst 1, 1) := by decide +kernel
theorem dX3_readCustomer_25 : decode cX3_readCustomer 25 = .ok (.sipush 240, 3) := by decide +kernel
theorem dX3_readCustomer_28 : decode cX3_readCustomer 28 = .ok (.invokevirtual 109, 3) := by decide +kernel
theorem dX3_readCustomer_31 : decode cX3_readCustomer 31 = .ok (.putfield 113, 3) := by decide +kernel
theorem dX3_readCustomer_34 : decode cX3_readCustomer 34 = .ok (.aload_n 0, 1) := by decide +kernel
theorem dX3_readCustomer_35 : decode cX3_readCustomer 35 = .ok (.getfield 12, 3) := by decide +kernel
theorem dX3_readCustomer_38 : decode cX3_readCustomer 38 = .ok (.aload_n 1, 1) := by decide +kernel
theorem dX3_readCustomer_39 : decode cX3_readCustomer 39 = .ok (.iconst 0, 1) := by decide +kernel
theorem dX3_readCustomer_40 : decode cX3_readCustomer 40 = .ok (.sipush 9999, 3) := by decide +kernel
theorem dX3_readCustomer_43 : decode cX3_readCustomer 43 = .ok (.invokevirtual 109, 3) := by decide +kernel
theorem dX3_readCustomer_46 : decode cX3_readCustomer 46 = .ok (.putfield 138, 3) := by decide +kernel
theorem dX3_readCustomer_49 : decode cX3_readCustomer 49 = .ok (.return_, 1) := by decide +kernel
theorem dX3_readShout_0 : decode cX3_readShout 0 = .ok (.aload_n 0, 1) := by decide +kernel
theorem dX3_readShout_1 : decode cX3_readShout 1 = .ok (.getfield 12, 3) := by decide +kernel
theorem dX3_readShout_4 : decode cX3_readShout 4 = .ok (.aload_n 1, 1) := by decide +kernel
theorem dX3_readShout_5 : decode cX3_readShout 5 = .ok (.aload_n 2, 1) := by decide +kernel
theorem dX3_readShout_6 : decode cX3_readShout 6 = .ok (.invokevirtual 147, 3) := by decide +kernel
theorem dX3_readShout_9 : decode cX3_readShout 9 = .ok (.putfield 150, 3) := by decide +kernel
theorem dX3_readShout_12 : decode cX3_readShout 12 = .ok (.aload_n 0, 1) := by decide +kernel
theorem dX3_readShout_13 : decode cX3_readShout 13 = .ok (.getfield 12, 3) := by decide +kernel
theorem dX3_readShout_16 : decode cX3_readShout 16 = .ok (.aload_n 1, 1) := by decide +kernel
theorem dX3_readShout_17 : decode cX3_readShout 17 = .ok (.aload_n 2, 1) := by decide +kernel
theorem dX3_readShout_18 : decode cX3_readShout 18 = .ok (.invokevirtual 102, 3) := by decide +kernel
theorem dX3_readShout_21 : decode cX3_readShout 21 = .ok (.putfield 106, 3) := by decide +kernel
theorem dX3_readShout_24 : decode cX3_readShout 24 = .ok (.aload_n 0, 1) := by decide +kernel
theorem dX3_readShout_25 : decode cX3_readShout 25 = .ok (.getfield 12, 3) := by decide +kernel
theorem dX3_readShout_28 : decode cX3_readShout 28 = .ok (.aload_n 1, 1) := by decide +kernel
theorem dX3_readShout_29 : decode cX3_readShout 29 = .ok (.iconst 1, 1) := by decide +kernel
theorem dX3_readShout_30 : decode cX3_readShout 30 = .ok (.bipush 20, 2) := by decide +kernel
theorem dX3_readShout_32 : decode cX3_readShout 32 = .ok (.invokevirtual 109, 3) := by decide +kernel
theorem dX3_readShout_35 : decode cX3_readShout 35 = .ok (.putfield 113, 3) := by decide +kernel
theorem dX3_readShout_38 : decode cX3_readShout 38 = .ok (.aload_n 0, 1) := by decide +kernel
theorem dX3_readShout_39 : decode cX3_readShout 39 = .ok (.getfield 12, 3) := by decide +kernel
theorem dX3_readShout_42 : decode cX3_readShout 42 = .ok (.aload_n 1, 1) := by decide +kernel
theorem dX3_readShout_43 : decode cX3_readShout 43 = .ok (.iconst 1, 1) := by decide +kernel
theorem dX3_readShout_44 : decode cX3_readShout 44 = .ok (.iconst 4, 1) := by decide +kernel
theorem dX3_readShout_45 : decode cX3_readShout 45 = .ok (.invokevirtual 109, 3) := by decide +kernel
theorem dX3_readShout_48 : decode cX3_readShout 48 = .ok (.putfield 138, 3) := by decide +kernel
theorem dX3_readShout_51 : decode cX3_readShout 51 = .ok (.aload_n 1, 1) := by decide +kernel
theorem dX3_readShout_52 : decode cX3_readShout 52 = .ok (.bipush 59, 2) := by decide +kernel
theorem dX3_readShout_54 : decode cX3_readShout 54 = .ok (.invokevirtual 153, 3) := by decide +kernel
theorem dX3_readShout_57 : decode cX3_readShout 57 = .ok (.aload_n 1, 1) := by decide +kernel
theorem dX3_readShout_58 : decode cX3_readShout 58 = .ok (.invokevirtual 57, 3) := by decide +kernel
theorem dX3_readShout_61 : decode cX3_readShout 61 = .ok (.ifCond .ne 42, 3) := by decide +kernel
theorem dX3_readShout_64 : decode cX3_readShout 64 = .ok (.aload_n 1, 1) := by decide +kernel
theorem dX3_readShout_65 : decode cX3_readShout 65 = .ok (.aload_n 2, 1) := by decide +kernel
theorem dX3_readShout_66 : decode cX3_readShout 66 = .ok (.aload_n 0, 1) := by decide +kernel
theorem dX3_readShout_67 : decode cX3_readShout 67 = .ok (.getfield 12, 3) := by decide +kernel
theorem dX3_readShout_70 : decode cX3_readShout 70 = .ok (.getfield 150, 3) := by decide +kernel
theorem dX3_readShout_73 : decode cX3_readShout 73 = .ok (.aload_n 0, 1) := by decide +kernel
theorem dX3_readShout_74 : decode cX3_readShout 74 = .ok (.getfield 12, 3) := by decide +kernel
theorem dX3_readShout_77 : decode cX3_readShout 77 = .ok (.getfield 106, 3) := by decide +kernel
theorem dX3_readShout_80 : decode cX3_readShout 80 = .ok (.aload_n 0, 1) := by decide +kernel
theorem dX3_readShout_81 : decode cX3_readShout 81 = .ok (.getfield 12, 3) := by decide +kernel
theorem dX3_readShout_84 : decode cX3_readShout 84 = .ok (.getfield 138, 3) := by decide +kernel
theorem dX3_readShout_87 : decode cX3_readShout 87 = .ok (.invokevirtual 156, 3) := by decide +kernel
theorem dX3_readShout_90 : decode cX3_readShout 90 = .ok (.ifCond .eq 7, 3) := by decide +kernel
theorem dX3_readShout_93 : decode cX3_readShout 93 = .ok (.iconst 1, 1) := by decide +kernel
theorem dX3_readShout_94 : decode cX3_readShout 94 = .ok (.goto 4, 3) := by decide +kernel
theorem dX3_readShout_97 : decode cX3_readShout 97 = .ok (.iconst 0, 1) := by decide +kernel
theorem dX3_readShout_98 : decode cX3_readShout 98 = .ok (.bipush 6, 2) := by decide +kernel
theorem dX3_readShout_100 : decode cX3_readShout 100 = .ok (.invokevirtual 38, 3) := by decide +kernel
theorem dX3_readShout_103 : decode cX3_readShout 103 = .ok (.return_, 1) := by decide +kernel
theorem dX3_readPass_0 : decode cX3_readPass 0 = .ok (.aload_n 0, 1) := by decide +kernel
theorem dX3_readPass_1 : decode cX3_readPass 1 = .ok (.getfield 12, 3) := by decide +kernel
theorem dX3_readPass_4 : decode cX3_readPass 4 = .ok (.aload_n 1, 1) := by decide +kernel
theorem dX3_readPass_5 : decode cX3_readPass 5 = .ok (.invokevirtual 160, 3) := by decide +kernel
theorem dX3_readPass_8 : decode cX3_readPass 8 = .ok (.putfield 113, 3) := by decide +kernel
theorem dX3_readPass_11 : decode cX3_readPass 11 = .ok (.aload_n 1, 1) := by decide +kernel
theorem dX3_readPass_12 : decode cX3_readPass 12 = .ok (.iconst 1, 1) := by decide +kernel
theorem dX3_readPass_13 : decode cX3_readPass 13 = .ok (.sipush 240, 3) := by decide +kernel
theorem dX3_readPass_16 : decode cX3_readPass 16 = .ok (.invokevirtual 163, 3) := by decide +kernel
theorem dX3_readPass_19 : decode cX3_readPass 19 = .ok (.aload_n 1, 1) := by decide +kernel
theorem dX3_readPass_20 : decode cX3_readPass 20 = .ok (.aload_n 2, 1) := by decide +kernel
theorem dX3_readPass_21 : decode cX3_readPass 21 = .ok (.aload_n 0, 1) := by decide +kernel
theorem dX3_readPass_22 : decode cX3_readPass 22 = .ok (.getfield 12, 3) := by decide +kernel
theorem dX3_readPass_25 : decode cX3_readPass 25 = .ok (.getfield 113, 3) := by decide +kernel
theorem dX3_readPass_28 : decode cX3_readPass 28 = .ok (.invokevirtual 167, 3) := by decide +kernel
theorem dX3_readPass_31 : decode cX3_readPass 31 = .ok (.getstatic 171, 3) := by decide +kernel
theorem dX3_readPass_34 : decode cX3_readPass 34 = .ok (.if_acmp .eq 7, 3) := by decide +kernel
theorem dX3_readPass_37 : decode cX3_readPass 37 = .ok (.iconst 1, 1) := by decide +kernel
theorem dX3_readPass_38 : decode cX3_readPass 38 = .ok (.goto 4, 3) := by decide +kernel
theorem dX3_readPass_41 : decode cX3_readPass 41 = .ok (.iconst 0, 1) := by decide +kernel
theorem dX3_readPass_42 : decode cX3_readPass 42 = .ok (.bipush 6, 2) := by decide +kernel
theorem dX3_readPass_44 : decode cX3_readPass 44 = .ok (.invokevirtual 38, 3) := by decide +kernel
theorem dX3_readPass_47 : decode cX3_readPass 47 = .ok (.aload_n 1, 1) := by decide +kernel
theorem dX3_readPass_48 : decode cX3_readPass 48 = .ok (.invokevirtual 42, 3) := by decide +kernel
theorem dX3_readPass_51 : decode cX3_readPass 51 = .ok (.return_, 1) := by decide +kernel
theorem dX3_readFake_0 : decode cX3_readFake 0 = .ok (.aload_n 0, 1) := by decide +kernel
theorem dX3_readFake_1 : decode cX3_readFake 1 = .ok (.getfield 12, 3) := by decide +kernel
theorem dX3_readFake_4 : decode cX3_readFake 4 = .ok (.aload_n 1, 1) := by decide +kernel
theorem dX3_readFake_5 : decode cX3_readFake 5 = .ok (.invokevirtual 160, 3) := by decide +kernel
theorem dX3_readFake_8 : decode cX3_readFake 8 = .ok (.putfield 113, 3) := by decide +kernel
theorem dX3_readFake_11 : decode cX3_readFake 11 = .ok (.aload_n 1, 1) := by decide +kernel
theorem dX3_readFake_12 : decode cX3_readFake 12 = .ok (.iconst 0, 1) := by decide +kernel
theorem dX3_readFake_13 : decode cX3_readFake 13 = .ok (.aload_n 2, 1) := by decide +kernel
theorem dX3_readFake_14 : decode cX3_readFake 14 = .ok (.getfield 177, 3) := by decide +kernel
theorem dX3_readFake_17 : decode cX3_readFake 17 = .ok (.iconst 1, 1) := by decide +kernel
theorem dX3_readFake_18 : decode cX3_readFake 18 = .ok (.isub, 1) := by decide +kernel
theorem dX3_readFake_19 : decode cX3_readFake 19 = .ok (.invokevirtual 163, 3) := by decide +kernel
theorem dX3_readFake_22 : decode cX3_readFake 22 = .ok (.aload_n 1, 1) := by decide +kernel
theorem dX3_readFake_23 : decode cX3_readFake 23 = .ok (.aload_n 2, 1) := by decide +kernel
theorem dX3_readFake_24 : decode cX3_readFake 24 = .ok (.aload_n 0, 1) := by decide +kernel
theorem dX3_readFake_25 : decode cX3_readFake 25 = .ok (.getfield 12, 3) := by decide +kernel
theorem dX3_readFake_28 : decode cX3_readFake 28 = .ok (.getfield 113, 3) := by decide +kernel
theorem dX3_readFake_31 : decode cX3_readFake 31 = .ok (.invokevirtual 180, 3) := by decide +kernel
theorem dX3_readFake_34 : decode cX3_readFake 34 = .ok (.getstatic 171, 3) := by decide +kernel
theorem dX3_readFake_37 : decode cX3_readFake 37 = .ok (.if_acmp .eq 7, 3) := by decide +kernel
theorem dX3_readFake_40 : decode cX3_readFake 40 = .ok (.iconst 1, 1) := by decide +kernel
theorem dX3_readFake_41 : decode cX3_readFake 41 = .ok (.goto 4, 3) := by decide +kernel
theorem dX3_readFake_44 : decode cX3_readFake 44 = .ok (.iconst 0, 1) := by decide +kernel
theorem dX3_readFake_45 : decode cX3_readFake 45 = .ok (.bipush 6, 2) := by decide +kernel
theorem dX3_readFake_47 : decode cX3_readFake 47 = .ok (.invokevirtual 38, 3) := by decide +kernel
theorem dX3_readFake_50 : decode cX3_readFake 50 = .ok (.aload_n 1, 1) := by decide +kernel
theorem dX3_readFake_51 : decode cX3_readFake 51 = .ok (.invokevirtual 42, 3) := by decide +kernel
theorem dX3_readFake_54 : decode cX3_readFake 54 = .ok (.return_, 1) := by decide +kernel
theorem dX5_init_0 : decode cX5_init 0 = .ok (.aload_n 0, 1) := by decide +kernel
theorem dX5_init_1 : decode cX5_init 1 = .ok (.invokespecial 3, 3) := by decide +kernel
theorem dX5_init_4 : decode cX5_init 4 = .ok (.aload_n 0, 1) := by decide +kernel
theorem dX5_init_5 : decode cX5_init 5 = .ok (.bipush 6, 2) := by decide +kernel
theorem dX5_init_7 : decode cX5_init 7 = .ok (.anewarray 9, 3) := by decide +kernel
theorem dX5_init_10 : decode cX5_init 10 = .ok (.putfield 11, 3) := by decide +kernel
theorem dX5_init_13 : decode cX5_init 13 = .ok (.iconst 0, 1) := by decide +kernel
theorem dX5_init_14 : decode cX5_init 14 = .ok (.istore_n 1, 1) := by decide +kernel
theorem dX5_init_15 : decode cX5_init 15 = .ok (.iload_n 1, 1) := by decide +kernel
theorem dX5_init_16 : decode cX5_init 16 = .ok (.bipush 6, 2) := by decide +kernel
theorem dX5_init_18 : decode cX5_init 18 = .ok (.if_icmp .ge 22, 3) := by decide +kernel
theorem dX5_init_21 : decode cX5_init 21 = .ok (.aload_n 0, 1) := by decide +kernel
theorem dX5_init_22 : decode cX5_init 22 = .ok (.getfield 11, 3) := by decide +kernel
theorem dX5_init_25 : decode cX5_init 25 = .ok (.iload_n 1, 1) := by decide +kernel
theorem dX5_init_26 : decode cX5_init 26 = .ok (.new 9, 3) := by decide +kernel
theorem dX5_init_29 : decode cX5_init 29 = .ok (.dup, 1) := by decide +kernel
theorem dX5_init_30 : decode cX5_init 30 = .ok (.invokespecial 17, 3) := by decide +kernel
theorem dX5_init_33 : decode cX5_init 33 = .ok (.aastore, 1) := by decide +kernel
theorem dX5_init_34 : decode cX5_init 34 = .ok (.iinc 1 1, 3) := by decide +kernel
theorem dX5_init_37 : decode cX5_init 37 = .ok (.goto (-22), 3) := by decide +kernel
theorem dX5_init_40 : decode cX5_init 40 = .ok (.return_, 1) := by decide +kernel
theorem dX5_remember_0 : decode cX5_remember 0 = .ok (.aload_n 0, 1) := by decide +kernel
theorem dX5_remember_1 : decode cX5_remember 1 = .ok (.getfield 11, 3) := by decide +kernel
theorem dX5_remember_4 : decode cX5_remember 4 = .ok (.aload_n 0, 1) := by decide +kernel
theorem dX5_remember_5 : decode cX5_remember 5 = .ok (.getfield 18, 3) := by decide +kernel
theorem dX5_remember_8 : decode cX5_remember 8 = .ok (.aaload, 1) := by decide +kernel
theorem dX5_remember_9 : decode cX5_remember 9 = .ok (.aload_n 1, 1) := by decide +kernel
theorem dX5_remember_10 : decode cX5_remember 10 = .ok (.invokevirtual 22, 3) := by decide +kernel
theorem dX5_remember_13 : decode cX5_remember 13 = .ok (.aload_n 0, 1) := by decide +kernel
theorem dX5_remember_14 : decode cX5_remember 14 = .ok (.aload_n 0, 1) := by decide +kernel
theorem dX5_remember_15 : decode cX5_remember 15 = .ok (.getfield 18, 3) := by decide +kernel
theorem dX5_remember_18 : decode cX5_remember 18 = .ok (.iconst 1, 1) := by decide +kernel
theorem dX5_remember_19 : decode cX5_remember 19 = .ok (.iadd, 1) := by decide +kernel
theorem dX5_remember_20 : decode cX5_remember 20 = .ok (.bipush 6, 2) := by decide +kernel
theorem dX5_remember_22 : decode cX5_remember 22 = .ok (.irem, 1) := by decide +kernel
theorem dX5_remember_23 : decode cX5_remember 23 = .ok (.putfield 18, 3) := by decide +kernel
theorem dX5_remember_26 : decode cX5_remember 26 = .ok (.aload_n 0, 1) := by decide +kernel
theorem dX5_remember_27 : decode cX5_remember 27 = .ok (.aload_n 0, 1) := by decide +kernel
theorem dX5_remember_28 : decode cX5_remember 28 = .ok (.getfield 26, 3) := by decide +kernel
theorem dX5_remember_31 : decode cX5_remember 31 = .ok (.iconst 1, 1) := by decide +kernel
theorem dX5_remember_32 : decode cX5_remember 32 = .ok (.iadd, 1) := by decide +kernel
theorem dX5_remember_33 : decode cX5_remember 33 = .ok (.bipush 6, 2) := by decide +kernel
theorem dX5_remember_35 : decode cX5_remember 35 = .ok (.invokestatic 29, 3) := by decide +kernel
theorem dX5_remember_38 : decode cX5_remember 38 = .ok (.putfield 26, 3) := by decide +kernel
theorem dX5_remember_41 : decode cX5_remember 41 = .ok (.return_, 1) := by decide +kernel
theorem dX5_takeBack_0 : decode cX5_takeBack 0 = .ok (.aload_n 0, 1) := by decide +kernel
theorem dX5_takeBack_1 : decode cX5_takeBack 1 = .ok (.getfield 26, 3) := by decide +kernel
theorem dX5_takeBack_4 : decode cX5_takeBack 4 = .ok (.ifCond .le 42, 3) := by decide +kernel
theorem dX5_takeBack_7 : decode cX5_takeBack 7 = .ok (.aload_n 0, 1) := by decide +kernel
theorem dX5_takeBack_8 : decode cX5_takeBack 8 = .ok (.aload_n 0, 1) := by decide +kernel
theorem dX5_takeBack_9 : decode cX5_takeBack 9 = .ok (.getfield 18, 3) := by decide +kernel
theorem dX5_takeBack_12 : decode cX5_takeBack 12 = .ok (.bipush 6, 2) := by decide +kernel
theorem dX5_takeBack_14 : decode cX5_takeBack 14 = .ok (.iadd, 1) := by decide +kernel
theorem dX5_takeBack_15 : decode cX5_takeBack 15 = .ok (.iconst 1, 1) := by decide +kernel
theorem dX5_takeBack_16 : decode cX5_takeBack 16 = .ok (.isub, 1) := by decide +kernel
theorem dX5_takeBack_17 : decode cX5_takeBack 17 = .ok (.bipush 6, 2) := by decide +kernel
theorem dX5_takeBack_19 : decode cX5_takeBack 19 = .ok (.irem, 1) := by decide +kernel
theorem dX5_takeBack_20 : decode cX5_takeBack 20 = .ok (.putfield 18, 3) := by decide +kernel
theorem dX5_takeBack_23 : decode cX5_takeBack 23 = .ok (.aload_n 1, 1) := by decide +kernel
theorem dX5_takeBack_24 : decode cX5_takeBack 24 = .ok (.aload_n 0, 1) := by decide +kernel
theorem dX5_takeBack_25 : decode cX5_takeBack 25 = .ok (.getfield 11, 3) := by decide +kernel
theorem dX5_takeBack_28 : decode cX5_takeBack 28 = .ok (.aload_n 0, 1) := by decide +kernel
theorem dX5_takeBack_29 : decode cX5_takeBack 29 = .ok (.getfield 18, 3) := by decide +kernel
theorem dX5_takeBack_32 : decode cX5_takeBack 32 = .ok (.aaload, 1) := by decide +kernel
theorem dX5_takeBack_33 : decode cX5_takeBack 33 = .ok (.invokevirtual 22, 3) := by decide +kernel
theorem dX5_takeBack_36 : decode cX5_takeBack 36 = .ok (.aload_n 0, 1) := by decide +kernel
theorem dX5_takeBack_37 : decode cX5_takeBack 37 = .ok (.dup, 1) := by decide +kernel
theorem dX5_takeBack_38 : decode cX5_takeBack 38 = .ok (.getfield 26, 3) := by decide +kernel
theorem dX5_takeBack_41 : decode cX5_takeBack 41 = .ok (.iconst 1, 1) := by decide +kernel
theorem dX5_takeBack_42 : decode cX5_takeBack 42 = .ok (.isub, 1) := by decide +kernel
theorem dX5_takeBack_43 : decode cX5_takeBack 43 = .ok (.putfield 26, 3) := by decide +kernel
theorem dX5_takeBack_46 : decode cX5_takeBack 46 = .ok (.aload_n 0, 1) := by decide +kernel
theorem dX5_takeBack_47 : decode cX5_takeBack 47 = .ok (.getfield 26, 3) := by decide +kernel
theorem dX5_takeBack_50 : decode cX5_takeBack 50 = .ok (.ireturn, 1) := by decide +kernel
theorem dX5_forget_0 : decode cX5_forget 0 = .ok (.aload_n 0, 1) := by decide +kernel
theorem dX5_forget_1 : decode cX5_forget 1 = .ok (.iconst 0, 1) := by decide +kernel
theorem dX5_forget_2 : decode cX5_forget 2 = .ok (.putfield 26, 3) := by decide +kernel
theorem dX5_forget_5 : decode cX5_forget 5 = .ok (.return_, 1) := by decide +kernel
theorem dX6_init_0 : decode cX6_init 0 = .ok (.aload_n 0, 1) := by decide +kernel
theorem dX6_init_1 : decode cX6_init 1 = .ok (.invokespecial 3, 3) := by decide +kernel
theorem dX6_init_4 : decode cX6_init 4 = .ok (.aload_n 0, 1) := by decide +kernel
theorem dX6_init_5 : decode cX6_init 5 = .ok (.bipush 8, 2) := by decide +kernel
theorem dX6_init_7 : decode cX6_init 7 = .ok (.anewarray 9, 3) := by decide +kernel
theorem dX6_init_10 : decode cX6_init 10 = .ok (.putfield 11, 3) := by decide +kernel
theorem dX6_init_13 : decode cX6_init 13 = .ok (.aload_n 0, 1) := by decide +kernel
theorem dX6_init_14 : decode cX6_init 14 = .ok (.bipush 8, 2) := by decide +kernel
theorem dX6_init_16 : decode cX6_init 16 = .ok (.anewarray 17, 3) := by decide +kernel
theorem dX6_init_19 : decode cX6_init 19 = .ok (.putfield 19, 3) := by decide +kernel
theorem dX6_init_22 : decode cX6_init 22 = .ok (.aload_n 0, 1) := by decide +kernel
theorem dX6_init_23 : decode cX6_init 23 = .ok (.bipush 30, 2) := by decide +kernel
theorem dX6_init_25 : decode cX6_init 25 = .ok (.anewarray 23, 3) := by decide +kernel
theorem dX6_init_28 : decode cX6_init 28 = .ok (.putfield 25, 3) := by decide +kernel
theorem dX6_init_31 : decode cX6_init 31 = .ok (.iconst 0, 1) := by decide +kernel
theorem dX6_init_32 : decode cX6_init 32 = .ok (.istore_n 1, 1) := by decide +kernel
theorem dX6_init_33 : decode cX6_init 33 = .ok (.iload_n 1, 1) := by decide +kernel
theorem dX6_init_34 : decode cX6_init 34 = .ok (.bipush 8, 2) := by decide +kernel
theorem dX6_init_36 : decode cX6_init 36 = .ok (.if_icmp .ge 22, 3) := by decide +kernel
theorem dX6_init_39 : decode cX6_init 39 = .ok (.aload_n 0, 1) := by decide +kernel
theorem dX6_init_40 : decode cX6_init 40 = .ok (.getfield 11, 3) := by decide +kernel
theorem dX6_init_43 : decode cX6_init 43 = .ok (.iload_n 1, 1) := by decide +kernel
theorem dX6_init_44 : decode cX6_init 44 = .ok (.new 9, 3) := by decide +kernel
theorem dX6_init_47 : decode cX6_init 47 = .ok (.dup, 1) := by decide +kernel
theorem dX6_init_48 : decode cX6_init 48 = .ok (.invokespecial 29, 3) := by decide +kernel
theorem dX6_init_51 : decode cX6_init 51 = .ok (.aastore, 1) := by decide +kernel
theorem dX6_init_52 : decode cX6_init 52 = .ok (.iinc 1 1, 3) := by decide +kernel
theorem dX6_init_55 : decode cX6_init 55 = .ok (.goto (-22), 3) := by decide +kernel
theorem dX6_init_58 : decode cX6_init 58 = .ok (.iconst 0, 1) := by decide +kernel
theorem dX6_init_59 : decode cX6_init 59 = .ok (.istore_n 1, 1) := by decide +kernel
theorem dX6_init_60 : decode cX6_init 60 = .ok (.iload_n 1, 1) := by decide +kernel
theorem dX6_init_61 : decode cX6_init 61 = .ok (.bipush 8, 2) := by decide +kernel
theorem dX6_init_63 : decode cX6_init 63 = .ok (.if_icmp .ge 22, 3) := by decide +kernel
theorem dX6_init_66 : decode cX6_init 66 = .ok (.aload_n 0, 1) := by decide +kernel
theorem dX6_init_67 : decode cX6_init 67 = .ok (.getfield 19, 3) := by decide +kernel
theorem dX6_init_70 : decode cX6_init 70 = .ok (.iload_n 1, 1) := by decide +kernel
theorem dX6_init_71 : decode cX6_init 71 = .ok (.new 17, 3) := by decide +kernel
theorem dX6_init_74 : decode cX6_init 74 = .ok (.dup, 1) := by decide +kernel
theorem dX6_init_75 : decode cX6_init 75 = .ok (.invokespecial 30, 3) := by decide +kernel
theorem dX6_init_78 : decode cX6_init 78 = .ok (.aastore, 1) := by decide +kernel
theorem dX6_init_79 : decode cX6_init 79 = .ok (.iinc 1 1, 3) := by decide +kernel
theorem dX6_init_82 : decode cX6_init 82 = .ok (.goto (-22), 3) := by decide +kernel
theorem dX6_init_85 : decode cX6_init 85 = .ok (.iconst 0, 1) := by decide +kernel
theorem dX6_init_86 : decode cX6_init 86 = .ok (.istore_n 1, 1) := by decide +kernel
theorem dX6_init_87 : decode cX6_init 87 = .ok (.iload_n 1, 1) := by decide +kernel
theorem dX6_init_88 : decode cX6_init 88 = .ok (.bipush 30, 2) := by decide +kernel
theorem dX6_init_90 : decode cX6_init 90 = .ok (.if_icmp .ge 22, 3) := by decide +kernel
theorem dX6_init_93 : decode cX6_init 93 = .ok (.aload_n 0, 1) := by decide +kernel
theorem dX6_init_94 : decode cX6_init 94 = .ok (.getfield 25, 3) := by decide +kernel
theorem dX6_init_97 : decode cX6_init 97 = .ok (.iload_n 1, 1) := by decide +kernel
theorem dX6_init_98 : decode cX6_init 98 = .ok (.new 23, 3) := by decide +kernel
theorem dX6_init_101 : decode cX6_init 101 = .ok (.dup, 1) := by decide +kernel
theorem dX6_init_102 : decode cX6_init 102 = .ok (.invokespecial 31, 3) := by decide +kernel
theorem dX6_init_105 : decode cX6_init 105 = .ok (.aastore, 1) := by decide +kernel
theorem dX6_init_106 : decode cX6_init 106 = .ok (.iinc 1 1, 3) := by decide +kernel
theorem dX6_init_109 : decode cX6_init 109 = .ok (.goto (-22), 3) := by decide +kernel
theorem dX6_init_112 : decode cX6_init 112 = .ok (.return_, 1) := by decide +kernel
theorem dX6_clear_0 : decode cX6_clear 0 = .ok (.aload_n 0, 1) := by decide +kernel
theorem dX6_clear_1 : decode cX6_clear 1 = .ok (.iconst 0, 1) := by decide +kernel
theorem dX6_clear_2 : decode cX6_clear 2 = .ok (.putfield 32, 3) := by decide +kernel
theorem dX6_clear_5 : decode cX6_clear 5 = .ok (.aload_n 0, 1) := by decide +kernel
theorem dX6_clear_6 : decode cX6_clear 6 = .ok (.iconst 0, 1) := by decide +kernel
theorem dX6_clear_7 : decode cX6_clear 7 = .ok (.putfield 36, 3) := by decide +kernel
theorem dX6_clear_10 : decode cX6_clear 10 = .ok (.aload_n 0, 1) := by decide +kernel
theorem dX6_clear_11 : decode cX6_clear 11 = .ok (.iconst 0, 1) := by decide +kernel
theorem dX6_clear_12 : decode cX6_clear 12 = .ok (.putfield 39, 3) := by decide +kernel
theorem dX6_clear_15 : decode cX6_clear 15 = .ok (.aload_n 0, 1) := by decide +kernel
theorem dX6_clear_16 : decode cX6_clear 16 = .ok (.iconst 0, 1) := by decide +kernel
theorem dX6_clear_17 : decode cX6_clear 17 = .ok (.putfield 42, 3) := by decide +kernel
theorem dX6_clear_20 : decode cX6_clear 20 = .ok (.aload_n 0, 1) := by decide +kernel
theorem dX6_clear_21 : decode cX6_clear 21 = .ok (.iconst 0, 1) := by decide +kernel
theorem dX6_clear_22 : decode cX6_clear 22 = .ok (.putfield 45, 3) := by decide +kernel
theorem dX6_clear_25 : decode cX6_clear 25 = .ok (.aload_n 0, 1) := by decide +kernel
theorem dX6_clear_26 : decode cX6_clear 26 = .ok (.iconst 0, 1) := by decide +kernel
theorem dX6_clear_27 : decode cX6_clear 27 = .ok (.putfield 48, 3) := by decide +kernel
theorem dX6_clear_30 : decode cX6_clear 30 = .ok (.aload_n 0, 1) := by decide +kernel
theorem dX6_clear_31 : decode cX6_clear 31 = .ok (.iconst 0, 1) := by decide +kernel
theorem dX6_clear_32 : decode cX6_clear 32 = .ok (.putfield 51, 3) := by decide +kernel
theorem dX6_clear_35 : decode cX6_clear 35 = .ok (.aload_n 0, 1) := by decide +kernel
theorem dX6_clear_36 : decode cX6_clear 36 = .ok (.iconst 0, 1) := by decide +kernel
theorem dX6_clear_37 : decode cX6_clear 37 = .ok (.putfield 54, 3) := by decide +kernel
theorem dX6_clear_40 : decode cX6_clear 40 = .ok (.aload_n 0, 1) := by decide +kernel
theorem dX6_clear_41 : decode cX6_clear 41 = .ok (.iconst 0, 1) := by decide +kernel
theorem dX6_clear_42 : decode cX6_clear 42 = .ok (.putfield 57, 3) := by decide +kernel
theorem dX6_clear_45 : decode cX6_clear 45 = .ok (.aload_n 0, 1) := by decide +kernel
theorem dX6_clear_46 : decode cX6_clear 46 = .ok (.iconst 0, 1) := by decide +kernel
theorem dX6_clear_47 : decode cX6_clear 47 = .ok (.putfield 60, 3) := by decide +kernel
theorem dX6_clear_50 : decode cX6_clear 50 = .ok (.return_, 1) := by decide +kernel
theorem dX6_copyFrom_0 : decode cX6_copyFrom 0 = .ok (.aload_n 0, 1) := by decide +kernel
theorem dX6_copyFrom_1 : decode cX6_copyFrom 1 = .ok (.aload_n 1, 1) := by decide +kernel
theorem dX6_copyFrom_2 : decode cX6_copyFrom 2 = .ok (.getfield 32, 3) := by decide +kernel
theorem dX6_copyFrom_5 : decode cX6_copyFrom 5 = .ok (.putfield 32, 3) := by decide +kernel
theorem dX6_copyFrom_8 : decode cX6_copyFrom 8 = .ok (.aload_n 0, 1) := by decide +kernel
theorem dX6_copyFrom_9 : decode cX6_copyFrom 9 = .ok (.aload_n 1, 1) := by decide +kernel
theorem dX6_copyFrom_10 : decode cX6_copyFrom 10 = .ok (.getfield 36, 3) := by decide +kernel
theorem dX6_copyFrom_13 : decode cX6_copyFrom 13 = .ok (.putfield 36, 3) := by decide +kernel
theorem dX6_copyFrom_16 : decode cX6_copyFrom 16 = .ok (.aload_n 0, 1) := by decide +kernel
theorem dX6_copyFrom_17 : decode cX6_copyFrom 17 = .ok (.aload_n 1, 1) := by decide +kernel
theorem dX6_copyFrom_18 : decode cX6_copyFrom 18 = .ok (.getfield 39, 3) := by decide +kernel
theorem dX6_copyFrom_21 : decode cX6_copyFrom 21 = .ok (.putfield 39, 3) := by decide +kernel
theorem dX6_copyFrom_24 : decode cX6_copyFrom 24 = .ok (.aload_n 0, 1) := by decide +kernel
theorem dX6_copyFrom_25 : decode cX6_copyFrom 25 = .ok (.aload_n 1, 1) := by decide +kernel
theorem dX6_copyFrom_26 : decode cX6_copyFrom 26 = .ok (.getfield 42, 3) := by decide +kernel
theorem dX6_copyFrom_29 : decode cX6_copyFrom 29 = .ok (.putfield 42, 3) := by decide +kernel
theorem dX6_copyFrom_32 : decode cX6_copyFrom 32 = .ok (.aload_n 0, 1) := by decide +kernel
theorem dX6_copyFrom_33 : decode cX6_copyFrom 33 = .ok (.aload_n 1, 1) := by decide +kernel
theorem dX6_copyFrom_34 : decode cX6_copyFrom 34 = .ok (.getfield 45, 3) := by decide +kernel
theorem dX6_copyFrom_37 : decode cX6_copyFrom 37 = .ok (.putfield 45, 3) := by decide +kernel
theorem dX6_copyFrom_40 : decode cX6_copyFrom 40 = .ok (.aload_n 0, 1) := by decide +kernel
theorem dX6_copyFrom_41 : decode cX6_copyFrom 41 = .ok (.aload_n 1, 1) := by decide +kernel
theorem dX6_copyFrom_42 : decode cX6_copyFrom 42 = .ok (.getfield 48, 3) := by decide +kernel
theorem dX6_copyFrom_45 : decode cX6_copyFrom 45 = .ok (.putfield 48, 3) := by decide +kernel
theorem dX6_copyFrom_48 : decode cX6_copyFrom 48 = .ok (.aload_n 0, 1) := by decide +kernel
theorem dX6_copyFrom_49 : decode cX6_copyFrom 49 = .ok (.aload_n 1, 1) := by decide +kernel
theorem dX6_copyFrom_50 : decode cX6_copyFrom 50 = .ok (.getfield 51, 3) := by decide +kernel
theorem dX6_copyFrom_53 : decode cX6_copyFrom 53 = .ok (.putfield 51, 3) := by decide +kernel
theorem dX6_copyFrom_56 : decode cX6_copyFrom 56 = .ok (.aload_n 0, 1) := by decide +kernel
theorem dX6_copyFrom_57 : decode cX6_copyFrom 57 = .ok (.aload_n 1, 1) := by decide +kernel
theorem dX6_copyFrom_58 : decode cX6_copyFrom 58 = .ok (.getfield 54, 3) := by decide +kernel
theorem dX6_copyFrom_61 : decode cX6_copyFrom 61 = .ok (.putfield 54, 3) := by decide +kernel
theorem dX6_copyFrom_64 : decode cX6_copyFrom 64 = .ok (.aload_n 0, 1) := by decide +kernel
theorem dX6_copyFrom_65 : decode cX6_copyFrom 65 = .ok (.aload_n 1, 1) := by decide +kernel
theorem dX6_copyFrom_66 : decode cX6_copyFrom 66 = .ok (.getfield 57, 3) := by decide +kernel
theorem dX6_copyFrom_69 : decode cX6_copyFrom 69 = .ok (.putfield 57, 3) := by decide +kernel
theorem dX6_copyFrom_72 : decode cX6_copyFrom 72 = .ok (.aload_n 0, 1) := by decide +kernel
theorem dX6_copyFrom_73 : decode cX6_copyFrom 73 = .ok (.aload_n 1, 1) := by decide +kernel
theorem dX6_copyFrom_74 : decode cX6_copyFrom 74 = .ok (.getfield 60, 3) := by decide +kernel
theorem dX6_copyFrom_77 : decode cX6_copyFrom 77 = .ok (.putfield 60, 3) := by decide +kernel
theorem dX6_copyFrom_80 : decode cX6_copyFrom 80 = .ok (.iconst 0, 1) := by decide +kernel
theorem dX6_copyFrom_81 : decode cX6_copyFrom 81 = .ok (.istore_n 2, 1) := by decide +kernel
theorem dX6_copyFrom_82 : decode cX6_copyFrom 82 = .ok (.iload_n 2, 1) := by decide +kernel
theorem dX6_copyFrom_83 : decode cX6_copyFrom 83 = .ok (.aload_n 0, 1) := by decide +kernel
theorem dX6_copyFrom_84 : decode cX6_copyFrom 84 = .ok (.getfield 32, 3) := by decide +kernel
theorem dX6_copyFrom_87 : decode cX6_copyFrom 87 = .ok (.if_icmp .ge 24, 3) := by decide +kernel
theorem dX6_copyFrom_90 : decode cX6_copyFrom 90 = .ok (.aload_n 0, 1) := by decide +kernel
theorem dX6_copyFrom_91 : decode cX6_copyFrom 91 = .ok (.getfield 11, 3) := by decide +kernel
theorem dX6_copyFrom_94 : decode cX6_copyFrom 94 = .ok (.iload_n 2, 1) := by decide +kernel
theorem dX6_copyFrom_95 : decode cX6_copyFrom 95 = .ok (.aaload, 1) := by decide +kernel
theorem dX6_copyFrom_96 : decode cX6_copyFrom 96 = .ok (.aload_n 1, 1) := by decide +kernel
theorem dX6_copyFrom_97 : decode cX6_copyFrom 97 = .ok (.getfield 11, 3) := by decide +kernel
theorem dX6_copyFrom_100 : decode cX6_copyFrom 100 = .ok (.iload_n 2, 1) := by decide +kernel
theorem dX6_copyFrom_101 : decode cX6_copyFrom 101 = .ok (.aaload, 1) := by decide +kernel
theorem dX6_copyFrom_102 : decode cX6_copyFrom 102 = .ok (.invokevirtual 63, 3) := by decide +kernel
theorem dX6_copyFrom_105 : decode cX6_copyFrom 105 = .ok (.iinc 2 1, 3) := by decide +kernel
theorem dX6_copyFrom_108 : decode cX6_copyFrom 108 = .ok (.goto (-26), 3) := by decide +kernel
theorem dX6_copyFrom_111 : decode cX6_copyFrom 111 = .ok (.iconst 0, 1) := by decide +kernel
theorem dX6_copyFrom_112 : decode cX6_copyFrom 112 = .ok (.istore_n 2, 1) := by decide +kernel
theorem dX6_copyFrom_113 : decode cX6_copyFrom 113 = .ok (.iload_n 2, 1) := by decide +kernel
theorem dX6_copyFrom_114 : decode cX6_copyFrom 114 = .ok (.aload_n 0, 1) := by decide +kernel
theorem dX6_copyFrom_115 : decode cX6_copyFrom 115 = .ok (.getfield 36, 3) := by decide +kernel
theorem dX6_copyFrom_118 : decode cX6_copyFrom 118 = .ok (.if_icmp .ge 24, 3) := by decide +kernel
theorem dX6_copyFrom_121 : decode cX6_copyFrom 121 = .ok (.aload_n 0, 1) := by decide +kernel
theorem dX6_copyFrom_122 : decode cX6_copyFrom 122 = .ok (.getfield 19, 3) := by decide +kernel
theorem dX6_copyFrom_125 : decode cX6_copyFrom 125 = .ok (.iload_n 2, 1) := by decide +kernel
theorem dX6_copyFrom_126 : decode cX6_copyFrom 126 = .ok (.aaload, 1) := by decide +kernel
theorem dX6_copyFrom_127 : decode cX6_copyFrom 127 = .ok (.aload_n 1, 1) := by decide +kernel
theorem dX6_copyFrom_128 : decode cX6_copyFrom 128 = .ok (.getfield 19, 3) := by decide +kernel
theorem dX6_copyFrom_131 : decode cX6_copyFrom 131 = .ok (.iload_n 2, 1) := by decide +kernel
theorem dX6_copyFrom_132 : decode cX6_copyFrom 132 = .ok (.aaload, 1) := by decide +kernel
theorem dX6_copyFrom_133 : decode cX6_copyFrom 133 = .ok (.invokevirtual 67, 3) := by decide +kernel
theorem dX6_copyFrom_136 : decode cX6_copyFrom 136 = .ok (.iinc 2 1, 3) := by decide +kernel
theorem dX6_copyFrom_139 : decode cX6_copyFrom 139 = .ok (.goto (-26), 3) := by decide +kernel
theorem dX6_copyFrom_142 : decode cX6_copyFrom 142 = .ok (.iconst 0, 1) := by decide +kernel
theorem dX6_copyFrom_143 : decode cX6_copyFrom 143 = .ok (.istore_n 2, 1) := by decide +kernel
theorem dX6_copyFrom_144 : decode cX6_copyFrom 144 = .ok (.iload_n 2, 1) := by decide +kernel
theorem dX6_copyFrom_145 : decode cX6_copyFrom 145 = .ok (.aload_n 0, 1) := by decide +kernel
theorem dX6_copyFrom_146 : decode cX6_copyFrom 146 = .ok (.getfield 39, 3) := by decide +kernel
theorem dX6_copyFrom_149 : decode cX6_copyFrom 149 = .ok (.if_icmp .ge 24, 3) := by decide +kernel
theorem dX6_copyFrom_152 : decode cX6_copyFrom 152 = .ok (.aload_n 0, 1) := by decide +kernel
theorem dX6_copyFrom_153 : decode cX6_copyFrom 153 = .ok (.getfield 25, 3) := by decide +kernel
theorem dX6_copyFrom_156 : decode cX6_copyFrom 156 = .ok (.iload_n 2, 1) := by decide +kernel
theorem dX6_copyFrom_157 : decode cX6_copyFrom 157 = .ok (.aaload, 1) := by decide +kernel
theorem dX6_copyFrom_158 : decode cX6_copyFrom 158 = .ok (.aload_n 1, 1) := by decide +kernel
theorem dX6_copyFrom_159 : decode cX6_copyFrom 159 = .ok (.getfield 25, 3) := by decide +kernel
theorem dX6_copyFrom_162 : decode cX6_copyFrom 162 = .ok (.iload_n 2, 1) := by decide +kernel
theorem dX6_copyFrom_163 : decode cX6_copyFrom 163 = .ok (.aaload, 1) := by decide +kernel
theorem dX6_copyFrom_164 : decode cX6_copyFrom 164 = .ok (.invokevirtual 70, 3) := by decide +kernel
theorem dX6_copyFrom_167 : decode cX6_copyFrom 167 = .ok (.iinc 2 1, 3) := by decide +kernel
theorem dX6_copyFrom_170 : decode cX6_copyFrom 170 = .ok (.goto (-26), 3) := by decide +kernel
theorem dX6_copyFrom_173 : decode cX6_copyFrom 173 = .ok (.return_, 1) := by decide +kernel
theorem dX6_hasValley_0 : decode cX6_hasValley 0 = .ok (.iload_n 1, 1) := by decide +kernel
theorem dX6_hasValley_1 : decode cX6_hasValley 1 = .ok (.iconst 0, 1) := by decide +kernel
theorem dX6_hasValley_2 : decode cX6_hasValley 2 = .ok (.aload_n 0, 1) := by decide +kernel
theorem dX6_hasValley_3 : decode cX6_hasValley 3 = .ok (.getfield 32, 3) := by decide +kernel
theorem dX6_hasValley_6 : decode cX6_hasValley 6 = .ok (.iconst 1, 1) := by decide +kernel
theorem dX6_hasValley_7 : decode cX6_hasValley 7 = .ok (.isub, 1) := by decide +kernel
theorem dX6_hasValley_8 : decode cX6_hasValley 8 = .ok (.invokestatic 73, 3) := by decide +kernel
theorem dX6_hasValley_11 : decode cX6_hasValley 11 = .ok (.ireturn, 1) := by decide +kernel
theorem dX6_hasCustomer_0 : decode cX6_hasCustomer 0 = .ok (.iload_n 1, 1) := by decide +kernel
theorem dX6_hasCustomer_1 : decode cX6_hasCustomer 1 = .ok (.iconst 0, 1) := by decide +kernel
theorem dX6_hasCustomer_2 : decode cX6_hasCustomer 2 = .ok (.aload_n 0, 1) := by decide +kernel
theorem dX6_hasCustomer_3 : decode cX6_hasCustomer 3 = .ok (.getfield 36, 3) := by decide +kernel
theorem dX6_hasCustomer_6 : decode cX6_hasCustomer 6 = .ok (.iconst 1, 1) := by decide +kernel
theorem dX6_hasCustomer_7 : decode cX6_hasCustomer 7 = .ok (.isub, 1) := by decide +kernel
theorem dX6_hasCustomer_8 : decode cX6_hasCustomer 8 = .ok (.invokestatic 73, 3) := by decide +kernel
theorem dX6_hasCustomer_11 : decode cX6_hasCustomer 11 = .ok (.ireturn, 1) := by decide +kernel
theorem dX6_hasShout_0 : decode cX6_hasShout 0 = .ok (.iload_n 1, 1) := by decide +kernel
theorem dX6_hasShout_1 : decode cX6_hasShout 1 = .ok (.iconst 0, 1) := by decide +kernel
theorem dX6_hasShout_2 : decode cX6_hasShout 2 = .ok (.aload_n 0, 1) := by decide +kernel
theorem dX6_hasShout_3 : decode cX6_hasShout 3 = .ok (.getfield 39, 3) := by decide +kernel
theorem dX6_hasShout_6 : decode cX6_hasShout 6 = .ok (.iconst 1, 1) := by decide +kernel
theorem dX6_hasShout_7 : decode cX6_hasShout 7 = .ok (.isub, 1) := by decide +kernel
theorem dX6_hasShout_8 : decode cX6_hasShout 8 = .ok (.invokestatic 73, 3) := by decide +kernel
theorem dX6_hasShout_11 : decode cX6_hasShout 11 = .ok (.ireturn, 1) := by decide +kernel
theorem dX6_openInAll_0 : decode cX6_openInAll 0 = .ok (.iconst 0, 1) := by decide +kernel
theorem dX6_openInAll_1 : decode cX6_openInAll 1 = .ok (.istore_n 1, 1) := by decide +kernel
theorem dX6_openInAll_2 : decode cX6_openInAll 2 = .ok (.iconst 0, 1) := by decide +kernel
theorem dX6_openInAll_3 : decode cX6_openInAll 3 = .ok (.istore_n 2, 1) := by decide +kernel
theorem dX6_openInAll_4 : decode cX6_openInAll 4 = .ok (.iload_n 2, 1) := by decide +kernel
theorem dX6_openInAll_5 : decode cX6_openInAll 5 = .ok (.aload_n 0, 1) := by decide +kernel
theorem dX6_openInAll_6 : decode cX6_openInAll 6 = .ok (.getfield 39, 3) := by decide +kernel
theorem dX6_openInAll_9 : decode cX6_openInAll 9 = .ok (.if_icmp .ge 29, 3) := by decide +kernel
theorem dX6_openInAll_12 : decode cX6_openInAll 12 = .ok (.iload_n 1, 1) := by decide +kernel
theorem dX6_openInAll_13 : decode cX6_openInAll 13 = .ok (.aload_n 0, 1) := by decide +kernel
theorem dX6_openInAll_14 : decode cX6_openInAll 14 = .ok (.getfield 25, 3) := by decide +kernel
theorem dX6_openInAll_17 : decode cX6_openInAll 17 = .ok (.iload_n 2, 1) := by decide +kernel
theorem dX6_openInAll_18 : decode cX6_openInAll 18 = .ok (.aaload, 1) := by decide +kernel
theorem dX6_openInAll_19 : decode cX6_openInAll 19 = .ok (.invokevirtual 77, 3) := by decide +kernel
theorem dX6_openInAll_22 : decode cX6_openInAll 22 = .ok (.ifCond .eq 7, 3) := by decide +kernel
theorem dX6_openInAll_25 : decode cX6_openInAll 25 = .ok (.iconst 1, 1) := by decide +kernel
theorem dX6_openInAll_26 : decode cX6_openInAll 26 = .ok (.goto 4, 3) := by decide +kernel
theorem dX6_openInAll_29 : decode cX6_openInAll 29 = .ok (.iconst 0, 1) := by decide +kernel
theorem dX6_openInAll_30 : decode cX6_openInAll 30 = .ok (.iadd, 1) := by decide +kernel
theorem dX6_openInAll_31 : decode cX6_openInAll 31 = .ok (.istore_n 1, 1) := by decide +kernel
theorem dX6_openInAll_32 : decode cX6_openInAll 32 = .ok (.iinc 2 1, 3) := by decide +kernel
theorem dX6_openInAll_35 : decode cX6_openInAll 35 = .ok (.goto (-31), 3) := by decide +kernel
theorem dX6_openInAll_38 : decode cX6_openInAll 38 = .ok (.iload_n 1, 1) := by decide +kernel
theorem dX6_openInAll_39 : decode cX6_openInAll 39 = .ok (.ireturn, 1) := by decide +kernel
theorem dX6_ratingsInAll_0 : decode cX6_ratingsInAll 0 = .ok (.iconst 0, 1) := by decide +kernel
theorem dX6_ratingsInAll_1 : decode cX6_ratingsInAll 1 = .ok (.istore_n 1, 1) := by decide +kernel
theorem dX6_ratingsInAll_2 : decode cX6_ratingsInAll 2 = .ok (.iconst 0, 1) := by decide +kernel
theorem dX6_ratingsInAll_3 : decode cX6_ratingsInAll 3 = .ok (.istore_n 2, 1) := by decide +kernel
theorem dX6_ratingsInAll_4 : decode cX6_ratingsInAll 4 = .ok (.iload_n 2, 1) := by decide +kernel
theorem dX6_ratingsInAll_5 : decode cX6_ratingsInAll 5 = .ok (.aload_n 0, 1) := by decide +kernel
theorem dX6_ratingsInAll_6 : decode cX6_ratingsInAll 6 = .ok (.getfield 32, 3) := by decide +kernel
theorem dX6_ratingsInAll_9 : decode cX6_ratingsInAll 9 = .ok (.if_icmp .ge 21, 3) := by decide +kernel
theorem dX6_ratingsInAll_12 : decode cX6_ratingsInAll 12 = .ok (.iload_n 1, 1) := by decide +kernel
theorem dX6_ratingsInAll_13 : decode cX6_ratingsInAll 13 = .ok (.aload_n 0, 1) := by decide +kernel
theorem dX6_ratingsInAll_14 : decode cX6_ratingsInAll 14 = .ok (.getfield 11, 3) := by decide +kernel
theorem dX6_ratingsInAll_17 : decode cX6_ratingsInAll 17 = .ok (.iload_n 2, 1) := by decide +kernel
theorem dX6_ratingsInAll_18 : decode cX6_ratingsInAll 18 = .ok (.aaload, 1) := by decide +kernel
theorem dX6_ratingsInAll_19 : decode cX6_ratingsInAll 19 = .ok (.getfield 81, 3) := by decide +kernel
theorem dX6_ratingsInAll_22 : decode cX6_ratingsInAll 22 = .ok (.iadd, 1) := by decide +kernel
theorem dX6_ratingsInAll_23 : decode cX6_ratingsInAll 23 = .ok (.istore_n 1, 1) := by decide +kernel
theorem dX6_ratingsInAll_24 : decode cX6_ratingsInAll 24 = .ok (.iinc 2 1, 3) := by decide +kernel
theorem dX6_ratingsInAll_27 : decode cX6_ratingsInAll 27 = .ok (.goto (-23), 3) := by decide +kernel
theorem dX6_ratingsInAll_30 : decode cX6_ratingsInAll 30 = .ok (.iload_n 1, 1) := by decide +kernel
theorem dX6_ratingsInAll_31 : decode cX6_ratingsInAll 31 = .ok (.ireturn, 1) := by decide +kernel
theorem dX6_angerMask_0 : decode cX6_angerMask 0 = .ok (.iconst 0, 1) := by decide +kernel
theorem dX6_angerMask_1 : decode cX6_angerMask 1 = .ok (.istore_n 1, 1) := by decide +kernel
theorem dX6_angerMask_2 : decode cX6_angerMask 2 = .ok (.iconst 0, 1) := by decide +kernel
theorem dX6_angerMask_3 : decode cX6_angerMask 3 = .ok (.istore_n 2, 1) := by decide +kernel
theorem dX6_angerMask_4 : decode cX6_angerMask 4 = .ok (.iload_n 2, 1) := by decide +kernel
theorem dX6_angerMask_5 : decode cX6_angerMask 5 = .ok (.aload_n 0, 1) := by decide +kernel
theorem dX6_angerMask_6 : decode cX6_angerMask 6 = .ok (.getfield 36, 3) := by decide +kernel
theorem dX6_angerMask_9 : decode cX6_angerMask 9 = .ok (.if_icmp .ge 31, 3) := by decide +kernel
theorem dX6_angerMask_12 : decode cX6_angerMask 12 = .ok (.iload_n 1, 1) := by decide +kernel
theorem dX6_angerMask_13 : decode cX6_angerMask 13 = .ok (.aload_n 0, 1) := by decide +kernel
theorem dX6_angerMask_14 : decode cX6_angerMask 14 = .ok (.getfield 19, 3) := by decide +kernel
theorem dX6_angerMask_17 : decode cX6_angerMask 17 = .ok (.iload_n 2, 1) := by decide +kernel
theorem dX6_angerMask_18 : decode cX6_angerMask 18 = .ok (.aaload, 1) := by decide +kernel
theorem dX6_angerMask_19 : decode cX6_angerMask 19 = .ok (.invokevirtual 84, 3) := by decide +kernel
theorem dX6_angerMask_22 : decode cX6_angerMask 22 = .ok (.ifCond .eq 9, 3) := by decide +kernel
theorem dX6_angerMask_25 : decode cX6_angerMask 25 = .ok (.iconst 1, 1) := by decide +kernel
theorem dX6_angerMask_26 : decode cX6_angerMask 26 = .ok (.iload_n 2, 1) := by decide +kernel
theorem dX6_angerMask_27 : decode cX6_angerMask 27 = .ok (.ishl, 1) := by decide +kernel
theorem dX6_angerMask_28 : decode cX6_angerMask 28 = .ok (.goto 4, 3) := by decide +kernel
theorem dX6_angerMask_31 : decode cX6_angerMask 31 = .ok (.iconst 0, 1) := by decide +kernel
theorem dX6_angerMask_32 : decode cX6_angerMask 32 = .ok (.ior, 1) := by decide +kernel
theorem dX6_angerMask_33 : decode cX6_angerMask 33 = .ok (.istore_n 1, 1) := by decide +kernel
theorem dX6_angerMask_34 : decode cX6_angerMask 34 = .ok (.iinc 2 1, 3) := by decide +kernel
theorem dX6_angerMask_37 : decode cX6_angerMask 37 = .ok (.goto (-33), 3) := by decide +kernel
theorem dX6_angerMask_40 : decode cX6_angerMask 40 = .ok (.iload_n 1, 1) := by decide +kernel
theorem dX6_angerMask_41 : decode cX6_angerMask 41 = .ok (.ireturn, 1) := by decide +kernel
theorem dX6_brokenInvariants_0 : decode cX6_brokenInvariants 0 = .ok (.iconst 0, 1) := by decide +kernel
theorem dX6_brokenInvariants_1 : decode cX6_brokenInvariants 1 = .ok (.istore_n 1, 1) := by decide +kernel
theorem dX6_brokenInvariants_2 : decode cX6_brokenInvariants 2 = .ok (.iconst 0, 1) := by decide +kernel
theorem dX6_brokenInvariants_3 : decode cX6_brokenInvariants 3 = .ok (.istore_n 2, 1) := by decide +kernel
theorem dX6_brokenInvariants_4 : decode cX6_brokenInvariants 4 = .ok (.iconst 0, 1) := by decide +kernel
theorem dX6_brokenInvariants_5 : decode cX6_brokenInvariants 5 = .ok (.istore_n 3, 1) := by decide +kernel
theorem dX6_brokenInvariants_6 : decode cX6_brokenInvariants 6 = .ok (.iload_n 3, 1) := by decide +kernel
theorem dX6_brokenInvariants_7 : decode cX6_brokenInvariants 7 = .ok (.aload_n 0, 1) := by decide +kernel
theorem dX6_brokenInvariants_8 : decode cX6_brokenInvariants 8 = .ok (.getfield 39, 3) := by decide +kernel
theorem dX6_brokenInvariants_11 : decode cX6_brokenInvariants 11 = .ok (.if_icmp .ge 55, 3) := by decide +kernel
theorem dX6_brokenInvariants_14 : decode cX6_brokenInvariants 14 = .ok (.aload_n 0, 1) := by decide +kernel
theorem dX6_brokenInvariants_15 : decode cX6_brokenInvariants 15 = .ok (.getfield 25, 3) := by decide +kernel
theorem dX6_brokenInvariants_18 : decode cX6_brokenInvariants 18 = .ok (.iload_n 3, 1) := by decide +kernel
theorem dX6_brokenInvariants_19 : decode cX6_brokenInvariants 19 = .ok (.aaload, 1) := by decide +kernel
theorem dX6_brokenInvariants_20 : decode cX6_brokenInvariants 20 = .ok (.astore 4, 2) := by decide +kernel
theorem dX6_brokenInvariants_22 : decode cX6_brokenInvariants 22 = .ok (.iload_n 1, 1) := by decide +kernel
theorem dX6_brokenInvariants_23 : decode cX6_brokenInvariants 23 = .ok (.aload 4, 2) := by decide +kernel
theorem dX6_brokenInvariants_25 : decode cX6_brokenInvariants 25 = .ok (.invokevirtual 87, 3) := by decide +kernel
theorem dX6_brokenInvariants_28 : decode cX6_brokenInvariants 28 = .ok (.iadd, 1) := by decide +kernel
theorem dX6_brokenInvariants_29 : decode cX6_brokenInvariants 29 = .ok (.istore_n 1, 1) := by decide +kernel
theorem dX6_brokenInvariants_30 : decode cX6_brokenInvariants 30 = .ok (.iload_n 2, 1) := by decide +kernel
theorem dX6_brokenInvariants_31 : decode cX6_brokenInvariants 31 = .ok (.aload 4, 2) := by decide +kernel
theorem dX6_brokenInvariants_33 : decode cX6_brokenInvariants 33 = .ok (.getfield 91, 3) := by decide +kernel
theorem dX6_brokenInvariants_36 : decode cX6_brokenInvariants 36 = .ok (.iconst 1, 1) := by decide +kernel
theorem dX6_brokenInvariants_37 : decode cX6_brokenInvariants 37 = .ok (.if_icmp .ne 20, 3) := by decide +kernel
theorem dX6_brokenInvariants_40 : decode cX6_brokenInvariants 40 = .ok (.aload 4, 2) := by decide +kernel
theorem dX6_brokenInvariants_42 : decode cX6_brokenInvariants 42 = .ok (.getfield 94, 3) := by decide +kernel
theorem dX6_brokenInvariants_45 : decode cX6_brokenInvariants 45 = .ok (.aload 4, 2) := by decide +kernel
theorem dX6_brokenInvariants_47 : decode cX6_brokenInvariants 47 = .ok (.getfield 97, 3) := by decide +kernel
theorem dX6_brokenInvariants_50 : decode cX6_brokenInvariants 50 = .ok (.if_icmp .ge 7, 3) := by decide +kernel
theorem dX6_brokenInvariants_53 : decode cX6_brokenInvariants 53 = .ok (.iconst 1, 1) := by decide +kernel
theorem dX6_brokenInvariants_54 : decode cX6_brokenInvariants 54 = .ok (.goto 4, 3) := by decide +kernel
theorem dX6_brokenInvariants_57 : decode cX6_brokenInvariants 57 = .ok (.iconst 0, 1) := by decide +kernel
theorem dX6_brokenInvariants_58 : decode cX6_brokenInvariants 58 = .ok (.iadd, 1) := by decide +kernel
theorem dX6_brokenInvariants_59 : decode cX6_brokenInvariants 59 = .ok (.istore_n 2, 1) := by decide +kernel
theorem dX6_brokenInvariants_60 : decode cX6_brokenInvariants 60 = .ok (.iinc 3 1, 3) := by decide +kernel
theorem dX6_brokenInvariants_63 : decode cX6_brokenInvariants 63 = .ok (.goto (-57), 3) := by decide +kernel
theorem dX6_brokenInvariants_66 : decode cX6_brokenInvariants 66 = .ok (.iconst 0, 1) := by decide +kernel
theorem dX6_brokenInvariants_67 : decode cX6_brokenInvariants 67 = .ok (.istore_n 3, 1) := by decide +kernel
theorem dX6_brokenInvariants_68 : decode cX6_brokenInvariants 68 = .ok (.iconst 0, 1) := by decide +kernel
theorem dX6_brokenInvariants_69 : decode cX6_brokenInvariants 69 = .ok (.istore 4, 2) := by decide +kernel
theorem dX6_brokenInvariants_71 : decode cX6_brokenInvariants 71 = .ok (.iconst 0, 1) := by decide +kernel
theorem dX6_brokenInvariants_72 : decode cX6_brokenInvariants 72 = .ok (.istore 5, 2) := by decide +kernel
theorem dX6_brokenInvariants_74 : decode cX6_brokenInvariants 74 = .ok (.iload 5, 2) := by decide +kernel
theorem dX6_brokenInvariants_76 : decode cX6_brokenInvariants 76 = .ok (.aload_n 0, 1) := by decide +kernel
theorem dX6_brokenInvariants_77 : decode cX6_brokenInvariants 77 = .ok (.getfield 36, 3) := by decide +kernel
theorem dX6_brokenInvariants_80 : decode cX6_brokenInvariants 80 = .ok (.if_icmp .ge 37, 3) := by decide +kernel
theorem dX6_brokenInvariants_83 : decode cX6_brokenInvariants 83 = .ok (.iload_n 3, 1) := by decide +kernel
theorem dX6_brokenInvariants_84 : decode cX6_brokenInvariants 84 = .ok (.aload_n 0, 1) := by decide +kernel
theorem dX6_brokenInvariants_85 : decode cX6_brokenInvariants 85 = .ok (.getfield 19, 3) := by decide +kernel
theorem dX6_brokenInvariants_88 : decode cX6_brokenInvariants 88 = .ok (.iload 5, 2) := by decide +kernel
theorem dX6_brokenInvariants_90 : decode cX6_brokenInvariants 90 = .ok (.aaload, 1) := by decide +kernel
theorem dX6_brokenInvariants_91 : decode cX6_brokenInvariants 91 = .ok (.getfield 100, 3) := by decide +kernel
theorem dX6_brokenInvariants_94 : decode cX6_brokenInvariants 94 = .ok (.iadd, 1) := by decide +kernel
theorem dX6_brokenInvariants_95 : decode cX6_brokenInvariants 95 = .ok (.istore_n 3, 1) := by decide +kernel
theorem dX6_brokenInvariants_96 : decode cX6_brokenInvariants 96 = .ok (.iload 4, 2) := by decide +kernel
theorem dX6_brokenInvariants_98 : decode cX6_brokenInvariants 98 = .ok (.aload_n 0, 1) := by decide +kernel
theorem dX6_brokenInvariants_99 : decode cX6_brokenInvariants 99 = .ok (.getfield 19, 3) := by decide +kernel
theorem dX6_brokenInvariants_102 : decode cX6_brokenInvariants 102 = .ok (.iload 5, 2) := by decide +kernel
theorem dX6_brokenInvariants_104 : decode cX6_brokenInvariants 104 = .ok (.aaload, 1) := by decide +kernel
theorem dX6_brokenInvariants_105 : decode cX6_brokenInvariants 105 = .ok (.getfield 103, 3) := by decide +kernel
theorem dX6_brokenInvariants_108 : decode cX6_brokenInvariants 108 = .ok (.iadd, 1) := by decide +kernel
theorem dX6_brokenInvariants_109 : decode cX6_brokenInvariants 109 = .ok (.istore 4, 2) := by decide +kernel
theorem dX6_brokenInvariants_111 : decode cX6_brokenInvariants 111 = .ok (.iinc 5 1, 3) := by decide +kernel
theorem dX6_brokenInvariants_114 : decode cX6_brokenInvariants 114 = .ok (.goto (-40), 3) := by decide +kernel
theorem dX6_brokenInvariants_117 : decode cX6_brokenInvariants 117 = .ok (.aload_n 0, 1) := by decide +kernel
theorem dX6_brokenInvariants_118 : decode cX6_brokenInvariants 118 = .ok (.getfield 48, 3) := by decide +kernel
theorem dX6_brokenInvariants_121 : decode cX6_brokenInvariants 121 = .ok (.aload_n 0, 1) := by decide +kernel
theorem dX6_brokenInvariants_122 : decode cX6_brokenInvariants 122 = .ok (.getfield 54, 3) := by decide +kernel
theorem dX6_brokenInvariants_125 : decode cX6_brokenInvariants 125 = .ok (.iadd, 1) := by decide +kernel
theorem dX6_brokenInvariants_126 : decode cX6_brokenInvariants 126 = .ok (.istore 5, 2) := by decide +kernel
theorem dX6_brokenInvariants_128 : decode cX6_brokenInvariants 128 = .ok (.iload_n 1, 1) := by decide +kernel
theorem dX6_brokenInvariants_129 : decode cX6_brokenInvariants 129 = .ok (.iload 5, 2) := by decide +kernel
theorem dX6_brokenInvariants_131 : decode cX6_brokenInvariants 131 = .ok (.isub, 1) := by decide +kernel
theorem dX6_brokenInvariants_132 : decode cX6_brokenInvariants 132 = .ok (.aload_n 0, 1) := by decide +kernel
theorem dX6_brokenInvariants_133 : decode cX6_brokenInvariants 133 = .ok (.getfield 51, 3) := by decide +kernel
theorem dX6_brokenInvariants_136 : decode cX6_brokenInvariants 136 = .ok (.isub, 1) := by decide +kernel
theorem dX6_brokenInvariants_137 : decode cX6_brokenInvariants 137 = .ok (.invokestatic 106, 3) := by decide +kernel
theorem dX6_brokenInvariants_140 : decode cX6_brokenInvariants 140 = .ok (.iload_n 3, 1) := by decide +kernel
theorem dX6_brokenInvariants_141 : decode cX6_brokenInvariants 141 = .ok (.iload 4, 2) := by decide +kernel
theorem dX6_brokenInvariants_143 : decode cX6_brokenInvariants 143 = .ok (.isub, 1) := by decide +kernel
theorem dX6_brokenInvariants_144 : decode cX6_brokenInvariants 144 = .ok (.iload 5, 2) := by decide +kernel
theorem dX6_brokenInvariants_146 : decode cX6_brokenInvariants 146 = .ok (.isub, 1) := by decide +kernel
theorem dX6_brokenInvariants_147 : decode cX6_brokenInvariants 147 = .ok (.invokestatic 106, 3) := by decide +kernel
theorem dX6_brokenInvariants_150 : decode cX6_brokenInvariants 150 = .ok (.iadd, 1) := by decide +kernel
theorem dX6_brokenInvariants_151 : decode cX6_brokenInvariants 151 = .ok (.iload_n 2, 1) := by decide +kernel
theorem dX6_brokenInvariants_152 : decode cX6_brokenInvariants 152 = .ok (.iadd, 1) := by decide +kernel
theorem dX6_brokenInvariants_153 : decode cX6_brokenInvariants 153 = .ok (.ireturn, 1) := by decide +kernel
theorem dX6_valleyNamed_0 : decode cX6_valleyNamed 0 = .ok (.iconst 0, 1) := by decide +kernel
theorem dX6_valleyNamed_1 : decode cX6_valleyNamed 1 = .ok (.istore_n 3, 1) := by decide +kernel
theorem dX6_valleyNamed_2 : decode cX6_valleyNamed 2 = .ok (.iload_n 3, 1) := by decide +kernel
theorem dX6_valleyNamed_3 : decode cX6_valleyNamed 3 = .ok (.aload_n 0, 1) := by decide +kernel
theorem dX6_valleyNamed_4 : decode cX6_valleyNamed 4 = .ok (.getfield 32, 3) := by decide +kernel
theorem dX6_valleyNamed_7 : decode cX6_valleyNamed 7 = .ok (.if_icmp .ge 25, 3) := by decide +kernel
theorem dX6_valleyNamed_10 : decode cX6_valleyNamed 10 = .ok (.aload_n 0, 1) := by decide +kernel
theorem dX6_valleyNamed_11 : decode cX6_valleyNamed 11 = .ok (.getfield 11, 3) := by decide +kernel
theorem dX6_valleyNamed_14 : decode cX6_valleyNamed 14 = .ok (.iload_n 3, 1) := by decide +kernel
theorem dX6_valleyNamed_15 : decode cX6_valleyNamed 15 = .ok (.aaload, 1) := by decide +kernel
theorem dX6_valleyNamed_16 : decode cX6_valleyNamed 16 = .ok (.getfield 112, 3) := by decide +kernel
theorem dX6_valleyNamed_19 : decode cX6_valleyNamed 19 = .ok (.lload_n 1, 1) := by decide +kernel
theorem dX6_valleyNamed_20 : decode cX6_valleyNamed 20 = .ok (.lcmp, 1) := by decide +kernel
theorem dX6_valleyNamed_21 : decode cX6_valleyNamed 21 = .ok (.ifCond .ne 5, 3) := by decide +kernel
theorem dX6_valleyNamed_24 : decode cX6_valleyNamed 24 = .ok (.iload_n 3, 1) := by decide +kernel
theorem dX6_valleyNamed_25 : decode cX6_valleyNamed 25 = .ok (.ireturn, 1) := by decide +kernel
theorem dX6_valleyNamed_26 : decode cX6_valleyNamed 26 = .ok (.iinc 3 1, 3) := by decide +kernel
theorem dX6_valleyNamed_29 : decode cX6_valleyNamed 29 = .ok (.goto (-27), 3) := by decide +kernel
theorem dX6_valleyNamed_32 : decode cX6_valleyNamed 32 = .ok (.iconst (-1), 1) := by decide +kernel
theorem dX6_valleyNamed_33 : decode cX6_valleyNamed 33 = .ok (.ireturn, 1) := by decide +kernel
theorem dX6_customerNamed_0 : decode cX6_customerNamed 0 = .ok (.iconst 0, 1) := by decide +kernel
theorem dX6_customerNamed_1 : decode cX6_customerNamed 1 = .ok (.istore_n 3, 1) := by decide +kernel
theorem dX6_customerNamed_2 : decode cX6_customerNamed 2 = .ok (.iload_n 3, 1) := by decide +kernel
theorem dX6_customerNamed_3 : decode cX6_customerNamed 3 = .ok (.aload_n 0, 1) := by decide +kernel
theorem dX6_customerNamed_4 : decode cX6_customerNamed 4 = .ok (.getfield 36, 3) := by decide +kernel
theorem dX6_customerNamed_7 : decode cX6_customerNamed 7 = .ok (.if_icmp .ge 25, 3) := by decide +kernel
theorem dX6_customerNamed_10 : decode cX6_customerNamed 10 = .ok (.aload_n 0, 1) := by decide +kernel
theorem dX6_customerNamed_11 : decode cX6_customerNamed 11 = .ok (.getfield 19, 3) := by decide +kernel
theorem dX6_customerNamed_14 : decode cX6_customerNamed 14 = .ok (.iload_n 3, 1) := by decide +kernel
theorem dX6_customerNamed_15 : decode cX6_customerNamed 15 = .ok (.aaload, 1) := by decide +kernel
theorem dX6_customerNamed_16 : decode cX6_customerNamed 16 = .ok (.getfield 116, 3) := by decide +kernel
theorem dX6_customerNamed_19 : decode cX6_customerNamed 19 = .ok (.lload_n 1, 1) := by decide +kernel
theorem dX6_customerNamed_20 : decode cX6_customerNamed 20 = .ok (.lcmp, 1) := by decide +kernel
theorem dX6_customerNamed_21 : decode cX6_customerNamed 21 = .ok (.ifCond .ne 5, 3) := by decide +kernel
theorem dX6_customerNamed_24 : decode cX6_customerNamed 24 = .ok (.iload_n 3, 1) := by decide +kernel
theorem dX6_customerNamed_25 : decode cX6_customerNamed 25 = .ok (.ireturn, 1) := by decide +kernel
theorem dX6_customerNamed_26 : decode cX6_customerNamed 26 = .ok (.iinc 3 1, 3) := by decide +kernel
theorem dX6_customerNamed_29 : decode cX6_customerNamed 29 = .ok (.goto (-27), 3) := by decide +kernel
theorem dX6_customerNamed_32 : decode cX6_customerNamed 32 = .ok (.iconst (-1), 1) := by decide +kernel
theorem dX6_customerNamed_33 : decode cX6_customerNamed 33 = .ok (.ireturn, 1) := by decide +kernel
theorem dX6_valleyRanked_0 : decode cX6_valleyRanked 0 = .ok (.iconst 0, 1) := by decide +kernel
theorem dX6_valleyRanked_1 : decode cX6_valleyRanked 1 = .ok (.istore_n 2, 1) := by decide +kernel
theorem dX6_valleyRanked_2 : decode cX6_valleyRanked 2 = .ok (.iload_n 2, 1) := by decide +kernel
theorem dX6_valleyRanked_3 : decode cX6_valleyRanked 3 = .ok (.aload_n 0, 1) := by decide +kernel
theorem dX6_valleyRanked_4 : decode cX6_valleyRanked 4 = .ok (.getfield 32, 3) := by decide +kernel
theorem dX6_valleyRanked_7 : decode cX6_valleyRanked 7 = .ok (.if_icmp .ge 28, 3) := by decide +kernel
theorem dX6_valleyRanked_10 : decode cX6_valleyRanked 10 = .ok (.aload_n 0, 1) := by decide +kernel
theorem dX6_valleyRanked_11 : decode cX6_valleyRanked 11 = .ok (.aload_n 0, 1) := by decide +kernel
theorem dX6_valleyRanked_12 : decode cX6_valleyRanked 12 = .ok (.getfield 11, 3) := by decide +kernel
theorem dX6_valleyRanked_15 : decode cX6_valleyRanked 15 = .ok (.iload_n 2, 1) := by decide +kernel
theorem dX6_valleyRanked_16 : decode cX6_valleyRanked 16 = .ok (.aaload, 1) := by decide +kernel
theorem dX6_valleyRanked_17 : decode cX6_valleyRanked 17 = .ok (.getfield 112, 3) := by decide +kernel
theorem dX6_valleyRanked_20 : decode cX6_valleyRanked 20 = .ok (.invokevirtual 117, 3) := by decide +kernel
theorem dX6_valleyRanked_23 : decode cX6_valleyRanked 23 = .ok (.iload_n 1, 1) := by decide +kernel
theorem dX6_valleyRanked_24 : decode cX6_valleyRanked 24 = .ok (.if_icmp .ne 5, 3) := by decide +kernel
theorem dX6_valleyRanked_27 : decode cX6_valleyRanked 27 = .ok (.iload_n 2, 1) := by decide +kernel
theorem dX6_valleyRanked_28 : decode cX6_valleyRanked 28 = .ok (.ireturn, 1) := by decide +kernel
theorem dX6_valleyRanked_29 : decode cX6_valleyRanked 29 = .ok (.iinc 2 1, 3) := by decide +kernel
theorem dX6_valleyRanked_32 : decode cX6_valleyRanked 32 = .ok (.goto (-30), 3) := by decide +kernel
theorem dX6_valleyRanked_35 : decode cX6_valleyRanked 35 = .ok (.iconst (-1), 1) := by decide +kernel
theorem dX6_valleyRanked_36 : decode cX6_valleyRanked 36 = .ok (.ireturn, 1) := by decide +kernel
theorem dX6_namesBefore_0 : decode cX6_namesBefore 0 = .ok (.iconst 0, 1) := by decide +kernel
theorem dX6_namesBefore_1 : decode cX6_namesBefore 1 = .ok (.istore_n 3, 1) := by decide +kernel
theorem dX6_namesBefore_2 : decode cX6_namesBefore 2 = .ok (.iconst 0, 1) := by decide +kernel
theorem dX6_namesBefore_3 : decode cX6_namesBefore 3 = .ok (.istore 4, 2) := by decide +kernel
theorem dX6_namesBefore_5 : decode cX6_namesBefore 5 = .ok (.iload 4, 2) := by decide +kernel
theorem dX6_namesBefore_7 : decode cX6_namesBefore 7 = .ok (.aload_n 0, 1) := by decide +kernel
theorem dX6_namesBefore_8 : decode cX6_namesBefore 8 = .ok (.getfield 32, 3) := by decide +kernel
theorem dX6_namesBefore_11 : decode cX6_namesBefore 11 = .ok (.if_icmp .ge 32, 3) := by decide +kernel
theorem dX6_namesBefore_14 : decode cX6_namesBefore 14 = .ok (.iload_n 3, 1) := by decide +kernel
theorem dX6_namesBefore_15 : decode cX6_namesBefore 15 = .ok (.aload_n 0, 1) := by decide +kernel
theorem dX6_namesBefore_16 : decode cX6_namesBefore 16 = .ok (.getfield 11, 3) := by decide +kernel
theorem dX6_namesBefore_19 : decode cX6_namesBefore 19 = .ok (.iload 4, 2) := by decide +kernel
theorem dX6_namesBefore_21 : decode cX6_namesBefore 21 = .ok (.aaload, 1) := by decide +kernel
theorem dX6_namesBefore_22 : decode cX6_namesBefore 22 = .ok (.getfield 112, 3) := by decide +kernel
theorem dX6_namesBefore_25 : decode cX6_namesBefore 25 = .ok (.lload_n 1, 1) := by decide +kernel
theorem dX6_namesBefore_26 : decode cX6_namesBefore 26 = .ok (.lcmp, 1) := by decide +kernel
theorem dX6_namesBefore_27 : decode cX6_namesBefore 27 = .ok (.ifCond .ge 7, 3) := by decide +kernel
theorem dX6_namesBefore_30 : decode cX6_namesBefore 30 = .ok (.iconst 1, 1) := by decide +kernel
theorem dX6_namesBefore_31 : decode cX6_namesBefore 31 = .ok (.goto 4, 3) := by decide +kernel
theorem dX6_namesBefore_34 : decode cX6_namesBefore 34 = .ok (.iconst 0, 1) := by decide +kernel
theorem dX6_namesBefore_35 : decode cX6_namesBefore 35 = .ok (.iadd, 1) := by decide +kernel
theorem dX6_namesBefore_36 : decode cX6_namesBefore 36 = .ok (.istore_n 3, 1) := by decide +kernel
theorem dX6_namesBefore_37 : decode cX6_namesBefore 37 = .ok (.iinc 4 1, 3) := by decide +kernel
theorem dX6_namesBefore_40 : decode cX6_namesBefore 40 = .ok (.goto (-35), 3) := by decide +kernel
theorem dX6_namesBefore_43 : decode cX6_namesBefore 43 = .ok (.iload_n 3, 1) := by decide +kernel
theorem dX6_namesBefore_44 : decode cX6_namesBefore 44 = .ok (.ireturn, 1) := by decide +kernel
theorem dX6_valleyRatedBest_0 : decode cX6_valleyRatedBest 0 = .ok (.iconst (-1), 1) := by decide +kernel
theorem dX6_valleyRatedBest_1 : decode cX6_valleyRatedBest 1 = .ok (.istore_n 1, 1) := by decide +kernel
theorem dX6_valleyRatedBest_2 : decode cX6_valleyRatedBest 2 = .ok (.iconst 0, 1) := by decide +kernel
theorem dX6_valleyRatedBest_3 : decode cX6_valleyRatedBest 3 = .ok (.istore_n 2, 1) := by decide +kernel
theorem dX6_valleyRatedBest_4 : decode cX6_valleyRatedBest 4 = .ok (.iload_n 2, 1) := by decide +kernel
theorem dX6_valleyRatedBest_5 : decode cX6_valleyRatedBest 5 = .ok (.aload_n 0, 1) := by decide +kernel
theorem dX6_valleyRatedBest_6 : decode cX6_valleyRatedBest 6 = .ok (.getfield 32, 3) := by decide +kernel
theorem dX6_valleyRatedBest_9 : decode cX6_valleyRatedBest 9 = .ok (.if_icmp .ge 34, 3) := by decide +kernel
theorem dX6_valleyRatedBest_12 : decode cX6_valleyRatedBest 12 = .ok (.iload_n 1, 1) := by decide +kernel
theorem dX6_valleyRatedBest_13 : decode cX6_valleyRatedBest 13 = .ok (.iconst (-1), 1) := by decide +kernel
theorem dX6_valleyRatedBest_14 : decode cX6_valleyRatedBest 14 = .ok (.if_icmp .eq 21, 3) := by decide +kernel
theorem dX6_valleyRatedBest_17 : decode cX6_valleyRatedBest 17 = .ok (.aload_n 0, 1) := by decide +kernel
theorem dX6_valleyRatedBest_18 : decode cX6_valleyRatedBest 18 = .ok (.getfield 11, 3) := by decide +kernel
theorem dX6_valleyRatedBest_21 : decode cX6_valleyRatedBest 21 = .ok (.iload_n 2, 1) := by decide +kernel
theorem dX6_valleyRatedBest_22 : decode cX6_valleyRatedBest 22 = .ok (.aaload, 1) := by decide +kernel
theorem dX6_valleyRatedBest_23 : decode cX6_valleyRatedBest 23 = .ok (.aload_n 0, 1) := by decide +kernel
theorem dX6_valleyRatedBest_24 : decode cX6_valleyRatedBest 24 = .ok (.getfield 11, 3) := by decide +kernel
theorem dX6_valleyRatedBest_27 : decode cX6_valleyRatedBest 27 = .ok (.iload_n 1, 1) := by decide +kernel
theorem dX6_valleyRatedBest_28 : decode cX6_valleyRatedBest 28 = .ok (.aaload, 1) := by decide +kernel
theorem dX6_valleyRatedBest_29 : decode cX6_valleyRatedBest 29 = .ok (.invokestatic 121, 3) := by decide +kernel
theorem dX6_valleyRatedBest_32 : decode cX6_valleyRatedBest 32 = .ok (.ifCond .eq 5, 3) := by decide +kernel
theorem dX6_valleyRatedBest_35 : decode cX6_valleyRatedBest 35 = .ok (.iload_n 2, 1) := by decide +kernel
theorem dX6_valleyRatedBest_36 : decode cX6_valleyRatedBest 36 = .ok (.istore_n 1, 1) := by decide +kernel
theorem dX6_valleyRatedBest_37 : decode cX6_valleyRatedBest 37 = .ok (.iinc 2 1, 3) := by decide +kernel
theorem dX6_valleyRatedBest_40 : decode cX6_valleyRatedBest 40 = .ok (.goto (-36), 3) := by decide +kernel
theorem dX6_valleyRatedBest_43 : decode cX6_valleyRatedBest 43 = .ok (.iload_n 1, 1) := by decide +kernel
theorem dX6_valleyRatedBest_44 : decode cX6_valleyRatedBest 44 = .ok (.ireturn, 1) := by decide +kernel
theorem dX6_isRatedBetter_0 : decode cX6_isRatedBetter 0 = .ok (.aload_n 0, 1) := by decide +kernel
theorem dX6_isRatedBetter_1 : decode cX6_isRatedBetter 1 = .ok (.getfield 81, 3) := by decide +kernel
theorem dX6_isRatedBetter_4 : decode cX6_isRatedBetter 4 = .ok (.aload_n 1, 1) := by decide +kernel
theorem dX6_isRatedBetter_5 : decode cX6_isRatedBetter 5 = .ok (.getfield 81, 3) := by decide +kernel
theorem dX6_isRatedBetter_8 : decode cX6_isRatedBetter 8 = .ok (.if_icmp .gt 25, 3) := by decide +kernel
theorem dX6_isRatedBetter_11 : decode cX6_isRatedBetter 11 = .ok (.aload_n 0, 1) := by decide +kernel
theorem dX6_isRatedBetter_12 : decode cX6_isRatedBetter 12 = .ok (.getfield 81, 3) := by decide +kernel
theorem dX6_isRatedBetter_15 : decode cX6_isRatedBetter 15 = .ok (.aload_n 1, 1) := by decide +kernel
theorem dX6_isRatedBetter_16 : decode cX6_isRatedBetter 16 = .ok (.getfield 81, 3) := by decide +kernel
theorem dX6_isRatedBetter_19 : decode cX6_isRatedBetter 19 = .ok (.if_icmp .ne 18, 3) := by decide +kernel
theorem dX6_isRatedBetter_22 : decode cX6_isRatedBetter 22 = .ok (.aload_n 0, 1) := by decide +kernel
theorem dX6_isRatedBetter_23 : decode cX6_isRatedBetter 23 = .ok (.getfield 125, 3) := by decide +kernel
theorem dX6_isRatedBetter_26 : decode cX6_isRatedBetter 26 = .ok (.aload_n 1, 1) := by decide +kernel
theorem dX6_isRatedBetter_27 : decode cX6_isRatedBetter 27 = .ok (.getfield 125, 3) := by decide +kernel
theorem dX6_isRatedBetter_30 : decode cX6_isRatedBetter 30 = .ok (.if_icmp .ge 7, 3) := by decide +kernel
theorem dX6_isRatedBetter_33 : decode cX6_isRatedBetter 33 = .ok (.iconst 1, 1) := by decide +kernel
theorem dX6_isRatedBetter_34 : decode cX6_isRatedBetter 34 = .ok (.goto 4, 3) := by decide +kernel
theorem dX6_isRatedBetter_37 : decode cX6_isRatedBetter 37 = .ok (.iconst 0, 1) := by decide +kernel
theorem dX6_isRatedBetter_38 : decode cX6_isRatedBetter 38 = .ok (.ireturn, 1) := by decide +kernel
theorem dX6_valleyToBuyIn_0 : decode cX6_valleyToBuyIn 0 = .ok (.iconst (-1), 1) := by decide +kernel
theorem dX6_valleyToBuyIn_1 : decode cX6_valleyToBuyIn 1 = .ok (.istore_n 3, 1) := by decide +kernel
theorem dX6_valleyToBuyIn_2 : decode cX6_valleyToBuyIn 2 = .ok (.iconst 0, 1) := by decide +kernel
theorem dX6_valleyToBuyIn_3 : decode cX6_valleyToBuyIn 3 = .ok (.istore 4, 2) := by decide +kernel
theorem dX6_valleyToBuyIn_5 : decode cX6_valleyToBuyIn 5 = .ok (.iload 4, 2) := by decide +kernel
theorem dX6_valleyToBuyIn_7 : decode cX6_valleyToBuyIn 7 = .ok (.aload_n 0, 1) := by decide +kernel
theorem dX6_valleyToBuyIn_8 : decode cX6_valleyToBuyIn 8 = .ok (.getfield 32, 3) := by decide +kernel
theorem dX6_valleyToBuyIn_11 : decode cX6_valleyToBuyIn 11 = .ok (.if_icmp .ge 83, 3) := by decide +kernel
theorem dX6_valleyToBuyIn_14 : decode cX6_valleyToBuyIn 14 = .ok (.aload_n 0, 1) := by decide +kernel
theorem dX6_valleyToBuyIn_15 : decode cX6_valleyToBuyIn 15 = .ok (.getfield 11, 3) := by decide +kernel
theorem dX6_valleyToBuyIn_18 : decode cX6_valleyToBuyIn 18 = .ok (.iload 4, 2) := by decide +kernel
theorem dX6_valleyToBuyIn_20 : decode cX6_valleyToBuyIn 20 = .ok (.aaload, 1) := by decide +kernel
theorem dX6_valleyToBuyIn_21 : decode cX6_valleyToBuyIn 21 = .ok (.getfield 128, 3) := by decide +kernel
theorem dX6_valleyToBuyIn_24 : decode cX6_valleyToBuyIn 24 = .ok (.iload_n 2, 1) := by decide +kernel
theorem dX6_valleyToBuyIn_25 : decode cX6_valleyToBuyIn 25 = .ok (.imul, 1) := by decide +kernel
theorem dX6_valleyToBuyIn_26 : decode cX6_valleyToBuyIn 26 = .ok (.aload_n 0, 1) := by decide +kernel
theorem dX6_valleyToBuyIn_27 : decode cX6_valleyToBuyIn 27 = .ok (.getfield 19, 3) := by decide +kernel
theorem dX6_valleyToBuyIn_30 : decode cX6_valleyToBuyIn 30 = .ok (.iload_n 1, 1) := by decide +kernel
theorem dX6_valleyToBuyIn_31 : decode cX6_valleyToBuyIn 31 = .ok (.aaload, 1) := by decide +kernel
theorem dX6_valleyToBuyIn_32 : decode cX6_valleyToBuyIn 32 = .ok (.getfield 131, 3) := by decide +kernel
theorem dX6_valleyToBuyIn_35 : decode cX6_valleyToBuyIn 35 = .ok (.if_icmp .gt 7, 3) := by decide +kernel
theorem dX6_valleyToBuyIn_38 : decode cX6_valleyToBuyIn 38 = .ok (.iconst 1, 1) := by decide +kernel
theorem dX6_valleyToBuyIn_39 : decode cX6_valleyToBuyIn 39 = .ok (.goto 4, 3) := by decide +kernel
theorem dX6_valleyToBuyIn_42 : decode cX6_valleyToBuyIn 42 = .ok (.iconst 0, 1) := by decide +kernel
theorem dX6_valleyToBuyIn_43 : decode cX6_valleyToBuyIn 43 = .ok (.istore 5, 2) := by decide +kernel
theorem dX6_valleyToBuyIn_45 : decode cX6_valleyToBuyIn 45 = .ok (.iload 5, 2) := by decide +kernel
theorem dX6_valleyToBuyIn_47 : decode cX6_valleyToBuyIn 47 = .ok (.ifCond .eq 41, 3) := by decide +kernel
theorem dX6_valleyToBuyIn_50 : decode cX6_valleyToBuyIn 50 = .ok (.aload_n 0, 1) := by decide +kernel
theorem dX6_valleyToBuyIn_51 : decode cX6_valleyToBuyIn 51 = .ok (.iload_n 1, 1) := by decide +kernel
theorem dX6_valleyToBuyIn_52 : decode cX6_valleyToBuyIn 52 = .ok (.iload 4, 2) := by decide +kernel
theorem dX6_valleyToBuyIn_54 : decode cX6_valleyToBuyIn 54 = .ok (.iload_n 2, 1) := by decide +kernel
theorem dX6_valleyToBuyIn_55 : decode cX6_valleyToBuyIn 55 = .ok (.invokevirtual 134, 3) := by decide +kernel
theorem dX6_valleyToBuyIn_58 : decode cX6_valleyToBuyIn 58 = .ok (.ifCond .ne 30, 3) := by decide +kernel
theorem dX6_valleyToBuyIn_61 : decode cX6_valleyToBuyIn 61 = .ok (.iload_n 3, 1) := by decide +kernel
theorem dX6_valleyToBuyIn_62 : decode cX6_valleyToBuyIn 62 = .ok (.iconst (-1), 1) := by decide +kernel
theorem dX6_valleyToBuyIn_63 : decode cX6_valleyToBuyIn 63 = .ok (.if_icmp .eq 22, 3) := by decide +kernel
theorem dX6_valleyToBuyIn_66 : decode cX6_valleyToBuyIn 66 = .ok (.aload_n 0, 1) := by decide +kernel
theorem dX6_valleyToBuyIn_67 : decode cX6_valleyToBuyIn 67 = .ok (.getfield 11, 3) := by decide +kernel
theorem dX6_valleyToBuyIn_70 : decode cX6_valleyToBuyIn 70 = .ok (.iload 4, 2) := by decide +kernel
theorem dX6_valleyToBuyIn_72 : decode cX6_valleyToBuyIn 72 = .ok (.aaload, 1) := by decide +kernel
theorem dX6_valleyToBuyIn_73 : decode cX6_valleyToBuyIn 73 = .ok (.aload_n 0, 1) := by decide +kernel
theorem dX6_valleyToBuyIn_74 : decode cX6_valleyToBuyIn 74 = .ok (.getfield 11, 3) := by decide +kernel
theorem dX6_valleyToBuyIn_77 : decode cX6_valleyToBuyIn 77 = .ok (.iload_n 3, 1) := by decide +kernel
theorem dX6_valleyToBuyIn_78 : decode cX6_valleyToBuyIn 78 = .ok (.aaload, 1) := by decide +kernel
theorem dX6_valleyToBuyIn_79 : decode cX6_valleyToBuyIn 79 = .ok (.invokestatic 138, 3) := by decide +kernel
theorem dX6_valleyToBuyIn_82 : decode cX6_valleyToBuyIn 82 = .ok (.ifCond .eq 6, 3) := by decide +kernel
theorem dX6_valleyToBuyIn_85 : decode cX6_valleyToBuyIn 85 = .ok (.iload 4, 2) := by decide +kernel
theorem dX6_valleyToBuyIn_87 : decode cX6_valleyToBuyIn 87 = .ok (.istore_n 3, 1) := by decide +kernel
theorem dX6_valleyToBuyIn_88 : decode cX6_valleyToBuyIn 88 = .ok (.iinc 4 1, 3) := by decide +kernel
theorem dX6_valleyToBuyIn_91 : decode cX6_valleyToBuyIn 91 = .ok (.goto (-86), 3) := by decide +kernel
theorem dX6_valleyToBuyIn_94 : decode cX6_valleyToBuyIn 94 = .ok (.iload_n 3, 1) := by decide +kernel
theorem dX6_valleyToBuyIn_95 : decode cX6_valleyToBuyIn 95 = .ok (.ireturn, 1) := by decide +kernel
theorem dX6_isOfferedBetter_0 : decode cX6_isOfferedBetter 0 = .ok (.aload_n 0, 1) := by decide +kernel
theorem dX6_isOfferedBetter_1 : decode cX6_isOfferedBetter 1 = .ok (.getfield 125, 3) := by decide +kernel
theorem dX6_isOfferedBetter_4 : decode cX6_isOfferedBetter 4 = .ok (.aload_n 1, 1) := by decide +kernel
theorem dX6_isOfferedBetter_5 : decode cX6_isOfferedBetter 5 = .ok (.getfield 125, 3) := by decide +kernel
theorem dX6_isOfferedBetter_8 : decode cX6_isOfferedBetter 8 = .ok (.if_icmp .lt 25, 3) := by decide +kernel
theorem dX6_isOfferedBetter_11 : decode cX6_isOfferedBetter 11 = .ok (.aload_n 0, 1) := by decide +kernel
theorem dX6_isOfferedBetter_12 : decode cX6_isOfferedBetter 12 = .ok (.getfield 125, 3) := by decide +kernel
theorem dX6_isOfferedBetter_15 : decode cX6_isOfferedBetter 15 = .ok (.aload_n 1, 1) := by decide +kernel
theorem dX6_isOfferedBetter_16 : decode cX6_isOfferedBetter 16 = .ok (.getfield 125, 3) := by decide +kernel
theorem dX6_isOfferedBetter_19 : decode cX6_isOfferedBetter 19 = .ok (.if_icmp .ne 18, 3) := by decide +kernel
theorem dX6_isOfferedBetter_22 : decode cX6_isOfferedBetter 22 = .ok (.aload_n 0, 1) := by decide +kernel
theorem dX6_isOfferedBetter_23 : decode cX6_isOfferedBetter 23 = .ok (.getfield 81, 3) := by decide +kernel
theorem dX6_isOfferedBetter_26 : decode cX6_isOfferedBetter 26 = .ok (.aload_n 1, 1) := by decide +kernel
theorem dX6_isOfferedBetter_27 : decode cX6_isOfferedBetter 27 = .ok (.getfield 81, 3) := by decide +kernel
theorem dX6_isOfferedBetter_30 : decode cX6_isOfferedBetter 30 = .ok (.if_icmp .le 7, 3) := by decide +kernel
theorem dX6_isOfferedBetter_33 : decode cX6_isOfferedBetter 33 = .ok (.iconst 1, 1) := by decide +kernel
theorem dX6_isOfferedBetter_34 : decode cX6_isOfferedBetter 34 = .ok (.goto 4, 3) := by decide +kernel
theorem dX6_isOfferedBetter_37 : decode cX6_isOfferedBetter 37 = .ok (.iconst 0, 1) := by decide +kernel
theorem dX6_isOfferedBetter_38 : decode cX6_isOfferedBetter 38 = .ok (.ireturn, 1) := by decide +kernel
theorem dX6_customerHearingMost_0 : decode cX6_customerHearingMost 0 = .ok (.iconst (-1), 1) := by decide +kernel
theorem dX6_customerHearingMost_1 : decode cX6_customerHearingMost 1 = .ok (.istore_n 1, 1) := by decide +kernel
theorem dX6_customerHearingMost_2 : decode cX6_customerHearingMost 2 = .ok (.iconst 0, 1) := by decide +kernel
theorem dX6_customerHearingMost_3 : decode cX6_customerHearingMost 3 = .ok (.istore_n 2, 1) := by decide +kernel
theorem dX6_customerHearingMost_4 : decode cX6_customerHearingMost 4 = .ok (.iload_n 2, 1) := by decide +kernel
theorem dX6_customerHearingMost_5 : decode cX6_customerHearingMost 5 = .ok (.aload_n 0, 1) := by decide +kernel
theorem dX6_customerHearingMost_6 : decode cX6_customerHearingMost 6 = .ok (.getfield 36, 3) := by decide +kernel
theorem dX6_customerHearingMost_9 : decode cX6_customerHearingMost 9 = .ok (.if_icmp .ge 37, 3) := by decide +kernel
theorem dX6_customerHearingMost_12 : decode cX6_customerHearingMost 12 = .ok (.iload_n 1, 1) := by decide +kernel
theorem dX6_customerHearingMost_13 : decode cX6_customerHearingMost 13 = .ok (.iconst (-1), 1) := by decide +kernel
theorem dX6_customerHearingMost_14 : decode cX6_customerHearingMost 14 = .ok (.if_icmp .eq 24, 3) := by decide +kernel
theorem dX6_customerHearingMost_17 : decode cX6_customerHearingMost 17 = .ok (.aload_n 0, 1) := by decide +kernel
theorem dX6_customerHearingMost_18 : decode cX6_customerHearingMost 18 = .ok (.getfield 19, 3) := by decide +kernel
theorem dX6_customerHearingMost_21 : decode cX6_customerHearingMost 21 = .ok (.iload_n 2, 1) := by decide +kernel
theorem dX6_customerHearingMost_22 : decode cX6_customerHearingMost 22 = .ok (.aaload, 1) := by decide +kernel
theorem dX6_customerHearingMost_23 : decode cX6_customerHearingMost 23 = .ok (.getfield 141, 3) := by decide +kernel
theorem dX6_customerHearingMost_26 : decode cX6_customerHearingMost 26 = .ok (.aload_n 0, 1) := by decide +kernel
theorem dX6_customerHearingMost_27 : decode cX6_customerHearingMost 27 = .ok (.getfield 19, 3) := by decide +kernel
theorem dX6_customerHearingMost_30 : decode cX6_customerHearingMost 30 = .ok (.iload_n 1, 1) := by decide +kernel
theorem dX6_customerHearingMost_31 : decode cX6_customerHearingMost 31 = .ok (.aaload, 1) := by decide +kernel
theorem dX6_customerHearingMost_32 : decode cX6_customerHearingMost 32 = .ok (.getfield 141, 3) := by decide +kernel
theorem dX6_customerHearingMost_35 : decode cX6_customerHearingMost 35 = .ok (.if_icmp .le 5, 3) := by decide +kernel
theorem dX6_customerHearingMost_38 : decode cX6_customerHearingMost 38 = .ok (.iload_n 2, 1) := by decide +kernel
theorem dX6_customerHearingMost_39 : decode cX6_customerHearingMost 39 = .ok (.istore_n 1, 1) := by decide +kernel
theorem dX6_customerHearingMost_40 : decode cX6_customerHearingMost 40 = .ok (.iinc 2 1, 3) := by decide +kernel
theorem dX6_customerHearingMost_43 : decode cX6_customerHearingMost 43 = .ok (.goto (-39), 3) := by decide +kernel
theorem dX6_customerHearingMost_46 : decode cX6_customerHearingMost 46 = .ok (.iload_n 1, 1) := by decide +kernel
theorem dX6_customerHearingMost_47 : decode cX6_customerHearingMost 47 = .ok (.ireturn, 1) := by decide +kernel
theorem dX6_secondOfNextEvent_0 : decode cX6_secondOfNextEvent 0 = .ok (.iconst (-1), 1) := by decide +kernel
theorem dX6_secondOfNextEvent_1 : decode cX6_secondOfNextEvent 1 = .ok (.istore_n 1, 1) := by decide +kernel
theorem dX6_secondOfNextEvent_2 : decode cX6_secondOfNextEvent 2 = .ok (.iconst 0, 1) := by decide +kernel
theorem dX6_secondOfNextEvent_3 : decode cX6_secondOfNextEvent 3 = .ok (.istore_n 2, 1) := by decide +kernel
theorem dX6_secondOfNextEvent_4 : decode cX6_secondOfNextEvent 4 = .ok (.iload_n 2, 1) := by decide +kernel
theorem dX6_secondOfNextEvent_5 : decode cX6_secondOfNextEvent 5 = .ok (.aload_n 0, 1) := by decide +kernel
theorem dX6_secondOfNextEvent_6 : decode cX6_secondOfNextEvent 6 = .ok (.getfield 39, 3) := by decide +kernel
theorem dX6_secondOfNextEvent_9 : decode cX6_secondOfNextEvent 9 = .ok (.if_icmp .ge 50, 3) := by decide +kernel
theorem dX6_secondOfNextEvent_12 : decode cX6_secondOfNextEvent 12 = .ok (.aload_n 0, 1) := by decide +kernel
theorem dX6_secondOfNextEvent_13 : decode cX6_secondOfNextEvent 13 = .ok (.getfield 25, 3) := by decide +kernel
theorem dX6_secondOfNextEvent_16 : decode cX6_secondOfNextEvent 16 = .ok (.iload_n 2, 1) := by decide +kernel
theorem dX6_secondOfNextEvent_17 : decode cX6_secondOfNextEvent 17 = .ok (.aaload, 1) := by decide +kernel
theorem dX6_secondOfNextEvent_18 : decode cX6_secondOfNextEvent 18 = .ok (.astore_n 3, 1) := by decide +kernel
theorem dX6_secondOfNextEvent_19 : decode cX6_secondOfNextEvent 19 = .ok (.aload_n 3, 1) := by decide +kernel
theorem dX6_secondOfNextEvent_20 : decode cX6_secondOfNextEvent 20 = .ok (.invokevirtual 142, 3) := by decide +kernel
theorem dX6_secondOfNextEvent_23 : decode cX6_secondOfNextEvent 23 = .ok (.aload_n 3, 1) := by decide +kernel
theorem dX6_secondOfNextEvent_24 : decode cX6_secondOfNextEvent 24 = .ok (.getfield 145, 3) := by decide +kernel
theorem dX6_secondOfNextEvent_27 : decode cX6_secondOfNextEvent 27 = .ok (.invokestatic 148, 3) := by decide +kernel
theorem dX6_secondOfNextEvent_30 : decode cX6_secondOfNextEvent 30 = .ok (.istore 4, 2) := by decide +kernel
theorem dX6_secondOfNextEvent_32 : decode cX6_secondOfNextEvent 32 = .ok (.aload_n 3, 1) := by decide +kernel
theorem dX6_secondOfNextEvent_33 : decode cX6_secondOfNextEvent 33 = .ok (.invokevirtual 77, 3) := by decide +kernel
theorem dX6_secondOfNextEvent_36 : decode cX6_secondOfNextEvent 36 = .ok (.ifCond .eq 17, 3) := by decide +kernel
theorem dX6_secondOfNextEvent_39 : decode cX6_secondOfNextEvent 39 = .ok (.iload_n 1, 1) := by decide +kernel
theorem dX6_secondOfNextEvent_40 : decode cX6_secondOfNextEvent 40 = .ok (.iconst (-1), 1) := by decide +kernel
theorem dX6_secondOfNextEvent_41 : decode cX6_secondOfNextEvent 41 = .ok (.if_icmp .eq 9, 3) := by decide +kernel
theorem dX6_secondOfNextEvent_44 : decode cX6_secondOfNextEvent 44 = .ok (.iload 4, 2) := by decide +kernel
theorem dX6_secondOfNextEvent_46 : decode cX6_secondOfNextEvent 46 = .ok (.iload_n 1, 1) := by decide +kernel
theorem dX6_secondOfNextEvent_47 : decode cX6_secondOfNextEvent 47 = .ok (.if_icmp .ge 6, 3) := by decide +kernel
theorem dX6_secondOfNextEvent_50 : decode cX6_secondOfNextEvent 50 = .ok (.iload 4, 2) := by decide +kernel
theorem dX6_secondOfNextEvent_52 : decode cX6_secondOfNextEvent 52 = .ok (.istore_n 1, 1) := by decide +kernel
theorem dX6_secondOfNextEvent_53 : decode cX6_secondOfNextEvent 53 = .ok (.iinc 2 1, 3) := by decide +kernel
theorem dX6_secondOfNextEvent_56 : decode cX6_secondOfNextEvent 56 = .ok (.goto (-52), 3) := by decide +kernel
theorem dX6_secondOfNextEvent_59 : decode cX6_secondOfNextEvent 59 = .ok (.iload_n 1, 1) := by decide +kernel
theorem dX6_secondOfNextEvent_60 : decode cX6_secondOfNextEvent 60 = .ok (.ireturn, 1) := by decide +kernel
theorem dX6_earningsUntil_0 : decode cX6_earningsUntil 0 = .ok (.aload_n 0, 1) := by decide +kernel
theorem dX6_earningsUntil_1 : decode cX6_earningsUntil 1 = .ok (.getfield 48, 3) := by decide +kernel
theorem dX6_earningsUntil_4 : decode cX6_earningsUntil 4 = .ok (.istore_n 2, 1) := by decide +kernel
theorem dX6_earningsUntil_5 : decode cX6_earningsUntil 5 = .ok (.iconst 0, 1) := by decide +kernel
theorem dX6_earningsUntil_6 : decode cX6_earningsUntil 6 = .ok (.istore_n 3, 1) := by decide +kernel
theorem dX6_earningsUntil_7 : decode cX6_earningsUntil 7 = .ok (.iload_n 3, 1) := by decide +kernel
theorem dX6_earningsUntil_8 : decode cX6_earningsUntil 8 = .ok (.aload_n 0, 1) := by decide +kernel
theorem dX6_earningsUntil_9 : decode cX6_earningsUntil 9 = .ok (.getfield 39, 3) := by decide +kernel
theorem dX6_earningsUntil_12 : decode cX6_earningsUntil 12 = .ok (.if_icmp .ge 39, 3) := by decide +kernel
theorem dX6_earningsUntil_15 : decode cX6_earningsUntil 15 = .ok (.iload_n 2, 1) := by decide +kernel
theorem dX6_earningsUntil_16 : decode cX6_earningsUntil 16 = .ok (.aload_n 0, 1) := by decide +kernel
theorem dX6_earningsUntil_17 : decode cX6_earningsUntil 17 = .ok (.getfield 25, 3) := by decide +kernel
theorem dX6_earningsUntil_20 : decode cX6_earningsUntil 20 = .ok (.iload_n 3, 1) := by decide +kernel
theorem dX6_earningsUntil_21 : decode cX6_earningsUntil 21 = .ok (.aaload, 1) := by decide +kernel
theorem dX6_earningsUntil_22 : decode cX6_earningsUntil 22 = .ok (.invokevirtual 77, 3) := by decide +kernel
theorem dX6_earningsUntil_25 : decode cX6_earningsUntil 25 = .ok (.ifCond .eq 17, 3) := by decide +kernel
theorem dX6_earningsUntil_28 : decode cX6_earningsUntil 28 = .ok (.aload_n 0, 1) := by decide +kernel
theorem dX6_earningsUntil_29 : decode cX6_earningsUntil 29 = .ok (.aload_n 0, 1) := by decide +kernel
theorem dX6_earningsUntil_30 : decode cX6_earningsUntil 30 = .ok (.getfield 25, 3) := by decide +kernel
theorem dX6_earningsUntil_33 : decode cX6_earningsUntil 33 = .ok (.iload_n 3, 1) := by decide +kernel
theorem dX6_earningsUntil_34 : decode cX6_earningsUntil 34 = .ok (.aaload, 1) := by decide +kernel
theorem dX6_earningsUntil_35 : decode cX6_earningsUntil 35 = .ok (.iload_n 1, 1) := by decide +kernel
theorem dX6_earningsUntil_36 : decode cX6_earningsUntil 36 = .ok (.invokevirtual 152, 3) := by decide +kernel
theorem dX6_earningsUntil_39 : decode cX6_earningsUntil 39 = .ok (.goto 4, 3) := by decide +kernel
theorem dX6_earningsUntil_42 : decode cX6_earningsUntil 42 = .ok (.iconst 0, 1) := by decide +kernel
theorem dX6_earningsUntil_43 : decode cX6_earningsUntil 43 = .ok (.iadd, 1) := by decide +kernel
theorem dX6_earningsUntil_44 : decode cX6_earningsUntil 44 = .ok (.istore_n 2, 1) := by decide +kernel
theorem dX6_earningsUntil_45 : decode cX6_earningsUntil 45 = .ok (.iinc 3 1, 3) := by decide +kernel
theorem dX6_earningsUntil_48 : decode cX6_earningsUntil 48 = .ok (.goto (-41), 3) := by decide +kernel
theorem dX6_earningsUntil_51 : decode cX6_earningsUntil 51 = .ok (.iload_n 2, 1) := by decide +kernel
theorem dX6_earningsUntil_52 : decode cX6_earningsUntil 52 = .ok (.ireturn, 1) := by decide +kernel
theorem dX6_earningsToCome_0 : decode cX6_earningsToCome 0 = .ok (.iload_n 2, 1) := by decide +kernel
theorem dX6_earningsToCome_1 : decode cX6_earningsToCome 1 = .ok (.aload_n 1, 1) := by decide +kernel
theorem dX6_earningsToCome_2 : decode cX6_earningsToCome 2 = .ok (.getfield 145, 3) := by decide +kernel
theorem dX6_earningsToCome_5 : decode cX6_earningsToCome 5 = .ok (.invokestatic 148, 3) := by decide +kernel
theorem dX6_earningsToCome_8 : decode cX6_earningsToCome 8 = .ok (.istore_n 3, 1) := by decide +kernel
theorem dX6_earningsToCome_9 : decode cX6_earningsToCome 9 = .ok (.iconst 0, 1) := by decide +kernel
theorem dX6_earningsToCome_10 : decode cX6_earningsToCome 10 = .ok (.istore 4, 2) := by decide +kernel
theorem dX6_earningsToCome_12 : decode cX6_earningsToCome 12 = .ok (.aload_n 1, 1) := by decide +kernel
theorem dX6_earningsToCome_13 : decode cX6_earningsToCome 13 = .ok (.getfield 94, 3) := by decide +kernel
theorem dX6_earningsToCome_16 : decode cX6_earningsToCome 16 = .ok (.iconst 1, 1) := by decide +kernel
theorem dX6_earningsToCome_17 : decode cX6_earningsToCome 17 = .ok (.iadd, 1) := by decide +kernel
theorem dX6_earningsToCome_18 : decode cX6_earningsToCome 18 = .ok (.istore 5, 2) := by decide +kernel
theorem dX6_earningsToCome_20 : decode cX6_earningsToCome 20 = .ok (.iload 5, 2) := by decide +kernel
theorem dX6_earningsToCome_22 : decode cX6_earningsToCome 22 = .ok (.aload_n 1, 1) := by decide +kernel
theorem dX6_earningsToCome_23 : decode cX6_earningsToCome 23 = .ok (.getfield 97, 3) := by decide +kernel
theorem dX6_earningsToCome_26 : decode cX6_earningsToCome 26 = .ok (.if_icmp .gt 54, 3) := by decide +kernel
theorem dX6_earningsToCome_29 : decode cX6_earningsToCome 29 = .ok (.aload_n 1, 1) := by decide +kernel
theorem dX6_earningsToCome_30 : decode cX6_earningsToCome 30 = .ok (.iload 5, 2) := by decide +kernel
theorem dX6_earningsToCome_32 : decode cX6_earningsToCome 32 = .ok (.invokevirtual 156, 3) := by decide +kernel
theorem dX6_earningsToCome_35 : decode cX6_earningsToCome 35 = .ok (.iload_n 3, 1) := by decide +kernel
theorem dX6_earningsToCome_36 : decode cX6_earningsToCome 36 = .ok (.if_icmp .gt 7, 3) := by decide +kernel
theorem dX6_earningsToCome_39 : decode cX6_earningsToCome 39 = .ok (.iconst 1, 1) := by decide +kernel
theorem dX6_earningsToCome_40 : decode cX6_earningsToCome 40 = .ok (.goto 4, 3) := by decide +kernel
theorem dX6_earningsToCome_43 : decode cX6_earningsToCome 43 = .ok (.iconst 0, 1) := by decide +kernel
theorem dX6_earningsToCome_44 : decode cX6_earningsToCome 44 = .ok (.istore 6, 2) := by decide +kernel
theorem dX6_earningsToCome_46 : decode cX6_earningsToCome 46 = .ok (.iload 4, 2) := by decide +kernel
theorem dX6_earningsToCome_48 : decode cX6_earningsToCome 48 = .ok (.iload 6, 2) := by decide +kernel
theorem dX6_earningsToCome_50 : decode cX6_earningsToCome 50 = .ok (.ifCond .eq 20, 3) := by decide +kernel
theorem dX6_earningsToCome_53 : decode cX6_earningsToCome 53 = .ok (.aload_n 0, 1) := by decide +kernel
theorem dX6_earningsToCome_54 : decode cX6_earningsToCome 54 = .ok (.aload_n 1, 1) := by decide +kernel
theorem dX6_earningsToCome_55 : decode cX6_earningsToCome 55 = .ok (.iload 5, 2) := by decide +kernel
theorem dX6_earningsToCome_57 : decode cX6_earningsToCome 57 = .ok (.invokevirtual 159, 3) := by decide +kernel
theorem dX6_earningsToCome_60 : decode cX6_earningsToCome 60 = .ok (.ifCond .eq 10, 3) := by decide +kernel
theorem dX6_earningsToCome_63 : decode cX6_earningsToCome 63 = .ok (.aload_n 1, 1) := by decide +kernel
theorem dX6_earningsToCome_64 : decode cX6_earningsToCome 64 = .ok (.getfield 163, 3) := by decide +kernel
theorem dX6_earningsToCome_67 : decode cX6_earningsToCome 67 = .ok (.goto 4, 3) := by decide +kernel
theorem dX6_earningsToCome_70 : decode cX6_earningsToCome 70 = .ok (.iconst 0, 1) := by decide +kernel
theorem dX6_earningsToCome_71 : decode cX6_earningsToCome 71 = .ok (.iadd, 1) := by decide +kernel
theorem dX6_earningsToCome_72 : decode cX6_earningsToCome 72 = .ok (.istore 4, 2) := by decide +kernel
theorem dX6_earningsToCome_74 : decode cX6_earningsToCome 74 = .ok (.iinc 5 1, 3) := by decide +kernel
theorem dX6_earningsToCome_77 : decode cX6_earningsToCome 77 = .ok (.goto (-57), 3) := by decide +kernel
theorem dX6_earningsToCome_80 : decode cX6_earningsToCome 80 = .ok (.iload 4, 2) := by decide +kernel
theorem dX6_earningsToCome_82 : decode cX6_earningsToCome 82 = .ok (.ireturn, 1) := by decide +kernel
theorem dX6_isHeardFrom_0 : decode cX6_isHeardFrom 0 = .ok (.aload_n 1, 1) := by decide +kernel
theorem dX6_isHeardFrom_1 : decode cX6_isHeardFrom 1 = .ok (.getfield 164, 3) := by decide +kernel
theorem dX6_isHeardFrom_4 : decode cX6_isHeardFrom 4 = .ok (.aload_n 0, 1) := by decide +kernel
theorem dX6_isHeardFrom_5 : decode cX6_isHeardFrom 5 = .ok (.getfield 11, 3) := by decide +kernel
theorem dX6_isHeardFrom_8 : decode cX6_isHeardFrom 8 = .ok (.aload_n 1, 1) := by decide +kernel
theorem dX6_isHeardFrom_9 : decode cX6_isHeardFrom 9 = .ok (.getfield 167, 3) := by decide +kernel
theorem dX6_isHeardFrom_12 : decode cX6_isHeardFrom 12 = .ok (.aaload, 1) := by decide +kernel
theorem dX6_isHeardFrom_13 : decode cX6_isHeardFrom 13 = .ok (.iload_n 2, 1) := by decide +kernel
theorem dX6_isHeardFrom_14 : decode cX6_isHeardFrom 14 = .ok (.invokevirtual 170, 3) := by decide +kernel
theorem dX6_isHeardFrom_17 : decode cX6_isHeardFrom 17 = .ok (.if_icmp .lt 7, 3) := by decide +kernel
theorem dX6_isHeardFrom_20 : decode cX6_isHeardFrom 20 = .ok (.iconst 1, 1) := by decide +kernel
theorem dX6_isHeardFrom_21 : decode cX6_isHeardFrom 21 = .ok (.goto 4, 3) := by decide +kernel
theorem dX6_isHeardFrom_24 : decode cX6_isHeardFrom 24 = .ok (.iconst 0, 1) := by decide +kernel
theorem dX6_isHeardFrom_25 : decode cX6_isHeardFrom 25 = .ok (.ireturn, 1) := by decide +kernel
theorem dX6_letPass_0 : decode cX6_letPass 0 = .ok (.aload_n 0, 1) := by decide +kernel
theorem dX6_letPass_1 : decode cX6_letPass 1 = .ok (.getfield 42, 3) := by decide +kernel
theorem dX6_letPass_4 : decode cX6_letPass 4 = .ok (.iload_n 1, 1) := by decide +kernel
theorem dX6_letPass_5 : decode cX6_letPass 5 = .ok (.iadd, 1) := by decide +kernel
theorem dX6_letPass_6 : decode cX6_letPass 6 = .ok (.istore_n 2, 1) := by decide +kernel
theorem dX6_letPass_7 : decode cX6_letPass 7 = .ok (.iconst 0, 1) := by decide +kernel
theorem dX6_letPass_8 : decode cX6_letPass 8 = .ok (.istore_n 3, 1) := by decide +kernel
theorem dX6_letPass_9 : decode cX6_letPass 9 = .ok (.iconst 0, 1) := by decide +kernel
theorem dX6_letPass_10 : decode cX6_letPass 10 = .ok (.istore 4, 2) := by decide +kernel
theorem dX6_letPass_12 : decode cX6_letPass 12 = .ok (.iload 4, 2) := by decide +kernel
theorem dX6_letPass_14 : decode cX6_letPass 14 = .ok (.iload_n 1, 1) := by decide +kernel
theorem dX6_letPass_15 : decode cX6_letPass 15 = .ok (.if_icmp .ge 60, 3) := by decide +kernel
theorem dX6_letPass_18 : decode cX6_letPass 18 = .ok (.aload_n 0, 1) := by decide +kernel
theorem dX6_letPass_19 : decode cX6_letPass 19 = .ok (.getfield 42, 3) := by decide +kernel
theorem dX6_letPass_22 : decode cX6_letPass 22 = .ok (.iload_n 2, 1) := by decide +kernel
theorem dX6_letPass_23 : decode cX6_letPass 23 = .ok (.if_icmp .ge 52, 3) := by decide +kernel
theorem dX6_letPass_26 : decode cX6_letPass 26 = .ok (.aload_n 0, 1) := by decide +kernel
theorem dX6_letPass_27 : decode cX6_letPass 27 = .ok (.invokevirtual 173, 3) := by decide +kernel
theorem dX6_letPass_30 : decode cX6_letPass 30 = .ok (.istore 5, 2) := by decide +kernel
theorem dX6_letPass_32 : decode cX6_letPass 32 = .ok (.iload 5, 2) := by decide +kernel
theorem dX6_letPass_34 : decode cX6_letPass 34 = .ok (.iconst (-1), 1) := by decide +kernel
theorem dX6_letPass_35 : decode cX6_letPass 35 = .ok (.if_icmp .eq 9, 3) := by decide +kernel
theorem dX6_letPass_38 : decode cX6_letPass 38 = .ok (.iload 5, 2) := by decide +kernel
theorem dX6_letPass_40 : decode cX6_letPass 40 = .ok (.iload_n 2, 1) := by decide +kernel
theorem dX6_letPass_41 : decode cX6_letPass 41 = .ok (.if_icmp .le 11, 3) := by decide +kernel
theorem dX6_letPass_44 : decode cX6_letPass 44 = .ok (.aload_n 0, 1) := by decide +kernel
theorem dX6_letPass_45 : decode cX6_letPass 45 = .ok (.iload_n 2, 1) := by decide +kernel
theorem dX6_letPass_46 : decode cX6_letPass 46 = .ok (.putfield 42, 3) := by decide +kernel
theorem dX6_letPass_49 : decode cX6_letPass 49 = .ok (.goto 20, 3) := by decide +kernel
theorem dX6_letPass_52 : decode cX6_letPass 52 = .ok (.aload_n 0, 1) := by decide +kernel
theorem dX6_letPass_53 : decode cX6_letPass 53 = .ok (.iload 5, 2) := by decide +kernel
theorem dX6_letPass_55 : decode cX6_letPass 55 = .ok (.putfield 42, 3) := by decide +kernel
theorem dX6_letPass_58 : decode cX6_letPass 58 = .ok (.iload_n 3, 1) := by decide +kernel
theorem dX6_letPass_59 : decode cX6_letPass 59 = .ok (.aload_n 0, 1) := by decide +kernel
theorem dX6_letPass_60 : decode cX6_letPass 60 = .ok (.invokevirtual 176, 3) := by decide +kernel
theorem dX6_letPass_63 : decode cX6_letPass 63 = .ok (.iadd, 1) := by decide +kernel
theorem dX6_letPass_64 : decode cX6_letPass 64 = .ok (.istore_n 3, 1) := by decide +kernel
theorem dX6_letPass_65 : decode cX6_letPass 65 = .ok (.aload_n 0, 1) := by decide +kernel
theorem dX6_letPass_66 : decode cX6_letPass 66 = .ok (.invokevirtual 179, 3) := by decide +kernel
theorem dX6_letPass_69 : decode cX6_letPass 69 = .ok (.iinc 4 1, 3) := by decide +kernel
theorem dX6_letPass_72 : decode cX6_letPass 72 = .ok (.goto (-60), 3) := by decide +kernel
theorem dX6_letPass_75 : decode cX6_letPass 75 = .ok (.iload_n 3, 1) := by decide +kernel
theorem dX6_letPass_76 : decode cX6_letPass 76 = .ok (.ireturn, 1) := by decide +kernel
theorem dX6_returnDueEchoes_0 : decode cX6_returnDueEchoes 0 = .ok (.iconst 0, 1) := by decide +kernel
theorem dX6_returnDueEchoes_1 : decode cX6_returnDueEchoes 1 = .ok (.istore_n 1, 1) := by decide +kernel
theorem dX6_returnDueEchoes_2 : decode cX6_returnDueEchoes 2 = .ok (.iconst 0, 1) := by decide +kernel
theorem dX6_returnDueEchoes_3 : decode cX6_returnDueEchoes 3 = .ok (.istore_n 2, 1) := by decide +kernel
theorem dX6_returnDueEchoes_4 : decode cX6_returnDueEchoes 4 = .ok (.iload_n 2, 1) := by decide +kernel
theorem dX6_returnDueEchoes_5 : decode cX6_returnDueEchoes 5 = .ok (.aload_n 0, 1) := by decide +kernel
theorem dX6_returnDueEchoes_6 : decode cX6_returnDueEchoes 6 = .ok (.getfield 39, 3) := by decide +kernel
theorem dX6_returnDueEchoes_9 : decode cX6_returnDueEchoes 9 = .ok (.if_icmp .ge 53, 3) := by decide +kernel
theorem dX6_returnDueEchoes_12 : decode cX6_returnDueEchoes 12 = .ok (.aload_n 0, 1) := by decide +kernel
theorem dX6_returnDueEchoes_13 : decode cX6_returnDueEchoes 13 = .ok (.getfield 25, 3) := by decide +kernel
theorem dX6_returnDueEchoes_16 : decode cX6_returnDueEchoes 16 = .ok (.iload_n 2, 1) := by decide +kernel
theorem dX6_returnDueEchoes_17 : decode cX6_returnDueEchoes 17 = .ok (.aaload, 1) := by decide +kernel
theorem dX6_returnDueEchoes_18 : decode cX6_returnDueEchoes 18 = .ok (.astore_n 3, 1) := by decide +kernel
theorem dX6_returnDueEchoes_19 : decode cX6_returnDueEchoes 19 = .ok (.aload_n 3, 1) := by decide +kernel
theorem dX6_returnDueEchoes_20 : decode cX6_returnDueEchoes 20 = .ok (.invokevirtual 77, 3) := by decide +kernel
theorem dX6_returnDueEchoes_23 : decode cX6_returnDueEchoes 23 = .ok (.ifCond .eq 33, 3) := by decide +kernel
theorem dX6_returnDueEchoes_26 : decode cX6_returnDueEchoes 26 = .ok (.aload_n 3, 1) := by decide +kernel
theorem dX6_returnDueEchoes_27 : decode cX6_returnDueEchoes 27 = .ok (.invokevirtual 142, 3) := by decide +kernel
theorem dX6_returnDueEchoes_30 : decode cX6_returnDueEchoes 30 = .ok (.aload_n 0, 1) := by decide +kernel
theorem dX6_returnDueEchoes_31 : decode cX6_returnDueEchoes 31 = .ok (.getfield 42, 3) := by decide +kernel
theorem dX6_returnDueEchoes_34 : decode cX6_returnDueEchoes 34 = .ok (.if_icmp .ne 22, 3) := by decide +kernel
theorem dX6_returnDueEchoes_37 : decode cX6_returnDueEchoes 37 = .ok (.aload_n 0, 1) := by decide +kernel
theorem dX6_returnDueEchoes_38 : decode cX6_returnDueEchoes 38 = .ok (.aload_n 3, 1) := by decide +kernel
theorem dX6_returnDueEchoes_39 : decode cX6_returnDueEchoes 39 = .ok (.aload_n 0, 1) := by decide +kernel
theorem dX6_returnDueEchoes_40 : decode cX6_returnDueEchoes 40 = .ok (.aload_n 3, 1) := by decide +kernel
theorem dX6_returnDueEchoes_41 : decode cX6_returnDueEchoes 41 = .ok (.aload_n 3, 1) := by decide +kernel
theorem dX6_returnDueEchoes_42 : decode cX6_returnDueEchoes 42 = .ok (.getfield 94, 3) := by decide +kernel
theorem dX6_returnDueEchoes_45 : decode cX6_returnDueEchoes 45 = .ok (.iconst 1, 1) := by decide +kernel
theorem dX6_returnDueEchoes_46 : decode cX6_returnDueEchoes 46 = .ok (.iadd, 1) := by decide +kernel
theorem dX6_returnDueEchoes_47 : decode cX6_returnDueEchoes 47 = .ok (.invokevirtual 159, 3) := by decide +kernel
theorem dX6_returnDueEchoes_50 : decode cX6_returnDueEchoes 50 = .ok (.invokevirtual 182, 3) := by decide +kernel
theorem dX6_returnDueEchoes_53 : decode cX6_returnDueEchoes 53 = .ok (.iinc 1 1, 3) := by decide +kernel
theorem dX6_returnDueEchoes_56 : decode cX6_returnDueEchoes 56 = .ok (.iinc 2 1, 3) := by decide +kernel
theorem dX6_returnDueEchoes_59 : decode cX6_returnDueEchoes 59 = .ok (.goto (-55), 3) := by decide +kernel
theorem dX6_returnDueEchoes_62 : decode cX6_returnDueEchoes 62 = .ok (.iload_n 1, 1) := by decide +kernel
theorem dX6_returnDueEchoes_63 : decode cX6_returnDueEchoes 63 = .ok (.ireturn, 1) := by decide +kernel
theorem dX6_losePatience_0 : decode cX6_losePatience 0 = .ok (.iconst 0, 1) := by decide +kernel
theorem dX6_losePatience_1 : decode cX6_losePatience 1 = .ok (.istore_n 1, 1) := by decide +kernel
theorem dX6_losePatience_2 : decode cX6_losePatience 2 = .ok (.iload_n 1, 1) := by decide +kernel
theorem dX6_losePatience_3 : decode cX6_losePatience 3 = .ok (.aload_n 0, 1) := by decide +kernel
theorem dX6_losePatience_4 : decode cX6_losePatience 4 = .ok (.getfield 39, 3) := by decide +kernel
theorem dX6_losePatience_7 : decode cX6_losePatience 7 = .ok (.if_icmp .ge 43, 3) := by decide +kernel
theorem dX6_losePatience_10 : decode cX6_losePatience 10 = .ok (.aload_n 0, 1) := by decide +kernel
theorem dX6_losePatience_11 : decode cX6_losePatience 11 = .ok (.getfield 25, 3) := by decide +kernel
theorem dX6_losePatience_14 : decode cX6_losePatience 14 = .ok (.iload_n 1, 1) := by decide +kernel
theorem dX6_losePatience_15 : decode cX6_losePatience 15 = .ok (.aaload, 1) := by decide +kernel
theorem dX6_losePatience_16 : decode cX6_losePatience 16 = .ok (.invokevirtual 77, 3) := by decide +kernel
theorem dX6_losePatience_19 : decode cX6_losePatience 19 = .ok (.ifCond .eq 25, 3) := by decide +kernel
theorem dX6_losePatience_22 : decode cX6_losePatience 22 = .ok (.aload_n 0, 1) := by decide +kernel
theorem dX6_losePatience_23 : decode cX6_losePatience 23 = .ok (.getfield 25, 3) := by decide +kernel
theorem dX6_losePatience_26 : decode cX6_losePatience 26 = .ok (.iload_n 1, 1) := by decide +kernel
theorem dX6_losePatience_27 : decode cX6_losePatience 27 = .ok (.aaload, 1) := by decide +kernel
theorem dX6_losePatience_28 : decode cX6_losePatience 28 = .ok (.getfield 145, 3) := by decide +kernel
theorem dX6_losePatience_31 : decode cX6_losePatience 31 = .ok (.aload_n 0, 1) := by decide +kernel
theorem dX6_losePatience_32 : decode cX6_losePatience 32 = .ok (.getfield 42, 3) := by decide +kernel
theorem dX6_losePatience_35 : decode cX6_losePatience 35 = .ok (.if_icmp .ne 9, 3) := by decide +kernel
theorem dX6_losePatience_38 : decode cX6_losePatience 38 = .ok (.aload_n 0, 1) := by decide +kernel
theorem dX6_losePatience_39 : decode cX6_losePatience 39 = .ok (.iload_n 1, 1) := by decide +kernel
theorem dX6_losePatience_40 : decode cX6_losePatience 40 = .ok (.invokevirtual 186, 3) := by decide +kernel
theorem dX6_losePatience_43 : decode cX6_losePatience 43 = .ok (.pop, 1) := by decide +kernel
theorem dX6_losePatience_44 : decode cX6_losePatience 44 = .ok (.iinc 1 1, 3) := by decide +kernel
theorem dX6_losePatience_47 : decode cX6_losePatience 47 = .ok (.goto (-45), 3) := by decide +kernel
theorem dX6_losePatience_50 : decode cX6_losePatience 50 = .ok (.return_, 1) := by decide +kernel
theorem dX6_echo_0 : decode cX6_echo 0 = .ok (.iload_n 2, 1) := by decide +kernel
theorem dX6_echo_1 : decode cX6_echo 1 = .ok (.ifCond .eq 11, 3) := by decide +kernel
theorem dX6_echo_4 : decode cX6_echo 4 = .ok (.aload_n 0, 1) := by decide +kernel
theorem dX6_echo_5 : decode cX6_echo 5 = .ok (.aload_n 1, 1) := by decide +kernel
theorem dX6_echo_6 : decode cX6_echo 6 = .ok (.invokevirtual 189, 3) := by decide +kernel
theorem dX6_echo_9 : decode cX6_echo 9 = .ok (.goto 56, 3) := by decide +kernel
theorem dX6_echo_12 : decode cX6_echo 12 = .ok (.aload_n 0, 1) := by decide +kernel
theorem dX6_echo_13 : decode cX6_echo 13 = .ok (.aload_n 1, 1) := by decide +kernel
theorem dX6_echo_14 : decode cX6_echo 14 = .ok (.aload_n 1, 1) := by decide +kernel
theorem dX6_echo_15 : decode cX6_echo 15 = .ok (.getfield 163, 3) := by decide +kernel
theorem dX6_echo_18 : decode cX6_echo 18 = .ok (.invokevirtual 192, 3) := by decide +kernel
theorem dX6_echo_21 : decode cX6_echo 21 = .ok (.aload_n 0, 1) := by decide +kernel
theorem dX6_echo_22 : decode cX6_echo 22 = .ok (.getfield 11, 3) := by decide +kernel
theorem dX6_echo_25 : decode cX6_echo 25 = .ok (.aload_n 1, 1) := by decide +kernel
theorem dX6_echo_26 : decode cX6_echo 26 = .ok (.getfield 167, 3) := by decide +kernel
theorem dX6_echo_29 : decode cX6_echo 29 = .ok (.aaload, 1) := by decide +kernel
theorem dX6_echo_30 : decode cX6_echo 30 = .ok (.astore_n 3, 1) := by decide +kernel
theorem dX6_echo_31 : decode cX6_echo 31 = .ok (.aload_n 3, 1) := by decide +kernel
theorem dX6_echo_32 : decode cX6_echo 32 = .ok (.iconst 0, 1) := by decide +kernel
theorem dX6_echo_33 : decode cX6_echo 33 = .ok (.aload_n 3, 1) := by decide +kernel
theorem dX6_echo_34 : decode cX6_echo 34 = .ok (.getfield 81, 3) := by decide +kernel
theorem dX6_echo_37 : decode cX6_echo 37 = .ok (.iconst 2, 1) := by decide +kernel
theorem dX6_echo_38 : decode cX6_echo 38 = .ok (.isub, 1) := by decide +kernel
theorem dX6_echo_39 : decode cX6_echo 39 = .ok (.invokestatic 196, 3) := by decide +kernel
theorem dX6_echo_42 : decode cX6_echo 42 = .ok (.putfield 81, 3) := by decide +kernel
theorem dX6_echo_45 : decode cX6_echo 45 = .ok (.aload_n 3, 1) := by decide +kernel
theorem dX6_echo_46 : decode cX6_echo 46 = .ok (.dup, 1) := by decide +kernel
theorem dX6_echo_47 : decode cX6_echo 47 = .ok (.getfield 199, 3) := by decide +kernel
theorem dX6_echo_50 : decode cX6_echo 50 = .ok (.iconst 1, 1) := by decide +kernel
theorem dX6_echo_51 : decode cX6_echo 51 = .ok (.iadd, 1) := by decide +kernel
theorem dX6_echo_52 : decode cX6_echo 52 = .ok (.putfield 199, 3) := by decide +kernel
theorem dX6_echo_55 : decode cX6_echo 55 = .ok (.aload_n 0, 1) := by decide +kernel
theorem dX6_echo_56 : decode cX6_echo 56 = .ok (.dup, 1) := by decide +kernel
theorem dX6_echo_57 : decode cX6_echo 57 = .ok (.getfield 60, 3) := by decide +kernel
theorem dX6_echo_60 : decode cX6_echo 60 = .ok (.iconst 1, 1) := by decide +kernel
theorem dX6_echo_61 : decode cX6_echo 61 = .ok (.iadd, 1) := by decide +kernel
theorem dX6_echo_62 : decode cX6_echo 62 = .ok (.putfield 60, 3) := by decide +kernel
theorem dX6_echo_65 : decode cX6_echo 65 = .ok (.aload_n 1, 1) := by decide +kernel
theorem dX6_echo_66 : decode cX6_echo 66 = .ok (.dup, 1) := by decide +kernel
theorem dX6_echo_67 : decode cX6_echo 67 = .ok (.getfield 94, 3) := by decide +kernel
theorem dX6_echo_70 : decode cX6_echo 70 = .ok (.iconst 1, 1) := by decide +kernel
theorem dX6_echo_71 : decode cX6_echo 71 = .ok (.iadd, 1) := by decide +kernel
theorem dX6_echo_72 : decode cX6_echo 72 = .ok (.putfield 94, 3) := by decide +kernel
theorem dX6_echo_75 : decode cX6_echo 75 = .ok (.aload_n 1, 1) := by decide +kernel
theorem dX6_echo_76 : decode cX6_echo 76 = .ok (.getfield 94, 3) := by decide +kernel
theorem dX6_echo_79 : decode cX6_echo 79 = .ok (.aload_n 1, 1) := by decide +kernel
theorem dX6_echo_80 : decode cX6_echo 80 = .ok (.getfield 97, 3) := by decide +kernel
theorem dX6_echo_83 : decode cX6_echo 83 = .ok (.if_icmp .ne 8, 3) := by decide +kernel
theorem dX6_echo_86 : decode cX6_echo 86 = .ok (.aload_n 1, 1) := by decide +kernel
theorem dX6_echo_87 : decode cX6_echo 87 = .ok (.iconst 1, 1) := by decide +kernel
theorem dX6_echo_88 : decode cX6_echo 88 = .ok (.putfield 91, 3) := by decide +kernel
theorem dX6_echo_91 : decode cX6_echo 91 = .ok (.return_, 1) := by decide +kernel
theorem dX6_earn_0 : decode cX6_earn 0 = .ok (.aload_n 0, 1) := by decide +kernel
theorem dX6_earn_1 : decode cX6_earn 1 = .ok (.getfield 11, 3) := by decide +kernel
theorem dX6_earn_4 : decode cX6_earn 4 = .ok (.aload_n 1, 1) := by decide +kernel
theorem dX6_earn_5 : decode cX6_earn 5 = .ok (.getfield 167, 3) := by decide +kernel
theorem dX6_earn_8 : decode cX6_earn 8 = .ok (.aaload, 1) := by decide +kernel
theorem dX6_earn_9 : decode cX6_earn 9 = .ok (.astore_n 2, 1) := by decide +kernel
theorem dX6_earn_10 : decode cX6_earn 10 = .ok (.aload_n 0, 1) := by decide +kernel
theorem dX6_earn_11 : decode cX6_earn 11 = .ok (.getfield 19, 3) := by decide +kernel
theorem dX6_earn_14 : decode cX6_earn 14 = .ok (.aload_n 1, 1) := by decide +kernel
theorem dX6_earn_15 : decode cX6_earn 15 = .ok (.getfield 200, 3) := by decide +kernel
theorem dX6_earn_18 : decode cX6_earn 18 = .ok (.aaload, 1) := by decide +kernel
theorem dX6_earn_19 : decode cX6_earn 19 = .ok (.astore_n 3, 1) := by decide +kernel
theorem dX6_earn_20 : decode cX6_earn 20 = .ok (.aload_n 1, 1) := by decide +kernel
theorem dX6_earn_21 : decode cX6_earn 21 = .ok (.dup, 1) := by decide +kernel
theorem dX6_earn_22 : decode cX6_earn 22 = .ok (.getfield 203, 3) := by decide +kernel
theorem dX6_earn_25 : decode cX6_earn 25 = .ok (.iconst 1, 1) := by decide +kernel
theorem dX6_earn_26 : decode cX6_earn 26 = .ok (.aload_n 1, 1) := by decide +kernel
theorem dX6_earn_27 : decode cX6_earn 27 = .ok (.getfield 94, 3) := by decide +kernel
theorem dX6_earn_30 : decode cX6_earn 30 = .ok (.ishl, 1) := by decide +kernel
theorem dX6_earn_31 : decode cX6_earn 31 = .ok (.ior, 1) := by decide +kernel
theorem dX6_earn_32 : decode cX6_earn 32 = .ok (.putfield 203, 3) := by decide +kernel
theorem dX6_earn_35 : decode cX6_earn 35 = .ok (.aload_n 2, 1) := by decide +kernel
theorem dX6_earn_36 : decode cX6_earn 36 = .ok (.dup, 1) := by decide +kernel
theorem dX6_earn_37 : decode cX6_earn 37 = .ok (.getfield 81, 3) := by decide +kernel
theorem dX6_earn_40 : decode cX6_earn 40 = .ok (.iconst 1, 1) := by decide +kernel
theorem dX6_earn_41 : decode cX6_earn 41 = .ok (.iadd, 1) := by decide +kernel
theorem dX6_earn_42 : decode cX6_earn 42 = .ok (.putfield 81, 3) := by decide +kernel
theorem dX6_earn_45 : decode cX6_earn 45 = .ok (.aload_n 2, 1) := by decide +kernel
theorem dX6_earn_46 : decode cX6_earn 46 = .ok (.dup, 1) := by decide +kernel
theorem dX6_earn_47 : decode cX6_earn 47 = .ok (.getfield 206, 3) := by decide +kernel
theorem dX6_earn_50 : decode cX6_earn 50 = .ok (.aload_n 1, 1) := by decide +kernel
theorem dX6_earn_51 : decode cX6_earn 51 = .ok (.getfield 163, 3) := by decide +kernel
theorem dX6_earn_54 : decode cX6_earn 54 = .ok (.iadd, 1) := by decide +kernel
theorem dX6_earn_55 : decode cX6_earn 55 = .ok (.putfield 206, 3) := by decide +kernel
theorem dX6_earn_58 : decode cX6_earn 58 = .ok (.aload_n 0, 1) := by decide +kernel
theorem dX6_earn_59 : decode cX6_earn 59 = .ok (.dup, 1) := by decide +kernel
theorem dX6_earn_60 : decode cX6_earn 60 = .ok (.getfield 48, 3) := by decide +kernel
theorem dX6_earn_63 : decode cX6_earn 63 = .ok (.aload_n 1, 1) := by decide +kernel
theorem dX6_earn_64 : decode cX6_earn 64 = .ok (.getfield 163, 3) := by decide +kernel
theorem dX6_earn_67 : decode cX6_earn 67 = .ok (.iadd, 1) := by decide +kernel
theorem dX6_earn_68 : decode cX6_earn 68 = .ok (.putfield 48, 3) := by decide +kernel
theorem dX6_earn_71 : decode cX6_earn 71 = .ok (.aload_n 3, 1) := by decide +kernel
theorem dX6_earn_72 : decode cX6_earn 72 = .ok (.dup, 1) := by decide +kernel
theorem dX6_earn_73 : decode cX6_earn 73 = .ok (.getfield 207, 3) := by decide +kernel
theorem dX6_earn_76 : decode cX6_earn 76 = .ok (.aload_n 1, 1) := by decide +kernel
theorem dX6_earn_77 : decode cX6_earn 77 = .ok (.getfield 163, 3) := by decide +kernel
theorem dX6_earn_80 : decode cX6_earn 80 = .ok (.isub, 1) := by decide +kernel
theorem dX6_earn_81 : decode cX6_earn 81 = .ok (.putfield 207, 3) := by decide +kernel
theorem dX6_earn_84 : decode cX6_earn 84 = .ok (.aload_n 0, 1) := by decide +kernel
theorem dX6_earn_85 : decode cX6_earn 85 = .ok (.dup, 1) := by decide +kernel
theorem dX6_earn_86 : decode cX6_earn 86 = .ok (.getfield 54, 3) := by decide +kernel
theorem dX6_earn_89 : decode cX6_earn 89 = .ok (.aload_n 1, 1) := by decide +kernel
theorem dX6_earn_90 : decode cX6_earn 90 = .ok (.getfield 163, 3) := by decide +kernel
theorem dX6_earn_93 : decode cX6_earn 93 = .ok (.isub, 1) := by decide +kernel
theorem dX6_earn_94 : decode cX6_earn 94 = .ok (.putfield 54, 3) := by decide +kernel
theorem dX6_earn_97 : decode cX6_earn 97 = .ok (.aload_n 3, 1) := by decide +kernel
theorem dX6_earn_98 : decode cX6_earn 98 = .ok (.dup, 1) := by decide +kernel
theorem dX6_earn_99 : decode cX6_earn 99 = .ok (.getfield 141, 3) := by decide +kernel
theorem dX6_earn_102 : decode cX6_earn 102 = .ok (.iconst 1, 1) := by decide +kernel
theorem dX6_earn_103 : decode cX6_earn 103 = .ok (.iadd, 1) := by decide +kernel
theorem dX6_earn_104 : decode cX6_earn 104 = .ok (.putfield 141, 3) := by decide +kernel
theorem dX6_earn_107 : decode cX6_earn 107 = .ok (.aload_n 0, 1) := by decide +kernel
theorem dX6_earn_108 : decode cX6_earn 108 = .ok (.dup, 1) := by decide +kernel
theorem dX6_earn_109 : decode cX6_earn 109 = .ok (.getfield 57, 3) := by decide +kernel
theorem dX6_earn_112 : decode cX6_earn 112 = .ok (.iconst 1, 1) := by decide +kernel
theorem dX6_earn_113 : decode cX6_earn 113 = .ok (.iadd, 1) := by decide +kernel
theorem dX6_earn_114 : decode cX6_earn 114 = .ok (.putfield 57, 3) := by decide +kernel
theorem dX6_earn_117 : decode cX6_earn 117 = .ok (.return_, 1) := by decide +kernel
theorem dX6_refund_0 : decode cX6_refund 0 = .ok (.aload_n 0, 1) := by decide +kernel
theorem dX6_refund_1 : decode cX6_refund 1 = .ok (.getfield 19, 3) := by decide +kernel
theorem dX6_refund_4 : decode cX6_refund 4 = .ok (.aload_n 1, 1) := by decide +kernel
theorem dX6_refund_5 : decode cX6_refund 5 = .ok (.getfield 200, 3) := by decide +kernel
theorem dX6_refund_8 : decode cX6_refund 8 = .ok (.aaload, 1) := by decide +kernel
theorem dX6_refund_9 : decode cX6_refund 9 = .ok (.astore_n 3, 1) := by decide +kernel
theorem dX6_refund_10 : decode cX6_refund 10 = .ok (.aload_n 3, 1) := by decide +kernel
theorem dX6_refund_11 : decode cX6_refund 11 = .ok (.dup, 1) := by decide +kernel
theorem dX6_refund_12 : decode cX6_refund 12 = .ok (.getfield 207, 3) := by decide +kernel
theorem dX6_refund_15 : decode cX6_refund 15 = .ok (.iload_n 2, 1) := by decide +kernel
theorem dX6_refund_16 : decode cX6_refund 16 = .ok (.isub, 1) := by decide +kernel
theorem dX6_refund_17 : decode cX6_refund 17 = .ok (.putfield 207, 3) := by decide +kernel
theorem dX6_refund_20 : decode cX6_refund 20 = .ok (.aload_n 0, 1) := by decide +kernel
theorem dX6_refund_21 : decode cX6_refund 21 = .ok (.dup, 1) := by decide +kernel
theorem dX6_refund_22 : decode cX6_refund 22 = .ok (.getfield 54, 3) := by decide +kernel
theorem dX6_refund_25 : decode cX6_refund 25 = .ok (.iload_n 2, 1) := by decide +kernel
theorem dX6_refund_26 : decode cX6_refund 26 = .ok (.isub, 1) := by decide +kernel
theorem dX6_refund_27 : decode cX6_refund 27 = .ok (.putfield 54, 3) := by decide +kernel
theorem dX6_refund_30 : decode cX6_refund 30 = .ok (.aload_n 3, 1) := by decide +kernel
theorem dX6_refund_31 : decode cX6_refund 31 = .ok (.dup, 1) := by decide +kernel
theorem dX6_refund_32 : decode cX6_refund 32 = .ok (.getfield 103, 3) := by decide +kernel
theorem dX6_refund_35 : decode cX6_refund 35 = .ok (.iload_n 2, 1) := by decide +kernel
theorem dX6_refund_36 : decode cX6_refund 36 = .ok (.iadd, 1) := by decide +kernel
theorem dX6_refund_37 : decode cX6_refund 37 = .ok (.putfield 103, 3) := by decide +kernel
theorem dX6_refund_40 : decode cX6_refund 40 = .ok (.aload_n 0, 1) := by decide +kernel
theorem dX6_refund_41 : decode cX6_refund 41 = .ok (.dup, 1) := by decide +kernel
theorem dX6_refund_42 : decode cX6_refund 42 = .ok (.getfield 51, 3) := by decide +kernel
theorem dX6_refund_45 : decode cX6_refund 45 = .ok (.iload_n 2, 1) := by decide +kernel
theorem dX6_refund_46 : decode cX6_refund 46 = .ok (.iadd, 1) := by decide +kernel
theorem dX6_refund_47 : decode cX6_refund 47 = .ok (.putfield 51, 3) := by decide +kernel
theorem dX6_refund_50 : decode cX6_refund 50 = .ok (.return_, 1) := by decide +kernel
theorem dX6_whyRefused_0 : decode cX6_whyRefused 0 = .ok (.aload_n 0, 1) := by decide +kernel
theorem dX6_whyRefused_1 : decode cX6_whyRefused 1 = .ok (.getfield 39, 3) := by decide +kernel
theorem dX6_whyRefused_4 : decode cX6_whyRefused 4 = .ok (.bipush 30, 2) := by decide +kernel
theorem dX6_whyRefused_6 : decode cX6_whyRefused 6 = .ok (.if_icmp .lt 5, 3) := by decide +kernel
theorem dX6_whyRefused_9 : decode cX6_whyRefused 9 = .ok (.iconst 1, 1) := by decide +kernel
theorem dX6_whyRefused_10 : decode cX6_whyRefused 10 = .ok (.ireturn, 1) := by decide +kernel
theorem dX6_whyRefused_11 : decode cX6_whyRefused 11 = .ok (.iload_n 3, 1) := by decide +kernel
theorem dX6_whyRefused_12 : decode cX6_whyRefused 12 = .ok (.aload_n 0, 1) := by decide +kernel
theorem dX6_whyRefused_13 : decode cX6_whyRefused 13 = .ok (.getfield 11, 3) := by decide +kernel
theorem dX6_whyRefused_16 : decode cX6_whyRefused 16 = .ok (.iload_n 2, 1) := by decide +kernel
theorem dX6_whyRefused_17 : decode cX6_whyRefused 17 = .ok (.aaload, 1) := by decide +kernel
theorem dX6_whyRefused_18 : decode cX6_whyRefused 18 = .ok (.getfield 208, 3) := by decide +kernel
theorem dX6_whyRefused_21 : decode cX6_whyRefused 21 = .ok (.if_icmp .le 5, 3) := by decide +kernel
theorem dX6_whyRefused_24 : decode cX6_whyRefused 24 = .ok (.iconst 2, 1) := by decide +kernel
theorem dX6_whyRefused_25 : decode cX6_whyRefused 25 = .ok (.ireturn, 1) := by decide +kernel
theorem dX6_whyRefused_26 : decode cX6_whyRefused 26 = .ok (.aload_n 0, 1) := by decide +kernel
theorem dX6_whyRefused_27 : decode cX6_whyRefused 27 = .ok (.getfield 19, 3) := by decide +kernel
theorem dX6_whyRefused_30 : decode cX6_whyRefused 30 = .ok (.iload_n 1, 1) := by decide +kernel
theorem dX6_whyRefused_31 : decode cX6_whyRefused 31 = .ok (.aaload, 1) := by decide +kernel
theorem dX6_whyRefused_32 : decode cX6_whyRefused 32 = .ok (.getfield 103, 3) := by decide +kernel
theorem dX6_whyRefused_35 : decode cX6_whyRefused 35 = .ok (.aload_n 0, 1) := by decide +kernel
theorem dX6_whyRefused_36 : decode cX6_whyRefused 36 = .ok (.getfield 11, 3) := by decide +kernel
theorem dX6_whyRefused_39 : decode cX6_whyRefused 39 = .ok (.iload_n 2, 1) := by decide +kernel
theorem dX6_whyRefused_40 : decode cX6_whyRefused 40 = .ok (.aaload, 1) := by decide +kernel
theorem dX6_whyRefused_41 : decode cX6_whyRefused 41 = .ok (.getfield 125, 3) := by decide +kernel
theorem dX6_whyRefused_44 : decode cX6_whyRefused 44 = .ok (.iload_n 3, 1) := by decide +kernel
theorem dX6_whyRefused_45 : decode cX6_whyRefused 45 = .ok (.imul, 1) := by decide +kernel
theorem dX6_whyRefused_46 : decode cX6_whyRefused 46 = .ok (.if_icmp .ge 5, 3) := by decide +kernel
theorem dX6_whyRefused_49 : decode cX6_whyRefused 49 = .ok (.iconst 3, 1) := by decide +kernel
theorem dX6_whyRefused_50 : decode cX6_whyRefused 50 = .ok (.ireturn, 1) := by decide +kernel
theorem dX6_whyRefused_51 : decode cX6_whyRefused 51 = .ok (.aload_n 0, 1) := by decide +kernel
theorem dX6_whyRefused_52 : decode cX6_whyRefused 52 = .ok (.iload_n 1, 1) := by decide +kernel
theorem dX6_whyRefused_53 : decode cX6_whyRefused 53 = .ok (.iload_n 2, 1) := by decide +kernel
theorem dX6_whyRefused_54 : decode cX6_whyRefused 54 = .ok (.invokevirtual 211, 3) := by decide +kernel
theorem dX6_whyRefused_57 : decode cX6_whyRefused 57 = .ok (.ifCond .eq 5, 3) := by decide +kernel
theorem dX6_whyRefused_60 : decode cX6_whyRefused 60 = .ok (.iconst 4, 1) := by decide +kernel
theorem dX6_whyRefused_61 : decode cX6_whyRefused 61 = .ok (.ireturn, 1) := by decide +kernel
theorem dX6_whyRefused_62 : decode cX6_whyRefused 62 = .ok (.aload_n 0, 1) := by decide +kernel
theorem dX6_whyRefused_63 : decode cX6_whyRefused 63 = .ok (.getfield 19, 3) := by decide +kernel
theorem dX6_whyRefused_66 : decode cX6_whyRefused 66 = .ok (.iload_n 1, 1) := by decide +kernel
theorem dX6_whyRefused_67 : decode cX6_whyRefused 67 = .ok (.aaload, 1) := by decide +kernel
theorem dX6_whyRefused_68 : decode cX6_whyRefused 68 = .ok (.invokevirtual 84, 3) := by decide +kernel
theorem dX6_whyRefused_71 : decode cX6_whyRefused 71 = .ok (.ifCond .eq 7, 3) := by decide +kernel
theorem dX6_whyRefused_74 : decode cX6_whyRefused 74 = .ok (.iconst 5, 1) := by decide +kernel
theorem dX6_whyRefused_75 : decode cX6_whyRefused 75 = .ok (.goto 4, 3) := by decide +kernel
theorem dX6_whyRefused_78 : decode cX6_whyRefused 78 = .ok (.iconst 0, 1) := by decide +kernel
theorem dX6_whyRefused_79 : decode cX6_whyRefused 79 = .ok (.ireturn, 1) := by decide +kernel
theorem dX6_hasOpenShout_0 : decode cX6_hasOpenShout 0 = .ok (.iconst 0, 1) := by decide +kernel
theorem dX6_hasOpenShout_1 : decode cX6_hasOpenShout 1 = .ok (.istore_n 3, 1) := by decide +kernel
theorem dX6_hasOpenShout_2 : decode cX6_hasOpenShout 2 = .ok (.iconst 0, 1) := by decide +kernel
theorem dX6_hasOpenShout_3 : decode cX6_hasOpenShout 3 = .ok (.istore 4, 2) := by decide +kernel
theorem dX6_hasOpenShout_5 : decode cX6_hasOpenShout 5 = .ok (.iload 4, 2) := by decide +kernel
theorem dX6_hasOpenShout_7 : decode cX6_hasOpenShout 7 = .ok (.aload_n 0, 1) := by decide +kernel
theorem dX6_hasOpenShout_8 : decode cX6_hasOpenShout 8 = .ok (.getfield 39, 3) := by decide +kernel
theorem dX6_hasOpenShout_11 : decode cX6_hasOpenShout 11 = .ok (.if_icmp .ge 54, 3) := by decide +kernel
theorem dX6_hasOpenShout_14 : decode cX6_hasOpenShout 14 = .ok (.aload_n 0, 1) := by decide +kernel
theorem dX6_hasOpenShout_15 : decode cX6_hasOpenShout 15 = .ok (.getfield 25, 3) := by decide +kernel
theorem dX6_hasOpenShout_18 : decode cX6_hasOpenShout 18 = .ok (.iload 4, 2) := by decide +kernel
theorem dX6_hasOpenShout_20 : decode cX6_hasOpenShout 20 = .ok (.aaload, 1) := by decide +kernel
theorem dX6_hasOpenShout_21 : decode cX6_hasOpenShout 21 = .ok (.astore 5, 2) := by decide +kernel
theorem dX6_hasOpenShout_23 : decode cX6_hasOpenShout 23 = .ok (.iload_n 3, 1) := by decide +kernel
theorem dX6_hasOpenShout_24 : decode cX6_hasOpenShout 24 = .ok (.ifCond .ne 29, 3) := by decide +kernel
theorem dX6_hasOpenShout_27 : decode cX6_hasOpenShout 27 = .ok (.aload 5, 2) := by decide +kernel
theorem dX6_hasOpenShout_29 : decode cX6_hasOpenShout 29 = .ok (.invokevirtual 77, 3) := by decide +kernel
theorem dX6_hasOpenShout_32 : decode cX6_hasOpenShout 32 = .ok (.ifCond .eq 25, 3) := by decide +kernel
theorem dX6_hasOpenShout_35 : decode cX6_hasOpenShout 35 = .ok (.aload 5, 2) := by decide +kernel
theorem dX6_hasOpenShout_37 : decode cX6_hasOpenShout 37 = .ok (.getfield 200, 3) := by decide +kernel
theorem dX6_hasOpenShout_40 : decode cX6_hasOpenShout 40 = .ok (.iload_n 1, 1) := by decide +kernel
theorem dX6_hasOpenShout_41 : decode cX6_hasOpenShout 41 = .ok (.if_icmp .ne 16, 3) := by decide +kernel
theorem dX6_hasOpenShout_44 : decode cX6_hasOpenShout 44 = .ok (.aload 5, 2) := by decide +kernel
theorem dX6_hasOpenShout_46 : decode cX6_hasOpenShout 46 = .ok (.getfield 167, 3) := by decide +kernel
theorem dX6_hasOpenShout_49 : decode cX6_hasOpenShout 49 = .ok (.iload_n 2, 1) := by decide +kernel
theorem dX6_hasOpenShout_50 : decode cX6_hasOpenShout 50 = .ok (.if_icmp .ne 7, 3) := by decide +kernel
theorem dX6_hasOpenShout_53 : decode cX6_hasOpenShout 53 = .ok (.iconst 1, 1) := by decide +kernel
theorem dX6_hasOpenShout_54 : decode cX6_hasOpenShout 54 = .ok (.goto 4, 3) := by decide +kernel
theorem dX6_hasOpenShout_57 : decode cX6_hasOpenShout 57 = .ok (.iconst 0, 1) := by decide +kernel
theorem dX6_hasOpenShout_58 : decode cX6_hasOpenShout 58 = .ok (.istore_n 3, 1) := by decide +kernel
theorem dX6_hasOpenShout_59 : decode cX6_hasOpenShout 59 = .ok (.iinc 4 1, 3) := by decide +kernel
theorem dX6_hasOpenShout_62 : decode cX6_hasOpenShout 62 = .ok (.goto (-57), 3) := by decide +kernel
theorem dX6_hasOpenShout_65 : decode cX6_hasOpenShout 65 = .ok (.iload_n 3, 1) := by decide +kernel
theorem dX6_hasOpenShout_66 : decode cX6_hasOpenShout 66 = .ok (.ireturn, 1) := by decide +kernel
theorem dX6_faultOfSale_0 : decode cX6_faultOfSale 0 = .ok (.aload_n 0, 1) := by decide +kernel
theorem dX6_faultOfSale_1 : decode cX6_faultOfSale 1 = .ok (.iload_n 1, 1) := by decide +kernel
theorem dX6_faultOfSale_2 : decode cX6_faultOfSale 2 = .ok (.invokevirtual 215, 3) := by decide +kernel
theorem dX6_faultOfSale_5 : decode cX6_faultOfSale 5 = .ok (.ifCond .eq 11, 3) := by decide +kernel
theorem dX6_faultOfSale_8 : decode cX6_faultOfSale 8 = .ok (.aload_n 0, 1) := by decide +kernel
theorem dX6_faultOfSale_9 : decode cX6_faultOfSale 9 = .ok (.iload_n 2, 1) := by decide +kernel
theorem dX6_faultOfSale_10 : decode cX6_faultOfSale 10 = .ok (.invokevirtual 219, 3) := by decide +kernel
theorem dX6_faultOfSale_13 : decode cX6_faultOfSale 13 = .ok (.ifCond .ne 7, 3) := by decide +kernel
theorem dX6_faultOfSale_16 : decode cX6_faultOfSale 16 = .ok (.getstatic 222, 3) := by decide +kernel
theorem dX6_faultOfSale_19 : decode cX6_faultOfSale 19 = .ok (.areturn, 1) := by decide +kernel
theorem dX6_faultOfSale_20 : decode cX6_faultOfSale 20 = .ok (.iload_n 3, 1) := by decide +kernel
theorem dX6_faultOfSale_21 : decode cX6_faultOfSale 21 = .ok (.iconst 1, 1) := by decide +kernel
theorem dX6_faultOfSale_22 : decode cX6_faultOfSale 22 = .ok (.bipush 20, 2) := by decide +kernel
theorem dX6_faultOfSale_24 : decode cX6_faultOfSale 24 = .ok (.invokestatic 73, 3) := by decide +kernel
theorem dX6_faultOfSale_27 : decode cX6_faultOfSale 27 = .ok (.ifCond .eq 13, 3) := by decide +kernel
theorem dX6_faultOfSale_30 : decode cX6_faultOfSale 30 = .ok (.iload 4, 2) := by decide +kernel
theorem dX6_faultOfSale_32 : decode cX6_faultOfSale 32 = .ok (.iconst 1, 1) := by decide +kernel
theorem dX6_faultOfSale_33 : decode cX6_faultOfSale 33 = .ok (.iconst 4, 1) := by decide +kernel
theorem dX6_faultOfSale_34 : decode cX6_faultOfSale 34 = .ok (.invokestatic 73, 3) := by decide +kernel
theorem dX6_faultOfSale_37 : decode cX6_faultOfSale 37 = .ok (.ifCond .ne 7, 3) := by decide +kernel
theorem dX6_faultOfSale_40 : decode cX6_faultOfSale 40 = .ok (.getstatic 228, 3) := by decide +kernel
theorem dX6_faultOfSale_43 : decode cX6_faultOfSale 43 = .ok (.areturn, 1) := by decide +kernel
theorem dX6_faultOfSale_44 : decode cX6_faultOfSale 44 = .ok (.aload_n 0, 1) := by decide +kernel
theorem dX6_faultOfSale_45 : decode cX6_faultOfSale 45 = .ok (.iload_n 1, 1) := by decide +kernel
theorem dX6_faultOfSale_46 : decode cX6_faultOfSale 46 = .ok (.iload_n 2, 1) := by decide +kernel
theorem dX6_faultOfSale_47 : decode cX6_faultOfSale 47 = .ok (.iload 4, 2) := by decide +kernel
theorem dX6_faultOfSale_49 : decode cX6_faultOfSale 49 = .ok (.invokevirtual 134, 3) := by decide +kernel
theorem dX6_faultOfSale_52 : decode cX6_faultOfSale 52 = .ok (.ifCond .ne 9, 3) := by decide +kernel
theorem dX6_faultOfSale_55 : decode cX6_faultOfSale 55 = .ok (.getstatic 231, 3) := by decide +kernel
theorem dX6_faultOfSale_58 : decode cX6_faultOfSale 58 = .ok (.goto 6, 3) := by decide +kernel
theorem dX6_faultOfSale_61 : decode cX6_faultOfSale 61 = .ok (.getstatic 234, 3) := by decide +kernel
theorem dX6_faultOfSale_64 : decode cX6_faultOfSale 64 = .ok (.areturn, 1) := by decide +kernel
theorem dX6_faultOfOpen_0 : decode cX6_faultOfOpen 0 = .ok (.aload_n 0, 1) := by decide +kernel
theorem dX6_faultOfOpen_1 : decode cX6_faultOfOpen 1 = .ok (.iload_n 1, 1) := by decide +kernel
theorem dX6_faultOfOpen_2 : decode cX6_faultOfOpen 2 = .ok (.invokevirtual 237, 3) := by decide +kernel
theorem dX6_faultOfOpen_5 : decode cX6_faultOfOpen 5 = .ok (.ifCond .ne 7, 3) := by decide +kernel
theorem dX6_faultOfOpen_8 : decode cX6_faultOfOpen 8 = .ok (.getstatic 222, 3) := by decide +kernel
theorem dX6_faultOfOpen_11 : decode cX6_faultOfOpen 11 = .ok (.areturn, 1) := by decide +kernel
theorem dX6_faultOfOpen_12 : decode cX6_faultOfOpen 12 = .ok (.aload_n 0, 1) := by decide +kernel
theorem dX6_faultOfOpen_13 : decode cX6_faultOfOpen 13 = .ok (.getfield 25, 3) := by decide +kernel
theorem dX6_faultOfOpen_16 : decode cX6_faultOfOpen 16 = .ok (.iload_n 1, 1) := by decide +kernel
theorem dX6_faultOfOpen_17 : decode cX6_faultOfOpen 17 = .ok (.aaload, 1) := by decide +kernel
theorem dX6_faultOfOpen_18 : decode cX6_faultOfOpen 18 = .ok (.invokevirtual 77, 3) := by decide +kernel
theorem dX6_faultOfOpen_21 : decode cX6_faultOfOpen 21 = .ok (.ifCond .eq 9, 3) := by decide +kernel
theorem dX6_faultOfOpen_24 : decode cX6_faultOfOpen 24 = .ok (.getstatic 231, 3) := by decide +kernel
theorem dX6_faultOfOpen_27 : decode cX6_faultOfOpen 27 = .ok (.goto 6, 3) := by decide +kernel
theorem dX6_faultOfOpen_30 : decode cX6_faultOfOpen 30 = .ok (.getstatic 234, 3) := by decide +kernel
theorem dX6_faultOfOpen_33 : decode cX6_faultOfOpen 33 = .ok (.areturn, 1) := by decide +kernel
theorem dX6_faultOfFog_0 : decode cX6_faultOfFog 0 = .ok (.aload_n 0, 1) := by decide +kernel
theorem dX6_faultOfFog_1 : decode cX6_faultOfFog 1 = .ok (.iload_n 1, 1) := by decide +kernel
theorem dX6_faultOfFog_2 : decode cX6_faultOfFog 2 = .ok (.invokevirtual 219, 3) := by decide +kernel
theorem dX6_faultOfFog_5 : decode cX6_faultOfFog 5 = .ok (.ifCond .ne 7, 3) := by decide +kernel
theorem dX6_faultOfFog_8 : decode cX6_faultOfFog 8 = .ok (.getstatic 222, 3) := by decide +kernel
theorem dX6_faultOfFog_11 : decode cX6_faultOfFog 11 = .ok (.areturn, 1) := by decide +kernel
theorem dX6_faultOfFog_12 : decode cX6_faultOfFog 12 = .ok (.iload_n 2, 1) := by decide +kernel
theorem dX6_faultOfFog_13 : decode cX6_faultOfFog 13 = .ok (.iconst 0, 1) := by decide +kernel
theorem dX6_faultOfFog_14 : decode cX6_faultOfFog 14 = .ok (.bipush 9, 2) := by decide +kernel
theorem dX6_faultOfFog_16 : decode cX6_faultOfFog 16 = .ok (.invokestatic 73, 3) := by decide +kernel
theorem dX6_faultOfFog_19 : decode cX6_faultOfFog 19 = .ok (.ifCond .eq 9, 3) := by decide +kernel
theorem dX6_faultOfFog_22 : decode cX6_faultOfFog 22 = .ok (.getstatic 231, 3) := by decide +kernel
theorem dX6_faultOfFog_25 : decode cX6_faultOfFog 25 = .ok (.goto 6, 3) := by decide +kernel
theorem dX6_faultOfFog_28 : decode cX6_faultOfFog 28 = .ok (.getstatic 228, 3) := by decide +kernel
theorem dX6_faultOfFog_31 : decode cX6_faultOfFog 31 = .ok (.areturn, 1) := by decide +kernel
theorem dX6_faultOfPrice_0 : decode cX6_faultOfPrice 0 = .ok (.aload_n 0, 1) := by decide +kernel
theorem dX6_faultOfPrice_1 : decode cX6_faultOfPrice 1 = .ok (.iload_n 1, 1) := by decide +kernel
theorem dX6_faultOfPrice_2 : decode cX6_faultOfPrice 2 = .ok (.invokevirtual 219, 3) := by decide +kernel
theorem dX6_faultOfPrice_5 : decode cX6_faultOfPrice 5 = .ok (.ifCond .ne 7, 3) := by decide +kernel
theorem dX6_faultOfPrice_8 : decode cX6_faultOfPrice 8 = .ok (.getstatic 222, 3) := by decide +kernel
theorem dX6_faultOfPrice_11 : decode cX6_faultOfPrice 11 = .ok (.areturn, 1) := by decide +kernel
theorem dX6_faultOfPrice_12 : decode cX6_faultOfPrice 12 = .ok (.iload_n 2, 1) := by decide +kernel
theorem dX6_faultOfPrice_13 : decode cX6_faultOfPrice 13 = .ok (.iconst 1, 1) := by decide +kernel
theorem dX6_faultOfPrice_14 : decode cX6_faultOfPrice 14 = .ok (.bipush 99, 2) := by decide +kernel
theorem dX6_faultOfPrice_16 : decode cX6_faultOfPrice 16 = .ok (.invokestatic 73, 3) := by decide +kernel
theorem dX6_faultOfPrice_19 : decode cX6_faultOfPrice 19 = .ok (.ifCond .eq 9, 3) := by decide +kernel
theorem dX6_faultOfPrice_22 : decode cX6_faultOfPrice 22 = .ok (.getstatic 231, 3) := by decide +kernel
theorem dX6_faultOfPrice_25 : decode cX6_faultOfPrice 25 = .ok (.goto 6, 3) := by decide +kernel
theorem dX6_faultOfPrice_28 : decode cX6_faultOfPrice 28 = .ok (.getstatic 228, 3) := by decide +kernel
theorem dX6_faultOfPrice_31 : decode cX6_faultOfPrice 31 = .ok (.areturn, 1) := by decide +kernel
theorem dX6_faultOfDepth_0 : decode cX6_faultOfDepth 0 = .ok (.iload_n 1, 1) := by decide +kernel
theorem dX6_faultOfDepth_1 : decode cX6_faultOfDepth 1 = .ok (.iconst 0, 1) := by decide +kernel
theorem dX6_faultOfDepth_2 : decode cX6_faultOfDepth 2 = .ok (.bipush 20, 2) := by decide +kernel
theorem dX6_faultOfDepth_4 : decode cX6_faultOfDepth 4 = .ok (.invokestatic 73, 3) := by decide +kernel
theorem dX6_faultOfDepth_7 : decode cX6_faultOfDepth 7 = .ok (.ifCond .eq 9, 3) := by decide +kernel
theorem dX6_faultOfDepth_10 : decode cX6_faultOfDepth 10 = .ok (.getstatic 231, 3) := by decide +kernel
theorem dX6_faultOfDepth_13 : decode cX6_faultOfDepth 13 = .ok (.goto 6, 3) := by decide +kernel
theorem dX6_faultOfDepth_16 : decode cX6_faultOfDepth 16 = .ok (.getstatic 228, 3) := by decide +kernel
theorem dX6_faultOfDepth_19 : decode cX6_faultOfDepth 19 = .ok (.areturn, 1) := by decide +kernel
theorem dX6_faultOfPassing_0 : decode cX6_faultOfPassing 0 = .ok (.iload_n 1, 1) := by decide +kernel
theorem dX6_faultOfPassing_1 : decode cX6_faultOfPassing 1 = .ok (.iconst 1, 1) := by decide +kernel
theorem dX6_faultOfPassing_2 : decode cX6_faultOfPassing 2 = .ok (.sipush 240, 3) := by decide +kernel
theorem dX6_faultOfPassing_5 : decode cX6_faultOfPassing 5 = .ok (.invokestatic 73, 3) := by decide +kernel
theorem dX6_faultOfPassing_8 : decode cX6_faultOfPassing 8 = .ok (.ifCond .ne 7, 3) := by decide +kernel
theorem dX6_faultOfPassing_11 : decode cX6_faultOfPassing 11 = .ok (.getstatic 228, 3) := by decide +kernel
theorem dX6_faultOfPassing_14 : decode cX6_faultOfPassing 14 = .ok (.areturn, 1) := by decide +kernel
theorem dX6_faultOfPassing_15 : decode cX6_faultOfPassing 15 = .ok (.aload_n 0, 1) := by decide +kernel
theorem dX6_faultOfPassing_16 : decode cX6_faultOfPassing 16 = .ok (.getfield 42, 3) := by decide +kernel
theorem dX6_faultOfPassing_19 : decode cX6_faultOfPassing 19 = .ok (.iload_n 1, 1) := by decide +kernel
theorem dX6_faultOfPassing_20 : decode cX6_faultOfPassing 20 = .ok (.iadd, 1) := by decide +kernel
theorem dX6_faultOfPassing_21 : decode cX6_faultOfPassing 21 = .ok (.sipush 9999, 3) := by decide +kernel
theorem dX6_faultOfPassing_24 : decode cX6_faultOfPassing 24 = .ok (.if_icmp .gt 9, 3) := by decide +kernel
theorem dX6_faultOfPassing_27 : decode cX6_faultOfPassing 27 = .ok (.getstatic 231, 3) := by decide +kernel
theorem dX6_faultOfPassing_30 : decode cX6_faultOfPassing 30 = .ok (.goto 6, 3) := by decide +kernel
theorem dX6_faultOfPassing_33 : decode cX6_faultOfPassing 33 = .ok (.getstatic 234, 3) := by decide +kernel
theorem dX6_faultOfPassing_36 : decode cX6_faultOfPassing 36 = .ok (.areturn, 1) := by decide +kernel
theorem dX6_openValley_0 : decode cX6_openValley 0 = .ok (.aload_n 0, 1) := by decide +kernel
theorem dX6_openValley_1 : decode cX6_openValley 1 = .ok (.getfield 11, 3) := by decide +kernel
theorem dX6_openValley_4 : decode cX6_openValley 4 = .ok (.aload_n 0, 1) := by decide +kernel
theorem dX6_openValley_5 : decode cX6_openValley 5 = .ok (.getfield 32, 3) := by decide +kernel
theorem dX6_openValley_8 : decode cX6_openValley 8 = .ok (.aaload, 1) := by decide +kernel
theorem dX6_openValley_9 : decode cX6_openValley 9 = .ok (.astore 6, 2) := by decide +kernel
theorem dX6_openValley_11 : decode cX6_openValley 11 = .ok (.aload 6, 2) := by decide +kernel
theorem dX6_openValley_13 : decode cX6_openValley 13 = .ok (.lload_n 1, 1) := by decide +kernel
theorem dX6_openValley_14 : decode cX6_openValley 14 = .ok (.putfield 112, 3) := by decide +kernel
theorem dX6_openValley_17 : decode cX6_openValley 17 = .ok (.aload 6, 2) := by decide +kernel
theorem dX6_openValley_19 : decode cX6_openValley 19 = .ok (.iload_n 3, 1) := by decide +kernel
theorem dX6_openValley_20 : decode cX6_openValley 20 = .ok (.putfield 128, 3) := by decide +kernel
theorem dX6_openValley_23 : decode cX6_openValley 23 = .ok (.aload 6, 2) := by decide +kernel
theorem dX6_openValley_25 : decode cX6_openValley 25 = .ok (.iload 4, 2) := by decide +kernel
theorem dX6_openValley_27 : decode cX6_openValley 27 = .ok (.putfield 208, 3) := by decide +kernel
theorem dX6_openValley_30 : decode cX6_openValley 30 = .ok (.aload 6, 2) := by decide +kernel
theorem dX6_openValley_32 : decode cX6_openValley 32 = .ok (.iload 5, 2) := by decide +kernel
theorem dX6_openValley_34 : decode cX6_openValley 34 = .ok (.putfield 125, 3) := by decide +kernel
theorem dX6_openValley_37 : decode cX6_openValley 37 = .ok (.aload 6, 2) := by decide +kernel
theorem dX6_openValley_39 : decode cX6_openValley 39 = .ok (.iconst 0, 1) := by decide +kernel
theorem dX6_openValley_40 : decode cX6_openValley 40 = .ok (.putfield 240, 3) := by decide +kernel
theorem dX6_openValley_43 : decode cX6_openValley 43 = .ok (.aload 6, 2) := by decide +kernel
theorem dX6_openValley_45 : decode cX6_openValley 45 = .ok (.bipush 10, 2) := by decide +kernel
theorem dX6_openValley_47 : decode cX6_openValley 47 = .ok (.putfield 81, 3) := by decide +kernel
theorem dX6_openValley_50 : decode cX6_openValley 50 = .ok (.aload 6, 2) := by decide +kernel
theorem dX6_openValley_52 : decode cX6_openValley 52 = .ok (.iconst 0, 1) := by decide +kernel
theorem dX6_openValley_53 : decode cX6_openValley 53 = .ok (.putfield 206, 3) := by decide +kernel
theorem dX6_openValley_56 : decode cX6_openValley 56 = .ok (.aload 6, 2) := by decide +kernel
theorem dX6_openValley_58 : decode cX6_openValley 58 = .ok (.iconst 0, 1) := by decide +kernel
theorem dX6_openValley_59 : decode cX6_openValley 59 = .ok (.putfield 199, 3) := by decide +kernel
theorem dX6_openValley_62 : decode cX6_openValley 62 = .ok (.aload_n 0, 1) := by decide +kernel
theorem dX6_openValley_63 : decode cX6_openValley 63 = .ok (.dup, 1) := by decide +kernel
theorem dX6_openValley_64 : decode cX6_openValley 64 = .ok (.getfield 32, 3) := by decide +kernel
theorem dX6_openValley_67 : decode cX6_openValley 67 = .ok (.iconst 1, 1) := by decide +kernel
theorem dX6_openValley_68 : decode cX6_openValley 68 = .ok (.iadd, 1) := by decide +kernel
theorem dX6_openValley_69 : decode cX6_openValley 69 = .ok (.putfield 32, 3) := by decide +kernel
theorem dX6_openValley_72 : decode cX6_openValley 72 = .ok (.aload_n 0, 1) := by decide +kernel
theorem dX6_openValley_73 : decode cX6_openValley 73 = .ok (.getfield 32, 3) := by decide +kernel
theorem dX6_openValley_76 : decode cX6_openValley 76 = .ok (.iconst 1, 1) := by decide +kernel
theorem dX6_openValley_77 : decode cX6_openValley 77 = .ok (.isub, 1) := by decide +kernel
theorem dX6_openValley_78 : decode cX6_openValley 78 = .ok (.ireturn, 1) := by decide +kernel
theorem dX6_welcome_0 : decode cX6_welcome 0 = .ok (.aload_n 0, 1) := by decide +kernel
theorem dX6_welcome_1 : decode cX6_welcome 1 = .ok (.getfield 19, 3) := by decide +kernel
theorem dX6_welcome_4 : decode cX6_welcome 4 = .ok (.aload_n 0, 1) := by decide +kernel
theorem dX6_welcome_5 : decode cX6_welcome 5 = .ok (.getfield 36, 3) := by decide +kernel
theorem dX6_welcome_8 : decode cX6_welcome 8 = .ok (.aaload, 1) := by decide +kernel
theorem dX6_welcome_9 : decode cX6_welcome 9 = .ok (.astore 5, 2) := by decide +kernel
theorem dX6_welcome_11 : decode cX6_welcome 11 = .ok (.aload 5, 2) := by decide +kernel
theorem dX6_welcome_13 : decode cX6_welcome 13 = .ok (.lload_n 1, 1) := by decide +kernel
theorem dX6_welcome_14 : decode cX6_welcome 14 = .ok (.putfield 116, 3) := by decide +kernel
theorem dX6_welcome_17 : decode cX6_welcome 17 = .ok (.aload 5, 2) := by decide +kernel
theorem dX6_welcome_19 : decode cX6_welcome 19 = .ok (.iload_n 3, 1) := by decide +kernel
theorem dX6_welcome_20 : decode cX6_welcome 20 = .ok (.putfield 131, 3) := by decide +kernel
theorem dX6_welcome_23 : decode cX6_welcome 23 = .ok (.aload 5, 2) := by decide +kernel
theorem dX6_welcome_25 : decode cX6_welcome 25 = .ok (.iload 4, 2) := by decide +kernel
theorem dX6_welcome_27 : decode cX6_welcome 27 = .ok (.putfield 100, 3) := by decide +kernel
theorem dX6_welcome_30 : decode cX6_welcome 30 = .ok (.aload 5, 2) := by decide +kernel
theorem dX6_welcome_32 : decode cX6_welcome 32 = .ok (.iload 4, 2) := by decide +kernel
theorem dX6_welcome_34 : decode cX6_welcome 34 = .ok (.putfield 103, 3) := by decide +kernel
theorem dX6_welcome_37 : decode cX6_welcome 37 = .ok (.aload 5, 2) := by decide +kernel
theorem dX6_welcome_39 : decode cX6_welcome 39 = .ok (.iconst 0, 1) := by decide +kernel
theorem dX6_welcome_40 : decode cX6_welcome 40 = .ok (.putfield 243, 3) := by decide +kernel
theorem dX6_welcome_43 : decode cX6_welcome 43 = .ok (.aload 5, 2) := by decide +kernel
theorem dX6_welcome_45 : decode cX6_welcome 45 = .ok (.iconst 0, 1) := by decide +kernel
theorem dX6_welcome_46 : decode cX6_welcome 46 = .ok (.putfield 207, 3) := by decide +kernel
theorem dX6_welcome_49 : decode cX6_welcome 49 = .ok (.aload 5, 2) := by decide +kernel
theorem dX6_welcome_51 : decode cX6_welcome 51 = .ok (.iconst 0, 1) := by decide +kernel
theorem dX6_welcome_52 : decode cX6_welcome 52 = .ok (.putfield 141, 3) := by decide +kernel
theorem dX6_welcome_55 : decode cX6_welcome 55 = .ok (.aload_n 0, 1) := by decide +kernel
theorem dX6_welcome_56 : decode cX6_welcome 56 = .ok (.dup, 1) := by decide +kernel
theorem dX6_welcome_57 : decode cX6_welcome 57 = .ok (.getfield 36, 3) := by decide +kernel
theorem dX6_welcome_60 : decode cX6_welcome 60 = .ok (.iconst 1, 1) := by decide +kernel
theorem dX6_welcome_61 : decode cX6_welcome 61 = .ok (.iadd, 1) := by decide +kernel
theorem dX6_welcome_62 : decode cX6_welcome 62 = .ok (.putfield 36, 3) := by decide +kernel
theorem dX6_welcome_65 : decode cX6_welcome 65 = .ok (.aload_n 0, 1) := by decide +kernel
theorem dX6_welcome_66 : decode cX6_welcome 66 = .ok (.getfield 36, 3) := by decide +kernel
theorem dX6_welcome_69 : decode cX6_welcome 69 = .ok (.iconst 1, 1) := by decide +kernel
theorem dX6_welcome_70 : decode cX6_welcome 70 = .ok (.isub, 1) := by decide +kernel
theorem dX6_welcome_71 : decode cX6_welcome 71 = .ok (.ireturn, 1) := by decide +kernel
theorem dX6_sell_0 : decode cX6_sell 0 = .ok (.aload_n 0, 1) := by decide +kernel
theorem dX6_sell_1 : decode cX6_sell 1 = .ok (.getfield 19, 3) := by decide +kernel
theorem dX6_sell_4 : decode cX6_sell 4 = .ok (.iload_n 1, 1) := by decide +kernel
theorem dX6_sell_5 : decode cX6_sell 5 = .ok (.aaload, 1) := by decide +kernel
theorem dX6_sell_6 : decode cX6_sell 6 = .ok (.astore 5, 2) := by decide +kernel
theorem dX6_sell_8 : decode cX6_sell 8 = .ok (.aload_n 0, 1) := by decide +kernel
theorem dX6_sell_9 : decode cX6_sell 9 = .ok (.getfield 25, 3) := by decide +kernel
theorem dX6_sell_12 : decode cX6_sell 12 = .ok (.aload_n 0, 1) := by decide +kernel
theorem dX6_sell_13 : decode cX6_sell 13 = .ok (.getfield 39, 3) := by decide +kernel
theorem dX6_sell_16 : decode cX6_sell 16 = .ok (.aaload, 1) := by decide +kernel
theorem dX6_sell_17 : decode cX6_sell 17 = .ok (.astore 6, 2) := by decide +kernel
theorem dX6_sell_19 : decode cX6_sell 19 = .ok (.aload 6, 2) := by decide +kernel
theorem dX6_sell_21 : decode cX6_sell 21 = .ok (.iload_n 1, 1) := by decide +kernel
theorem dX6_sell_22 : decode cX6_sell 22 = .ok (.putfield 200, 3) := by decide +kernel
theorem dX6_sell_25 : decode cX6_sell 25 = .ok (.aload 6, 2) := by decide +kernel
theorem dX6_sell_27 : decode cX6_sell 27 = .ok (.iload_n 2, 1) := by decide +kernel
theorem dX6_sell_28 : decode cX6_sell 28 = .ok (.putfield 167, 3) := by decide +kernel
theorem dX6_sell_31 : decode cX6_sell 31 = .ok (.aload 6, 2) := by decide +kernel
theorem dX6_sell_33 : decode cX6_sell 33 = .ok (.iload_n 3, 1) := by decide +kernel
theorem dX6_sell_34 : decode cX6_sell 34 = .ok (.putfield 164, 3) := by decide +kernel
theorem dX6_sell_37 : decode cX6_sell 37 = .ok (.aload 6, 2) := by decide +kernel
theorem dX6_sell_39 : decode cX6_sell 39 = .ok (.iload 4, 2) := by decide +kernel
theorem dX6_sell_41 : decode cX6_sell 41 = .ok (.putfield 97, 3) := by decide +kernel
theorem dX6_sell_44 : decode cX6_sell 44 = .ok (.aload 6, 2) := by decide +kernel
theorem dX6_sell_46 : decode cX6_sell 46 = .ok (.aload_n 0, 1) := by decide +kernel
theorem dX6_sell_47 : decode cX6_sell 47 = .ok (.getfield 11, 3) := by decide +kernel
theorem dX6_sell_50 : decode cX6_sell 50 = .ok (.iload_n 2, 1) := by decide +kernel
theorem dX6_sell_51 : decode cX6_sell 51 = .ok (.aaload, 1) := by decide +kernel
theorem dX6_sell_52 : decode cX6_sell 52 = .ok (.getfield 125, 3) := by decide +kernel
theorem dX6_sell_55 : decode cX6_sell 55 = .ok (.putfield 163, 3) := by decide +kernel
theorem dX6_sell_58 : decode cX6_sell 58 = .ok (.aload 6, 2) := by decide +kernel
theorem dX6_sell_60 : decode cX6_sell 60 = .ok (.aload_n 0, 1) := by decide +kernel
theorem dX6_sell_61 : decode cX6_sell 61 = .ok (.getfield 11, 3) := by decide +kernel
theorem dX6_sell_64 : decode cX6_sell 64 = .ok (.iload_n 2, 1) := by decide +kernel
theorem dX6_sell_65 : decode cX6_sell 65 = .ok (.aaload, 1) := by decide +kernel
theorem dX6_sell_66 : decode cX6_sell 66 = .ok (.getfield 128, 3) := by decide +kernel
theorem dX6_sell_69 : decode cX6_sell 69 = .ok (.putfield 246, 3) := by decide +kernel
theorem dX6_sell_72 : decode cX6_sell 72 = .ok (.aload 6, 2) := by decide +kernel
theorem dX6_sell_74 : decode cX6_sell 74 = .ok (.aload_n 0, 1) := by decide +kernel
theorem dX6_sell_75 : decode cX6_sell 75 = .ok (.getfield 42, 3) := by decide +kernel
theorem dX6_sell_78 : decode cX6_sell 78 = .ok (.putfield 247, 3) := by decide +kernel
theorem dX6_sell_81 : decode cX6_sell 81 = .ok (.aload 6, 2) := by decide +kernel
theorem dX6_sell_83 : decode cX6_sell 83 = .ok (.aload_n 0, 1) := by decide +kernel
theorem dX6_sell_84 : decode cX6_sell 84 = .ok (.getfield 42, 3) := by decide +kernel
theorem dX6_sell_87 : decode cX6_sell 87 = .ok (.aload 5, 2) := by decide +kernel
theorem dX6_sell_89 : decode cX6_sell 89 = .ok (.getfield 131, 3) := by decide +kernel
theorem dX6_sell_92 : decode cX6_sell 92 = .ok (.iadd, 1) := by decide +kernel
theorem dX6_sell_93 : decode cX6_sell 93 = .ok (.putfield 145, 3) := by decide +kernel
theorem dX6_sell_96 : decode cX6_sell 96 = .ok (.aload 6, 2) := by decide +kernel
theorem dX6_sell_98 : decode cX6_sell 98 = .ok (.iconst 0, 1) := by decide +kernel
theorem dX6_sell_99 : decode cX6_sell 99 = .ok (.putfield 91, 3) := by decide +kernel
theorem dX6_sell_102 : decode cX6_sell 102 = .ok (.aload 6, 2) := by decide +kernel
theorem dX6_sell_104 : decode cX6_sell 104 = .ok (.iconst 0, 1) := by decide +kernel
theorem dX6_sell_105 : decode cX6_sell 105 = .ok (.putfield 94, 3) := by decide +kernel
theorem dX6_sell_108 : decode cX6_sell 108 = .ok (.aload 6, 2) := by decide +kernel
theorem dX6_sell_110 : decode cX6_sell 110 = .ok (.iconst 0, 1) := by decide +kernel
theorem dX6_sell_111 : decode cX6_sell 111 = .ok (.putfield 203, 3) := by decide +kernel
theorem dX6_sell_114 : decode cX6_sell 114 = .ok (.aload 5, 2) := by decide +kernel
theorem dX6_sell_116 : decode cX6_sell 116 = .ok (.dup, 1) := by decide +kernel
theorem dX6_sell_117 : decode cX6_sell 117 = .ok (.getfield 103, 3) := by decide +kernel
theorem dX6_sell_120 : decode cX6_sell 120 = .ok (.aload 6, 2) := by decide +kernel
theorem dX6_sell_122 : decode cX6_sell 122 = .ok (.invokevirtual 87, 3) := by decide +kernel
theorem dX6_sell_125 : decode cX6_sell 125 = .ok (.isub, 1) := by decide +kernel
theorem dX6_sell_126 : decode cX6_sell 126 = .ok (.putfield 103, 3) := by decide +kernel
theorem dX6_sell_129 : decode cX6_sell 129 = .ok (.aload 5, 2) := by decide +kernel
theorem dX6_sell_131 : decode cX6_sell 131 = .ok (.dup, 1) := by decide +kernel
theorem dX6_sell_132 : decode cX6_sell 132 = .ok (.getfield 207, 3) := by decide +kernel
theorem dX6_sell_135 : decode cX6_sell 135 = .ok (.aload 6, 2) := by decide +kernel
theorem dX6_sell_137 : decode cX6_sell 137 = .ok (.invokevirtual 87, 3) := by decide +kernel
theorem dX6_sell_140 : decode cX6_sell 140 = .ok (.iadd, 1) := by decide +kernel
theorem dX6_sell_141 : decode cX6_sell 141 = .ok (.putfield 207, 3) := by decide +kernel
theorem dX6_sell_144 : decode cX6_sell 144 = .ok (.aload_n 0, 1) := by decide +kernel
theorem dX6_sell_145 : decode cX6_sell 145 = .ok (.dup, 1) := by decide +kernel
theorem dX6_sell_146 : decode cX6_sell 146 = .ok (.getfield 54, 3) := by decide +kernel
theorem dX6_sell_149 : decode cX6_sell 149 = .ok (.aload 6, 2) := by decide +kernel
theorem dX6_sell_151 : decode cX6_sell 151 = .ok (.invokevirtual 87, 3) := by decide +kernel
theorem dX6_sell_154 : decode cX6_sell 154 = .ok (.iadd, 1) := by decide +kernel
theorem dX6_sell_155 : decode cX6_sell 155 = .ok (.putfield 54, 3) := by decide +kernel
theorem dX6_sell_158 : decode cX6_sell 158 = .ok (.aload_n 0, 1) := by decide +kernel
theorem dX6_sell_159 : decode cX6_sell 159 = .ok (.dup, 1) := by decide +kernel
theorem dX6_sell_160 : decode cX6_sell 160 = .ok (.getfield 39, 3) := by decide +kernel
theorem dX6_sell_163 : decode cX6_sell 163 = .ok (.iconst 1, 1) := by decide +kernel
theorem dX6_sell_164 : decode cX6_sell 164 = .ok (.iadd, 1) := by decide +kernel
theorem dX6_sell_165 : decode cX6_sell 165 = .ok (.putfield 39, 3) := by decide +kernel
theorem dX6_sell_168 : decode cX6_sell 168 = .ok (.aload_n 0, 1) := by decide +kernel
theorem dX6_sell_169 : decode cX6_sell 169 = .ok (.getfield 39, 3) := by decide +kernel
theorem dX6_sell_172 : decode cX6_sell 172 = .ok (.iconst 1, 1) := by decide +kernel
theorem dX6_sell_173 : decode cX6_sell 173 = .ok (.isub, 1) := by decide +kernel
theorem dX6_sell_174 : decode cX6_sell 174 = .ok (.ireturn, 1) := by decide +kernel
theorem dX6_callOff_0 : decode cX6_callOff 0 = .ok (.aload_n 0, 1) := by decide +kernel
theorem dX6_callOff_1 : decode cX6_callOff 1 = .ok (.getfield 25, 3) := by decide +kernel
theorem dX6_callOff_4 : decode cX6_callOff 4 = .ok (.iload_n 1, 1) := by decide +kernel
theorem dX6_callOff_5 : decode cX6_callOff 5 = .ok (.aaload, 1) := by decide +kernel
theorem dX6_callOff_6 : decode cX6_callOff 6 = .ok (.astore_n 2, 1) := by decide +kernel
theorem dX6_callOff_7 : decode cX6_callOff 7 = .ok (.aload_n 2, 1) := by decide +kernel
theorem dX6_callOff_8 : decode cX6_callOff 8 = .ok (.invokevirtual 250, 3) := by decide +kernel
theorem dX6_callOff_11 : decode cX6_callOff 11 = .ok (.istore_n 3, 1) := by decide +kernel
theorem dX6_callOff_12 : decode cX6_callOff 12 = .ok (.aload_n 2, 1) := by decide +kernel
theorem dX6_callOff_13 : decode cX6_callOff 13 = .ok (.iconst 2, 1) := by decide +kernel
theorem dX6_callOff_14 : decode cX6_callOff 14 = .ok (.putfield 91, 3) := by decide +kernel
theorem dX6_callOff_17 : decode cX6_callOff 17 = .ok (.aload_n 0, 1) := by decide +kernel
theorem dX6_callOff_18 : decode cX6_callOff 18 = .ok (.aload_n 2, 1) := by decide +kernel
theorem dX6_callOff_19 : decode cX6_callOff 19 = .ok (.iload_n 3, 1) := by decide +kernel
theorem dX6_callOff_20 : decode cX6_callOff 20 = .ok (.invokevirtual 192, 3) := by decide +kernel
theorem dX6_callOff_23 : decode cX6_callOff 23 = .ok (.iload_n 3, 1) := by decide +kernel
theorem dX6_callOff_24 : decode cX6_callOff 24 = .ok (.ireturn, 1) := by decide +kernel
theorem dX6_fakeNext_0 : decode cX6_fakeNext 0 = .ok (.aload_n 0, 1) := by decide +kernel
theorem dX6_fakeNext_1 : decode cX6_fakeNext 1 = .ok (.getfield 25, 3) := by decide +kernel
theorem dX6_fakeNext_4 : decode cX6_fakeNext 4 = .ok (.iload_n 1, 1) := by decide +kernel
theorem dX6_fakeNext_5 : decode cX6_fakeNext 5 = .ok (.aaload, 1) := by decide +kernel
theorem dX6_fakeNext_6 : decode cX6_fakeNext 6 = .ok (.astore_n 2, 1) := by decide +kernel
theorem dX6_fakeNext_7 : decode cX6_fakeNext 7 = .ok (.aload_n 0, 1) := by decide +kernel
theorem dX6_fakeNext_8 : decode cX6_fakeNext 8 = .ok (.getfield 19, 3) := by decide +kernel
theorem dX6_fakeNext_11 : decode cX6_fakeNext 11 = .ok (.aload_n 2, 1) := by decide +kernel
theorem dX6_fakeNext_12 : decode cX6_fakeNext 12 = .ok (.getfield 200, 3) := by decide +kernel
theorem dX6_fakeNext_15 : decode cX6_fakeNext 15 = .ok (.aaload, 1) := by decide +kernel
theorem dX6_fakeNext_16 : decode cX6_fakeNext 16 = .ok (.astore_n 3, 1) := by decide +kernel
theorem dX6_fakeNext_17 : decode cX6_fakeNext 17 = .ok (.aload_n 0, 1) := by decide +kernel
theorem dX6_fakeNext_18 : decode cX6_fakeNext 18 = .ok (.getfield 45, 3) := by decide +kernel
theorem dX6_fakeNext_21 : decode cX6_fakeNext 21 = .ok (.iconst 1, 1) := by decide +kernel
theorem dX6_fakeNext_22 : decode cX6_fakeNext 22 = .ok (.if_icmp .lt 7, 3) := by decide +kernel
theorem dX6_fakeNext_25 : decode cX6_fakeNext 25 = .ok (.iconst 1, 1) := by decide +kernel
theorem dX6_fakeNext_26 : decode cX6_fakeNext 26 = .ok (.goto 4, 3) := by decide +kernel
theorem dX6_fakeNext_29 : decode cX6_fakeNext 29 = .ok (.iconst 0, 1) := by decide +kernel
theorem dX6_fakeNext_30 : decode cX6_fakeNext 30 = .ok (.istore 4, 2) := by decide +kernel
theorem dX6_fakeNext_32 : decode cX6_fakeNext 32 = .ok (.aload_n 0, 1) := by decide +kernel
theorem dX6_fakeNext_33 : decode cX6_fakeNext 33 = .ok (.aload_n 2, 1) := by decide +kernel
theorem dX6_fakeNext_34 : decode cX6_fakeNext 34 = .ok (.iload 4, 2) := by decide +kernel
theorem dX6_fakeNext_36 : decode cX6_fakeNext 36 = .ok (.invokevirtual 182, 3) := by decide +kernel
theorem dX6_fakeNext_39 : decode cX6_fakeNext 39 = .ok (.iload 4, 2) := by decide +kernel
theorem dX6_fakeNext_41 : decode cX6_fakeNext 41 = .ok (.ifCond .eq 13, 3) := by decide +kernel
theorem dX6_fakeNext_44 : decode cX6_fakeNext 44 = .ok (.aload_n 3, 1) := by decide +kernel
theorem dX6_fakeNext_45 : decode cX6_fakeNext 45 = .ok (.dup, 1) := by decide +kernel
theorem dX6_fakeNext_46 : decode cX6_fakeNext 46 = .ok (.getfield 243, 3) := by decide +kernel
theorem dX6_fakeNext_49 : decode cX6_fakeNext 49 = .ok (.iconst 1, 1) := by decide +kernel
theorem dX6_fakeNext_50 : decode cX6_fakeNext 50 = .ok (.iadd, 1) := by decide +kernel
theorem dX6_fakeNext_51 : decode cX6_fakeNext 51 = .ok (.putfield 243, 3) := by decide +kernel
theorem dX6_fakeNext_54 : decode cX6_fakeNext 54 = .ok (.aload_n 3, 1) := by decide +kernel
theorem dX6_fakeNext_55 : decode cX6_fakeNext 55 = .ok (.invokevirtual 84, 3) := by decide +kernel
theorem dX6_fakeNext_58 : decode cX6_fakeNext 58 = .ok (.ifCond .eq 11, 3) := by decide +kernel
theorem dX6_fakeNext_61 : decode cX6_fakeNext 61 = .ok (.aload_n 0, 1) := by decide +kernel
theorem dX6_fakeNext_62 : decode cX6_fakeNext 62 = .ok (.aload_n 2, 1) := by decide +kernel
theorem dX6_fakeNext_63 : decode cX6_fakeNext 63 = .ok (.getfield 200, 3) := by decide +kernel
theorem dX6_fakeNext_66 : decode cX6_fakeNext 66 = .ok (.invokevirtual 253, 3) := by decide +kernel
theorem dX6_fakeNext_69 : decode cX6_fakeNext 69 = .ok (.aload_n 3, 1) := by decide +kernel
theorem dX6_fakeNext_70 : decode cX6_fakeNext 70 = .ok (.getfield 243, 3) := by decide +kernel
theorem dX6_fakeNext_73 : decode cX6_fakeNext 73 = .ok (.ireturn, 1) := by decide +kernel
theorem dX6_callOffAll_0 : decode cX6_callOffAll 0 = .ok (.iconst 0, 1) := by decide +kernel
theorem dX6_callOffAll_1 : decode cX6_callOffAll 1 = .ok (.istore_n 2, 1) := by decide +kernel
theorem dX6_callOffAll_2 : decode cX6_callOffAll 2 = .ok (.iload_n 2, 1) := by decide +kernel
theorem dX6_callOffAll_3 : decode cX6_callOffAll 3 = .ok (.aload_n 0, 1) := by decide +kernel
theorem dX6_callOffAll_4 : decode cX6_callOffAll 4 = .ok (.getfield 39, 3) := by decide +kernel
theorem dX6_callOffAll_7 : decode cX6_callOffAll 7 = .ok (.if_icmp .ge 40, 3) := by decide +kernel
theorem dX6_callOffAll_10 : decode cX6_callOffAll 10 = .ok (.aload_n 0, 1) := by decide +kernel
theorem dX6_callOffAll_11 : decode cX6_callOffAll 11 = .ok (.getfield 25, 3) := by decide +kernel
theorem dX6_callOffAll_14 : decode cX6_callOffAll 14 = .ok (.iload_n 2, 1) := by decide +kernel
theorem dX6_callOffAll_15 : decode cX6_callOffAll 15 = .ok (.aaload, 1) := by decide +kernel
theorem dX6_callOffAll_16 : decode cX6_callOffAll 16 = .ok (.invokevirtual 77, 3) := by decide +kernel
theorem dX6_callOffAll_19 : decode cX6_callOffAll 19 = .ok (.ifCond .eq 22, 3) := by decide +kernel
theorem dX6_callOffAll_22 : decode cX6_callOffAll 22 = .ok (.aload_n 0, 1) := by decide +kernel
theorem dX6_callOffAll_23 : decode cX6_callOffAll 23 = .ok (.getfield 25, 3) := by decide +kernel
theorem dX6_callOffAll_26 : decode cX6_callOffAll 26 = .ok (.iload_n 2, 1) := by decide +kernel
theorem dX6_callOffAll_27 : decode cX6_callOffAll 27 = .ok (.aaload, 1) := by decide +kernel
theorem dX6_callOffAll_28 : decode cX6_callOffAll 28 = .ok (.getfield 200, 3) := by decide +kernel
theorem dX6_callOffAll_31 : decode cX6_callOffAll 31 = .ok (.iload_n 1, 1) := by decide +kernel
theorem dX6_callOffAll_32 : decode cX6_callOffAll 32 = .ok (.if_icmp .ne 9, 3) := by decide +kernel
theorem dX6_callOffAll_35 : decode cX6_callOffAll 35 = .ok (.aload_n 0, 1) := by decide +kernel
theorem dX6_callOffAll_36 : decode cX6_callOffAll 36 = .ok (.iload_n 2, 1) := by decide +kernel
theorem dX6_callOffAll_37 : decode cX6_callOffAll 37 = .ok (.invokevirtual 186, 3) := by decide +kernel
theorem dX6_callOffAll_40 : decode cX6_callOffAll 40 = .ok (.pop, 1) := by decide +kernel
theorem dX6_callOffAll_41 : decode cX6_callOffAll 41 = .ok (.iinc 2 1, 3) := by decide +kernel
theorem dX6_callOffAll_44 : decode cX6_callOffAll 44 = .ok (.goto (-42), 3) := by decide +kernel
theorem dX6_callOffAll_47 : decode cX6_callOffAll 47 = .ok (.return_, 1) := by decide +kernel
theorem dX6_changeFog_0 : decode cX6_changeFog 0 = .ok (.aload_n 0, 1) := by decide +kernel
theorem dX6_changeFog_1 : decode cX6_changeFog 1 = .ok (.getfield 11, 3) := by decide +kernel
theorem dX6_changeFog_4 : decode cX6_changeFog 4 = .ok (.iload_n 1, 1) := by decide +kernel
theorem dX6_changeFog_5 : decode cX6_changeFog 5 = .ok (.aaload, 1) := by decide +kernel
theorem dX6_changeFog_6 : decode cX6_changeFog 6 = .ok (.getfield 240, 3) := by decide +kernel
theorem dX6_changeFog_9 : decode cX6_changeFog 9 = .ok (.istore_n 3, 1) := by decide +kernel
theorem dX6_changeFog_10 : decode cX6_changeFog 10 = .ok (.aload_n 0, 1) := by decide +kernel
theorem dX6_changeFog_11 : decode cX6_changeFog 11 = .ok (.getfield 11, 3) := by decide +kernel
theorem dX6_changeFog_14 : decode cX6_changeFog 14 = .ok (.iload_n 1, 1) := by decide +kernel
theorem dX6_changeFog_15 : decode cX6_changeFog 15 = .ok (.aaload, 1) := by decide +kernel
theorem dX6_changeFog_16 : decode cX6_changeFog 16 = .ok (.iload_n 2, 1) := by decide +kernel
theorem dX6_changeFog_17 : decode cX6_changeFog 17 = .ok (.putfield 240, 3) := by decide +kernel
theorem dX6_changeFog_20 : decode cX6_changeFog 20 = .ok (.iload_n 3, 1) := by decide +kernel
theorem dX6_changeFog_21 : decode cX6_changeFog 21 = .ok (.ireturn, 1) := by decide +kernel
theorem dX6_changePrice_0 : decode cX6_changePrice 0 = .ok (.aload_n 0, 1) := by decide +kernel
theorem dX6_changePrice_1 : decode cX6_changePrice 1 = .ok (.getfield 11, 3) := by decide +kernel
theorem dX6_changePrice_4 : decode cX6_changePrice 4 = .ok (.iload_n 1, 1) := by decide +kernel
theorem dX6_changePrice_5 : decode cX6_changePrice 5 = .ok (.aaload, 1) := by decide +kernel
theorem dX6_changePrice_6 : decode cX6_changePrice 6 = .ok (.getfield 125, 3) := by decide +kernel
theorem dX6_changePrice_9 : decode cX6_changePrice 9 = .ok (.istore_n 3, 1) := by decide +kernel
theorem dX6_changePrice_10 : decode cX6_changePrice 10 = .ok (.aload_n 0, 1) := by decide +kernel
theorem dX6_changePrice_11 : decode cX6_changePrice 11 = .ok (.getfield 11, 3) := by decide +kernel
theorem dX6_changePrice_14 : decode cX6_changePrice 14 = .ok (.iload_n 1, 1) := by decide +kernel
theorem dX6_changePrice_15 : decode cX6_changePrice 15 = .ok (.aaload, 1) := by decide +kernel
theorem dX6_changePrice_16 : decode cX6_changePrice 16 = .ok (.iload_n 2, 1) := by decide +kernel
theorem dX6_changePrice_17 : decode cX6_changePrice 17 = .ok (.putfield 125, 3) := by decide +kernel
theorem dX6_changePrice_20 : decode cX6_changePrice 20 = .ok (.iload_n 3, 1) := by decide +kernel
theorem dX6_changePrice_21 : decode cX6_changePrice 21 = .ok (.ireturn, 1) := by decide +kernel
theorem dX6_changeDepth_0 : decode cX6_changeDepth 0 = .ok (.aload_n 0, 1) := by decide +kernel
theorem dX6_changeDepth_1 : decode cX6_changeDepth 1 = .ok (.getfield 45, 3) := by decide +kernel
theorem dX6_changeDepth_4 : decode cX6_changeDepth 4 = .ok (.istore_n 2, 1) := by decide +kernel
theorem dX6_changeDepth_5 : decode cX6_changeDepth 5 = .ok (.aload_n 0, 1) := by decide +kernel
theorem dX6_changeDepth_6 : decode cX6_changeDepth 6 = .ok (.iload_n 1, 1) := by decide +kernel
theorem dX6_changeDepth_7 : decode cX6_changeDepth 7 = .ok (.putfield 45, 3) := by decide +kernel
theorem dX6_changeDepth_10 : decode cX6_changeDepth 10 = .ok (.iload_n 2, 1) := by decide +kernel
theorem dX6_changeDepth_11 : decode cX6_changeDepth 11 = .ok (.ireturn, 1) := by decide +kernel
theorem dX7_init_0 : decode cX7_init 0 = .ok (.aload_n 0, 1) := by decide +kernel
theorem dX7_init_1 : decode cX7_init 1 = .ok (.invokespecial 3, 3) := by decide +kernel
theorem dX7_init_4 : decode cX7_init 4 = .ok (.aload_n 0, 1) := by decide +kernel
theorem dX7_init_5 : decode cX7_init 5 = .ok (.bipush 30, 2) := by decide +kernel
theorem dX7_init_7 : decode cX7_init 7 = .ok (.anewarray 9, 3) := by decide +kernel
theorem dX7_init_10 : decode cX7_init 10 = .ok (.putfield 11, 3) := by decide +kernel
theorem dX7_init_13 : decode cX7_init 13 = .ok (.aload_n 0, 1) := by decide +kernel
theorem dX7_init_14 : decode cX7_init 14 = .ok (.bipush 40, 2) := by decide +kernel
theorem dX7_init_16 : decode cX7_init 16 = .ok (.newarray .int, 2) := by decide +kernel
theorem dX7_init_18 : decode cX7_init 18 = .ok (.putfield 17, 3) := by decide +kernel
theorem dX7_init_21 : decode cX7_init 21 = .ok (.aload_n 0, 1) := by decide +kernel
theorem dX7_init_22 : decode cX7_init 22 = .ok (.iconst 2, 1) := by decide +kernel
theorem dX7_init_23 : decode cX7_init 23 = .ok (.newarray .int, 2) := by decide +kernel
theorem dX7_init_25 : decode cX7_init 25 = .ok (.putfield 21, 3) := by decide +kernel
theorem dX7_init_28 : decode cX7_init 28 = .ok (.aload_n 0, 1) := by decide +kernel
theorem dX7_init_29 : decode cX7_init 29 = .ok (.iconst 2, 1) := by decide +kernel
theorem dX7_init_30 : decode cX7_init 30 = .ok (.newarray .int, 2) := by decide +kernel
theorem dX7_init_32 : decode cX7_init 32 = .ok (.putfield 24, 3) := by decide +kernel
theorem dX7_init_35 : decode cX7_init 35 = .ok (.iconst 0, 1) := by decide +kernel
theorem dX7_init_36 : decode cX7_init 36 = .ok (.istore_n 1, 1) := by decide +kernel
theorem dX7_init_37 : decode cX7_init 37 = .ok (.iload_n 1, 1) := by decide +kernel
theorem dX7_init_38 : decode cX7_init 38 = .ok (.bipush 30, 2) := by decide +kernel
theorem dX7_init_40 : decode cX7_init 40 = .ok (.if_icmp .ge 22, 3) := by decide +kernel
theorem dX7_init_43 : decode cX7_init 43 = .ok (.aload_n 0, 1) := by decide +kernel
theorem dX7_init_44 : decode cX7_init 44 = .ok (.getfield 11, 3) := by decide +kernel
theorem dX7_init_47 : decode cX7_init 47 = .ok (.iload_n 1, 1) := by decide +kernel
theorem dX7_init_48 : decode cX7_init 48 = .ok (.new 9, 3) := by decide +kernel
theorem dX7_init_51 : decode cX7_init 51 = .ok (.dup, 1) := by decide +kernel
theorem dX7_init_52 : decode cX7_init 52 = .ok (.invokespecial 27, 3) := by decide +kernel
theorem dX7_init_55 : decode cX7_init 55 = .ok (.aastore, 1) := by decide +kernel
theorem dX7_init_56 : decode cX7_init 56 = .ok (.iinc 1 1, 3) := by decide +kernel
theorem dX7_init_59 : decode cX7_init 59 = .ok (.goto (-22), 3) := by decide +kernel
theorem dX7_init_62 : decode cX7_init 62 = .ok (.return_, 1) := by decide +kernel
theorem dX7_read_0 : decode cX7_read 0 = .ok (.aload_n 0, 1) := by decide +kernel
theorem dX7_read_1 : decode cX7_read 1 = .ok (.iconst 0, 1) := by decide +kernel
theorem dX7_read_2 : decode cX7_read 2 = .ok (.putfield 28, 3) := by decide +kernel
theorem dX7_read_5 : decode cX7_read 5 = .ok (.aload_n 0, 1) := by decide +kernel
theorem dX7_read_6 : decode cX7_read 6 = .ok (.iconst 0, 1) := by decide +kernel
theorem dX7_read_7 : decode cX7_read 7 = .ok (.putfield 32, 3) := by decide +kernel
theorem dX7_read_10 : decode cX7_read 10 = .ok (.aload_n 0, 1) := by decide +kernel
theorem dX7_read_11 : decode cX7_read 11 = .ok (.iconst 0, 1) := by decide +kernel
theorem dX7_read_12 : decode cX7_read 12 = .ok (.putfield 35, 3) := by decide +kernel
theorem dX7_read_15 : decode cX7_read 15 = .ok (.aload_n 1, 1) := by decide +kernel
theorem dX7_read_16 : decode cX7_read 16 = .ok (.invokevirtual 38, 3) := by decide +kernel
theorem dX7_read_19 : decode cX7_read 19 = .ok (.iconst 0, 1) := by decide +kernel
theorem dX7_read_20 : decode cX7_read 20 = .ok (.istore_n 3, 1) := by decide +kernel
theorem dX7_read_21 : decode cX7_read 21 = .ok (.iload_n 3, 1) := by decide +kernel
theorem dX7_read_22 : decode cX7_read 22 = .ok (.sipush 600, 3) := by decide +kernel
theorem dX7_read_25 : decode cX7_read 25 = .ok (.if_icmp .ge 46, 3) := by decide +kernel
theorem dX7_read_28 : decode cX7_read 28 = .ok (.aload_n 1, 1) := by decide +kernel
theorem dX7_read_29 : decode cX7_read 29 = .ok (.invokevirtual 43, 3) := by decide +kernel
theorem dX7_read_32 : decode cX7_read 32 = .ok (.ifCond .eq 39, 3) := by decide +kernel
theorem dX7_read_35 : decode cX7_read 35 = .ok (.aload_n 0, 1) := by decide +kernel
theorem dX7_read_36 : decode cX7_read 36 = .ok (.getfield 35, 3) := by decide +kernel
theorem dX7_read_39 : decode cX7_read 39 = .ok (.ifCond .le 20, 3) := by decide +kernel
theorem dX7_read_42 : decode cX7_read 42 = .ok (.aload_n 1, 1) := by decide +kernel
theorem dX7_read_43 : decode cX7_read 43 = .ok (.bipush 41, 2) := by decide +kernel
theorem dX7_read_45 : decode cX7_read 45 = .ok (.invokevirtual 47, 3) := by decide +kernel
theorem dX7_read_48 : decode cX7_read 48 = .ok (.ifCond .eq 11, 3) := by decide +kernel
theorem dX7_read_51 : decode cX7_read 51 = .ok (.aload_n 0, 1) := by decide +kernel
theorem dX7_read_52 : decode cX7_read 52 = .ok (.aload_n 1, 1) := by decide +kernel
theorem dX7_read_53 : decode cX7_read 53 = .ok (.invokevirtual 51, 3) := by decide +kernel
theorem dX7_read_56 : decode cX7_read 56 = .ok (.goto 9, 3) := by decide +kernel
theorem dX7_read_59 : decode cX7_read 59 = .ok (.aload_n 0, 1) := by decide +kernel
theorem dX7_read_60 : decode cX7_read 60 = .ok (.aload_n 1, 1) := by decide +kernel
theorem dX7_read_61 : decode cX7_read 61 = .ok (.aload_n 2, 1) := by decide +kernel
theorem dX7_read_62 : decode cX7_read 62 = .ok (.invokevirtual 55, 3) := by decide +kernel
theorem dX7_read_65 : decode cX7_read 65 = .ok (.iinc 3 1, 3) := by decide +kernel
theorem dX7_read_68 : decode cX7_read 68 = .ok (.goto (-47), 3) := by decide +kernel
theorem dX7_read_71 : decode cX7_read 71 = .ok (.aload_n 1, 1) := by decide +kernel
theorem dX7_read_72 : decode cX7_read 72 = .ok (.aload_n 0, 1) := by decide +kernel
theorem dX7_read_73 : decode cX7_read 73 = .ok (.getfield 35, 3) := by decide +kernel
theorem dX7_read_76 : decode cX7_read 76 = .ok (.ifCond .le 7, 3) := by decide +kernel
theorem dX7_read_79 : decode cX7_read 79 = .ok (.iconst 1, 1) := by decide +kernel
theorem dX7_read_80 : decode cX7_read 80 = .ok (.goto 4, 3) := by decide +kernel
theorem dX7_read_83 : decode cX7_read 83 = .ok (.iconst 0, 1) := by decide +kernel
theorem dX7_read_84 : decode cX7_read 84 = .ok (.iconst 1, 1) := by decide +kernel
theorem dX7_read_85 : decode cX7_read 85 = .ok (.invokevirtual 59, 3) := by decide +kernel
theorem dX7_read_88 : decode cX7_read 88 = .ok (.aload_n 1, 1) := by decide +kernel
theorem dX7_read_89 : decode cX7_read 89 = .ok (.invokevirtual 63, 3) := by decide +kernel
theorem dX7_read_92 : decode cX7_read 92 = .ok (.ifCond .ne 7, 3) := by decide +kernel
theorem dX7_read_95 : decode cX7_read 95 = .ok (.iconst 1, 1) := by decide +kernel
theorem dX7_read_96 : decode cX7_read 96 = .ok (.goto 4, 3) := by decide +kernel
theorem dX7_read_99 : decode cX7_read 99 = .ok (.iconst 0, 1) := by decide +kernel
theorem dX7_read_100 : decode cX7_read 100 = .ok (.ireturn, 1) := by decide +kernel
theorem dX7_readCommand_0 : decode cX7_readCommand 0 = .ok (.aload_n 1, 1) := by decide +kernel
theorem dX7_readCommand_1 : decode cX7_readCommand 1 = .ok (.invokevirtual 66, 3) := by decide +kernel
theorem dX7_readCommand_4 : decode cX7_readCommand 4 = .ok (.astore_n 3, 1) := by decide +kernel
theorem dX7_readCommand_5 : decode cX7_readCommand 5 = .ok (.aload_n 1, 1) := by decide +kernel
theorem dX7_readCommand_6 : decode cX7_readCommand 6 = .ok (.aload_n 3, 1) := by decide +kernel
theorem dX7_readCommand_7 : decode cX7_readCommand 7 = .ok (.getfield 70, 3) := by decide +kernel
theorem dX7_readCommand_10 : decode cX7_readCommand 10 = .ok (.ifCond .ne 7, 3) := by decide +kernel
theorem dX7_readCommand_13 : decode cX7_readCommand 13 = .ok (.iconst 1, 1) := by decide +kernel
theorem dX7_readCommand_14 : decode cX7_readCommand 14 = .ok (.goto 4, 3) := by decide +kernel
theorem dX7_readCommand_17 : decode cX7_readCommand 17 = .ok (.iconst 0, 1) := by decide +kernel
theorem dX7_readCommand_18 : decode cX7_readCommand 18 = .ok (.iconst 1, 1) := by decide +kernel
theorem dX7_readCommand_19 : decode cX7_readCommand 19 = .ok (.invokevirtual 59, 3) := by decide +kernel
theorem dX7_readCommand_22 : decode cX7_readCommand 22 = .ok (.aload_n 1, 1) := by decide +kernel
theorem dX7_readCommand_23 : decode cX7_readCommand 23 = .ok (.aload_n 3, 1) := by decide +kernel
theorem dX7_readCommand_24 : decode cX7_readCommand 24 = .ok (.getstatic 76, 3) := by decide +kernel
theorem dX7_readCommand_27 : decode cX7_readCommand 27 = .ok (.if_acmp .ne 15, 3) := by decide +kernel
theorem dX7_readCommand_30 : decode cX7_readCommand 30 = .ok (.aload_n 0, 1) := by decide +kernel
theorem dX7_readCommand_31 : decode cX7_readCommand 31 = .ok (.getfield 35, 3) := by decide +kernel
theorem dX7_readCommand_34 : decode cX7_readCommand 34 = .ok (.iconst 2, 1) := by decide +kernel
theorem dX7_readCommand_35 : decode cX7_readCommand 35 = .ok (.if_icmp .lt 7, 3) := by decide +kernel
theorem dX7_readCommand_38 : decode cX7_readCommand 38 = .ok (.iconst 1, 1) := by decide +kernel
theorem dX7_readCommand_39 : decode cX7_readCommand 39 = .ok (.goto 4, 3) := by decide +kernel
theorem dX7_readCommand_42 : decode cX7_readCommand 42 = .ok (.iconst 0, 1) := by decide +kernel
theorem dX7_readCommand_43 : decode cX7_readCommand 43 = .ok (.iconst 3, 1) := by decide +kernel
theorem dX7_readCommand_44 : decode cX7_readCommand 44 = .ok (.invokevirtual 59, 3) := by decide +kernel
theorem dX7_readCommand_47 : decode cX7_readCommand 47 = .ok (.aload_n 1, 1) := by decide +kernel
theorem dX7_readCommand_48 : decode cX7_readCommand 48 = .ok (.aload_n 0, 1) := by decide +kernel
theorem dX7_readCommand_49 : decode cX7_readCommand 49 = .ok (.getfield 28, 3) := by decide +kernel
theorem dX7_readCommand_52 : decode cX7_readCommand 52 = .ok (.bipush 30, 2) := by decide +kernel
theorem dX7_readCommand_54 : decode cX7_readCommand 54 = .ok (.if_icmp .lt 7, 3) := by decide +kernel
theorem dX7_readCommand_57 : decode cX7_readCommand 57 = .ok (.iconst 1, 1) := by decide +kernel
theorem dX7_readCommand_58 : decode cX7_readCommand 58 = .ok (.goto 4, 3) := by decide +kernel
theorem dX7_readCommand_61 : decode cX7_readCommand 61 = .ok (.iconst 0, 1) := by decide +kernel
theorem dX7_readCommand_62 : decode cX7_readCommand 62 = .ok (.iconst 5, 1) := by decide +kernel
theorem dX7_readCommand_63 : decode cX7_readCommand 63 = .ok (.invokevirtual 59, 3) := by decide +kernel
theorem dX7_readCommand_66 : decode cX7_readCommand 66 = .ok (.aload_n 1, 1) := by decide +kernel
theorem dX7_readCommand_67 : decode cX7_readCommand 67 = .ok (.invokevirtual 80, 3) := by decide +kernel
theorem dX7_readCommand_70 : decode cX7_readCommand 70 = .ok (.aload_n 1, 1) := by decide +kernel
theorem dX7_readCommand_71 : decode cX7_readCommand 71 = .ok (.invokevirtual 63, 3) := by decide +kernel
theorem dX7_readCommand_74 : decode cX7_readCommand 74 = .ok (.ifCond .eq 4, 3) := by decide +kernel
theorem dX7_readCommand_77 : decode cX7_readCommand 77 = .ok (.return_, 1) := by decide +kernel
theorem dX7_readCommand_78 : decode cX7_readCommand 78 = .ok (.aload_n 0, 1) := by decide +kernel
theorem dX7_readCommand_79 : decode cX7_readCommand 79 = .ok (.getfield 28, 3) := by decide +kernel
theorem dX7_readCommand_82 : decode cX7_readCommand 82 = .ok (.istore 4, 2) := by decide +kernel
theorem dX7_readCommand_84 : decode cX7_readCommand 84 = .ok (.aload_n 0, 1) := by decide +kernel
theorem dX7_readCommand_85 : decode cX7_readCommand 85 = .ok (.dup, 1) := by decide +kernel
theorem dX7_readCommand_86 : decode cX7_readCommand 86 = .ok (.getfield 28, 3) := by decide +kernel
theorem dX7_readCommand_89 : decode cX7_readCommand 89 = .ok (.iconst 1, 1) := by decide +kernel
theorem dX7_readCommand_90 : decode cX7_readCommand 90 = .ok (.iadd, 1) := by decide +kernel
theorem dX7_readCommand_91 : decode cX7_readCommand 91 = .ok (.putfield 28, 3) := by decide +kernel
theorem dX7_readCommand_94 : decode cX7_readCommand 94 = .ok (.aload_n 3, 1) := by decide +kernel
theorem dX7_readCommand_95 : decode cX7_readCommand 95 = .ok (.getstatic 76, 3) := by decide +kernel
theorem dX7_readCommand_98 : decode cX7_readCommand 98 = .ok (.if_acmp .ne 11, 3) := by decide +kernel
theorem dX7_readCommand_101 : decode cX7_readCommand 101 = .ok (.aload_n 0, 1) := by decide +kernel
theorem dX7_readCommand_102 : decode cX7_readCommand 102 = .ok (.aload_n 1, 1) := by decide +kernel
theorem dX7_readCommand_103 : decode cX7_readCommand 103 = .ok (.invokevirtual 83, 3) := by decide +kernel
theorem dX7_readCommand_106 : decode cX7_readCommand 106 = .ok (.goto 33, 3) := by decide +kernel
theorem dX7_readCommand_109 : decode cX7_readCommand 109 = .ok (.aload_n 0, 1) := by decide +kernel
theorem dX7_readCommand_110 : decode cX7_readCommand 110 = .ok (.getfield 11, 3) := by decide +kernel
theorem dX7_readCommand_113 : decode cX7_readCommand 113 = .ok (.iload 4, 2) := by decide +kernel
theorem dX7_readCommand_115 : decode cX7_readCommand 115 = .ok (.aaload, 1) := by decide +kernel
theorem dX7_readCommand_116 : decode cX7_readCommand 116 = .ok (.aload_n 3, 1) := by decide +kernel
theorem dX7_readCommand_117 : decode cX7_readCommand 117 = .ok (.putfield 86, 3) := by decide +kernel
theorem dX7_readCommand_120 : decode cX7_readCommand 120 = .ok (.aload_n 0, 1) := by decide +kernel
theorem dX7_readCommand_121 : decode cX7_readCommand 121 = .ok (.aload_n 1, 1) := by decide +kernel
theorem dX7_readCommand_122 : decode cX7_readCommand 122 = .ok (.aload_n 2, 1) := by decide +kernel
theorem dX7_readCommand_123 : decode cX7_readCommand 123 = .ok (.aload_n 0, 1) := by decide +kernel
theorem dX7_readCommand_124 : decode cX7_readCommand 124 = .ok (.getfield 11, 3) := by decide +kernel
theorem dX7_readCommand_127 : decode cX7_readCommand 127 = .ok (.iload 4, 2) := by decide +kernel
theorem dX7_readCommand_129 : decode cX7_readCommand 129 = .ok (.aaload, 1) := by decide +kernel
theorem dX7_readCommand_130 : decode cX7_readCommand 130 = .ok (.invokevirtual 88, 3) := by decide +kernel
theorem dX7_readCommand_133 : decode cX7_readCommand 133 = .ok (.aload_n 0, 1) := by decide +kernel
theorem dX7_readCommand_134 : decode cX7_readCommand 134 = .ok (.iload 4, 2) := by decide +kernel
theorem dX7_readCommand_136 : decode cX7_readCommand 136 = .ok (.invokevirtual 92, 3) := by decide +kernel
theorem dX7_readCommand_139 : decode cX7_readCommand 139 = .ok (.return_, 1) := by decide +kernel
theorem dX7_beginRepeat_0 : decode cX7_beginRepeat 0 = .ok (.aload_n 0, 1) := by decide +kernel
theorem dX7_beginRepeat_1 : decode cX7_beginRepeat 1 = .ok (.getfield 24, 3) := by decide +kernel
theorem dX7_beginRepeat_4 : decode cX7_beginRepeat 4 = .ok (.aload_n 0, 1) := by decide +kernel
theorem dX7_beginRepeat_5 : decode cX7_beginRepeat 5 = .ok (.getfield 35, 3) := by decide +kernel
theorem dX7_beginRepeat_8 : decode cX7_beginRepeat 8 = .ok (.aload_n 1, 1) := by decide +kernel
theorem dX7_beginRepeat_9 : decode cX7_beginRepeat 9 = .ok (.iconst 1, 1) := by decide +kernel
theorem dX7_beginRepeat_10 : decode cX7_beginRepeat 10 = .ok (.bipush 20, 2) := by decide +kernel
theorem dX7_beginRepeat_12 : decode cX7_beginRepeat 12 = .ok (.invokevirtual 96, 3) := by decide +kernel
theorem dX7_beginRepeat_15 : decode cX7_beginRepeat 15 = .ok (.iastore, 1) := by decide +kernel
theorem dX7_beginRepeat_16 : decode cX7_beginRepeat 16 = .ok (.aload_n 0, 1) := by decide +kernel
theorem dX7_beginRepeat_17 : decode cX7_beginRepeat 17 = .ok (.getfield 21, 3) := by decide +kernel
theorem dX7_beginRepeat_20 : decode cX7_beginRepeat 20 = .ok (.aload_n 0, 1) := by decide +kernel
theorem dX7_beginRepeat_21 : decode cX7_beginRepeat 21 = .ok (.getfield 35, 3) := by decide +kernel
theorem dX7_beginRepeat_24 : decode cX7_beginRepeat 24 = .ok (.aload_n 0, 1) := by decide +kernel
theorem dX7_beginRepeat_25 : decode cX7_beginRepeat 25 = .ok (.getfield 32, 3) := by decide +kernel
theorem dX7_beginRepeat_28 : decode cX7_beginRepeat 28 = .ok (.iastore, 1) := by decide +kernel
theorem dX7_beginRepeat_29 : decode cX7_beginRepeat 29 = .ok (.aload_n 0, 1) := by decide +kernel
theorem dX7_beginRepeat_30 : decode cX7_beginRepeat 30 = .ok (.dup, 1) := by decide +kernel
theorem dX7_beginRepeat_31 : decode cX7_beginRepeat 31 = .ok (.getfield 35, 3) := by decide +kernel
theorem dX7_beginRepeat_34 : decode cX7_beginRepeat 34 = .ok (.iconst 1, 1) := by decide +kernel
theorem dX7_beginRepeat_35 : decode cX7_beginRepeat 35 = .ok (.iadd, 1) := by decide +kernel
theorem dX7_beginRepeat_36 : decode cX7_beginRepeat 36 = .ok (.putfield 35, 3) := by decide +kernel
theorem dX7_beginRepeat_39 : decode cX7_beginRepeat 39 = .ok (.aload_n 1, 1) := by decide +kernel
theorem dX7_beginRepeat_40 : decode cX7_beginRepeat 40 = .ok (.bipush 40, 2) := by decide +kernel
theorem dX7_beginRepeat_42 : decode cX7_beginRepeat 42 = .ok (.invokevirtual 100, 3) := by decide +kernel
theorem dX7_beginRepeat_45 : decode cX7_beginRepeat 45 = .ok (.return_, 1) := by decide +kernel
theorem dX7_endRepeat_0 : decode cX7_endRepeat 0 = .ok (.aload_n 1, 1) := by decide +kernel
theorem dX7_endRepeat_1 : decode cX7_endRepeat 1 = .ok (.invokevirtual 80, 3) := by decide +kernel
theorem dX7_endRepeat_4 : decode cX7_endRepeat 4 = .ok (.aload_n 1, 1) := by decide +kernel
theorem dX7_endRepeat_5 : decode cX7_endRepeat 5 = .ok (.bipush 59, 2) := by decide +kernel
theorem dX7_endRepeat_7 : decode cX7_endRepeat 7 = .ok (.invokevirtual 100, 3) := by decide +kernel
theorem dX7_endRepeat_10 : decode cX7_endRepeat 10 = .ok (.aload_n 0, 1) := by decide +kernel
theorem dX7_endRepeat_11 : decode cX7_endRepeat 11 = .ok (.dup, 1) := by decide +kernel
theorem dX7_endRepeat_12 : decode cX7_endRepeat 12 = .ok (.getfield 35, 3) := by decide +kernel
theorem dX7_endRepeat_15 : decode cX7_endRepeat 15 = .ok (.iconst 1, 1) := by decide +kernel
theorem dX7_endRepeat_16 : decode cX7_endRepeat 16 = .ok (.isub, 1) := by decide +kernel
theorem dX7_endRepeat_17 : decode cX7_endRepeat 17 = .ok (.putfield 35, 3) := by decide +kernel
theorem dX7_endRepeat_20 : decode cX7_endRepeat 20 = .ok (.aload_n 0, 1) := by decide +kernel
theorem dX7_endRepeat_21 : decode cX7_endRepeat 21 = .ok (.getfield 32, 3) := by decide +kernel
theorem dX7_endRepeat_24 : decode cX7_endRepeat 24 = .ok (.istore_n 2, 1) := by decide +kernel
theorem dX7_endRepeat_25 : decode cX7_endRepeat 25 = .ok (.iconst 1, 1) := by decide +kernel
theorem dX7_endRepeat_26 : decode cX7_endRepeat 26 = .ok (.istore_n 3, 1) := by decide +kernel
theorem dX7_endRepeat_27 : decode cX7_endRepeat 27 = .ok (.iload_n 3, 1) := by decide +kernel
theorem dX7_endRepeat_28 : decode cX7_endRepeat 28 = .ok (.aload_n 0, 1) := by decide +kernel
theorem dX7_endRepeat_29 : decode cX7_endRepeat 29 = .ok (.getfield 24, 3) := by decide +kernel
theorem dX7_endRepeat_32 : decode cX7_endRepeat 32 = .ok (.aload_n 0, 1) := by decide +kernel
theorem dX7_endRepeat_33 : decode cX7_endRepeat 33 = .ok (.getfield 35, 3) := by decide +kernel
theorem dX7_endRepeat_36 : decode cX7_endRepeat 36 = .ok (.iaload, 1) := by decide +kernel
theorem dX7_endRepeat_37 : decode cX7_endRepeat 37 = .ok (.if_icmp .ge 43, 3) := by decide +kernel
theorem dX7_endRepeat_40 : decode cX7_endRepeat 40 = .ok (.aload_n 0, 1) := by decide +kernel
theorem dX7_endRepeat_41 : decode cX7_endRepeat 41 = .ok (.getfield 21, 3) := by decide +kernel
theorem dX7_endRepeat_44 : decode cX7_endRepeat 44 = .ok (.aload_n 0, 1) := by decide +kernel
theorem dX7_endRepeat_45 : decode cX7_endRepeat 45 = .ok (.getfield 35, 3) := by decide +kernel
theorem dX7_endRepeat_48 : decode cX7_endRepeat 48 = .ok (.iaload, 1) := by decide +kernel
theorem dX7_endRepeat_49 : decode cX7_endRepeat 49 = .ok (.istore 4, 2) := by decide +kernel
theorem dX7_endRepeat_51 : decode cX7_endRepeat 51 = .ok (.iload 4, 2) := by decide +kernel
theorem dX7_endRepeat_53 : decode cX7_endRepeat 53 = .ok (.iload_n 2, 1) := by decide +kernel
theorem dX7_endRepeat_54 : decode cX7_endRepeat 54 = .ok (.if_icmp .ge 20, 3) := by decide +kernel
theorem dX7_endRepeat_57 : decode cX7_endRepeat 57 = .ok (.aload_n 0, 1) := by decide +kernel
theorem dX7_endRepeat_58 : decode cX7_endRepeat 58 = .ok (.aload_n 0, 1) := by decide +kernel
theorem dX7_endRepeat_59 : decode cX7_endRepeat 59 = .ok (.getfield 17, 3) := by decide +kernel
theorem dX7_endRepeat_62 : decode cX7_endRepeat 62 = .ok (.iload 4, 2) := by decide +kernel
theorem dX7_endRepeat_64 : decode cX7_endRepeat 64 = .ok (.iaload, 1) := by decide +kernel
theorem dX7_endRepeat_65 : decode cX7_endRepeat 65 = .ok (.invokevirtual 92, 3) := by decide +kernel
theorem dX7_endRepeat_68 : decode cX7_endRepeat 68 = .ok (.iinc 4 1, 3) := by decide +kernel
theorem dX7_endRepeat_71 : decode cX7_endRepeat 71 = .ok (.goto (-20), 3) := by decide +kernel
theorem dX7_endRepeat_74 : decode cX7_endRepeat 74 = .ok (.iinc 3 1, 3) := by decide +kernel
theorem dX7_endRepeat_77 : decode cX7_endRepeat 77 = .ok (.goto (-50), 3) := by decide +kernel
theorem dX7_endRepeat_80 : decode cX7_endRepeat 80 = .ok (.return_, 1) := by decide +kernel
theorem dX7_readChange_0 : decode cX7_readChange 0 = .ok (.aload_n 3, 1) := by decide +kernel
theorem dX7_readChange_1 : decode cX7_readChange 1 = .ok (.getfield 86, 3) := by decide +kernel
theorem dX7_readChange_4 : decode cX7_readChange 4 = .ok (.astore 4, 2) := by decide +kernel
theorem dX7_readChange_6 : decode cX7_readChange 6 = .ok (.aload 4, 2) := by decide +kernel
theorem dX7_readChange_8 : decode cX7_readChange 8 = .ok (.getstatic 104, 3) := by decide +kernel
theorem dX7_readChange_11 : decode cX7_readChange 11 = .ok (.if_acmp .ne 12, 3) := by decide +kernel
theorem dX7_readChange_14 : decode cX7_readChange 14 = .ok (.aload_n 3, 1) := by decide +kernel
theorem dX7_readChange_15 : decode cX7_readChange 15 = .ok (.aload_n 1, 1) := by decide +kernel
theorem dX7_readChange_16 : decode cX7_readChange 16 = .ok (.aload_n 2, 1) := by decide +kernel
theorem dX7_readChange_17 : decode cX7_readChange 17 = .ok (.invokevirtual 107, 3) := by decide +kernel
theorem dX7_readChange_20 : decode cX7_readChange 20 = .ok (.putfield 111, 3) := by decide +kernel
theorem dX7_readChange_23 : decode cX7_readChange 23 = .ok (.aload 4, 2) := by decide +kernel
theorem dX7_readChange_25 : decode cX7_readChange 25 = .ok (.getstatic 104, 3) := by decide +kernel
theorem dX7_readChange_28 : decode cX7_readChange 28 = .ok (.if_acmp .eq 19, 3) := by decide +kernel
theorem dX7_readChange_31 : decode cX7_readChange 31 = .ok (.aload 4, 2) := by decide +kernel
theorem dX7_readChange_33 : decode cX7_readChange 33 = .ok (.getstatic 114, 3) := by decide +kernel
theorem dX7_readChange_36 : decode cX7_readChange 36 = .ok (.if_acmp .eq 11, 3) := by decide +kernel
theorem dX7_readChange_39 : decode cX7_readChange 39 = .ok (.aload 4, 2) := by decide +kernel
theorem dX7_readChange_41 : decode cX7_readChange 41 = .ok (.getstatic 117, 3) := by decide +kernel
theorem dX7_readChange_44 : decode cX7_readChange 44 = .ok (.if_acmp .ne 12, 3) := by decide +kernel
theorem dX7_readChange_47 : decode cX7_readChange 47 = .ok (.aload_n 3, 1) := by decide +kernel
theorem dX7_readChange_48 : decode cX7_readChange 48 = .ok (.aload_n 1, 1) := by decide +kernel
theorem dX7_readChange_49 : decode cX7_readChange 49 = .ok (.aload_n 2, 1) := by decide +kernel
theorem dX7_readChange_50 : decode cX7_readChange 50 = .ok (.invokevirtual 120, 3) := by decide +kernel
theorem dX7_readChange_53 : decode cX7_readChange 53 = .ok (.putfield 123, 3) := by decide +kernel
theorem dX7_readChange_56 : decode cX7_readChange 56 = .ok (.aload_n 3, 1) := by decide +kernel
theorem dX7_readChange_57 : decode cX7_readChange 57 = .ok (.aload_n 1, 1) := by decide +kernel
theorem dX7_readChange_58 : decode cX7_readChange 58 = .ok (.iconst 0, 1) := by decide +kernel
theorem dX7_readChange_59 : decode cX7_readChange 59 = .ok (.sipush 9999, 3) := by decide +kernel
theorem dX7_readChange_62 : decode cX7_readChange 62 = .ok (.invokevirtual 96, 3) := by decide +kernel
theorem dX7_readChange_65 : decode cX7_readChange 65 = .ok (.putfield 126, 3) := by decide +kernel
theorem dX7_readChange_68 : decode cX7_readChange 68 = .ok (.aload 4, 2) := by decide +kernel
theorem dX7_readChange_70 : decode cX7_readChange 70 = .ok (.getstatic 104, 3) := by decide +kernel
theorem dX7_readChange_73 : decode cX7_readChange 73 = .ok (.if_acmp .ne 15, 3) := by decide +kernel
theorem dX7_readChange_76 : decode cX7_readChange 76 = .ok (.aload_n 3, 1) := by decide +kernel
theorem dX7_readChange_77 : decode cX7_readChange 77 = .ok (.aload_n 1, 1) := by decide +kernel
theorem dX7_readChange_78 : decode cX7_readChange 78 = .ok (.iconst 0, 1) := by decide +kernel
theorem dX7_readChange_79 : decode cX7_readChange 79 = .ok (.sipush 9999, 3) := by decide +kernel
theorem dX7_readChange_82 : decode cX7_readChange 82 = .ok (.invokevirtual 96, 3) := by decide +kernel
theorem dX7_readChange_85 : decode cX7_readChange 85 = .ok (.putfield 129, 3) := by decide +kernel
theorem dX7_readChange_88 : decode cX7_readChange 88 = .ok (.aload_n 1, 1) := by decide +kernel
theorem dX7_readChange_89 : decode cX7_readChange 89 = .ok (.bipush 59, 2) := by decide +kernel
theorem dX7_readChange_91 : decode cX7_readChange 91 = .ok (.invokevirtual 100, 3) := by decide +kernel
theorem dX7_readChange_94 : decode cX7_readChange 94 = .ok (.return_, 1) := by decide +kernel
theorem dX7_appendToPlan_0 : decode cX7_appendToPlan 0 = .ok (.aload_n 0, 1) := by decide +kernel
theorem dX7_appendToPlan_1 : decode cX7_appendToPlan 1 = .ok (.getfield 32, 3) := by decide +kernel
theorem dX7_appendToPlan_4 : decode cX7_appendToPlan 4 = .ok (.bipush 40, 2) := by decide +kernel
theorem dX7_appendToPlan_6 : decode cX7_appendToPlan 6 = .ok (.if_icmp .ge 23, 3) := by decide +kernel
theorem dX7_appendToPlan_9 : decode cX7_appendToPlan 9 = .ok (.aload_n 0, 1) := by decide +kernel
theorem dX7_appendToPlan_10 : decode cX7_appendToPlan 10 = .ok (.getfield 17, 3) := by decide +kernel
theorem dX7_appendToPlan_13 : decode cX7_appendToPlan 13 = .ok (.aload_n 0, 1) := by decide +kernel
theorem dX7_appendToPlan_14 : decode cX7_appendToPlan 14 = .ok (.getfield 32, 3) := by decide +kernel
theorem dX7_appendToPlan_17 : decode cX7_appendToPlan 17 = .ok (.iload_n 1, 1) := by decide +kernel
theorem dX7_appendToPlan_18 : decode cX7_appendToPlan 18 = .ok (.iastore, 1) := by decide +kernel
theorem dX7_appendToPlan_19 : decode cX7_appendToPlan 19 = .ok (.aload_n 0, 1) := by decide +kernel
theorem dX7_appendToPlan_20 : decode cX7_appendToPlan 20 = .ok (.dup, 1) := by decide +kernel
theorem dX7_appendToPlan_21 : decode cX7_appendToPlan 21 = .ok (.getfield 32, 3) := by decide +kernel
theorem dX7_appendToPlan_24 : decode cX7_appendToPlan 24 = .ok (.iconst 1, 1) := by decide +kernel
theorem dX7_appendToPlan_25 : decode cX7_appendToPlan 25 = .ok (.iadd, 1) := by decide +kernel
theorem dX7_appendToPlan_26 : decode cX7_appendToPlan 26 = .ok (.putfield 32, 3) := by decide +kernel
theorem dX7_appendToPlan_29 : decode cX7_appendToPlan 29 = .ok (.return_, 1) := by decide +kernel
theorem dX7_execute_0 : decode cX7_execute 0 = .ok (.iconst 0, 1) := by decide +kernel
theorem dX7_execute_1 : decode cX7_execute 1 = .ok (.istore_n 2, 1) := by decide +kernel
theorem dX7_execute_2 : decode cX7_execute 2 = .ok (.iload_n 2, 1) := by decide +kernel
theorem dX7_execute_3 : decode cX7_execute 3 = .ok (.aload_n 0, 1) := by decide +kernel
theorem dX7_execute_4 : decode cX7_execute 4 = .ok (.getfield 32, 3) := by decide +kernel
theorem dX7_execute_7 : decode cX7_execute 7 = .ok (.if_icmp .ge 39, 3) := by decide +kernel
theorem dX7_execute_10 : decode cX7_execute 10 = .ok (.aload_n 0, 1) := by decide +kernel
theorem dX7_execute_11 : decode cX7_execute 11 = .ok (.getfield 11, 3) := by decide +kernel
theorem dX7_execute_14 : decode cX7_execute 14 = .ok (.aload_n 0, 1) := by decide +kernel
theorem dX7_execute_15 : decode cX7_execute 15 = .ok (.getfield 17, 3) := by decide +kernel
theorem dX7_execute_18 : decode cX7_execute 18 = .ok (.iload_n 2, 1) := by decide +kernel
theorem dX7_execute_19 : decode cX7_execute 19 = .ok (.iaload, 1) := by decide +kernel
theorem dX7_execute_20 : decode cX7_execute 20 = .ok (.aaload, 1) := by decide +kernel
theorem dX7_execute_21 : decode cX7_execute 21 = .ok (.astore_n 3, 1) := by decide +kernel
theorem dX7_execute_22 : decode cX7_execute 22 = .ok (.aload_n 3, 1) := by decide +kernel
theorem dX7_execute_23 : decode cX7_execute 23 = .ok (.aload_n 1, 1) := by decide +kernel
theorem dX7_execute_24 : decode cX7_execute 24 = .ok (.invokevirtual 132, 3) := by decide +kernel
theorem dX7_execute_27 : decode cX7_execute 27 = .ok (.getstatic 136, 3) := by decide +kernel
theorem dX7_execute_30 : decode cX7_execute 30 = .ok (.if_acmp .eq 5, 3) := by decide +kernel
theorem dX7_execute_33 : decode cX7_execute 33 = .ok (.iload_n 2, 1) := by decide +kernel
theorem dX7_execute_34 : decode cX7_execute 34 = .ok (.ireturn, 1) := by decide +kernel
theorem dX7_execute_35 : decode cX7_execute 35 = .ok (.aload_n 3, 1) := by decide +kernel
theorem dX7_execute_36 : decode cX7_execute 36 = .ok (.aload_n 1, 1) := by decide +kernel
theorem dX7_execute_37 : decode cX7_execute 37 = .ok (.invokevirtual 142, 3) := by decide +kernel
theorem dX7_execute_40 : decode cX7_execute 40 = .ok (.iinc 2 1, 3) := by decide +kernel
theorem dX7_execute_43 : decode cX7_execute 43 = .ok (.goto (-41), 3) := by decide +kernel
theorem dX7_execute_46 : decode cX7_execute 46 = .ok (.aload_n 0, 1) := by decide +kernel
theorem dX7_execute_47 : decode cX7_execute 47 = .ok (.getfield 32, 3) := by decide +kernel
theorem dX7_execute_50 : decode cX7_execute 50 = .ok (.ireturn, 1) := by decide +kernel
theorem dX8_init_0 : decode cX8_init 0 = .ok (.aload_n 0, 1) := by decide +kernel
theorem dX8_init_1 : decode cX8_init 1 = .ok (.invokespecial 3, 3) := by decide +kernel
theorem dX8_init_4 : decode cX8_init 4 = .ok (.return_, 1) := by decide +kernel
theorem dX8_copyFrom_0 : decode cX8_copyFrom 0 = .ok (.aload_n 0, 1) := by decide +kernel
theorem dX8_copyFrom_1 : decode cX8_copyFrom 1 = .ok (.aload_n 1, 1) := by decide +kernel
theorem dX8_copyFrom_2 : decode cX8_copyFrom 2 = .ok (.getfield 9, 3) := by decide +kernel
theorem dX8_copyFrom_5 : decode cX8_copyFrom 5 = .ok (.putfield 9, 3) := by decide +kernel
theorem dX8_copyFrom_8 : decode cX8_copyFrom 8 = .ok (.aload_n 0, 1) := by decide +kernel
theorem dX8_copyFrom_9 : decode cX8_copyFrom 9 = .ok (.aload_n 1, 1) := by decide +kernel
theorem dX8_copyFrom_10 : decode cX8_copyFrom 10 = .ok (.getfield 15, 3) := by decide +kernel
theorem dX8_copyFrom_13 : decode cX8_copyFrom 13 = .ok (.putfield 15, 3) := by decide +kernel
theorem dX8_copyFrom_16 : decode cX8_copyFrom 16 = .ok (.aload_n 0, 1) := by decide +kernel
theorem dX8_copyFrom_17 : decode cX8_copyFrom 17 = .ok (.aload_n 1, 1) := by decide +kernel
theorem dX8_copyFrom_18 : decode cX8_copyFrom 18 = .ok (.getfield 18, 3) := by decide +kernel
theorem dX8_copyFrom_21 : decode cX8_copyFrom 21 = .ok (.putfield 18, 3) := by decide +kernel
theorem dX8_copyFrom_24 : decode cX8_copyFrom 24 = .ok (.aload_n 0, 1) := by decide +kernel
theorem dX8_copyFrom_25 : decode cX8_copyFrom 25 = .ok (.aload_n 1, 1) := by decide +kernel
theorem dX8_copyFrom_26 : decode cX8_copyFrom 26 = .ok (.getfield 21, 3) := by decide +kernel
theorem dX8_copyFrom_29 : decode cX8_copyFrom 29 = .ok (.putfield 21, 3) := by decide +kernel
theorem dX8_copyFrom_32 : decode cX8_copyFrom 32 = .ok (.aload_n 0, 1) := by decide +kernel
theorem dX8_copyFrom_33 : decode cX8_copyFrom 33 = .ok (.aload_n 1, 1) := by decide +kernel
theorem dX8_copyFrom_34 : decode cX8_copyFrom 34 = .ok (.getfield 24, 3) := by decide +kernel
theorem dX8_copyFrom_37 : decode cX8_copyFrom 37 = .ok (.putfield 24, 3) := by decide +kernel
theorem dX8_copyFrom_40 : decode cX8_copyFrom 40 = .ok (.aload_n 0, 1) := by decide +kernel
theorem dX8_copyFrom_41 : decode cX8_copyFrom 41 = .ok (.aload_n 1, 1) := by decide +kernel
theorem dX8_copyFrom_42 : decode cX8_copyFrom 42 = .ok (.getfield 27, 3) := by decide +kernel
theorem dX8_copyFrom_45 : decode cX8_copyFrom 45 = .ok (.putfield 27, 3) := by decide +kernel
theorem dX8_copyFrom_48 : decode cX8_copyFrom 48 = .ok (.aload_n 0, 1) := by decide +kernel
theorem dX8_copyFrom_49 : decode cX8_copyFrom 49 = .ok (.aload_n 1, 1) := by decide +kernel
theorem dX8_copyFrom_50 : decode cX8_copyFrom 50 = .ok (.getfield 30, 3) := by decide +kernel
theorem dX8_copyFrom_53 : decode cX8_copyFrom 53 = .ok (.putfield 30, 3) := by decide +kernel
theorem dX8_copyFrom_56 : decode cX8_copyFrom 56 = .ok (.aload_n 0, 1) := by decide +kernel
theorem dX8_copyFrom_57 : decode cX8_copyFrom 57 = .ok (.aload_n 1, 1) := by decide +kernel
theorem dX8_copyFrom_58 : decode cX8_copyFrom 58 = .ok (.getfield 33, 3) := by decide +kernel
theorem dX8_copyFrom_61 : decode cX8_copyFrom 61 = .ok (.putfield 33, 3) := by decide +kernel
theorem dX8_copyFrom_64 : decode cX8_copyFrom 64 = .ok (.aload_n 0, 1) := by decide +kernel
theorem dX8_copyFrom_65 : decode cX8_copyFrom 65 = .ok (.aload_n 1, 1) := by decide +kernel
theorem dX8_copyFrom_66 : decode cX8_copyFrom 66 = .ok (.getfield 36, 3) := by decide +kernel
theorem dX8_copyFrom_69 : decode cX8_copyFrom 69 = .ok (.putfield 36, 3) := by decide +kernel
theorem dX8_copyFrom_72 : decode cX8_copyFrom 72 = .ok (.aload_n 0, 1) := by decide +kernel
theorem dX8_copyFrom_73 : decode cX8_copyFrom 73 = .ok (.aload_n 1, 1) := by decide +kernel
theorem dX8_copyFrom_74 : decode cX8_copyFrom 74 = .ok (.getfield 39, 3) := by decide +kernel
theorem dX8_copyFrom_77 : decode cX8_copyFrom 77 = .ok (.putfield 39, 3) := by decide +kernel
theorem dX8_copyFrom_80 : decode cX8_copyFrom 80 = .ok (.aload_n 0, 1) := by decide +kernel
theorem dX8_copyFrom_81 : decode cX8_copyFrom 81 = .ok (.aload_n 1, 1) := by decide +kernel
theorem dX8_copyFrom_82 : decode cX8_copyFrom 82 = .ok (.getfield 42, 3) := by decide +kernel
theorem dX8_copyFrom_85 : decode cX8_copyFrom 85 = .ok (.putfield 42, 3) := by decide +kernel
theorem dX8_copyFrom_88 : decode cX8_copyFrom 88 = .ok (.return_, 1) := by decide +kernel
theorem dX8_isOpen_0 : decode cX8_isOpen 0 = .ok (.aload_n 0, 1) := by decide +kernel
theorem dX8_isOpen_1 : decode cX8_isOpen 1 = .ok (.getfield 36, 3) := by decide +kernel
theorem dX8_isOpen_4 : decode cX8_isOpen 4 = .ok (.ifCond .ne 7, 3) := by decide +kernel
theorem dX8_isOpen_7 : decode cX8_isOpen 7 = .ok (.iconst 1, 1) := by decide +kernel
theorem dX8_isOpen_8 : decode cX8_isOpen 8 = .ok (.goto 4, 3) := by decide +kernel
theorem dX8_isOpen_11 : decode cX8_isOpen 11 = .ok (.iconst 0, 1) := by decide +kernel
theorem dX8_isOpen_12 : decode cX8_isOpen 12 = .ok (.ireturn, 1) := by decide +kernel
theorem dX8_cost_0 : decode cX8_cost 0 = .ok (.aload_n 0, 1) := by decide +kernel
theorem dX8_cost_1 : decode cX8_cost 1 = .ok (.getfield 24, 3) := by decide +kernel
theorem dX8_cost_4 : decode cX8_cost 4 = .ok (.aload_n 0, 1) := by decide +kernel
theorem dX8_cost_5 : decode cX8_cost 5 = .ok (.getfield 21, 3) := by decide +kernel
theorem dX8_cost_8 : decode cX8_cost 8 = .ok (.imul, 1) := by decide +kernel
theorem dX8_cost_9 : decode cX8_cost 9 = .ok (.ireturn, 1) := by decide +kernel
theorem dX8_earnings_0 : decode cX8_earnings 0 = .ok (.aload_n 0, 1) := by decide +kernel
theorem dX8_earnings_1 : decode cX8_earnings 1 = .ok (.getfield 24, 3) := by decide +kernel
theorem dX8_earnings_4 : decode cX8_earnings 4 = .ok (.aload_n 0, 1) := by decide +kernel
theorem dX8_earnings_5 : decode cX8_earnings 5 = .ok (.getfield 42, 3) := by decide +kernel
theorem dX8_earnings_8 : decode cX8_earnings 8 = .ok (.invokestatic 45, 3) := by decide +kernel
theorem dX8_earnings_11 : decode cX8_earnings 11 = .ok (.imul, 1) := by decide +kernel
theorem dX8_earnings_12 : decode cX8_earnings 12 = .ok (.ireturn, 1) := by decide +kernel
theorem dX8_amountToCome_0 : decode cX8_amountToCome 0 = .ok (.aload_n 0, 1) := by decide +kernel
theorem dX8_amountToCome_1 : decode cX8_amountToCome 1 = .ok (.getfield 24, 3) := by decide +kernel
theorem dX8_amountToCome_4 : decode cX8_amountToCome 4 = .ok (.aload_n 0, 1) := by decide +kernel
theorem dX8_amountToCome_5 : decode cX8_amountToCome 5 = .ok (.getfield 21, 3) := by decide +kernel
theorem dX8_amountToCome_8 : decode cX8_amountToCome 8 = .ok (.aload_n 0, 1) := by decide +kernel
theorem dX8_amountToCome_9 : decode cX8_amountToCome 9 = .ok (.getfield 39, 3) := by decide +kernel
theorem dX8_amountToCome_12 : decode cX8_amountToCome 12 = .ok (.isub, 1) := by decide +kernel
theorem dX8_amountToCome_13 : decode cX8_amountToCome 13 = .ok (.imul, 1) := by decide +kernel
theorem dX8_amountToCome_14 : decode cX8_amountToCome 14 = .ok (.ireturn, 1) := by decide +kernel
theorem dX8_secondOf_0 : decode cX8_secondOf 0 = .ok (.aload_n 0, 1) := by decide +kernel
theorem dX8_secondOf_1 : decode cX8_secondOf 1 = .ok (.getfield 30, 3) := by decide +kernel
theorem dX8_secondOf_4 : decode cX8_secondOf 4 = .ok (.aload_n 0, 1) := by decide +kernel
theorem dX8_secondOf_5 : decode cX8_secondOf 5 = .ok (.getfield 27, 3) := by decide +kernel
theorem dX8_secondOf_8 : decode cX8_secondOf 8 = .ok (.iload_n 1, 1) := by decide +kernel
theorem dX8_secondOf_9 : decode cX8_secondOf 9 = .ok (.imul, 1) := by decide +kernel
theorem dX8_secondOf_10 : decode cX8_secondOf 10 = .ok (.iadd, 1) := by decide +kernel
theorem dX8_secondOf_11 : decode cX8_secondOf 11 = .ok (.ireturn, 1) := by decide +kernel
theorem dX8_secondOfNext_0 : decode cX8_secondOfNext 0 = .ok (.aload_n 0, 1) := by decide +kernel
theorem dX8_secondOfNext_1 : decode cX8_secondOfNext 1 = .ok (.aload_n 0, 1) := by decide +kernel
theorem dX8_secondOfNext_2 : decode cX8_secondOfNext 2 = .ok (.getfield 39, 3) := by decide +kernel
theorem dX8_secondOfNext_5 : decode cX8_secondOfNext 5 = .ok (.iconst 1, 1) := by decide +kernel
theorem dX8_secondOfNext_6 : decode cX8_secondOfNext 6 = .ok (.iadd, 1) := by decide +kernel
theorem dX8_secondOfNext_7 : decode cX8_secondOfNext 7 = .ok (.invokevirtual 51, 3) := by decide +kernel
theorem dX8_secondOfNext_10 : decode cX8_secondOfNext 10 = .ok (.ireturn, 1) := by decide +kernel
theorem dX8_stateInTheEnd_0 : decode cX8_stateInTheEnd 0 = .ok (.aload_n 0, 1) := by decide +kernel
theorem dX8_stateInTheEnd_1 : decode cX8_stateInTheEnd 1 = .ok (.invokevirtual 54, 3) := by decide +kernel
theorem dX8_stateInTheEnd_4 : decode cX8_stateInTheEnd 4 = .ok (.ifCond .ne 8, 3) := by decide +kernel
theorem dX8_stateInTheEnd_7 : decode cX8_stateInTheEnd 7 = .ok (.aload_n 0, 1) := by decide +kernel
theorem dX8_stateInTheEnd_8 : decode cX8_stateInTheEnd 8 = .ok (.getfield 36, 3) := by decide +kernel
theorem dX8_stateInTheEnd_11 : decode cX8_stateInTheEnd 11 = .ok (.ireturn, 1) := by decide +kernel
theorem dX8_stateInTheEnd_12 : decode cX8_stateInTheEnd 12 = .ok (.aload_n 0, 1) := by decide +kernel
theorem dX8_stateInTheEnd_13 : decode cX8_stateInTheEnd 13 = .ok (.aload_n 0, 1) := by decide +kernel
theorem dX8_stateInTheEnd_14 : decode cX8_stateInTheEnd 14 = .ok (.getfield 21, 3) := by decide +kernel
theorem dX8_stateInTheEnd_17 : decode cX8_stateInTheEnd 17 = .ok (.invokevirtual 51, 3) := by decide +kernel
theorem dX8_stateInTheEnd_20 : decode cX8_stateInTheEnd 20 = .ok (.aload_n 0, 1) := by decide +kernel
theorem dX8_stateInTheEnd_21 : decode cX8_stateInTheEnd 21 = .ok (.getfield 33, 3) := by decide +kernel
theorem dX8_stateInTheEnd_24 : decode cX8_stateInTheEnd 24 = .ok (.if_icmp .gt 7, 3) := by decide +kernel
theorem dX8_stateInTheEnd_27 : decode cX8_stateInTheEnd 27 = .ok (.iconst 1, 1) := by decide +kernel
theorem dX8_stateInTheEnd_28 : decode cX8_stateInTheEnd 28 = .ok (.goto 4, 3) := by decide +kernel
theorem dX8_stateInTheEnd_31 : decode cX8_stateInTheEnd 31 = .ok (.iconst 2, 1) := by decide +kernel
theorem dX8_stateInTheEnd_32 : decode cX8_stateInTheEnd 32 = .ok (.ireturn, 1) := by decide +kernel
theorem dX8_signOfEcho_0 : decode cX8_signOfEcho 0 = .ok (.iload_n 1, 1) := by decide +kernel
theorem dX8_signOfEcho_1 : decode cX8_signOfEcho 1 = .ok (.aload_n 0, 1) := by decide +kernel
theorem dX8_signOfEcho_2 : decode cX8_signOfEcho 2 = .ok (.getfield 39, 3) := by decide +kernel
theorem dX8_signOfEcho_5 : decode cX8_signOfEcho 5 = .ok (.if_icmp .le 6, 3) := by decide +kernel
theorem dX8_signOfEcho_8 : decode cX8_signOfEcho 8 = .ok (.bipush 46, 2) := by decide +kernel
theorem dX8_signOfEcho_10 : decode cX8_signOfEcho 10 = .ok (.ireturn, 1) := by decide +kernel
theorem dX8_signOfEcho_11 : decode cX8_signOfEcho 11 = .ok (.aload_n 0, 1) := by decide +kernel
theorem dX8_signOfEcho_12 : decode cX8_signOfEcho 12 = .ok (.getfield 42, 3) := by decide +kernel
theorem dX8_signOfEcho_15 : decode cX8_signOfEcho 15 = .ok (.iload_n 1, 1) := by decide +kernel
theorem dX8_signOfEcho_16 : decode cX8_signOfEcho 16 = .ok (.iconst 1, 1) := by decide +kernel
theorem dX8_signOfEcho_17 : decode cX8_signOfEcho 17 = .ok (.isub, 1) := by decide +kernel
theorem dX8_signOfEcho_18 : decode cX8_signOfEcho 18 = .ok (.ishr, 1) := by decide +kernel
theorem dX8_signOfEcho_19 : decode cX8_signOfEcho 19 = .ok (.iconst 1, 1) := by decide +kernel
theorem dX8_signOfEcho_20 : decode cX8_signOfEcho 20 = .ok (.iand, 1) := by decide +kernel
theorem dX8_signOfEcho_21 : decode cX8_signOfEcho 21 = .ok (.iconst 1, 1) := by decide +kernel
theorem dX8_signOfEcho_22 : decode cX8_signOfEcho 22 = .ok (.if_icmp .ne 8, 3) := by decide +kernel
theorem dX8_signOfEcho_25 : decode cX8_signOfEcho 25 = .ok (.bipush 104, 2) := by decide +kernel
theorem dX8_signOfEcho_27 : decode cX8_signOfEcho 27 = .ok (.goto 5, 3) := by decide +kernel
theorem dX8_signOfEcho_30 : decode cX8_signOfEcho 30 = .ok (.bipush 108, 2) := by decide +kernel
theorem dX8_signOfEcho_32 : decode cX8_signOfEcho 32 = .ok (.ireturn, 1) := by decide +kernel
theorem dX9_init_0 : decode cX9_init 0 = .ok (.aload_n 0, 1) := by decide +kernel
theorem dX9_init_1 : decode cX9_init 1 = .ok (.invokespecial 3, 3) := by decide +kernel
theorem dX9_init_4 : decode cX9_init 4 = .ok (.aload_n 0, 1) := by decide +kernel
theorem dX9_init_5 : decode cX9_init 5 = .ok (.sipush 600, 3) := by decide +kernel
theorem dX9_init_8 : decode cX9_init 8 = .ok (.newarray .byte, 2) := by decide +kernel
theorem dX9_init_10 : decode cX9_init 10 = .ok (.putfield 9, 3) := by decide +kernel
theorem dX9_init_13 : decode cX9_init 13 = .ok (.aload_n 0, 1) := by decide +kernel
theorem dX9_init_14 : decode cX9_init 14 = .ok (.sipush 601, 3) := by decide +kernel
theorem dX9_init_17 : decode cX9_init 17 = .ok (.newarray .int, 2) := by decide +kernel
theorem dX9_init_19 : decode cX9_init 19 = .ok (.putfield 15, 3) := by decide +kernel
theorem dX9_init_22 : decode cX9_init 22 = .ok (.aload_n 0, 1) := by decide +kernel
theorem dX9_init_23 : decode cX9_init 23 = .ok (.sipush 601, 3) := by decide +kernel
theorem dX9_init_26 : decode cX9_init 26 = .ok (.newarray .int, 2) := by decide +kernel
theorem dX9_init_28 : decode cX9_init 28 = .ok (.putfield 19, 3) := by decide +kernel
theorem dX9_init_31 : decode cX9_init 31 = .ok (.aload_n 0, 1) := by decide +kernel
theorem dX9_init_32 : decode cX9_init 32 = .ok (.sipush 601, 3) := by decide +kernel
theorem dX9_init_35 : decode cX9_init 35 = .ok (.newarray .long, 2) := by decide +kernel
theorem dX9_init_37 : decode cX9_init 37 = .ok (.putfield 22, 3) := by decide +kernel
theorem dX9_init_40 : decode cX9_init 40 = .ok (.aload_n 0, 1) := by decide +kernel
theorem dX9_init_41 : decode cX9_init 41 = .ok (.iconst (-1), 1) := by decide +kernel
theorem dX9_init_42 : decode cX9_init 42 = .ok (.putfield 26, 3) := by decide +kernel
theorem dX9_init_45 : decode cX9_init 45 = .ok (.return_, 1) := by decide +kernel
theorem dX9_append_0 : decode cX9_append 0 = .ok (.bipush 24, 2) := by decide +kernel
theorem dX9_append_2 : decode cX9_append 2 = .ok (.istore_n 2, 1) := by decide +kernel
theorem dX9_append_3 : decode cX9_append 3 = .ok (.iload_n 2, 1) := by decide +kernel
theorem dX9_append_4 : decode cX9_append 4 = .ok (.ifCond .lt 42, 3) := by decide +kernel
theorem dX9_append_7 : decode cX9_append 7 = .ok (.aload_n 0, 1) := by decide +kernel
theorem dX9_append_8 : decode cX9_append 8 = .ok (.getfield 30, 3) := by decide +kernel
theorem dX9_append_11 : decode cX9_append 11 = .ok (.sipush 600, 3) := by decide +kernel
theorem dX9_append_14 : decode cX9_append 14 = .ok (.if_icmp .ge 32, 3) := by decide +kernel
theorem dX9_append_17 : decode cX9_append 17 = .ok (.aload_n 0, 1) := by decide +kernel
theorem dX9_append_18 : decode cX9_append 18 = .ok (.getfield 9, 3) := by decide +kernel
theorem dX9_append_21 : decode cX9_append 21 = .ok (.aload_n 0, 1) := by decide +kernel
theorem dX9_append_22 : decode cX9_append 22 = .ok (.getfield 30, 3) := by decide +kernel
theorem dX9_append_25 : decode cX9_append 25 = .ok (.iload_n 1, 1) := by decide +kernel
theorem dX9_append_26 : decode cX9_append 26 = .ok (.iload_n 2, 1) := by decide +kernel
theorem dX9_append_27 : decode cX9_append 27 = .ok (.iushr, 1) := by decide +kernel
theorem dX9_append_28 : decode cX9_append 28 = .ok (.i2b, 1) := by decide +kernel
theorem dX9_append_29 : decode cX9_append 29 = .ok (.bastore, 1) := by decide +kernel
theorem dX9_append_30 : decode cX9_append 30 = .ok (.aload_n 0, 1) := by decide +kernel
theorem dX9_append_31 : decode cX9_append 31 = .ok (.dup, 1) := by decide +kernel
theorem dX9_append_32 : decode cX9_append 32 = .ok (.getfield 30, 3) := by decide +kernel
theorem dX9_append_35 : decode cX9_append 35 = .ok (.iconst 1, 1) := by decide +kernel
theorem dX9_append_36 : decode cX9_append 36 = .ok (.iadd, 1) := by decide +kernel
theorem dX9_append_37 : decode cX9_append 37 = .ok (.putfield 30, 3) := by decide +kernel
theorem dX9_append_40 : decode cX9_append 40 = .ok (.iinc 2 (-8), 3) := by decide +kernel
theorem dX9_append_43 : decode cX9_append 43 = .ok (.goto (-40), 3) := by decide +kernel
theorem dX9_append_46 : decode cX9_append 46 = .ok (.return_, 1) := by decide +kernel
theorem dX9_wholeName_0 : decode cX9_wholeName 0 = .ok (.aload_n 0, 1) := by decide +kernel
theorem dX9_wholeName_1 : decode cX9_wholeName 1 = .ok (.iconst 0, 1) := by decide +kernel
theorem dX9_wholeName_2 : decode cX9_wholeName 2 = .ok (.aload_n 0, 1) := by decide +kernel
theorem dX9_wholeName_3 : decode cX9_wholeName 3 = .ok (.getfield 30, 3) := by decide +kernel
theorem dX9_wholeName_6 : decode cX9_wholeName 6 = .ok (.invokevirtual 33, 3) := by decide +kernel
theorem dX9_wholeName_9 : decode cX9_wholeName 9 = .ok (.lreturn, 1) := by decide +kernel
theorem dX9_nameIn_0 : decode cX9_nameIn 0 = .ok (.iload_n 2, 1) := by decide +kernel
theorem dX9_nameIn_1 : decode cX9_nameIn 1 = .ok (.iload_n 1, 1) := by decide +kernel
theorem dX9_nameIn_2 : decode cX9_nameIn 2 = .ok (.isub, 1) := by decide +kernel
theorem dX9_nameIn_3 : decode cX9_nameIn 3 = .ok (.iconst 1, 1) := by decide +kernel
theorem dX9_nameIn_4 : decode cX9_nameIn 4 = .ok (.bipush 8, 2) := by decide +kernel
theorem dX9_nameIn_6 : decode cX9_nameIn 6 = .ok (.invokestatic 37, 3) := by decide +kernel
theorem dX9_nameIn_9 : decode cX9_nameIn 9 = .ok (.ifCond .ne 5, 3) := by decide +kernel
theorem dX9_nameIn_12 : decode cX9_nameIn 12 = .ok (.lconst 0, 1) := by decide +kernel
theorem dX9_nameIn_13 : decode cX9_nameIn 13 = .ok (.lreturn, 1) := by decide +kernel
theorem dX9_nameIn_14 : decode cX9_nameIn 14 = .ok (.lconst 0, 1) := by decide +kernel
theorem dX9_nameIn_15 : decode cX9_nameIn 15 = .ok (.lstore_n 3, 1) := by decide +kernel
theorem dX9_nameIn_16 : decode cX9_nameIn 16 = .ok (.iload_n 1, 1) := by decide +kernel
theorem dX9_nameIn_17 : decode cX9_nameIn 17 = .ok (.istore 5, 2) := by decide +kernel
theorem dX9_nameIn_19 : decode cX9_nameIn 19 = .ok (.iload 5, 2) := by decide +kernel
theorem dX9_nameIn_21 : decode cX9_nameIn 21 = .ok (.iload_n 2, 1) := by decide +kernel
theorem dX9_nameIn_22 : decode cX9_nameIn 22 = .ok (.if_icmp .ge 38, 3) := by decide +kernel
theorem dX9_nameIn_25 : decode cX9_nameIn 25 = .ok (.aload_n 0, 1) := by decide +kernel
theorem dX9_nameIn_26 : decode cX9_nameIn 26 = .ok (.getfield 9, 3) := by decide +kernel
theorem dX9_nameIn_29 : decode cX9_nameIn 29 = .ok (.iload 5, 2) := by decide +kernel
theorem dX9_nameIn_31 : decode cX9_nameIn 31 = .ok (.baload, 1) := by decide +kernel
theorem dX9_nameIn_32 : decode cX9_nameIn 32 = .ok (.invokestatic 41, 3) := by decide +kernel
theorem dX9_nameIn_35 : decode cX9_nameIn 35 = .ok (.ifCond .ne 5, 3) := by decide +kernel
theorem dX9_nameIn_38 : decode cX9_nameIn 38 = .ok (.lconst 0, 1) := by decide +kernel
theorem dX9_nameIn_39 : decode cX9_nameIn 39 = .ok (.lreturn, 1) := by decide +kernel
theorem dX9_nameIn_40 : decode cX9_nameIn 40 = .ok (.lload_n 3, 1) := by decide +kernel
theorem dX9_nameIn_41 : decode cX9_nameIn 41 = .ok (.bipush 8, 2) := by decide +kernel
theorem dX9_nameIn_43 : decode cX9_nameIn 43 = .ok (.lshl, 1) := by decide +kernel
theorem dX9_nameIn_44 : decode cX9_nameIn 44 = .ok (.aload_n 0, 1) := by decide +kernel
theorem dX9_nameIn_45 : decode cX9_nameIn 45 = .ok (.getfield 9, 3) := by decide +kernel
theorem dX9_nameIn_48 : decode cX9_nameIn 48 = .ok (.iload 5, 2) := by decide +kernel
theorem dX9_nameIn_50 : decode cX9_nameIn 50 = .ok (.baload, 1) := by decide +kernel
theorem dX9_nameIn_51 : decode cX9_nameIn 51 = .ok (.i2l, 1) := by decide +kernel
theorem dX9_nameIn_52 : decode cX9_nameIn 52 = .ok (.lor, 1) := by decide +kernel
theorem dX9_nameIn_53 : decode cX9_nameIn 53 = .ok (.lstore_n 3, 1) := by decide +kernel
theorem dX9_nameIn_54 : decode cX9_nameIn 54 = .ok (.iinc 5 1, 3) := by decide +kernel
theorem dX9_nameIn_57 : decode cX9_nameIn 57 = .ok (.goto (-38), 3) := by decide +kernel
theorem dX9_nameIn_60 : decode cX9_nameIn 60 = .ok (.lload_n 3, 1) := by decide +kernel
theorem dX9_nameIn_61 : decode cX9_nameIn 61 = .ok (.bipush 8, 2) := by decide +kernel
theorem dX9_nameIn_63 : decode cX9_nameIn 63 = .ok (.bipush 8, 2) := by decide +kernel
theorem dX9_nameIn_65 : decode cX9_nameIn 65 = .ok (.iload_n 2, 1) := by decide +kernel
theorem dX9_nameIn_66 : decode cX9_nameIn 66 = .ok (.isub, 1) := by decide +kernel
theorem dX9_nameIn_67 : decode cX9_nameIn 67 = .ok (.iload_n 1, 1) := by decide +kernel
theorem dX9_nameIn_68 : decode cX9_nameIn 68 = .ok (.iadd, 1) := by decide +kernel
theorem dX9_nameIn_69 : decode cX9_nameIn 69 = .ok (.imul, 1) := by decide +kernel
theorem dX9_nameIn_70 : decode cX9_nameIn 70 = .ok (.lshl, 1) := by decide +kernel
theorem dX9_nameIn_71 : decode cX9_nameIn 71 = .ok (.lreturn, 1) := by decide +kernel
theorem dX9_open_0 : decode cX9_open 0 = .ok (.aload_n 0, 1) := by decide +kernel
theorem dX9_open_1 : decode cX9_open 1 = .ok (.iconst 0, 1) := by decide +kernel
theorem dX9_open_2 : decode cX9_open 2 = .ok (.invokevirtual 45, 3) := by decide +kernel
theorem dX9_open_5 : decode cX9_open 5 = .ok (.istore_n 1, 1) := by decide +kernel
theorem dX9_open_6 : decode cX9_open 6 = .ok (.aload_n 0, 1) := by decide +kernel
theorem dX9_open_7 : decode cX9_open 7 = .ok (.iconst 0, 1) := by decide +kernel
theorem dX9_open_8 : decode cX9_open 8 = .ok (.putfield 49, 3) := by decide +kernel
theorem dX9_open_11 : decode cX9_open 11 = .ok (.iconst 0, 1) := by decide +kernel
theorem dX9_open_12 : decode cX9_open 12 = .ok (.istore_n 2, 1) := by decide +kernel
theorem dX9_open_13 : decode cX9_open 13 = .ok (.iload_n 2, 1) := by decide +kernel
theorem dX9_open_14 : decode cX9_open 14 = .ok (.sipush 600, 3) := by decide +kernel
theorem dX9_open_17 : decode cX9_open 17 = .ok (.if_icmp .ge 47, 3) := by decide +kernel
theorem dX9_open_20 : decode cX9_open 20 = .ok (.iload_n 1, 1) := by decide +kernel
theorem dX9_open_21 : decode cX9_open 21 = .ok (.aload_n 0, 1) := by decide +kernel
theorem dX9_open_22 : decode cX9_open 22 = .ok (.getfield 30, 3) := by decide +kernel
theorem dX9_open_25 : decode cX9_open 25 = .ok (.if_icmp .ge 39, 3) := by decide +kernel
theorem dX9_open_28 : decode cX9_open 28 = .ok (.aload_n 0, 1) := by decide +kernel
theorem dX9_open_29 : decode cX9_open 29 = .ok (.getfield 19, 3) := by decide +kernel
theorem dX9_open_32 : decode cX9_open 32 = .ok (.aload_n 0, 1) := by decide +kernel
theorem dX9_open_33 : decode cX9_open 33 = .ok (.getfield 49, 3) := by decide +kernel
theorem dX9_open_36 : decode cX9_open 36 = .ok (.iload_n 1, 1) := by decide +kernel
theorem dX9_open_37 : decode cX9_open 37 = .ok (.iastore, 1) := by decide +kernel
theorem dX9_open_38 : decode cX9_open 38 = .ok (.aload_n 0, 1) := by decide +kernel
theorem dX9_open_39 : decode cX9_open 39 = .ok (.aload_n 0, 1) := by decide +kernel
theorem dX9_open_40 : decode cX9_open 40 = .ok (.iload_n 1, 1) := by decide +kernel
theorem dX9_open_41 : decode cX9_open 41 = .ok (.invokevirtual 52, 3) := by decide +kernel
theorem dX9_open_44 : decode cX9_open 44 = .ok (.invokevirtual 45, 3) := by decide +kernel
theorem dX9_open_47 : decode cX9_open 47 = .ok (.istore_n 1, 1) := by decide +kernel
theorem dX9_open_48 : decode cX9_open 48 = .ok (.aload_n 0, 1) := by decide +kernel
theorem dX9_open_49 : decode cX9_open 49 = .ok (.dup, 1) := by decide +kernel
theorem dX9_open_50 : decode cX9_open 50 = .ok (.getfield 49, 3) := by decide +kernel
theorem dX9_open_53 : decode cX9_open 53 = .ok (.iconst 1, 1) := by decide +kernel
theorem dX9_open_54 : decode cX9_open 54 = .ok (.iadd, 1) := by decide +kernel
theorem dX9_open_55 : decode cX9_open 55 = .ok (.putfield 49, 3) := by decide +kernel
theorem dX9_open_58 : decode cX9_open 58 = .ok (.iinc 2 1, 3) := by decide +kernel
theorem dX9_open_61 : decode cX9_open 61 = .ok (.goto (-48), 3) := by decide +kernel
theorem dX9_open_64 : decode cX9_open 64 = .ok (.aload_n 0, 1) := by decide +kernel
theorem dX9_open_65 : decode cX9_open 65 = .ok (.getfield 15, 3) := by decide +kernel
theorem dX9_open_68 : decode cX9_open 68 = .ok (.aload_n 0, 1) := by decide +kernel
theorem dX9_open_69 : decode cX9_open 69 = .ok (.getfield 49, 3) := by decide +kernel
theorem dX9_open_72 : decode cX9_open 72 = .ok (.iconst 0, 1) := by decide +kernel
theorem dX9_open_73 : decode cX9_open 73 = .ok (.iastore, 1) := by decide +kernel
theorem dX9_open_74 : decode cX9_open 74 = .ok (.aload_n 0, 1) := by decide +kernel
theorem dX9_open_75 : decode cX9_open 75 = .ok (.getfield 19, 3) := by decide +kernel
theorem dX9_open_78 : decode cX9_open 78 = .ok (.aload_n 0, 1) := by decide +kernel
theorem dX9_open_79 : decode cX9_open 79 = .ok (.getfield 49, 3) := by decide +kernel
theorem dX9_open_82 : decode cX9_open 82 = .ok (.aload_n 0, 1) := by decide +kernel
theorem dX9_open_83 : decode cX9_open 83 = .ok (.getfield 30, 3) := by decide +kernel
theorem dX9_open_86 : decode cX9_open 86 = .ok (.iastore, 1) := by decide +kernel
theorem dX9_open_87 : decode cX9_open 87 = .ok (.aload_n 0, 1) := by decide +kernel
theorem dX9_open_88 : decode cX9_open 88 = .ok (.iconst 0, 1) := by decide +kernel
theorem dX9_open_89 : decode cX9_open 89 = .ok (.putfield 55, 3) := by decide +kernel
theorem dX9_open_92 : decode cX9_open 92 = .ok (.aload_n 0, 1) := by decide +kernel
theorem dX9_open_93 : decode cX9_open 93 = .ok (.iconst 0, 1) := by decide +kernel
theorem dX9_open_94 : decode cX9_open 94 = .ok (.putfield 58, 3) := by decide +kernel
theorem dX9_open_97 : decode cX9_open 97 = .ok (.aload_n 0, 1) := by decide +kernel
theorem dX9_open_98 : decode cX9_open 98 = .ok (.iconst (-1), 1) := by decide +kernel
theorem dX9_open_99 : decode cX9_open 99 = .ok (.putfield 26, 3) := by decide +kernel
theorem dX9_open_102 : decode cX9_open 102 = .ok (.return_, 1) := by decide +kernel
theorem dX9_behindSpaces_0 : decode cX9_behindSpaces 0 = .ok (.iload_n 1, 1) := by decide +kernel
theorem dX9_behindSpaces_1 : decode cX9_behindSpaces 1 = .ok (.istore_n 2, 1) := by decide +kernel
theorem dX9_behindSpaces_2 : decode cX9_behindSpaces 2 = .ok (.iload_n 2, 1) := by decide +kernel
theorem dX9_behindSpaces_3 : decode cX9_behindSpaces 3 = .ok (.aload_n 0, 1) := by decide +kernel
theorem dX9_behindSpaces_4 : decode cX9_behindSpaces 4 = .ok (.getfield 30, 3) := by decide +kernel
theorem dX9_behindSpaces_7 : decode cX9_behindSpaces 7 = .ok (.if_icmp .ge 31, 3) := by decide +kernel
theorem dX9_behindSpaces_10 : decode cX9_behindSpaces 10 = .ok (.aload_n 0, 1) := by decide +kernel
theorem dX9_behindSpaces_11 : decode cX9_behindSpaces 11 = .ok (.getfield 9, 3) := by decide +kernel
theorem dX9_behindSpaces_14 : decode cX9_behindSpaces 14 = .ok (.iload_n 2, 1) := by decide +kernel
theorem dX9_behindSpaces_15 : decode cX9_behindSpaces 15 = .ok (.baload, 1) := by decide +kernel
theorem dX9_behindSpaces_16 : decode cX9_behindSpaces 16 = .ok (.bipush 32, 2) := by decide +kernel
theorem dX9_behindSpaces_18 : decode cX9_behindSpaces 18 = .ok (.if_icmp .eq 14, 3) := by decide +kernel
theorem dX9_behindSpaces_21 : decode cX9_behindSpaces 21 = .ok (.aload_n 0, 1) := by decide +kernel
theorem dX9_behindSpaces_22 : decode cX9_behindSpaces 22 = .ok (.getfield 9, 3) := by decide +kernel
theorem dX9_behindSpaces_25 : decode cX9_behindSpaces 25 = .ok (.iload_n 2, 1) := by decide +kernel
theorem dX9_behindSpaces_26 : decode cX9_behindSpaces 26 = .ok (.baload, 1) := by decide +kernel
theorem dX9_behindSpaces_27 : decode cX9_behindSpaces 27 = .ok (.bipush 10, 2) := by decide +kernel
theorem dX9_behindSpaces_29 : decode cX9_behindSpaces 29 = .ok (.if_icmp .ne 9, 3) := by decide +kernel
theorem dX9_behindSpaces_32 : decode cX9_behindSpaces 32 = .ok (.iinc 2 1, 3) := by decide +kernel
theorem dX9_behindSpaces_35 : decode cX9_behindSpaces 35 = .ok (.goto (-33), 3) := by decide +kernel
theorem dX9_behindSpaces_38 : decode cX9_behindSpaces 38 = .ok (.iload_n 2, 1) := by decide +kernel
theorem dX9_behindSpaces_39 : decode cX9_behindSpaces 39 = .ok (.ireturn, 1) := by decide +kernel
theorem dX9_behindToken_0 : decode cX9_behindToken 0 = .ok (.aload_n 0, 1) := by decide +kernel
theorem dX9_behindToken_1 : decode cX9_behindToken 1 = .ok (.getfield 9, 3) := by decide +kernel
theorem dX9_behindToken_4 : decode cX9_behindToken 4 = .ok (.iload_n 1, 1) := by decide +kernel
theorem dX9_behindToken_5 : decode cX9_behindToken 5 = .ok (.baload, 1) := by decide +kernel
theorem dX9_behindToken_6 : decode cX9_behindToken 6 = .ok (.istore_n 2, 1) := by decide +kernel
theorem dX9_behindToken_7 : decode cX9_behindToken 7 = .ok (.iload_n 2, 1) := by decide +kernel
theorem dX9_behindToken_8 : decode cX9_behindToken 8 = .ok (.invokestatic 41, 3) := by decide +kernel
theorem dX9_behindToken_11 : decode cX9_behindToken 11 = .ok (.ifCond .eq 9, 3) := by decide +kernel
theorem dX9_behindToken_14 : decode cX9_behindToken 14 = .ok (.aload_n 0, 1) := by decide +kernel
theorem dX9_behindToken_15 : decode cX9_behindToken 15 = .ok (.iload_n 1, 1) := by decide +kernel
theorem dX9_behindToken_16 : decode cX9_behindToken 16 = .ok (.invokevirtual 61, 3) := by decide +kernel
theorem dX9_behindToken_19 : decode cX9_behindToken 19 = .ok (.ireturn, 1) := by decide +kernel
theorem dX9_behindToken_20 : decode cX9_behindToken 20 = .ok (.iload_n 2, 1) := by decide +kernel
theorem dX9_behindToken_21 : decode cX9_behindToken 21 = .ok (.invokestatic 64, 3) := by decide +kernel
theorem dX9_behindToken_24 : decode cX9_behindToken 24 = .ok (.ifCond .eq 9, 3) := by decide +kernel
theorem dX9_behindToken_27 : decode cX9_behindToken 27 = .ok (.aload_n 0, 1) := by decide +kernel
theorem dX9_behindToken_28 : decode cX9_behindToken 28 = .ok (.iload_n 1, 1) := by decide +kernel
theorem dX9_behindToken_29 : decode cX9_behindToken 29 = .ok (.invokevirtual 67, 3) := by decide +kernel
theorem dX9_behindToken_32 : decode cX9_behindToken 32 = .ok (.ireturn, 1) := by decide +kernel
theorem dX9_behindToken_33 : decode cX9_behindToken 33 = .ok (.aload_n 0, 1) := by decide +kernel
theorem dX9_behindToken_34 : decode cX9_behindToken 34 = .ok (.getfield 15, 3) := by decide +kernel
theorem dX9_behindToken_37 : decode cX9_behindToken 37 = .ok (.aload_n 0, 1) := by decide +kernel
theorem dX9_behindToken_38 : decode cX9_behindToken 38 = .ok (.getfield 49, 3) := by decide +kernel
theorem dX9_behindToken_41 : decode cX9_behindToken 41 = .ok (.iload_n 2, 1) := by decide +kernel
theorem dX9_behindToken_42 : decode cX9_behindToken 42 = .ok (.bipush 59, 2) := by decide +kernel
theorem dX9_behindToken_44 : decode cX9_behindToken 44 = .ok (.if_icmp .eq 15, 3) := by decide +kernel
theorem dX9_behindToken_47 : decode cX9_behindToken 47 = .ok (.iload_n 2, 1) := by decide +kernel
theorem dX9_behindToken_48 : decode cX9_behindToken 48 = .ok (.bipush 40, 2) := by decide +kernel
theorem dX9_behindToken_50 : decode cX9_behindToken 50 = .ok (.if_icmp .eq 9, 3) := by decide +kernel
theorem dX9_behindToken_53 : decode cX9_behindToken 53 = .ok (.iload_n 2, 1) := by decide +kernel
theorem dX9_behindToken_54 : decode cX9_behindToken 54 = .ok (.bipush 41, 2) := by decide +kernel
theorem dX9_behindToken_56 : decode cX9_behindToken 56 = .ok (.if_icmp .ne 7, 3) := by decide +kernel
theorem dX9_behindToken_59 : decode cX9_behindToken 59 = .ok (.iconst 3, 1) := by decide +kernel
theorem dX9_behindToken_60 : decode cX9_behindToken 60 = .ok (.goto 4, 3) := by decide +kernel
theorem dX9_behindToken_63 : decode cX9_behindToken 63 = .ok (.iconst 4, 1) := by decide +kernel
theorem dX9_behindToken_64 : decode cX9_behindToken 64 = .ok (.iastore, 1) := by decide +kernel
theorem dX9_behindToken_65 : decode cX9_behindToken 65 = .ok (.aload_n 0, 1) := by decide +kernel
theorem dX9_behindToken_66 : decode cX9_behindToken 66 = .ok (.getfield 22, 3) := by decide +kernel
theorem dX9_behindToken_69 : decode cX9_behindToken 69 = .ok (.aload_n 0, 1) := by decide +kernel
theorem dX9_behindToken_70 : decode cX9_behindToken 70 = .ok (.getfield 49, 3) := by decide +kernel
theorem dX9_behindToken_73 : decode cX9_behindToken 73 = .ok (.iload_n 2, 1) := by decide +kernel
theorem dX9_behindToken_74 : decode cX9_behindToken 74 = .ok (.i2l, 1) := by decide +kernel
theorem dX9_behindToken_75 : decode cX9_behindToken 75 = .ok (.lastore, 1) := by decide +kernel
theorem dX9_behindToken_76 : decode cX9_behindToken 76 = .ok (.iload_n 1, 1) := by decide +kernel
theorem dX9_behindToken_77 : decode cX9_behindToken 77 = .ok (.iconst 1, 1) := by decide +kernel
theorem dX9_behindToken_78 : decode cX9_behindToken 78 = .ok (.iadd, 1) := by decide +kernel
theorem dX9_behindToken_79 : decode cX9_behindToken 79 = .ok (.ireturn, 1) := by decide +kernel
theorem dX9_behindWord_0 : decode cX9_behindWord 0 = .ok (.iload_n 1, 1) := by decide +kernel
theorem dX9_behindWord_1 : decode cX9_behindWord 1 = .ok (.istore_n 2, 1) := by decide +kernel
theorem dX9_behindWord_2 : decode cX9_behindWord 2 = .ok (.iload_n 2, 1) := by decide +kernel
theorem dX9_behindWord_3 : decode cX9_behindWord 3 = .ok (.aload_n 0, 1) := by decide +kernel
theorem dX9_behindWord_4 : decode cX9_behindWord 4 = .ok (.getfield 30, 3) := by decide +kernel
theorem dX9_behindWord_7 : decode cX9_behindWord 7 = .ok (.if_icmp .ge 21, 3) := by decide +kernel
theorem dX9_behindWord_10 : decode cX9_behindWord 10 = .ok (.aload_n 0, 1) := by decide +kernel
theorem dX9_behindWord_11 : decode cX9_behindWord 11 = .ok (.getfield 9, 3) := by decide +kernel
theorem dX9_behindWord_14 : decode cX9_behindWord 14 = .ok (.iload_n 2, 1) := by decide +kernel
theorem dX9_behindWord_15 : decode cX9_behindWord 15 = .ok (.baload, 1) := by decide +kernel
theorem dX9_behindWord_16 : decode cX9_behindWord 16 = .ok (.invokestatic 41, 3) := by decide +kernel
theorem dX9_behindWord_19 : decode cX9_behindWord 19 = .ok (.ifCond .eq 9, 3) := by decide +kernel
theorem dX9_behindWord_22 : decode cX9_behindWord 22 = .ok (.iinc 2 1, 3) := by decide +kernel
theorem dX9_behindWord_25 : decode cX9_behindWord 25 = .ok (.goto (-23), 3) := by decide +kernel
theorem dX9_behindWord_28 : decode cX9_behindWord 28 = .ok (.aload_n 0, 1) := by decide +kernel
theorem dX9_behindWord_29 : decode cX9_behindWord 29 = .ok (.getfield 22, 3) := by decide +kernel
theorem dX9_behindWord_32 : decode cX9_behindWord 32 = .ok (.aload_n 0, 1) := by decide +kernel
theorem dX9_behindWord_33 : decode cX9_behindWord 33 = .ok (.getfield 49, 3) := by decide +kernel
theorem dX9_behindWord_36 : decode cX9_behindWord 36 = .ok (.aload_n 0, 1) := by decide +kernel
theorem dX9_behindWord_37 : decode cX9_behindWord 37 = .ok (.iload_n 1, 1) := by decide +kernel
theorem dX9_behindWord_38 : decode cX9_behindWord 38 = .ok (.iload_n 2, 1) := by decide +kernel
theorem dX9_behindWord_39 : decode cX9_behindWord 39 = .ok (.invokevirtual 33, 3) := by decide +kernel
theorem dX9_behindWord_42 : decode cX9_behindWord 42 = .ok (.lastore, 1) := by decide +kernel
theorem dX9_behindWord_43 : decode cX9_behindWord 43 = .ok (.aload_n 0, 1) := by decide +kernel
theorem dX9_behindWord_44 : decode cX9_behindWord 44 = .ok (.getfield 15, 3) := by decide +kernel
theorem dX9_behindWord_47 : decode cX9_behindWord 47 = .ok (.aload_n 0, 1) := by decide +kernel
theorem dX9_behindWord_48 : decode cX9_behindWord 48 = .ok (.getfield 49, 3) := by decide +kernel
theorem dX9_behindWord_51 : decode cX9_behindWord 51 = .ok (.iload_n 2, 1) := by decide +kernel
theorem dX9_behindWord_52 : decode cX9_behindWord 52 = .ok (.iload_n 1, 1) := by decide +kernel
theorem dX9_behindWord_53 : decode cX9_behindWord 53 = .ok (.isub, 1) := by decide +kernel
theorem dX9_behindWord_54 : decode cX9_behindWord 54 = .ok (.bipush 8, 2) := by decide +kernel
theorem dX9_behindWord_56 : decode cX9_behindWord 56 = .ok (.if_icmp .le 7, 3) := by decide +kernel
theorem dX9_behindWord_59 : decode cX9_behindWord 59 = .ok (.iconst 4, 1) := by decide +kernel
theorem dX9_behindWord_60 : decode cX9_behindWord 60 = .ok (.goto 4, 3) := by decide +kernel
theorem dX9_behindWord_63 : decode cX9_behindWord 63 = .ok (.iconst 1, 1) := by decide +kernel
theorem dX9_behindWord_64 : decode cX9_behindWord 64 = .ok (.iastore, 1) := by decide +kernel
theorem dX9_behindWord_65 : decode cX9_behindWord 65 = .ok (.iload_n 2, 1) := by decide +kernel
theorem dX9_behindWord_66 : decode cX9_behindWord 66 = .ok (.ireturn, 1) := by decide +kernel
theorem dX9_behindNumber_0 : decode cX9_behindNumber 0 = .ok (.iload_n 1, 1) := by decide +kernel
theorem dX9_behindNumber_1 : decode cX9_behindNumber 1 = .ok (.istore_n 2, 1) := by decide +kernel
theorem dX9_behindNumber_2 : decode cX9_behindNumber 2 = .ok (.lconst 0, 1) := by decide +kernel
theorem dX9_behindNumber_3 : decode cX9_behindNumber 3 = .ok (.lstore_n 3, 1) := by decide +kernel
theorem dX9_behindNumber_4 : decode cX9_behindNumber 4 = .ok (.iload_n 2, 1) := by decide +kernel
theorem dX9_behindNumber_5 : decode cX9_behindNumber 5 = .ok (.aload_n 0, 1) := by decide +kernel
theorem dX9_behindNumber_6 : decode cX9_behindNumber 6 = .ok (.getfield 30, 3) := by decide +kernel
theorem dX9_behindNumber_9 : decode cX9_behindNumber 9 = .ok (.if_icmp .ge 39, 3) := by decide +kernel
theorem dX9_behindNumber_12 : decode cX9_behindNumber 12 = .ok (.aload_n 0, 1) := by decide +kernel
theorem dX9_behindNumber_13 : decode cX9_behindNumber 13 = .ok (.getfield 9, 3) := by decide +kernel
theorem dX9_behindNumber_16 : decode cX9_behindNumber 16 = .ok (.iload_n 2, 1) := by decide +kernel
theorem dX9_behindNumber_17 : decode cX9_behindNumber 17 = .ok (.baload, 1) := by decide +kernel
theorem dX9_behindNumber_18 : decode cX9_behindNumber 18 = .ok (.invokestatic 64, 3) := by decide +kernel
theorem dX9_behindNumber_21 : decode cX9_behindNumber 21 = .ok (.ifCond .eq 27, 3) := by decide +kernel
theorem dX9_behindNumber_24 : decode cX9_behindNumber 24 = .ok (.lload_n 3, 1) := by decide +kernel
theorem dX9_behindNumber_25 : decode cX9_behindNumber 25 = .ok (.ldc2_w 70, 3) := by decide +kernel
theorem dX9_behindNumber_28 : decode cX9_behindNumber 28 = .ok (.lmul, 1) := by decide +kernel
theorem dX9_behindNumber_29 : decode cX9_behindNumber 29 = .ok (.aload_n 0, 1) := by decide +kernel
theorem dX9_behindNumber_30 : decode cX9_behindNumber 30 = .ok (.getfield 9, 3) := by decide +kernel
theorem dX9_behindNumber_33 : decode cX9_behindNumber 33 = .ok (.iload_n 2, 1) := by decide +kernel
theorem dX9_behindNumber_34 : decode cX9_behindNumber 34 = .ok (.baload, 1) := by decide +kernel
theorem dX9_behindNumber_35 : decode cX9_behindNumber 35 = .ok (.i2l, 1) := by decide +kernel
theorem dX9_behindNumber_36 : decode cX9_behindNumber 36 = .ok (.ladd, 1) := by decide +kernel
theorem dX9_behindNumber_37 : decode cX9_behindNumber 37 = .ok (.ldc2_w 72, 3) := by decide +kernel
theorem dX9_behindNumber_40 : decode cX9_behindNumber 40 = .ok (.lsub, 1) := by decide +kernel
theorem dX9_behindNumber_41 : decode cX9_behindNumber 41 = .ok (.lstore_n 3, 1) := by decide +kernel
theorem dX9_behindNumber_42 : decode cX9_behindNumber 42 = .ok (.iinc 2 1, 3) := by decide +kernel
theorem dX9_behindNumber_45 : decode cX9_behindNumber 45 = .ok (.goto (-41), 3) := by decide +kernel
theorem dX9_behindNumber_48 : decode cX9_behindNumber 48 = .ok (.aload_n 0, 1) := by decide +kernel
theorem dX9_behindNumber_49 : decode cX9_behindNumber 49 = .ok (.getfield 22, 3) := by decide +kernel
theorem dX9_behindNumber_52 : decode cX9_behindNumber 52 = .ok (.aload_n 0, 1) := by decide +kernel
theorem dX9_behindNumber_53 : decode cX9_behindNumber 53 = .ok (.getfield 49, 3) := by decide +kernel
theorem dX9_behindNumber_56 : decode cX9_behindNumber 56 = .ok (.lload_n 3, 1) := by decide +kernel
theorem dX9_behindNumber_57 : decode cX9_behindNumber 57 = .ok (.lastore, 1) := by decide +kernel
theorem dX9_behindNumber_58 : decode cX9_behindNumber 58 = .ok (.aload_n 0, 1) := by decide +kernel
theorem dX9_behindNumber_59 : decode cX9_behindNumber 59 = .ok (.getfield 15, 3) := by decide +kernel
theorem dX9_behindNumber_62 : decode cX9_behindNumber 62 = .ok (.aload_n 0, 1) := by decide +kernel
theorem dX9_behindNumber_63 : decode cX9_behindNumber 63 = .ok (.getfield 49, 3) := by decide +kernel
theorem dX9_behindNumber_66 : decode cX9_behindNumber 66 = .ok (.iload_n 2, 1) := by decide +kernel
theorem dX9_behindNumber_67 : decode cX9_behindNumber 67 = .ok (.iload_n 1, 1) := by decide +kernel
theorem dX9_behindNumber_68 : decode cX9_behindNumber 68 = .ok (.isub, 1) := by decide +kernel
theorem dX9_behindNumber_69 : decode cX9_behindNumber 69 = .ok (.iconst 4, 1) := by decide +kernel
theorem dX9_behindNumber_70 : decode cX9_behindNumber 70 = .ok (.if_icmp .le 7, 3) := by decide +kernel
theorem dX9_behindNumber_73 : decode cX9_behindNumber 73 = .ok (.iconst 4, 1) := by decide +kernel
theorem dX9_behindNumber_74 : decode cX9_behindNumber 74 = .ok (.goto 4, 3) := by decide +kernel
theorem dX9_behindNumber_77 : decode cX9_behindNumber 77 = .ok (.iconst 2, 1) := by decide +kernel
theorem dX9_behindNumber_78 : decode cX9_behindNumber 78 = .ok (.iastore, 1) := by decide +kernel
theorem dX9_behindNumber_79 : decode cX9_behindNumber 79 = .ok (.iload_n 2, 1) := by decide +kernel
theorem dX9_behindNumber_80 : decode cX9_behindNumber 80 = .ok (.ireturn, 1) := by decide +kernel
theorem dX9_hasFailed_0 : decode cX9_hasFailed 0 = .ok (.aload_n 0, 1) := by decide +kernel
theorem dX9_hasFailed_1 : decode cX9_hasFailed 1 = .ok (.getfield 58, 3) := by decide +kernel
theorem dX9_hasFailed_4 : decode cX9_hasFailed 4 = .ok (.ifCond .eq 7, 3) := by decide +kernel
theorem dX9_hasFailed_7 : decode cX9_hasFailed 7 = .ok (.iconst 1, 1) := by decide +kernel
theorem dX9_hasFailed_8 : decode cX9_hasFailed 8 = .ok (.goto 4, 3) := by decide +kernel
theorem dX9_hasFailed_11 : decode cX9_hasFailed 11 = .ok (.iconst 0, 1) := by decide +kernel
theorem dX9_hasFailed_12 : decode cX9_hasFailed 12 = .ok (.ireturn, 1) := by decide +kernel
theorem dX9_hasMore_0 : decode cX9_hasMore 0 = .ok (.aload_n 0, 1) := by decide +kernel
theorem dX9_hasMore_1 : decode cX9_hasMore 1 = .ok (.getfield 58, 3) := by decide +kernel
theorem dX9_hasMore_4 : decode cX9_hasMore 4 = .ok (.ifCond .ne 19, 3) := by decide +kernel
theorem dX9_hasMore_7 : decode cX9_hasMore 7 = .ok (.aload_n 0, 1) := by decide +kernel
theorem dX9_hasMore_8 : decode cX9_hasMore 8 = .ok (.getfield 15, 3) := by decide +kernel
theorem dX9_hasMore_11 : decode cX9_hasMore 11 = .ok (.aload_n 0, 1) := by decide +kernel
theorem dX9_hasMore_12 : decode cX9_hasMore 12 = .ok (.getfield 55, 3) := by decide +kernel
theorem dX9_hasMore_15 : decode cX9_hasMore 15 = .ok (.iaload, 1) := by decide +kernel
theorem dX9_hasMore_16 : decode cX9_hasMore 16 = .ok (.ifCond .eq 7, 3) := by decide +kernel
theorem dX9_hasMore_19 : decode cX9_hasMore 19 = .ok (.iconst 1, 1) := by decide +kernel
theorem dX9_hasMore_20 : decode cX9_hasMore 20 = .ok (.goto 4, 3) := by decide +kernel
theorem dX9_hasMore_23 : decode cX9_hasMore 23 = .ok (.iconst 0, 1) := by decide +kernel
theorem dX9_hasMore_24 : decode cX9_hasMore 24 = .ok (.ireturn, 1) := by decide +kernel
theorem dX9_isSign_0 : decode cX9_isSign 0 = .ok (.aload_n 0, 1) := by decide +kernel
theorem dX9_isSign_1 : decode cX9_isSign 1 = .ok (.getfield 15, 3) := by decide +kernel
theorem dX9_isSign_4 : decode cX9_isSign 4 = .ok (.aload_n 0, 1) := by decide +kernel
theorem dX9_isSign_5 : decode cX9_isSign 5 = .ok (.getfield 55, 3) := by decide +kernel
theorem dX9_isSign_8 : decode cX9_isSign 8 = .ok (.iaload, 1) := by decide +kernel
theorem dX9_isSign_9 : decode cX9_isSign 9 = .ok (.iconst 3, 1) := by decide +kernel
theorem dX9_isSign_10 : decode cX9_isSign 10 = .ok (.if_icmp .ne 22, 3) := by decide +kernel
theorem dX9_isSign_13 : decode cX9_isSign 13 = .ok (.aload_n 0, 1) := by decide +kernel
theorem dX9_isSign_14 : decode cX9_isSign 14 = .ok (.getfield 22, 3) := by decide +kernel
theorem dX9_isSign_17 : decode cX9_isSign 17 = .ok (.aload_n 0, 1) := by decide +kernel
theorem dX9_isSign_18 : decode cX9_isSign 18 = .ok (.getfield 55, 3) := by decide +kernel
theorem dX9_isSign_21 : decode cX9_isSign 21 = .ok (.laload, 1) := by decide +kernel
theorem dX9_isSign_22 : decode cX9_isSign 22 = .ok (.iload_n 1, 1) := by decide +kernel
theorem dX9_isSign_23 : decode cX9_isSign 23 = .ok (.i2l, 1) := by decide +kernel
theorem dX9_isSign_24 : decode cX9_isSign 24 = .ok (.lcmp, 1) := by decide +kernel
theorem dX9_isSign_25 : decode cX9_isSign 25 = .ok (.ifCond .ne 7, 3) := by decide +kernel
theorem dX9_isSign_28 : decode cX9_isSign 28 = .ok (.iconst 1, 1) := by decide +kernel
theorem dX9_isSign_29 : decode cX9_isSign 29 = .ok (.goto 4, 3) := by decide +kernel
theorem dX9_isSign_32 : decode cX9_isSign 32 = .ok (.iconst 0, 1) := by decide +kernel
theorem dX9_isSign_33 : decode cX9_isSign 33 = .ok (.ireturn, 1) := by decide +kernel
theorem dX9_word_0 : decode cX9_word 0 = .ok (.aload_n 0, 1) := by decide +kernel
theorem dX9_word_1 : decode cX9_word 1 = .ok (.getfield 15, 3) := by decide +kernel
theorem dX9_word_4 : decode cX9_word 4 = .ok (.aload_n 0, 1) := by decide +kernel
theorem dX9_word_5 : decode cX9_word 5 = .ok (.getfield 55, 3) := by decide +kernel
theorem dX9_word_8 : decode cX9_word 8 = .ok (.iaload, 1) := by decide +kernel
theorem dX9_word_9 : decode cX9_word 9 = .ok (.iconst 1, 1) := by decide +kernel
theorem dX9_word_10 : decode cX9_word 10 = .ok (.if_icmp .ne 15, 3) := by decide +kernel
theorem dX9_word_13 : decode cX9_word 13 = .ok (.aload_n 0, 1) := by decide +kernel
theorem dX9_word_14 : decode cX9_word 14 = .ok (.getfield 22, 3) := by decide +kernel
theorem dX9_word_17 : decode cX9_word 17 = .ok (.aload_n 0, 1) := by decide +kernel
theorem dX9_word_18 : decode cX9_word 18 = .ok (.getfield 55, 3) := by decide +kernel
theorem dX9_word_21 : decode cX9_word 21 = .ok (.laload, 1) := by decide +kernel
theorem dX9_word_22 : decode cX9_word 22 = .ok (.goto 4, 3) := by decide +kernel
theorem dX9_word_25 : decode cX9_word 25 = .ok (.lconst 0, 1) := by decide +kernel
theorem dX9_word_26 : decode cX9_word 26 = .ok (.lreturn, 1) := by decide +kernel
theorem dX9_number_0 : decode cX9_number 0 = .ok (.aload_n 0, 1) := by decide +kernel
theorem dX9_number_1 : decode cX9_number 1 = .ok (.getfield 15, 3) := by decide +kernel
theorem dX9_number_4 : decode cX9_number 4 = .ok (.aload_n 0, 1) := by decide +kernel
theorem dX9_number_5 : decode cX9_number 5 = .ok (.getfield 55, 3) := by decide +kernel
theorem dX9_number_8 : decode cX9_number 8 = .ok (.iaload, 1) := by decide +kernel
theorem dX9_number_9 : decode cX9_number 9 = .ok (.iconst 2, 1) := by decide +kernel
theorem dX9_number_10 : decode cX9_number 10 = .ok (.if_icmp .ne 16, 3) := by decide +kernel
theorem dX9_number_13 : decode cX9_number 13 = .ok (.aload_n 0, 1) := by decide +kernel
theorem dX9_number_14 : decode cX9_number 14 = .ok (.getfield 22, 3) := by decide +kernel
theorem dX9_number_17 : decode cX9_number 17 = .ok (.aload_n 0, 1) := by decide +kernel
theorem dX9_number_18 : decode cX9_number 18 = .ok (.getfield 55, 3) := by decide +kernel
theorem dX9_number_21 : decode cX9_number 21 = .ok (.laload, 1) := by decide +kernel
theorem dX9_number_22 : decode cX9_number 22 = .ok (.l2i, 1) := by decide +kernel
theorem dX9_number_23 : decode cX9_number 23 = .ok (.goto 4, 3) := by decide +kernel
theorem dX9_number_26 : decode cX9_number 26 = .ok (.iconst (-1), 1) := by decide +kernel
theorem dX9_number_27 : decode cX9_number 27 = .ok (.ireturn, 1) := by decide +kernel
theorem dX9_verb_0 : decode cX9_verb 0 = .ok (.getstatic 74, 3) := by decide +kernel
theorem dX9_verb_3 : decode cX9_verb 3 = .ok (.astore_n 1, 1) := by decide +kernel
theorem dX9_verb_4 : decode cX9_verb 4 = .ok (.aload_n 1, 1) := by decide +kernel
theorem dX9_verb_5 : decode cX9_verb 5 = .ok (.arraylength, 1) := by decide +kernel
theorem dX9_verb_6 : decode cX9_verb 6 = .ok (.istore_n 2, 1) := by decide +kernel
theorem dX9_verb_7 : decode cX9_verb 7 = .ok (.iconst 0, 1) := by decide +kernel
theorem dX9_verb_8 : decode cX9_verb 8 = .ok (.istore_n 3, 1) := by decide +kernel
theorem dX9_verb_9 : decode cX9_verb 9 = .ok (.iload_n 3, 1) := by decide +kernel
theorem dX9_verb_10 : decode cX9_verb 10 = .ok (.iload_n 2, 1) := by decide +kernel
theorem dX9_verb_11 : decode cX9_verb 11 = .ok (.if_icmp .ge 47, 3) := by decide +kernel
theorem dX9_verb_14 : decode cX9_verb 14 = .ok (.aload_n 1, 1) := by decide +kernel
theorem dX9_verb_15 : decode cX9_verb 15 = .ok (.iload_n 3, 1) := by decide +kernel
theorem dX9_verb_16 : decode cX9_verb 16 = .ok (.aaload, 1) := by decide +kernel
theorem dX9_verb_17 : decode cX9_verb 17 = .ok (.astore 4, 2) := by decide +kernel
theorem dX9_verb_19 : decode cX9_verb 19 = .ok (.aload_n 0, 1) := by decide +kernel
theorem dX9_verb_20 : decode cX9_verb 20 = .ok (.getfield 15, 3) := by decide +kernel
theorem dX9_verb_23 : decode cX9_verb 23 = .ok (.aload_n 0, 1) := by decide +kernel
theorem dX9_verb_24 : decode cX9_verb 24 = .ok (.getfield 55, 3) := by decide +kernel
theorem dX9_verb_27 : decode cX9_verb 27 = .ok (.iaload, 1) := by decide +kernel
theorem dX9_verb_28 : decode cX9_verb 28 = .ok (.iconst 1, 1) := by decide +kernel
theorem dX9_verb_29 : decode cX9_verb 29 = .ok (.if_icmp .ne 23, 3) := by decide +kernel
theorem dX9_verb_32 : decode cX9_verb 32 = .ok (.aload 4, 2) := by decide +kernel
theorem dX9_verb_34 : decode cX9_verb 34 = .ok (.aload_n 0, 1) := by decide +kernel
theorem dX9_verb_35 : decode cX9_verb 35 = .ok (.getfield 22, 3) := by decide +kernel
theorem dX9_verb_38 : decode cX9_verb 38 = .ok (.aload_n 0, 1) := by decide +kernel
theorem dX9_verb_39 : decode cX9_verb 39 = .ok (.getfield 55, 3) := by decide +kernel
theorem dX9_verb_42 : decode cX9_verb 42 = .ok (.laload, 1) := by decide +kernel
theorem dX9_verb_43 : decode cX9_verb 43 = .ok (.invokevirtual 78, 3) := by decide +kernel
theorem dX9_verb_46 : decode cX9_verb 46 = .ok (.ifCond .eq 6, 3) := by decide +kernel
theorem dX9_verb_49 : decode cX9_verb 49 = .ok (.aload 4, 2) := by decide +kernel
theorem dX9_verb_51 : decode cX9_verb 51 = .ok (.areturn, 1) := by decide +kernel
theorem dX9_verb_52 : decode cX9_verb 52 = .ok (.iinc 3 1, 3) := by decide +kernel
theorem dX9_verb_55 : decode cX9_verb 55 = .ok (.goto (-46), 3) := by decide +kernel
theorem dX9_verb_58 : decode cX9_verb 58 = .ok (.getstatic 84, 3) := by decide +kernel
theorem dX9_verb_61 : decode cX9_verb 61 = .ok (.areturn, 1) := by decide +kernel
theorem dX9_failIf_0 : decode cX9_failIf 0 = .ok (.iload_n 1, 1) := by decide +kernel
theorem dX9_failIf_1 : decode cX9_failIf 1 = .ok (.ifCond .eq 28, 3) := by decide +kernel
theorem dX9_failIf_4 : decode cX9_failIf 4 = .ok (.aload_n 0, 1) := by decide +kernel
theorem dX9_failIf_5 : decode cX9_failIf 5 = .ok (.getfield 58, 3) := by decide +kernel
theorem dX9_failIf_8 : decode cX9_failIf 8 = .ok (.ifCond .ne 21, 3) := by decide +kernel
theorem dX9_failIf_11 : decode cX9_failIf 11 = .ok (.aload_n 0, 1) := by decide +kernel
theorem dX9_failIf_12 : decode cX9_failIf 12 = .ok (.iload_n 2, 1) := by decide +kernel
theorem dX9_failIf_13 : decode cX9_failIf 13 = .ok (.putfield 58, 3) := by decide +kernel
theorem dX9_failIf_16 : decode cX9_failIf 16 = .ok (.aload_n 0, 1) := by decide +kernel
theorem dX9_failIf_17 : decode cX9_failIf 17 = .ok (.aload_n 0, 1) := by decide +kernel
theorem dX9_failIf_18 : decode cX9_failIf 18 = .ok (.getfield 19, 3) := by decide +kernel
theorem dX9_failIf_21 : decode cX9_failIf 21 = .ok (.aload_n 0, 1) := by decide +kernel
theorem dX9_failIf_22 : decode cX9_failIf 22 = .ok (.getfield 55, 3) := by decide +kernel
theorem dX9_failIf_25 : decode cX9_failIf 25 = .ok (.iaload, 1) := by decide +kernel
theorem dX9_failIf_26 : decode cX9_failIf 26 = .ok (.putfield 26, 3) := by decide +kernel
theorem dX9_failIf_29 : decode cX9_failIf 29 = .ok (.return_, 1) := by decide +kernel
theorem dX9_expectSign_0 : decode cX9_expectSign 0 = .ok (.aload_n 0, 1) := by decide +kernel
theorem dX9_expectSign_1 : decode cX9_expectSign 1 = .ok (.aload_n 0, 1) := by decide +kernel
theorem dX9_expectSign_2 : decode cX9_expectSign 2 = .ok (.iload_n 1, 1) := by decide +kernel
theorem dX9_expectSign_3 : decode cX9_expectSign 3 = .ok (.invokevirtual 88, 3) := by decide +kernel
theorem dX9_expectSign_6 : decode cX9_expectSign 6 = .ok (.ifCond .ne 7, 3) := by decide +kernel
theorem dX9_expectSign_9 : decode cX9_expectSign 9 = .ok (.iconst 1, 1) := by decide +kernel
theorem dX9_expectSign_10 : decode cX9_expectSign 10 = .ok (.goto 4, 3) := by decide +kernel
theorem dX9_expectSign_13 : decode cX9_expectSign 13 = .ok (.iconst 0, 1) := by decide +kernel
theorem dX9_expectSign_14 : decode cX9_expectSign 14 = .ok (.iconst 1, 1) := by decide +kernel
theorem dX9_expectSign_15 : decode cX9_expectSign 15 = .ok (.invokevirtual 92, 3) := by decide +kernel
theorem dX9_expectSign_18 : decode cX9_expectSign 18 = .ok (.return_, 1) := by decide +kernel
theorem dX9_expectNumber_0 : decode cX9_expectNumber 0 = .ok (.aload_n 0, 1) := by decide +kernel
theorem dX9_expectNumber_1 : decode cX9_expectNumber 1 = .ok (.aload_n 0, 1) := by decide +kernel
theorem dX9_expectNumber_2 : decode cX9_expectNumber 2 = .ok (.getfield 15, 3) := by decide +kernel
theorem dX9_expectNumber_5 : decode cX9_expectNumber 5 = .ok (.aload_n 0, 1) := by decide +kernel
theorem dX9_expectNumber_6 : decode cX9_expectNumber 6 = .ok (.getfield 55, 3) := by decide +kernel
theorem dX9_expectNumber_9 : decode cX9_expectNumber 9 = .ok (.iaload, 1) := by decide +kernel
theorem dX9_expectNumber_10 : decode cX9_expectNumber 10 = .ok (.iconst 2, 1) := by decide +kernel
theorem dX9_expectNumber_11 : decode cX9_expectNumber 11 = .ok (.if_icmp .eq 7, 3) := by decide +kernel
theorem dX9_expectNumber_14 : decode cX9_expectNumber 14 = .ok (.iconst 1, 1) := by decide +kernel
theorem dX9_expectNumber_15 : decode cX9_expectNumber 15 = .ok (.goto 4, 3) := by decide +kernel
theorem dX9_expectNumber_18 : decode cX9_expectNumber 18 = .ok (.iconst 0, 1) := by decide +kernel
theorem dX9_expectNumber_19 : decode cX9_expectNumber 19 = .ok (.iconst 1, 1) := by decide +kernel
theorem dX9_expectNumber_20 : decode cX9_expectNumber 20 = .ok (.invokevirtual 92, 3) := by decide +kernel
theorem dX9_expectNumber_23 : decode cX9_expectNumber 23 = .ok (.aload_n 0, 1) := by decide +kernel
theorem dX9_expectNumber_24 : decode cX9_expectNumber 24 = .ok (.aload_n 0, 1) := by decide +kernel
theorem dX9_expectNumber_25 : decode cX9_expectNumber 25 = .ok (.invokevirtual 96, 3) := by decide +kernel
theorem dX9_expectNumber_28 : decode cX9_expectNumber 28 = .ok (.iload_n 1, 1) := by decide +kernel
theorem dX9_expectNumber_29 : decode cX9_expectNumber 29 = .ok (.iload_n 2, 1) := by decide +kernel
theorem dX9_expectNumber_30 : decode cX9_expectNumber 30 = .ok (.invokestatic 37, 3) := by decide +kernel
theorem dX9_expectNumber_33 : decode cX9_expectNumber 33 = .ok (.ifCond .ne 7, 3) := by decide +kernel
theorem dX9_expectNumber_36 : decode cX9_expectNumber 36 = .ok (.iconst 1, 1) := by decide +kernel
theorem dX9_expectNumber_37 : decode cX9_expectNumber 37 = .ok (.goto 4, 3) := by decide +kernel
theorem dX9_expectNumber_40 : decode cX9_expectNumber 40 = .ok (.iconst 0, 1) := by decide +kernel
theorem dX9_expectNumber_41 : decode cX9_expectNumber 41 = .ok (.iconst 2, 1) := by decide +kernel
theorem dX9_expectNumber_42 : decode cX9_expectNumber 42 = .ok (.invokevirtual 92, 3) := by decide +kernel
theorem dX9_expectNumber_45 : decode cX9_expectNumber 45 = .ok (.return_, 1) := by decide +kernel
theorem dX9_skip_0 : decode cX9_skip 0 = .ok (.aload_n 0, 1) := by decide +kernel
theorem dX9_skip_1 : decode cX9_skip 1 = .ok (.getfield 58, 3) := by decide +kernel
theorem dX9_skip_4 : decode cX9_skip 4 = .ok (.ifCond .ne 24, 3) := by decide +kernel
theorem dX9_skip_7 : decode cX9_skip 7 = .ok (.aload_n 0, 1) := by decide +kernel
theorem dX9_skip_8 : decode cX9_skip 8 = .ok (.getfield 55, 3) := by decide +kernel
theorem dX9_skip_11 : decode cX9_skip 11 = .ok (.aload_n 0, 1) := by decide +kernel
theorem dX9_skip_12 : decode cX9_skip 12 = .ok (.getfield 49, 3) := by decide +kernel
theorem dX9_skip_15 : decode cX9_skip 15 = .ok (.if_icmp .ge 13, 3) := by decide +kernel
theorem dX9_skip_18 : decode cX9_skip 18 = .ok (.aload_n 0, 1) := by decide +kernel
theorem dX9_skip_19 : decode cX9_skip 19 = .ok (.dup, 1) := by decide +kernel
theorem dX9_skip_20 : decode cX9_skip 20 = .ok (.getfield 55, 3) := by decide +kernel
theorem dX9_skip_23 : decode cX9_skip 23 = .ok (.iconst 1, 1) := by decide +kernel
theorem dX9_skip_24 : decode cX9_skip 24 = .ok (.iadd, 1) := by decide +kernel
theorem dX9_skip_25 : decode cX9_skip 25 = .ok (.putfield 55, 3) := by decide +kernel
theorem dX9_skip_28 : decode cX9_skip 28 = .ok (.return_, 1) := by decide +kernel
theorem dX9_takeSign_0 : decode cX9_takeSign 0 = .ok (.aload_n 0, 1) := by decide +kernel
theorem dX9_takeSign_1 : decode cX9_takeSign 1 = .ok (.iload_n 1, 1) := by decide +kernel
theorem dX9_takeSign_2 : decode cX9_takeSign 2 = .ok (.invokevirtual 100, 3) := by decide +kernel
theorem dX9_takeSign_5 : decode cX9_takeSign 5 = .ok (.aload_n 0, 1) := by decide +kernel
theorem dX9_takeSign_6 : decode cX9_takeSign 6 = .ok (.invokevirtual 104, 3) := by decide +kernel
theorem dX9_takeSign_9 : decode cX9_takeSign 9 = .ok (.return_, 1) := by decide +kernel
theorem dX9_takeNumber_0 : decode cX9_takeNumber 0 = .ok (.aload_n 0, 1) := by decide +kernel
theorem dX9_takeNumber_1 : decode cX9_takeNumber 1 = .ok (.invokevirtual 96, 3) := by decide +kernel
theorem dX9_takeNumber_4 : decode cX9_takeNumber 4 = .ok (.istore_n 3, 1) := by decide +kernel
theorem dX9_takeNumber_5 : decode cX9_takeNumber 5 = .ok (.aload_n 0, 1) := by decide +kernel
theorem dX9_takeNumber_6 : decode cX9_takeNumber 6 = .ok (.iload_n 1, 1) := by decide +kernel
theorem dX9_takeNumber_7 : decode cX9_takeNumber 7 = .ok (.iload_n 2, 1) := by decide +kernel
theorem dX9_takeNumber_8 : decode cX9_takeNumber 8 = .ok (.invokevirtual 107, 3) := by decide +kernel
theorem dX9_takeNumber_11 : decode cX9_takeNumber 11 = .ok (.aload_n 0, 1) := by decide +kernel
theorem dX9_takeNumber_12 : decode cX9_takeNumber 12 = .ok (.invokevirtual 104, 3) := by decide +kernel
theorem dX9_takeNumber_15 : decode cX9_takeNumber 15 = .ok (.iload_n 3, 1) := by decide +kernel
theorem dX9_takeNumber_16 : decode cX9_takeNumber 16 = .ok (.ireturn, 1) := by decide +kernel
theorem dX9_takeNewName_0 : decode cX9_takeNewName 0 = .ok (.aload_n 0, 1) := by decide +kernel
theorem dX9_takeNewName_1 : decode cX9_takeNewName 1 = .ok (.invokevirtual 111, 3) := by decide +kernel
theorem dX9_takeNewName_4 : decode cX9_takeNewName 4 = .ok (.lstore_n 2, 1) := by decide +kernel
theorem dX9_takeNewName_5 : decode cX9_takeNewName 5 = .ok (.aload_n 0, 1) := by decide +kernel
theorem dX9_takeNewName_6 : decode cX9_takeNewName 6 = .ok (.aload_n 0, 1) := by decide +kernel
theorem dX9_takeNewName_7 : decode cX9_takeNewName 7 = .ok (.getfield 15, 3) := by decide +kernel
theorem dX9_takeNewName_10 : decode cX9_takeNewName 10 = .ok (.aload_n 0, 1) := by decide +kernel
theorem dX9_takeNewName_11 : decode cX9_takeNewName 11 = .ok (.getfield 55, 3) := by decide +kernel
theorem dX9_takeNewName_14 : decode cX9_takeNewName 14 = .ok (.iaload, 1) := by decide +kernel
theorem dX9_takeNewName_15 : decode cX9_takeNewName 15 = .ok (.iconst 1, 1) := by decide +kernel
theorem dX9_takeNewName_16 : decode cX9_takeNewName 16 = .ok (.if_icmp .eq 7, 3) := by decide +kernel
theorem dX9_takeNewName_19 : decode cX9_takeNewName 19 = .ok (.iconst 1, 1) := by decide +kernel
theorem dX9_takeNewName_20 : decode cX9_takeNewName 20 = .ok (.goto 4, 3) := by decide +kernel
theorem dX9_takeNewName_23 : decode cX9_takeNewName 23 = .ok (.iconst 0, 1) := by decide +kernel
theorem dX9_takeNewName_24 : decode cX9_takeNewName 24 = .ok (.iconst 1, 1) := by decide +kernel
theorem dX9_takeNewName_25 : decode cX9_takeNewName 25 = .ok (.invokevirtual 92, 3) := by decide +kernel
theorem dX9_takeNewName_28 : decode cX9_takeNewName 28 = .ok (.aload_n 0, 1) := by decide +kernel
theorem dX9_takeNewName_29 : decode cX9_takeNewName 29 = .ok (.iload_n 1, 1) := by decide +kernel
theorem dX9_takeNewName_30 : decode cX9_takeNewName 30 = .ok (.iconst (-1), 1) := by decide +kernel
theorem dX9_takeNewName_31 : decode cX9_takeNewName 31 = .ok (.if_icmp .eq 7, 3) := by decide +kernel
theorem dX9_takeNewName_34 : decode cX9_takeNewName 34 = .ok (.iconst 1, 1) := by decide +kernel
theorem dX9_takeNewName_35 : decode cX9_takeNewName 35 = .ok (.goto 4, 3) := by decide +kernel
theorem dX9_takeNewName_38 : decode cX9_takeNewName 38 = .ok (.iconst 0, 1) := by decide +kernel
theorem dX9_takeNewName_39 : decode cX9_takeNewName 39 = .ok (.iconst 3, 1) := by decide +kernel
theorem dX9_takeNewName_40 : decode cX9_takeNewName 40 = .ok (.invokevirtual 92, 3) := by decide +kernel
theorem dX9_takeNewName_43 : decode cX9_takeNewName 43 = .ok (.aload_n 0, 1) := by decide +kernel
theorem dX9_takeNewName_44 : decode cX9_takeNewName 44 = .ok (.invokevirtual 104, 3) := by decide +kernel
theorem dX9_takeNewName_47 : decode cX9_takeNewName 47 = .ok (.lload_n 2, 1) := by decide +kernel
theorem dX9_takeNewName_48 : decode cX9_takeNewName 48 = .ok (.lreturn, 1) := by decide +kernel
theorem dX9_takeValley_0 : decode cX9_takeValley 0 = .ok (.aload_n 1, 1) := by decide +kernel
theorem dX9_takeValley_1 : decode cX9_takeValley 1 = .ok (.aload_n 0, 1) := by decide +kernel
theorem dX9_takeValley_2 : decode cX9_takeValley 2 = .ok (.invokevirtual 111, 3) := by decide +kernel
theorem dX9_takeValley_5 : decode cX9_takeValley 5 = .ok (.invokevirtual 115, 3) := by decide +kernel
theorem dX9_takeValley_8 : decode cX9_takeValley 8 = .ok (.istore_n 2, 1) := by decide +kernel
theorem dX9_takeValley_9 : decode cX9_takeValley 9 = .ok (.aload_n 0, 1) := by decide +kernel
theorem dX9_takeValley_10 : decode cX9_takeValley 10 = .ok (.iload_n 2, 1) := by decide +kernel
theorem dX9_takeValley_11 : decode cX9_takeValley 11 = .ok (.invokevirtual 121, 3) := by decide +kernel
theorem dX9_takeValley_14 : decode cX9_takeValley 14 = .ok (.iload_n 2, 1) := by decide +kernel
theorem dX9_takeValley_15 : decode cX9_takeValley 15 = .ok (.ireturn, 1) := by decide +kernel
theorem dX9_takeCustomer_0 : decode cX9_takeCustomer 0 = .ok (.aload_n 1, 1) := by decide +kernel
theorem dX9_takeCustomer_1 : decode cX9_takeCustomer 1 = .ok (.aload_n 0, 1) := by decide +kernel
theorem dX9_takeCustomer_2 : decode cX9_takeCustomer 2 = .ok (.invokevirtual 111, 3) := by decide +kernel
theorem dX9_takeCustomer_5 : decode cX9_takeCustomer 5 = .ok (.invokevirtual 125, 3) := by decide +kernel
theorem dX9_takeCustomer_8 : decode cX9_takeCustomer 8 = .ok (.istore_n 2, 1) := by decide +kernel
theorem dX9_takeCustomer_9 : decode cX9_takeCustomer 9 = .ok (.aload_n 0, 1) := by decide +kernel
theorem dX9_takeCustomer_10 : decode cX9_takeCustomer 10 = .ok (.iload_n 2, 1) := by decide +kernel
theorem dX9_takeCustomer_11 : decode cX9_takeCustomer 11 = .ok (.invokevirtual 121, 3) := by decide +kernel
theorem dX9_takeCustomer_14 : decode cX9_takeCustomer 14 = .ok (.iload_n 2, 1) := by decide +kernel
theorem dX9_takeCustomer_15 : decode cX9_takeCustomer 15 = .ok (.ireturn, 1) := by decide +kernel
theorem dX9_takeKnownName_0 : decode cX9_takeKnownName 0 = .ok (.aload_n 0, 1) := by decide +kernel
theorem dX9_takeKnownName_1 : decode cX9_takeKnownName 1 = .ok (.aload_n 0, 1) := by decide +kernel
theorem dX9_takeKnownName_2 : decode cX9_takeKnownName 2 = .ok (.getfield 15, 3) := by decide +kernel
theorem dX9_takeKnownName_5 : decode cX9_takeKnownName 5 = .ok (.aload_n 0, 1) := by decide +kernel
theorem dX9_takeKnownName_6 : decode cX9_takeKnownName 6 = .ok (.getfield 55, 3) := by decide +kernel
theorem dX9_takeKnownName_9 : decode cX9_takeKnownName 9 = .ok (.iaload, 1) := by decide +kernel
theorem dX9_takeKnownName_10 : decode cX9_takeKnownName 10 = .ok (.iconst 1, 1) := by decide +kernel
theorem dX9_takeKnownName_11 : decode cX9_takeKnownName 11 = .ok (.if_icmp .eq 7, 3) := by decide +kernel
theorem dX9_takeKnownName_14 : decode cX9_takeKnownName 14 = .ok (.iconst 1, 1) := by decide +kernel
theorem dX9_takeKnownName_15 : decode cX9_takeKnownName 15 = .ok (.goto 4, 3) := by decide +kernel
theorem dX9_takeKnownName_18 : decode cX9_takeKnownName 18 = .ok (.iconst 0, 1) := by decide +kernel
theorem dX9_takeKnownName_19 : decode cX9_takeKnownName 19 = .ok (.iconst 1, 1) := by decide +kernel
theorem dX9_takeKnownName_20 : decode cX9_takeKnownName 20 = .ok (.invokevirtual 92, 3) := by decide +kernel
theorem dX9_takeKnownName_23 : decode cX9_takeKnownName 23 = .ok (.aload_n 0, 1) := by decide +kernel
theorem dX9_takeKnownName_24 : decode cX9_takeKnownName 24 = .ok (.iload_n 1, 1) := by decide +kernel
theorem dX9_takeKnownName_25 : decode cX9_takeKnownName 25 = .ok (.iconst (-1), 1) := by decide +kernel
theorem dX9_takeKnownName_26 : decode cX9_takeKnownName 26 = .ok (.if_icmp .ne 7, 3) := by decide +kernel
theorem dX9_takeKnownName_29 : decode cX9_takeKnownName 29 = .ok (.iconst 1, 1) := by decide +kernel
theorem dX9_takeKnownName_30 : decode cX9_takeKnownName 30 = .ok (.goto 4, 3) := by decide +kernel
theorem dX9_takeKnownName_33 : decode cX9_takeKnownName 33 = .ok (.iconst 0, 1) := by decide +kernel
theorem dX9_takeKnownName_34 : decode cX9_takeKnownName 34 = .ok (.iconst 4, 1) := by decide +kernel
theorem dX9_takeKnownName_35 : decode cX9_takeKnownName 35 = .ok (.invokevirtual 92, 3) := by decide +kernel
theorem dX9_takeKnownName_38 : decode cX9_takeKnownName 38 = .ok (.aload_n 0, 1) := by decide +kernel
theorem dX9_takeKnownName_39 : decode cX9_takeKnownName 39 = .ok (.invokevirtual 104, 3) := by decide +kernel
theorem dX9_takeKnownName_42 : decode cX9_takeKnownName 42 = .ok (.return_, 1) := by decide +kernel
theorem dX10_init_0 : decode cX10_init 0 = .ok (.aload_n 0, 1) := by decide +kernel
theorem dX10_init_1 : decode cX10_init 1 = .ok (.invokespecial 1, 3) := by decide +kernel
theorem dX10_init_4 : decode cX10_init 4 = .ok (.return_, 1) := by decide +kernel
theorem dX10_copyFrom_0 : decode cX10_copyFrom 0 = .ok (.aload_n 0, 1) := by decide +kernel
theorem dX10_copyFrom_1 : decode cX10_copyFrom 1 = .ok (.aload_n 1, 1) := by decide +kernel
theorem dX10_copyFrom_2 : decode cX10_copyFrom 2 = .ok (.getfield 7, 3) := by decide +kernel
theorem dX10_copyFrom_5 : decode cX10_copyFrom 5 = .ok (.putfield 7, 3) := by decide +kernel
theorem dX10_copyFrom_8 : decode cX10_copyFrom 8 = .ok (.aload_n 0, 1) := by decide +kernel
theorem dX10_copyFrom_9 : decode cX10_copyFrom 9 = .ok (.aload_n 1, 1) := by decide +kernel
theorem dX10_copyFrom_10 : decode cX10_copyFrom 10 = .ok (.getfield 13, 3) := by decide +kernel
theorem dX10_copyFrom_13 : decode cX10_copyFrom 13 = .ok (.putfield 13, 3) := by decide +kernel
theorem dX10_copyFrom_16 : decode cX10_copyFrom 16 = .ok (.aload_n 0, 1) := by decide +kernel
theorem dX10_copyFrom_17 : decode cX10_copyFrom 17 = .ok (.aload_n 1, 1) := by decide +kernel
theorem dX10_copyFrom_18 : decode cX10_copyFrom 18 = .ok (.getfield 17, 3) := by decide +kernel
theorem dX10_copyFrom_21 : decode cX10_copyFrom 21 = .ok (.putfield 17, 3) := by decide +kernel
theorem dX10_copyFrom_24 : decode cX10_copyFrom 24 = .ok (.aload_n 0, 1) := by decide +kernel
theorem dX10_copyFrom_25 : decode cX10_copyFrom 25 = .ok (.aload_n 1, 1) := by decide +kernel
theorem dX10_copyFrom_26 : decode cX10_copyFrom 26 = .ok (.getfield 20, 3) := by decide +kernel
theorem dX10_copyFrom_29 : decode cX10_copyFrom 29 = .ok (.putfield 20, 3) := by decide +kernel
theorem dX10_copyFrom_32 : decode cX10_copyFrom 32 = .ok (.aload_n 0, 1) := by decide +kernel
theorem dX10_copyFrom_33 : decode cX10_copyFrom 33 = .ok (.aload_n 1, 1) := by decide +kernel
theorem dX10_copyFrom_34 : decode cX10_copyFrom 34 = .ok (.getfield 23, 3) := by decide +kernel
theorem dX10_copyFrom_37 : decode cX10_copyFrom 37 = .ok (.putfield 23, 3) := by decide +kernel
theorem dX10_copyFrom_40 : decode cX10_copyFrom 40 = .ok (.aload_n 0, 1) := by decide +kernel
theorem dX10_copyFrom_41 : decode cX10_copyFrom 41 = .ok (.aload_n 1, 1) := by decide +kernel
theorem dX10_copyFrom_42 : decode cX10_copyFrom 42 = .ok (.getfield 26, 3) := by decide +kernel
theorem dX10_copyFrom_45 : decode cX10_copyFrom 45 = .ok (.putfield 26, 3) := by decide +kernel
theorem dX10_copyFrom_48 : decode cX10_copyFrom 48 = .ok (.aload_n 0, 1) := by decide +kernel
theorem dX10_copyFrom_49 : decode cX10_copyFrom 49 = .ok (.aload_n 1, 1) := by decide +kernel
theorem dX10_copyFrom_50 : decode cX10_copyFrom 50 = .ok (.getfield 29, 3) := by decide +kernel
theorem dX10_copyFrom_53 : decode cX10_copyFrom 53 = .ok (.putfield 29, 3) := by decide +kernel
theorem dX10_copyFrom_56 : decode cX10_copyFrom 56 = .ok (.aload_n 0, 1) := by decide +kernel
theorem dX10_copyFrom_57 : decode cX10_copyFrom 57 = .ok (.aload_n 1, 1) := by decide +kernel
theorem dX10_copyFrom_58 : decode cX10_copyFrom 58 = .ok (.getfield 32, 3) := by decide +kernel
theorem dX10_copyFrom_61 : decode cX10_copyFrom 61 = .ok (.putfield 32, 3) := by decide +kernel
theorem dX10_copyFrom_64 : decode cX10_copyFrom 64 = .ok (.return_, 1) := by decide +kernel
theorem dX10_loudnessNeeded_0 : decode cX10_loudnessNeeded 0 = .ok (.iconst 2, 1) := by decide +kernel
theorem dX10_loudnessNeeded_1 : decode cX10_loudnessNeeded 1 = .ok (.iload_n 1, 1) := by decide +kernel
theorem dX10_loudnessNeeded_2 : decode cX10_loudnessNeeded 2 = .ok (.imul, 1) := by decide +kernel
theorem dX10_loudnessNeeded_3 : decode cX10_loudnessNeeded 3 = .ok (.aload_n 0, 1) := by decide +kernel
theorem dX10_loudnessNeeded_4 : decode cX10_loudnessNeeded 4 = .ok (.getfield 23, 3) := by decide +kernel
theorem dX10_loudnessNeeded_7 : decode cX10_loudnessNeeded 7 = .ok (.iadd, 1) := by decide +kernel
theorem dX10_loudnessNeeded_8 : decode cX10_loudnessNeeded 8 = .ok (.iconst 1, 1) := by decide +kernel
theorem dX10_loudnessNeeded_9 : decode cX10_loudnessNeeded 9 = .ok (.iadd, 1) := by decide +kernel
theorem dX10_loudnessNeeded_10 : decode cX10_loudnessNeeded 10 = .ok (.ireturn, 1) := by decide +kernel
theorem dX11_isSpelled_0 : decode cX11_isSpelled 0 = .ok (.lload_n 1, 1) := by decide +kernel
theorem dX11_isSpelled_1 : decode cX11_isSpelled 1 = .ok (.aload_n 0, 1) := by decide +kernel
theorem dX11_isSpelled_2 : decode cX11_isSpelled 2 = .ok (.getfield 61, 3) := by decide +kernel
theorem dX11_isSpelled_5 : decode cX11_isSpelled 5 = .ok (.invokevirtual 72, 3) := by decide +kernel
theorem dX11_isSpelled_8 : decode cX11_isSpelled 8 = .ok (.invokestatic 78, 3) := by decide +kernel
theorem dX11_isSpelled_11 : decode cX11_isSpelled 11 = .ok (.iconst (-1), 1) := by decide +kernel
theorem dX11_isSpelled_12 : decode cX11_isSpelled 12 = .ok (.if_icmp .ne 7, 3) := by decide +kernel
theorem dX11_isSpelled_15 : decode cX11_isSpelled 15 = .ok (.iconst 1, 1) := by decide +kernel
theorem dX11_isSpelled_16 : decode cX11_isSpelled 16 = .ok (.goto 4, 3) := by decide +kernel
theorem dX11_isSpelled_19 : decode cX11_isSpelled 19 = .ok (.iconst 0, 1) := by decide +kernel
theorem dX11_isSpelled_20 : decode cX11_isSpelled 20 = .ok (.istore_n 3, 1) := by decide +kernel
theorem dX11_isSpelled_21 : decode cX11_isSpelled 21 = .ok (.iconst 0, 1) := by decide +kernel
theorem dX11_isSpelled_22 : decode cX11_isSpelled 22 = .ok (.istore 4, 2) := by decide +kernel
theorem dX11_isSpelled_24 : decode cX11_isSpelled 24 = .ok (.iload 4, 2) := by decide +kernel
theorem dX11_isSpelled_26 : decode cX11_isSpelled 26 = .ok (.aload_n 0, 1) := by decide +kernel
theorem dX11_isSpelled_27 : decode cX11_isSpelled 27 = .ok (.getfield 61, 3) := by decide +kernel
theorem dX11_isSpelled_30 : decode cX11_isSpelled 30 = .ok (.invokevirtual 72, 3) := by decide +kernel
theorem dX11_isSpelled_33 : decode cX11_isSpelled 33 = .ok (.if_icmp .ge 37, 3) := by decide +kernel
theorem dX11_isSpelled_36 : decode cX11_isSpelled 36 = .ok (.iload_n 3, 1) := by decide +kernel
theorem dX11_isSpelled_37 : decode cX11_isSpelled 37 = .ok (.ifCond .eq 25, 3) := by decide +kernel
theorem dX11_isSpelled_40 : decode cX11_isSpelled 40 = .ok (.lload_n 1, 1) := by decide +kernel
theorem dX11_isSpelled_41 : decode cX11_isSpelled 41 = .ok (.iload 4, 2) := by decide +kernel
theorem dX11_isSpelled_43 : decode cX11_isSpelled 43 = .ok (.invokestatic 78, 3) := by decide +kernel
theorem dX11_isSpelled_46 : decode cX11_isSpelled 46 = .ok (.aload_n 0, 1) := by decide +kernel
theorem dX11_isSpelled_47 : decode cX11_isSpelled 47 = .ok (.getfield 61, 3) := by decide +kernel
theorem dX11_isSpelled_50 : decode cX11_isSpelled 50 = .ok (.iload 4, 2) := by decide +kernel
theorem dX11_isSpelled_52 : decode cX11_isSpelled 52 = .ok (.invokevirtual 82, 3) := by decide +kernel
theorem dX11_isSpelled_55 : decode cX11_isSpelled 55 = .ok (.if_icmp .ne 7, 3) := by decide +kernel
theorem dX11_isSpelled_58 : decode cX11_isSpelled 58 = .ok (.iconst 1, 1) := by decide +kernel
theorem dX11_isSpelled_59 : decode cX11_isSpelled 59 = .ok (.goto 4, 3) := by decide +kernel
theorem dX11_isSpelled_62 : decode cX11_isSpelled 62 = .ok (.iconst 0, 1) := by decide +kernel
theorem dX11_isSpelled_63 : decode cX11_isSpelled 63 = .ok (.istore_n 3, 1) := by decide +kernel
theorem dX11_isSpelled_64 : decode cX11_isSpelled 64 = .ok (.iinc 4 1, 3) := by decide +kernel
theorem dX11_isSpelled_67 : decode cX11_isSpelled 67 = .ok (.goto (-43), 3) := by decide +kernel
theorem dX11_isSpelled_70 : decode cX11_isSpelled 70 = .ok (.iload_n 3, 1) := by decide +kernel
theorem dX11_isSpelled_71 : decode cX11_isSpelled 71 = .ok (.ireturn, 1) := by decide +kernel
theorem dX12_init_0 : decode cX12_init 0 = .ok (.aload_n 0, 1) := by decide +kernel
theorem dX12_init_1 : decode cX12_init 1 = .ok (.invokespecial 1, 3) := by decide +kernel
theorem dX12_init_4 : decode cX12_init 4 = .ok (.aload_n 0, 1) := by decide +kernel
theorem dX12_init_5 : decode cX12_init 5 = .ok (.new 7, 3) := by decide +kernel
theorem dX12_init_8 : decode cX12_init 8 = .ok (.dup, 1) := by decide +kernel
theorem dX12_init_9 : decode cX12_init 9 = .ok (.invokespecial 9, 3) := by decide +kernel
theorem dX12_init_12 : decode cX12_init 12 = .ok (.putfield 10, 3) := by decide +kernel
theorem dX12_init_15 : decode cX12_init 15 = .ok (.aload_n 0, 1) := by decide +kernel
theorem dX12_init_16 : decode cX12_init 16 = .ok (.new 16, 3) := by decide +kernel
theorem dX12_init_19 : decode cX12_init 19 = .ok (.dup, 1) := by decide +kernel
theorem dX12_init_20 : decode cX12_init 20 = .ok (.invokespecial 18, 3) := by decide +kernel
theorem dX12_init_23 : decode cX12_init 23 = .ok (.putfield 19, 3) := by decide +kernel
theorem dX12_init_26 : decode cX12_init 26 = .ok (.aload_n 0, 1) := by decide +kernel
theorem dX12_init_27 : decode cX12_init 27 = .ok (.new 16, 3) := by decide +kernel
theorem dX12_init_30 : decode cX12_init 30 = .ok (.dup, 1) := by decide +kernel
theorem dX12_init_31 : decode cX12_init 31 = .ok (.invokespecial 18, 3) := by decide +kernel
theorem dX12_init_34 : decode cX12_init 34 = .ok (.putfield 23, 3) := by decide +kernel
theorem dX12_init_37 : decode cX12_init 37 = .ok (.aload_n 0, 1) := by decide +kernel
theorem dX12_init_38 : decode cX12_init 38 = .ok (.new 16, 3) := by decide +kernel
theorem dX12_init_41 : decode cX12_init 41 = .ok (.dup, 1) := by decide +kernel
theorem dX12_init_42 : decode cX12_init 42 = .ok (.invokespecial 18, 3) := by decide +kernel
theorem dX12_init_45 : decode cX12_init 45 = .ok (.putfield 26, 3) := by decide +kernel
theorem dX12_init_48 : decode cX12_init 48 = .ok (.aload_n 0, 1) := by decide +kernel
theorem dX12_init_49 : decode cX12_init 49 = .ok (.new 29, 3) := by decide +kernel
theorem dX12_init_52 : decode cX12_init 52 = .ok (.dup, 1) := by decide +kernel
theorem dX12_init_53 : decode cX12_init 53 = .ok (.invokespecial 31, 3) := by decide +kernel
theorem dX12_init_56 : decode cX12_init 56 = .ok (.putfield 32, 3) := by decide +kernel
theorem dX12_init_59 : decode cX12_init 59 = .ok (.aload_n 0, 1) := by decide +kernel
theorem dX12_init_60 : decode cX12_init 60 = .ok (.new 36, 3) := by decide +kernel
theorem dX12_init_63 : decode cX12_init 63 = .ok (.dup, 1) := by decide +kernel
theorem dX12_init_64 : decode cX12_init 64 = .ok (.invokespecial 38, 3) := by decide +kernel
theorem dX12_init_67 : decode cX12_init 67 = .ok (.putfield 39, 3) := by decide +kernel
theorem dX12_init_70 : decode cX12_init 70 = .ok (.aload_n 0, 1) := by decide +kernel
theorem dX12_init_71 : decode cX12_init 71 = .ok (.new 43, 3) := by decide +kernel
theorem dX12_init_74 : decode cX12_init 74 = .ok (.dup, 1) := by decide +kernel
theorem dX12_init_75 : decode cX12_init 75 = .ok (.invokespecial 45, 3) := by decide +kernel
theorem dX12_init_78 : decode cX12_init 78 = .ok (.putfield 46, 3) := by decide +kernel
theorem dX12_init_81 : decode cX12_init 81 = .ok (.aload_n 0, 1) := by decide +kernel
theorem dX12_init_82 : decode cX12_init 82 = .ok (.new 50, 3) := by decide +kernel
theorem dX12_init_85 : decode cX12_init 85 = .ok (.dup, 1) := by decide +kernel
theorem dX12_init_86 : decode cX12_init 86 = .ok (.invokespecial 52, 3) := by decide +kernel
theorem dX12_init_89 : decode cX12_init 89 = .ok (.putfield 53, 3) := by decide +kernel
theorem dX12_init_92 : decode cX12_init 92 = .ok (.aload_n 0, 1) := by decide +kernel
theorem dX12_init_93 : decode cX12_init 93 = .ok (.iconst 0, 1) := by decide +kernel
theorem dX12_init_94 : decode cX12_init 94 = .ok (.putfield 57, 3) := by decide +kernel
theorem dX12_init_97 : decode cX12_init 97 = .ok (.return_, 1) := by decide +kernel
theorem dX12_feed_0 : decode cX12_feed 0 = .ok (.aload_n 0, 1) := by decide +kernel
theorem dX12_feed_1 : decode cX12_feed 1 = .ok (.getfield 10, 3) := by decide +kernel
theorem dX12_feed_4 : decode cX12_feed 4 = .ok (.getfield 61, 3) := by decide +kernel
theorem dX12_feed_7 : decode cX12_feed 7 = .ok (.bipush 20, 2) := by decide +kernel
theorem dX12_feed_9 : decode cX12_feed 9 = .ok (.iadd, 1) := by decide +kernel
theorem dX12_feed_10 : decode cX12_feed 10 = .ok (.sipush 600, 3) := by decide +kernel
theorem dX12_feed_13 : decode cX12_feed 13 = .ok (.if_icmp .gt 7, 3) := by decide +kernel
theorem dX12_feed_16 : decode cX12_feed 16 = .ok (.iconst 1, 1) := by decide +kernel
theorem dX12_feed_17 : decode cX12_feed 17 = .ok (.goto 4, 3) := by decide +kernel
theorem dX12_feed_20 : decode cX12_feed 20 = .ok (.iconst 0, 1) := by decide +kernel
theorem dX12_feed_21 : decode cX12_feed 21 = .ok (.invokestatic 65, 3) := by decide +kernel
theorem dX12_feed_24 : decode cX12_feed 24 = .ok (.aload_n 0, 1) := by decide +kernel
theorem dX12_feed_25 : decode cX12_feed 25 = .ok (.getfield 10, 3) := by decide +kernel
theorem dX12_feed_28 : decode cX12_feed 28 = .ok (.iload_n 1, 1) := by decide +kernel
theorem dX12_feed_29 : decode cX12_feed 29 = .ok (.invokevirtual 69, 3) := by decide +kernel
theorem dX12_feed_32 : decode cX12_feed 32 = .ok (.aload_n 0, 1) := by decide +kernel
theorem dX12_feed_33 : decode cX12_feed 33 = .ok (.getfield 10, 3) := by decide +kernel
theorem dX12_feed_36 : decode cX12_feed 36 = .ok (.iload_n 2, 1) := by decide +kernel
theorem dX12_feed_37 : decode cX12_feed 37 = .ok (.invokevirtual 69, 3) := by decide +kernel
theorem dX12_feed_40 : decode cX12_feed 40 = .ok (.aload_n 0, 1) := by decide +kernel
theorem dX12_feed_41 : decode cX12_feed 41 = .ok (.getfield 10, 3) := by decide +kernel
theorem dX12_feed_44 : decode cX12_feed 44 = .ok (.iload_n 3, 1) := by decide +kernel
theorem dX12_feed_45 : decode cX12_feed 45 = .ok (.invokevirtual 69, 3) := by decide +kernel
theorem dX12_feed_48 : decode cX12_feed 48 = .ok (.aload_n 0, 1) := by decide +kernel
theorem dX12_feed_49 : decode cX12_feed 49 = .ok (.getfield 10, 3) := by decide +kernel
theorem dX12_feed_52 : decode cX12_feed 52 = .ok (.iload 4, 2) := by decide +kernel
theorem dX12_feed_54 : decode cX12_feed 54 = .ok (.invokevirtual 69, 3) := by decide +kernel
theorem dX12_feed_57 : decode cX12_feed 57 = .ok (.aload_n 0, 1) := by decide +kernel
theorem dX12_feed_58 : decode cX12_feed 58 = .ok (.getfield 10, 3) := by decide +kernel
theorem dX12_feed_61 : decode cX12_feed 61 = .ok (.iload 5, 2) := by decide +kernel
theorem dX12_feed_63 : decode cX12_feed 63 = .ok (.invokevirtual 69, 3) := by decide +kernel
theorem dX12_feed_66 : decode cX12_feed 66 = .ok (.aload_n 0, 1) := by decide +kernel
theorem dX12_feed_67 : decode cX12_feed 67 = .ok (.getfield 10, 3) := by decide +kernel
theorem dX12_feed_70 : decode cX12_feed 70 = .ok (.getfield 61, 3) := by decide +kernel
theorem dX12_feed_73 : decode cX12_feed 73 = .ok (.ireturn, 1) := by decide +kernel
theorem dX12_truncate_0 : decode cX12_truncate 0 = .ok (.iload_n 1, 1) := by decide +kernel
theorem dX12_truncate_1 : decode cX12_truncate 1 = .ok (.iconst 0, 1) := by decide +kernel
theorem dX12_truncate_2 : decode cX12_truncate 2 = .ok (.aload_n 0, 1) := by decide +kernel
theorem dX12_truncate_3 : decode cX12_truncate 3 = .ok (.getfield 10, 3) := by decide +kernel
theorem dX12_truncate_6 : decode cX12_truncate 6 = .ok (.getfield 61, 3) := by decide +kernel
theorem dX12_truncate_9 : decode cX12_truncate 9 = .ok (.invokestatic 73, 3) := by decide +kernel
theorem dX12_truncate_12 : decode cX12_truncate 12 = .ok (.invokestatic 77, 3) := by decide +kernel
theorem dX12_truncate_15 : decode cX12_truncate 15 = .ok (.aload_n 0, 1) := by decide +kernel
theorem dX12_truncate_16 : decode cX12_truncate 16 = .ok (.getfield 10, 3) := by decide +kernel
theorem dX12_truncate_19 : decode cX12_truncate 19 = .ok (.iload_n 1, 1) := by decide +kernel
theorem dX12_truncate_20 : decode cX12_truncate 20 = .ok (.putfield 61, 3) := by decide +kernel
theorem dX12_truncate_23 : decode cX12_truncate 23 = .ok (.iload_n 1, 1) := by decide +kernel
theorem dX12_truncate_24 : decode cX12_truncate 24 = .ok (.ireturn, 1) := by decide +kernel
theorem dX12_readText_0 : decode cX12_readText 0 = .ok (.aload_n 0, 1) := by decide +kernel
theorem dX12_readText_1 : decode cX12_readText 1 = .ok (.getfield 32, 3) := by decide +kernel
theorem dX12_readText_4 : decode cX12_readText 4 = .ok (.aload_n 0, 1) := by decide +kernel
theorem dX12_readText_5 : decode cX12_readText 5 = .ok (.getfield 10, 3) := by decide +kernel
theorem dX12_readText_8 : decode cX12_readText 8 = .ok (.aload_n 0, 1) := by decide +kernel
theorem dX12_readText_9 : decode cX12_readText 9 = .ok (.getfield 23, 3) := by decide +kernel
theorem dX12_readText_12 : decode cX12_readText 12 = .ok (.invokevirtual 80, 3) := by decide +kernel
theorem dX12_readText_15 : decode cX12_readText 15 = .ok (.istore_n 1, 1) := by decide +kernel
theorem dX12_readText_16 : decode cX12_readText 16 = .ok (.aload_n 0, 1) := by decide +kernel
theorem dX12_readText_17 : decode cX12_readText 17 = .ok (.getfield 10, 3) := by decide +kernel
theorem dX12_readText_20 : decode cX12_readText 20 = .ok (.iconst 0, 1) := by decide +kernel
theorem dX12_readText_21 : decode cX12_readText 21 = .ok (.putfield 61, 3) := by decide +kernel
theorem dX12_readText_24 : decode cX12_readText 24 = .ok (.iload_n 1, 1) := by decide +kernel
theorem dX12_readText_25 : decode cX12_readText 25 = .ok (.invokestatic 77, 3) := by decide +kernel
theorem dX12_readText_28 : decode cX12_readText 28 = .ok (.aload_n 0, 1) := by decide +kernel
theorem dX12_readText_29 : decode cX12_readText 29 = .ok (.getfield 19, 3) := by decide +kernel
theorem dX12_readText_32 : decode cX12_readText 32 = .ok (.aload_n 0, 1) := by decide +kernel
theorem dX12_readText_33 : decode cX12_readText 33 = .ok (.getfield 23, 3) := by decide +kernel
theorem dX12_readText_36 : decode cX12_readText 36 = .ok (.invokevirtual 84, 3) := by decide +kernel
theorem dX12_readText_39 : decode cX12_readText 39 = .ok (.aload_n 0, 1) := by decide +kernel
theorem dX12_readText_40 : decode cX12_readText 40 = .ok (.getfield 46, 3) := by decide +kernel
theorem dX12_readText_43 : decode cX12_readText 43 = .ok (.invokevirtual 88, 3) := by decide +kernel
theorem dX12_readText_46 : decode cX12_readText 46 = .ok (.aload_n 0, 1) := by decide +kernel
theorem dX12_readText_47 : decode cX12_readText 47 = .ok (.getfield 19, 3) := by decide +kernel
theorem dX12_readText_50 : decode cX12_readText 50 = .ok (.getfield 91, 3) := by decide +kernel
theorem dX12_readText_53 : decode cX12_readText 53 = .ok (.ireturn, 1) := by decide +kernel
theorem dX12_runScript_0 : decode cX12_runScript 0 = .ok (.aload_n 0, 1) := by decide +kernel
theorem dX12_runScript_1 : decode cX12_runScript 1 = .ok (.getfield 39, 3) := by decide +kernel
theorem dX12_runScript_4 : decode cX12_runScript 4 = .ok (.aload_n 0, 1) := by decide +kernel
theorem dX12_runScript_5 : decode cX12_runScript 5 = .ok (.getfield 10, 3) := by decide +kernel
theorem dX12_runScript_8 : decode cX12_runScript 8 = .ok (.aload_n 0, 1) := by decide +kernel
theorem dX12_runScript_9 : decode cX12_runScript 9 = .ok (.getfield 19, 3) := by decide +kernel
theorem dX12_runScript_12 : decode cX12_runScript 12 = .ok (.invokevirtual 94, 3) := by decide +kernel
theorem dX12_runScript_15 : decode cX12_runScript 15 = .ok (.istore_n 1, 1) := by decide +kernel
theorem dX12_runScript_16 : decode cX12_runScript 16 = .ok (.aload_n 0, 1) := by decide +kernel
theorem dX12_runScript_17 : decode cX12_runScript 17 = .ok (.getfield 10, 3) := by decide +kernel
theorem dX12_runScript_20 : decode cX12_runScript 20 = .ok (.iconst 0, 1) := by decide +kernel
theorem dX12_runScript_21 : decode cX12_runScript 21 = .ok (.putfield 61, 3) := by decide +kernel
theorem dX12_runScript_24 : decode cX12_runScript 24 = .ok (.iload_n 1, 1) := by decide +kernel
theorem dX12_runScript_25 : decode cX12_runScript 25 = .ok (.invokestatic 77, 3) := by decide +kernel
theorem dX12_runScript_28 : decode cX12_runScript 28 = .ok (.aload_n 0, 1) := by decide +kernel
theorem dX12_runScript_29 : decode cX12_runScript 29 = .ok (.getfield 46, 3) := by decide +kernel
theorem dX12_runScript_32 : decode cX12_runScript 32 = .ok (.aload_n 0, 1) := by decide +kernel
theorem dX12_runScript_33 : decode cX12_runScript 33 = .ok (.getfield 19, 3) := by decide +kernel
theorem dX12_runScript_36 : decode cX12_runScript 36 = .ok (.invokevirtual 95, 3) := by decide +kernel
theorem dX12_runScript_39 : decode cX12_runScript 39 = .ok (.aload_n 0, 1) := by decide +kernel
theorem dX12_runScript_40 : decode cX12_runScript 40 = .ok (.getfield 39, 3) := by decide +kernel
theorem dX12_runScript_43 : decode cX12_runScript 43 = .ok (.aload_n 0, 1) := by decide +kernel
theorem dX12_runScript_44 : decode cX12_runScript 44 = .ok (.getfield 19, 3) := by decide +kernel
theorem dX12_runScript_47 : decode cX12_runScript 47 = .ok (.invokevirtual 98, 3) := by decide +kernel
theorem dX12_runScript_50 : decode cX12_runScript 50 = .ok (.ireturn, 1) := by decide +kernel
theorem dX12_errorCode_0 : decode cX12_errorCode 0 = .ok (.aload_n 0, 1) := by decide +kernel
theorem dX12_errorCode_1 : decode cX12_errorCode 1 = .ok (.getfield 10, 3) := by decide +kernel
theorem dX12_errorCode_4 : decode cX12_errorCode 4 = .ok (.getfield 102, 3) := by decide +kernel
theorem dX12_errorCode_7 : decode cX12_errorCode 7 = .ok (.ireturn, 1) := by decide +kernel
theorem dX12_errorOffset_0 : decode cX12_errorOffset 0 = .ok (.aload_n 0, 1) := by decide +kernel
theorem dX12_errorOffset_1 : decode cX12_errorOffset 1 = .ok (.getfield 10, 3) := by decide +kernel
theorem dX12_errorOffset_4 : decode cX12_errorOffset 4 = .ok (.getfield 105, 3) := by decide +kernel
theorem dX12_errorOffset_7 : decode cX12_errorOffset 7 = .ok (.ireturn, 1) := by decide +kernel
theorem dX12_valleyCount_0 : decode cX12_valleyCount 0 = .ok (.aload_n 0, 1) := by decide +kernel
theorem dX12_valleyCount_1 : decode cX12_valleyCount 1 = .ok (.getfield 19, 3) := by decide +kernel
theorem dX12_valleyCount_4 : decode cX12_valleyCount 4 = .ok (.getfield 108, 3) := by decide +kernel
theorem dX12_valleyCount_7 : decode cX12_valleyCount 7 = .ok (.ireturn, 1) := by decide +kernel
theorem dX12_customerCount_0 : decode cX12_customerCount 0 = .ok (.aload_n 0, 1) := by decide +kernel
theorem dX12_customerCount_1 : decode cX12_customerCount 1 = .ok (.getfield 19, 3) := by decide +kernel
theorem dX12_customerCount_4 : decode cX12_customerCount 4 = .ok (.getfield 111, 3) := by decide +kernel
theorem dX12_customerCount_7 : decode cX12_customerCount 7 = .ok (.ireturn, 1) := by decide +kernel
theorem dX12_shoutCount_0 : decode cX12_shoutCount 0 = .ok (.aload_n 0, 1) := by decide +kernel
theorem dX12_shoutCount_1 : decode cX12_shoutCount 1 = .ok (.getfield 19, 3) := by decide +kernel
theorem dX12_shoutCount_4 : decode cX12_shoutCount 4 = .ok (.getfield 91, 3) := by decide +kernel
theorem dX12_shoutCount_7 : decode cX12_shoutCount 7 = .ok (.ireturn, 1) := by decide +kernel
theorem dX12_time_0 : decode cX12_time 0 = .ok (.aload_n 0, 1) := by decide +kernel
theorem dX12_time_1 : decode cX12_time 1 = .ok (.getfield 19, 3) := by decide +kernel
theorem dX12_time_4 : decode cX12_time 4 = .ok (.getfield 114, 3) := by decide +kernel
theorem dX12_time_7 : decode cX12_time 7 = .ok (.ireturn, 1) := by decide +kernel
theorem dX12_earned_0 : decode cX12_earned 0 = .ok (.aload_n 0, 1) := by decide +kernel
theorem dX12_earned_1 : decode cX12_earned 1 = .ok (.getfield 19, 3) := by decide +kernel
theorem dX12_earned_4 : decode cX12_earned 4 = .ok (.getfield 117, 3) := by decide +kernel
theorem dX12_earned_7 : decode cX12_earned 7 = .ok (.ireturn, 1) := by decide +kernel
theorem dX12_refunded_0 : decode cX12_refunded 0 = .ok (.aload_n 0, 1) := by decide +kernel
theorem dX12_refunded_1 : decode cX12_refunded 1 = .ok (.getfield 19, 3) := by decide +kernel
theorem dX12_refunded_4 : decode cX12_refunded 4 = .ok (.getfield 120, 3) := by decide +kernel
theorem dX12_refunded_7 : decode cX12_refunded 7 = .ok (.ireturn, 1) := by decide +kernel
theorem dX12_held_0 : decode cX12_held 0 = .ok (.aload_n 0, 1) := by decide +kernel
theorem dX12_held_1 : decode cX12_held 1 = .ok (.getfield 19, 3) := by decide +kernel
theorem dX12_held_4 : decode cX12_held 4 = .ok (.getfield 123, 3) := by decide +kernel
theorem dX12_held_7 : decode cX12_held 7 = .ok (.ireturn, 1) := by decide +kernel
theorem dX12_wellDepth_0 : decode cX12_wellDepth 0 = .ok (.aload_n 0, 1) := by decide +kernel
theorem dX12_wellDepth_1 : decode cX12_wellDepth 1 = .ok (.getfield 19, 3) := by decide +kernel
theorem dX12_wellDepth_4 : decode cX12_wellDepth 4 = .ok (.getfield 126, 3) := by decide +kernel
theorem dX12_wellDepth_7 : decode cX12_wellDepth 7 = .ok (.ireturn, 1) := by decide +kernel
theorem dX12_openShouts_0 : decode cX12_openShouts 0 = .ok (.aload_n 0, 1) := by decide +kernel
theorem dX12_openShouts_1 : decode cX12_openShouts 1 = .ok (.getfield 19, 3) := by decide +kernel
theorem dX12_openShouts_4 : decode cX12_openShouts 4 = .ok (.invokevirtual 129, 3) := by decide +kernel
theorem dX12_openShouts_7 : decode cX12_openShouts 7 = .ok (.ireturn, 1) := by decide +kernel
theorem dX12_valleyByte_0 : decode cX12_valleyByte 0 = .ok (.aload_n 0, 1) := by decide +kernel
theorem dX12_valleyByte_1 : decode cX12_valleyByte 1 = .ok (.iload_n 1, 1) := by decide +kernel
theorem dX12_valleyByte_2 : decode cX12_valleyByte 2 = .ok (.invokevirtual 133, 3) := by decide +kernel
theorem dX12_valleyByte_5 : decode cX12_valleyByte 5 = .ok (.getfield 137, 3) := by decide +kernel
theorem dX12_valleyByte_8 : decode cX12_valleyByte 8 = .ok (.iload_n 2, 1) := by decide +kernel
theorem dX12_valleyByte_9 : decode cX12_valleyByte 9 = .ok (.invokestatic 143, 3) := by decide +kernel
theorem dX12_valleyByte_12 : decode cX12_valleyByte 12 = .ok (.ireturn, 1) := by decide +kernel
theorem dX12_findValley_0 : decode cX12_findValley 0 = .ok (.aload_n 0, 1) := by decide +kernel
theorem dX12_findValley_1 : decode cX12_findValley 1 = .ok (.getfield 19, 3) := by decide +kernel
theorem dX12_findValley_4 : decode cX12_findValley 4 = .ok (.aload_n 0, 1) := by decide +kernel
theorem dX12_findValley_5 : decode cX12_findValley 5 = .ok (.getfield 10, 3) := by decide +kernel
theorem dX12_findValley_8 : decode cX12_findValley 8 = .ok (.invokevirtual 147, 3) := by decide +kernel
theorem dX12_findValley_11 : decode cX12_findValley 11 = .ok (.invokevirtual 151, 3) := by decide +kernel
theorem dX12_findValley_14 : decode cX12_findValley 14 = .ok (.ireturn, 1) := by decide +kernel
theorem dX12_width_0 : decode cX12_width 0 = .ok (.aload_n 0, 1) := by decide +kernel
theorem dX12_width_1 : decode cX12_width 1 = .ok (.iload_n 1, 1) := by decide +kernel
theorem dX12_width_2 : decode cX12_width 2 = .ok (.invokevirtual 133, 3) := by decide +kernel
theorem dX12_width_5 : decode cX12_width 5 = .ok (.getfield 155, 3) := by decide +kernel
theorem dX12_width_8 : decode cX12_width 8 = .ok (.ireturn, 1) := by decide +kernel
theorem dX12_walls_0 : decode cX12_walls 0 = .ok (.aload_n 0, 1) := by decide +kernel
theorem dX12_walls_1 : decode cX12_walls 1 = .ok (.iload_n 1, 1) := by decide +kernel
theorem dX12_walls_2 : decode cX12_walls 2 = .ok (.invokevirtual 133, 3) := by decide +kernel
theorem dX12_walls_5 : decode cX12_walls 5 = .ok (.getfield 158, 3) := by decide +kernel
theorem dX12_walls_8 : decode cX12_walls 8 = .ok (.ireturn, 1) := by decide +kernel
theorem dX12_price_0 : decode cX12_price 0 = .ok (.aload_n 0, 1) := by decide +kernel
theorem dX12_price_1 : decode cX12_price 1 = .ok (.iload_n 1, 1) := by decide +kernel
theorem dX12_price_2 : decode cX12_price 2 = .ok (.invokevirtual 133, 3) := by decide +kernel
theorem dX12_price_5 : decode cX12_price 5 = .ok (.getfield 161, 3) := by decide +kernel
theorem dX12_price_8 : decode cX12_price 8 = .ok (.ireturn, 1) := by decide +kernel
theorem dX12_rating_0 : decode cX12_rating 0 = .ok (.aload_n 0, 1) := by decide +kernel
theorem dX12_rating_1 : decode cX12_rating 1 = .ok (.iload_n 1, 1) := by decide +kernel
theorem dX12_rating_2 : decode cX12_rating 2 = .ok (.invokevirtual 133, 3) := by decide +kernel
theorem dX12_rating_5 : decode cX12_rating 5 = .ok (.getfield 164, 3) := by decide +kernel
theorem dX12_rating_8 : decode cX12_rating 8 = .ok (.ireturn, 1) := by decide +kernel
theorem dX12_echoesLost_0 : decode cX12_echoesLost 0 = .ok (.aload_n 0, 1) := by decide +kernel
theorem dX12_echoesLost_1 : decode cX12_echoesLost 1 = .ok (.iload_n 1, 1) := by decide +kernel
theorem dX12_echoesLost_2 : decode cX12_echoesLost 2 = .ok (.invokevirtual 133, 3) := by decide +kernel
theorem dX12_echoesLost_5 : decode cX12_echoesLost 5 = .ok (.getfield 167, 3) := by decide +kernel
theorem dX12_echoesLost_8 : decode cX12_echoesLost 8 = .ok (.ireturn, 1) := by decide +kernel
theorem dX12_earnedIn_0 : decode cX12_earnedIn 0 = .ok (.aload_n 0, 1) := by decide +kernel
theorem dX12_earnedIn_1 : decode cX12_earnedIn 1 = .ok (.iload_n 1, 1) := by decide +kernel
theorem dX12_earnedIn_2 : decode cX12_earnedIn 2 = .ok (.invokevirtual 133, 3) := by decide +kernel
theorem dX12_earnedIn_5 : decode cX12_earnedIn 5 = .ok (.getfield 170, 3) := by decide +kernel
theorem dX12_earnedIn_8 : decode cX12_earnedIn 8 = .ok (.ireturn, 1) := by decide +kernel
theorem dX12_bestValley_0 : decode cX12_bestValley 0 = .ok (.aload_n 0, 1) := by decide +kernel
theorem dX12_bestValley_1 : decode cX12_bestValley 1 = .ok (.getfield 19, 3) := by decide +kernel
theorem dX12_bestValley_4 : decode cX12_bestValley 4 = .ok (.invokevirtual 171, 3) := by decide +kernel
theorem dX12_bestValley_7 : decode cX12_bestValley 7 = .ok (.ireturn, 1) := by decide +kernel
theorem dX12_valleyByName_0 : decode cX12_valleyByName 0 = .ok (.aload_n 0, 1) := by decide +kernel
theorem dX12_valleyByName_1 : decode cX12_valleyByName 1 = .ok (.getfield 19, 3) := by decide +kernel
theorem dX12_valleyByName_4 : decode cX12_valleyByName 4 = .ok (.iload_n 1, 1) := by decide +kernel
theorem dX12_valleyByName_5 : decode cX12_valleyByName 5 = .ok (.invokevirtual 174, 3) := by decide +kernel
theorem dX12_valleyByName_8 : decode cX12_valleyByName 8 = .ok (.ireturn, 1) := by decide +kernel
theorem dX12_findCustomer_0 : decode cX12_findCustomer 0 = .ok (.aload_n 0, 1) := by decide +kernel
theorem dX12_findCustomer_1 : decode cX12_findCustomer 1 = .ok (.getfield 19, 3) := by decide +kernel
theorem dX12_findCustomer_4 : decode cX12_findCustomer 4 = .ok (.aload_n 0, 1) := by decide +kernel
theorem dX12_findCustomer_5 : decode cX12_findCustomer 5 = .ok (.getfield 10, 3) := by decide +kernel
theorem dX12_findCustomer_8 : decode cX12_findCustomer 8 = .ok (.invokevirtual 147, 3) := by decide +kernel
theorem dX12_findCustomer_11 : decode cX12_findCustomer 11 = .ok (.invokevirtual 178, 3) := by decide +kernel
theorem dX12_findCustomer_14 : decode cX12_findCustomer 14 = .ok (.ireturn, 1) := by decide +kernel
theorem dX12_money_0 : decode cX12_money 0 = .ok (.aload_n 0, 1) := by decide +kernel
theorem dX12_money_1 : decode cX12_money 1 = .ok (.iload_n 1, 1) := by decide +kernel
theorem dX12_money_2 : decode cX12_money 2 = .ok (.invokevirtual 181, 3) := by decide +kernel
theorem dX12_money_5 : decode cX12_money 5 = .ok (.getfield 185, 3) := by decide +kernel
theorem dX12_money_8 : decode cX12_money 8 = .ok (.ireturn, 1) := by decide +kernel
theorem dX12_patience_0 : decode cX12_patience 0 = .ok (.aload_n 0, 1) := by decide +kernel
theorem dX12_patience_1 : decode cX12_patience 1 = .ok (.iload_n 1, 1) := by decide +kernel
theorem dX12_patience_2 : decode cX12_patience 2 = .ok (.invokevirtual 181, 3) := by decide +kernel
theorem dX12_patience_5 : decode cX12_patience 5 = .ok (.getfield 190, 3) := by decide +kernel
theorem dX12_patience_8 : decode cX12_patience 8 = .ok (.ireturn, 1) := by decide +kernel
theorem dX12_suspicion_0 : decode cX12_suspicion 0 = .ok (.aload_n 0, 1) := by decide +kernel
theorem dX12_suspicion_1 : decode cX12_suspicion 1 = .ok (.iload_n 1, 1) := by decide +kernel
theorem dX12_suspicion_2 : decode cX12_suspicion 2 = .ok (.invokevirtual 181, 3) := by decide +kernel
theorem dX12_suspicion_5 : decode cX12_suspicion 5 = .ok (.getfield 193, 3) := by decide +kernel
theorem dX12_suspicion_8 : decode cX12_suspicion 8 = .ok (.ireturn, 1) := by decide +kernel
theorem dX12_isAngry_0 : decode cX12_isAngry 0 = .ok (.aload_n 0, 1) := by decide +kernel
theorem dX12_isAngry_1 : decode cX12_isAngry 1 = .ok (.iload_n 1, 1) := by decide +kernel
theorem dX12_isAngry_2 : decode cX12_isAngry 2 = .ok (.invokevirtual 181, 3) := by decide +kernel
theorem dX12_isAngry_5 : decode cX12_isAngry 5 = .ok (.invokevirtual 196, 3) := by decide +kernel
theorem dX12_isAngry_8 : decode cX12_isAngry 8 = .ok (.ireturn, 1) := by decide +kernel
theorem dX12_echoesHeard_0 : decode cX12_echoesHeard 0 = .ok (.aload_n 0, 1) := by decide +kernel
theorem dX12_echoesHeard_1 : decode cX12_echoesHeard 1 = .ok (.iload_n 1, 1) := by decide +kernel
theorem dX12_echoesHeard_2 : decode cX12_echoesHeard 2 = .ok (.invokevirtual 181, 3) := by decide +kernel
theorem dX12_echoesHeard_5 : decode cX12_echoesHeard 5 = .ok (.getfield 200, 3) := by decide +kernel
theorem dX12_echoesHeard_8 : decode cX12_echoesHeard 8 = .ok (.ireturn, 1) := by decide +kernel
theorem dX12_heldFor_0 : decode cX12_heldFor 0 = .ok (.aload_n 0, 1) := by decide +kernel
theorem dX12_heldFor_1 : decode cX12_heldFor 1 = .ok (.iload_n 1, 1) := by decide +kernel
theorem dX12_heldFor_2 : decode cX12_heldFor 2 = .ok (.invokevirtual 181, 3) := by decide +kernel
theorem dX12_heldFor_5 : decode cX12_heldFor 5 = .ok (.getfield 203, 3) := by decide +kernel
theorem dX12_heldFor_8 : decode cX12_heldFor 8 = .ok (.ireturn, 1) := by decide +kernel
theorem dX12_angryCustomers_0 : decode cX12_angryCustomers 0 = .ok (.aload_n 0, 1) := by decide +kernel
theorem dX12_angryCustomers_1 : decode cX12_angryCustomers 1 = .ok (.getfield 19, 3) := by decide +kernel
theorem dX12_angryCustomers_4 : decode cX12_angryCustomers 4 = .ok (.invokevirtual 204, 3) := by decide +kernel
theorem dX12_angryCustomers_7 : decode cX12_angryCustomers 7 = .ok (.ireturn, 1) := by decide +kernel
theorem dX12_bestCustomer_0 : decode cX12_bestCustomer 0 = .ok (.aload_n 0, 1) := by decide +kernel
theorem dX12_bestCustomer_1 : decode cX12_bestCustomer 1 = .ok (.getfield 19, 3) := by decide +kernel
theorem dX12_bestCustomer_4 : decode cX12_bestCustomer 4 = .ok (.invokevirtual 207, 3) := by decide +kernel
theorem dX12_bestCustomer_7 : decode cX12_bestCustomer 7 = .ok (.ireturn, 1) := by decide +kernel
theorem dX12_shoutCustomer_0 : decode cX12_shoutCustomer 0 = .ok (.aload_n 0, 1) := by decide +kernel
theorem dX12_shoutCustomer_1 : decode cX12_shoutCustomer 1 = .ok (.iload_n 1, 1) := by decide +kernel
theorem dX12_shoutCustomer_2 : decode cX12_shoutCustomer 2 = .ok (.invokevirtual 210, 3) := by decide +kernel
theorem dX12_shoutCustomer_5 : decode cX12_shoutCustomer 5 = .ok (.getfield 214, 3) := by decide +kernel
theorem dX12_shoutCustomer_8 : decode cX12_shoutCustomer 8 = .ok (.ireturn, 1) := by decide +kernel
theorem dX12_shoutValley_0 : decode cX12_shoutValley 0 = .ok (.aload_n 0, 1) := by decide +kernel
theorem dX12_shoutValley_1 : decode cX12_shoutValley 1 = .ok (.iload_n 1, 1) := by decide +kernel
theorem dX12_shoutValley_2 : decode cX12_shoutValley 2 = .ok (.invokevirtual 210, 3) := by decide +kernel
theorem dX12_shoutValley_5 : decode cX12_shoutValley 5 = .ok (.getfield 219, 3) := by decide +kernel
theorem dX12_shoutValley_8 : decode cX12_shoutValley 8 = .ok (.ireturn, 1) := by decide +kernel
theorem dX12_shoutState_0 : decode cX12_shoutState 0 = .ok (.aload_n 0, 1) := by decide +kernel
theorem dX12_shoutState_1 : decode cX12_shoutState 1 = .ok (.iload_n 1, 1) := by decide +kernel
theorem dX12_shoutState_2 : decode cX12_shoutState 2 = .ok (.invokevirtual 210, 3) := by decide +kernel
theorem dX12_shoutState_5 : decode cX12_shoutState 5 = .ok (.getfield 222, 3) := by decide +kernel
theorem dX12_shoutState_8 : decode cX12_shoutState 8 = .ok (.ireturn, 1) := by decide +kernel
theorem dX12_returns_0 : decode cX12_returns 0 = .ok (.aload_n 0, 1) := by decide +kernel
theorem dX12_returns_1 : decode cX12_returns 1 = .ok (.iload_n 1, 1) := by decide +kernel
theorem dX12_returns_2 : decode cX12_returns 2 = .ok (.invokevirtual 210, 3) := by decide +kernel
theorem dX12_returns_5 : decode cX12_returns 5 = .ok (.getfield 225, 3) := by decide +kernel
theorem dX12_returns_8 : decode cX12_returns 8 = .ok (.ireturn, 1) := by decide +kernel
theorem dX12_receipt_0 : decode cX12_receipt 0 = .ok (.aload_n 0, 1) := by decide +kernel
theorem dX12_receipt_1 : decode cX12_receipt 1 = .ok (.iload_n 1, 1) := by decide +kernel
theorem dX12_receipt_2 : decode cX12_receipt 2 = .ok (.invokevirtual 210, 3) := by decide +kernel
theorem dX12_receipt_5 : decode cX12_receipt 5 = .ok (.invokevirtual 228, 3) := by decide +kernel
theorem dX12_receipt_8 : decode cX12_receipt 8 = .ok (.ireturn, 1) := by decide +kernel
theorem dX12_nextReturn_0 : decode cX12_nextReturn 0 = .ok (.aload_n 0, 1) := by decide +kernel
theorem dX12_nextReturn_1 : decode cX12_nextReturn 1 = .ok (.iload_n 1, 1) := by decide +kernel
theorem dX12_nextReturn_2 : decode cX12_nextReturn 2 = .ok (.invokevirtual 210, 3) := by decide +kernel
theorem dX12_nextReturn_5 : decode cX12_nextReturn 5 = .ok (.astore_n 2, 1) := by decide +kernel
theorem dX12_nextReturn_6 : decode cX12_nextReturn 6 = .ok (.aload_n 2, 1) := by decide +kernel
theorem dX12_nextReturn_7 : decode cX12_nextReturn 7 = .ok (.invokevirtual 230, 3) := by decide +kernel
theorem dX12_nextReturn_10 : decode cX12_nextReturn 10 = .ok (.ifCond .eq 10, 3) := by decide +kernel
theorem dX12_nextReturn_13 : decode cX12_nextReturn 13 = .ok (.aload_n 2, 1) := by decide +kernel
theorem dX12_nextReturn_14 : decode cX12_nextReturn 14 = .ok (.invokevirtual 233, 3) := by decide +kernel
theorem dX12_nextReturn_17 : decode cX12_nextReturn 17 = .ok (.goto 4, 3) := by decide +kernel
theorem dX12_nextReturn_20 : decode cX12_nextReturn 20 = .ok (.iconst (-1), 1) := by decide +kernel
theorem dX12_nextReturn_21 : decode cX12_nextReturn 21 = .ok (.ireturn, 1) := by decide +kernel
theorem dX12_patienceEnds_0 : decode cX12_patienceEnds 0 = .ok (.aload_n 0, 1) := by decide +kernel
theorem dX12_patienceEnds_1 : decode cX12_patienceEnds 1 = .ok (.iload_n 1, 1) := by decide +kernel
theorem dX12_patienceEnds_2 : decode cX12_patienceEnds 2 = .ok (.invokevirtual 210, 3) := by decide +kernel
theorem dX12_patienceEnds_5 : decode cX12_patienceEnds 5 = .ok (.getfield 236, 3) := by decide +kernel
theorem dX12_patienceEnds_8 : decode cX12_patienceEnds 8 = .ok (.ireturn, 1) := by decide +kernel
theorem dX12_refusal_0 : decode cX12_refusal 0 = .ok (.aload_n 0, 1) := by decide +kernel
theorem dX12_refusal_1 : decode cX12_refusal 1 = .ok (.getfield 19, 3) := by decide +kernel
theorem dX12_refusal_4 : decode cX12_refusal 4 = .ok (.iload_n 1, 1) := by decide +kernel
theorem dX12_refusal_5 : decode cX12_refusal 5 = .ok (.invokevirtual 239, 3) := by decide +kernel
theorem dX12_refusal_8 : decode cX12_refusal 8 = .ok (.ifCond .eq 18, 3) := by decide +kernel
theorem dX12_refusal_11 : decode cX12_refusal 11 = .ok (.aload_n 0, 1) := by decide +kernel
theorem dX12_refusal_12 : decode cX12_refusal 12 = .ok (.getfield 19, 3) := by decide +kernel
theorem dX12_refusal_15 : decode cX12_refusal 15 = .ok (.iload_n 2, 1) := by decide +kernel
theorem dX12_refusal_16 : decode cX12_refusal 16 = .ok (.invokevirtual 243, 3) := by decide +kernel
theorem dX12_refusal_19 : decode cX12_refusal 19 = .ok (.ifCond .eq 7, 3) := by decide +kernel
theorem dX12_refusal_22 : decode cX12_refusal 22 = .ok (.iconst 1, 1) := by decide +kernel
theorem dX12_refusal_23 : decode cX12_refusal 23 = .ok (.goto 4, 3) := by decide +kernel
theorem dX12_refusal_26 : decode cX12_refusal 26 = .ok (.iconst 0, 1) := by decide +kernel
theorem dX12_refusal_27 : decode cX12_refusal 27 = .ok (.invokestatic 246, 3) := by decide +kernel
theorem dX12_refusal_30 : decode cX12_refusal 30 = .ok (.iload_n 3, 1) := by decide +kernel
theorem dX12_refusal_31 : decode cX12_refusal 31 = .ok (.iconst 1, 1) := by decide +kernel
theorem dX12_refusal_32 : decode cX12_refusal 32 = .ok (.iconst 4, 1) := by decide +kernel
theorem dX12_refusal_33 : decode cX12_refusal 33 = .ok (.invokestatic 73, 3) := by decide +kernel
theorem dX12_refusal_36 : decode cX12_refusal 36 = .ok (.invokestatic 77, 3) := by decide +kernel
theorem dX12_refusal_39 : decode cX12_refusal 39 = .ok (.aload_n 0, 1) := by decide +kernel
theorem dX12_refusal_40 : decode cX12_refusal 40 = .ok (.getfield 19, 3) := by decide +kernel
theorem dX12_refusal_43 : decode cX12_refusal 43 = .ok (.iload_n 1, 1) := by decide +kernel
theorem dX12_refusal_44 : decode cX12_refusal 44 = .ok (.iload_n 2, 1) := by decide +kernel
theorem dX12_refusal_45 : decode cX12_refusal 45 = .ok (.iload_n 3, 1) := by decide +kernel
theorem dX12_refusal_46 : decode cX12_refusal 46 = .ok (.invokevirtual 249, 3) := by decide +kernel
theorem dX12_refusal_49 : decode cX12_refusal 49 = .ok (.ireturn, 1) := by decide +kernel
theorem dX12_neededLoudness_0 : decode cX12_neededLoudness 0 = .ok (.aload_n 0, 1) := by decide +kernel
theorem dX12_neededLoudness_1 : decode cX12_neededLoudness 1 = .ok (.iload_n 1, 1) := by decide +kernel
theorem dX12_neededLoudness_2 : decode cX12_neededLoudness 2 = .ok (.invokevirtual 133, 3) := by decide +kernel
theorem dX12_neededLoudness_5 : decode cX12_neededLoudness 5 = .ok (.astore_n 3, 1) := by decide +kernel
theorem dX12_neededLoudness_6 : decode cX12_neededLoudness 6 = .ok (.iload_n 2, 1) := by decide +kernel
theorem dX12_neededLoudness_7 : decode cX12_neededLoudness 7 = .ok (.iconst 1, 1) := by decide +kernel
theorem dX12_neededLoudness_8 : decode cX12_neededLoudness 8 = .ok (.iconst 4, 1) := by decide +kernel
theorem dX12_neededLoudness_9 : decode cX12_neededLoudness 9 = .ok (.invokestatic 73, 3) := by decide +kernel
theorem dX12_neededLoudness_12 : decode cX12_neededLoudness 12 = .ok (.invokestatic 77, 3) := by decide +kernel
theorem dX12_neededLoudness_15 : decode cX12_neededLoudness 15 = .ok (.iload_n 2, 1) := by decide +kernel
theorem dX12_neededLoudness_16 : decode cX12_neededLoudness 16 = .ok (.aload_n 3, 1) := by decide +kernel
theorem dX12_neededLoudness_17 : decode cX12_neededLoudness 17 = .ok (.getfield 158, 3) := by decide +kernel
theorem dX12_neededLoudness_20 : decode cX12_neededLoudness 20 = .ok (.if_icmp .le 7, 3) := by decide +kernel
theorem dX12_neededLoudness_23 : decode cX12_neededLoudness 23 = .ok (.iconst (-1), 1) := by decide +kernel
theorem dX12_neededLoudness_24 : decode cX12_neededLoudness 24 = .ok (.goto 8, 3) := by decide +kernel
theorem dX12_neededLoudness_27 : decode cX12_neededLoudness 27 = .ok (.aload_n 3, 1) := by decide +kernel
theorem dX12_neededLoudness_28 : decode cX12_neededLoudness 28 = .ok (.iload_n 2, 1) := by decide +kernel
theorem dX12_neededLoudness_29 : decode cX12_neededLoudness 29 = .ok (.invokevirtual 253, 3) := by decide +kernel
theorem dX12_neededLoudness_32 : decode cX12_neededLoudness 32 = .ok (.ireturn, 1) := by decide +kernel
theorem dX12_bestOffer_0 : decode cX12_bestOffer 0 = .ok (.aload_n 0, 1) := by decide +kernel
theorem dX12_bestOffer_1 : decode cX12_bestOffer 1 = .ok (.getfield 19, 3) := by decide +kernel
theorem dX12_bestOffer_4 : decode cX12_bestOffer 4 = .ok (.iload_n 1, 1) := by decide +kernel
theorem dX12_bestOffer_5 : decode cX12_bestOffer 5 = .ok (.invokevirtual 239, 3) := by decide +kernel
theorem dX12_bestOffer_8 : decode cX12_bestOffer 8 = .ok (.invokestatic 246, 3) := by decide +kernel
theorem dX12_bestOffer_11 : decode cX12_bestOffer 11 = .ok (.iload_n 2, 1) := by decide +kernel
theorem dX12_bestOffer_12 : decode cX12_bestOffer 12 = .ok (.iconst 1, 1) := by decide +kernel
theorem dX12_bestOffer_13 : decode cX12_bestOffer 13 = .ok (.iconst 4, 1) := by decide +kernel
theorem dX12_bestOffer_14 : decode cX12_bestOffer 14 = .ok (.invokestatic 73, 3) := by decide +kernel
theorem dX12_bestOffer_17 : decode cX12_bestOffer 17 = .ok (.invokestatic 77, 3) := by decide +kernel
theorem dX12_bestOffer_20 : decode cX12_bestOffer 20 = .ok (.aload_n 0, 1) := by decide +kernel
theorem dX12_bestOffer_21 : decode cX12_bestOffer 21 = .ok (.getfield 19, 3) := by decide +kernel
theorem dX12_bestOffer_24 : decode cX12_bestOffer 24 = .ok (.iload_n 1, 1) := by decide +kernel
theorem dX12_bestOffer_25 : decode cX12_bestOffer 25 = .ok (.iload_n 2, 1) := by decide +kernel
theorem dX12_bestOffer_26 : decode cX12_bestOffer 26 = .ok (.invokevirtual 256, 3) := by decide +kernel
theorem dX12_bestOffer_29 : decode cX12_bestOffer 29 = .ok (.ireturn, 1) := by decide +kernel
theorem dX12_nextEvent_0 : decode cX12_nextEvent 0 = .ok (.aload_n 0, 1) := by decide +kernel
theorem dX12_nextEvent_1 : decode cX12_nextEvent 1 = .ok (.getfield 19, 3) := by decide +kernel
theorem dX12_nextEvent_4 : decode cX12_nextEvent 4 = .ok (.invokevirtual 260, 3) := by decide +kernel
theorem dX12_nextEvent_7 : decode cX12_nextEvent 7 = .ok (.ireturn, 1) := by decide +kernel
theorem dX12_earnedAfter_0 : decode cX12_earnedAfter 0 = .ok (.iload_n 1, 1) := by decide +kernel
theorem dX12_earnedAfter_1 : decode cX12_earnedAfter 1 = .ok (.iconst 0, 1) := by decide +kernel
theorem dX12_earnedAfter_2 : decode cX12_earnedAfter 2 = .ok (.sipush 240, 3) := by decide +kernel
theorem dX12_earnedAfter_5 : decode cX12_earnedAfter 5 = .ok (.invokestatic 73, 3) := by decide +kernel
theorem dX12_earnedAfter_8 : decode cX12_earnedAfter 8 = .ok (.invokestatic 77, 3) := by decide +kernel
theorem dX12_earnedAfter_11 : decode cX12_earnedAfter 11 = .ok (.aload_n 0, 1) := by decide +kernel
theorem dX12_earnedAfter_12 : decode cX12_earnedAfter 12 = .ok (.getfield 19, 3) := by decide +kernel
theorem dX12_earnedAfter_15 : decode cX12_earnedAfter 15 = .ok (.aload_n 0, 1) := by decide +kernel
theorem dX12_earnedAfter_16 : decode cX12_earnedAfter 16 = .ok (.getfield 19, 3) := by decide +kernel
theorem dX12_earnedAfter_19 : decode cX12_earnedAfter 19 = .ok (.getfield 114, 3) := by decide +kernel
theorem dX12_earnedAfter_22 : decode cX12_earnedAfter 22 = .ok (.iload_n 1, 1) := by decide +kernel
theorem dX12_earnedAfter_23 : decode cX12_earnedAfter 23 = .ok (.iadd, 1) := by decide +kernel
theorem dX12_earnedAfter_24 : decode cX12_earnedAfter 24 = .ok (.invokevirtual 263, 3) := by decide +kernel
theorem dX12_earnedAfter_27 : decode cX12_earnedAfter 27 = .ok (.ireturn, 1) := by decide +kernel
theorem dX12_finalState_0 : decode cX12_finalState 0 = .ok (.aload_n 0, 1) := by decide +kernel
theorem dX12_finalState_1 : decode cX12_finalState 1 = .ok (.iload_n 1, 1) := by decide +kernel
theorem dX12_finalState_2 : decode cX12_finalState 2 = .ok (.invokevirtual 210, 3) := by decide +kernel
theorem dX12_finalState_5 : decode cX12_finalState 5 = .ok (.invokevirtual 266, 3) := by decide +kernel
theorem dX12_finalState_8 : decode cX12_finalState 8 = .ok (.ireturn, 1) := by decide +kernel
theorem dX12_violations_0 : decode cX12_violations 0 = .ok (.aload_n 0, 1) := by decide +kernel
theorem dX12_violations_1 : decode cX12_violations 1 = .ok (.getfield 19, 3) := by decide +kernel
theorem dX12_violations_4 : decode cX12_violations 4 = .ok (.invokevirtual 269, 3) := by decide +kernel
theorem dX12_violations_7 : decode cX12_violations 7 = .ok (.ireturn, 1) := by decide +kernel
theorem dX12_meanRating_0 : decode cX12_meanRating 0 = .ok (.aload_n 0, 1) := by decide +kernel
theorem dX12_meanRating_1 : decode cX12_meanRating 1 = .ok (.getfield 19, 3) := by decide +kernel
theorem dX12_meanRating_4 : decode cX12_meanRating 4 = .ok (.getfield 108, 3) := by decide +kernel
theorem dX12_meanRating_7 : decode cX12_meanRating 7 = .ok (.istore_n 1, 1) := by decide +kernel
theorem dX12_meanRating_8 : decode cX12_meanRating 8 = .ok (.iload_n 1, 1) := by decide +kernel
theorem dX12_meanRating_9 : decode cX12_meanRating 9 = .ok (.ifCond .ne 7, 3) := by decide +kernel
theorem dX12_meanRating_12 : decode cX12_meanRating 12 = .ok (.dconst 0, 1) := by decide +kernel
theorem dX12_meanRating_13 : decode cX12_meanRating 13 = .ok (.goto 14, 3) := by decide +kernel
theorem dX12_meanRating_16 : decode cX12_meanRating 16 = .ok (.aload_n 0, 1) := by decide +kernel
theorem dX12_meanRating_17 : decode cX12_meanRating 17 = .ok (.getfield 19, 3) := by decide +kernel
theorem dX12_meanRating_20 : decode cX12_meanRating 20 = .ok (.invokevirtual 272, 3) := by decide +kernel
theorem dX12_meanRating_23 : decode cX12_meanRating 23 = .ok (.i2d, 1) := by decide +kernel
theorem dX12_meanRating_24 : decode cX12_meanRating 24 = .ok (.iload_n 1, 1) := by decide +kernel
theorem dX12_meanRating_25 : decode cX12_meanRating 25 = .ok (.i2d, 1) := by decide +kernel
theorem dX12_meanRating_26 : decode cX12_meanRating 26 = .ok (.ddiv, 1) := by decide +kernel
theorem dX12_meanRating_27 : decode cX12_meanRating 27 = .ok (.dreturn, 1) := by decide +kernel
theorem dX12_heardFraction_0 : decode cX12_heardFraction 0 = .ok (.aload_n 0, 1) := by decide +kernel
theorem dX12_heardFraction_1 : decode cX12_heardFraction 1 = .ok (.getfield 19, 3) := by decide +kernel
theorem dX12_heardFraction_4 : decode cX12_heardFraction 4 = .ok (.getfield 275, 3) := by decide +kernel
theorem dX12_heardFraction_7 : decode cX12_heardFraction 7 = .ok (.aload_n 0, 1) := by decide +kernel
theorem dX12_heardFraction_8 : decode cX12_heardFraction 8 = .ok (.getfield 19, 3) := by decide +kernel
theorem dX12_heardFraction_11 : decode cX12_heardFraction 11 = .ok (.getfield 276, 3) := by decide +kernel
theorem dX12_heardFraction_14 : decode cX12_heardFraction 14 = .ok (.iadd, 1) := by decide +kernel
theorem dX12_heardFraction_15 : decode cX12_heardFraction 15 = .ok (.istore_n 1, 1) := by decide +kernel
theorem dX12_heardFraction_16 : decode cX12_heardFraction 16 = .ok (.iload_n 1, 1) := by decide +kernel
theorem dX12_heardFraction_17 : decode cX12_heardFraction 17 = .ok (.ifCond .ne 7, 3) := by decide +kernel
theorem dX12_heardFraction_20 : decode cX12_heardFraction 20 = .ok (.fconst 0, 1) := by decide +kernel
theorem dX12_heardFraction_21 : decode cX12_heardFraction 21 = .ok (.goto 14, 3) := by decide +kernel
theorem dX12_heardFraction_24 : decode cX12_heardFraction 24 = .ok (.aload_n 0, 1) := by decide +kernel
theorem dX12_heardFraction_25 : decode cX12_heardFraction 25 = .ok (.getfield 19, 3) := by decide +kernel
theorem dX12_heardFraction_28 : decode cX12_heardFraction 28 = .ok (.getfield 275, 3) := by decide +kernel
theorem dX12_heardFraction_31 : decode cX12_heardFraction 31 = .ok (.i2f, 1) := by decide +kernel
theorem dX12_heardFraction_32 : decode cX12_heardFraction 32 = .ok (.iload_n 1, 1) := by decide +kernel
theorem dX12_heardFraction_33 : decode cX12_heardFraction 33 = .ok (.i2f, 1) := by decide +kernel
theorem dX12_heardFraction_34 : decode cX12_heardFraction 34 = .ok (.fdiv, 1) := by decide +kernel
theorem dX12_heardFraction_35 : decode cX12_heardFraction 35 = .ok (.freturn, 1) := by decide +kernel
theorem dX12_addValley_0 : decode cX12_addValley 0 = .ok (.aload_n 0, 1) := by decide +kernel
theorem dX12_addValley_1 : decode cX12_addValley 1 = .ok (.getfield 10, 3) := by decide +kernel
theorem dX12_addValley_4 : decode cX12_addValley 4 = .ok (.invokevirtual 147, 3) := by decide +kernel
theorem dX12_addValley_7 : decode cX12_addValley 7 = .ok (.lstore 4, 2) := by decide +kernel
theorem dX12_addValley_9 : decode cX12_addValley 9 = .ok (.iload_n 1, 1) := by decide +kernel
theorem dX12_addValley_10 : decode cX12_addValley 10 = .ok (.iconst 1, 1) := by decide +kernel
theorem dX12_addValley_11 : decode cX12_addValley 11 = .ok (.bipush 60, 2) := by decide +kernel
theorem dX12_addValley_13 : decode cX12_addValley 13 = .ok (.invokestatic 73, 3) := by decide +kernel
theorem dX12_addValley_16 : decode cX12_addValley 16 = .ok (.invokestatic 77, 3) := by decide +kernel
theorem dX12_addValley_19 : decode cX12_addValley 19 = .ok (.iload_n 2, 1) := by decide +kernel
theorem dX12_addValley_20 : decode cX12_addValley 20 = .ok (.iconst 1, 1) := by decide +kernel
theorem dX12_addValley_21 : decode cX12_addValley 21 = .ok (.iconst 4, 1) := by decide +kernel
theorem dX12_addValley_22 : decode cX12_addValley 22 = .ok (.invokestatic 73, 3) := by decide +kernel
theorem dX12_addValley_25 : decode cX12_addValley 25 = .ok (.invokestatic 77, 3) := by decide +kernel
theorem dX12_addValley_28 : decode cX12_addValley 28 = .ok (.iload_n 3, 1) := by decide +kernel
theorem dX12_addValley_29 : decode cX12_addValley 29 = .ok (.iconst 1, 1) := by decide +kernel
theorem dX12_addValley_30 : decode cX12_addValley 30 = .ok (.bipush 99, 2) := by decide +kernel
theorem dX12_addValley_32 : decode cX12_addValley 32 = .ok (.invokestatic 73, 3) := by decide +kernel
theorem dX12_addValley_35 : decode cX12_addValley 35 = .ok (.invokestatic 77, 3) := by decide +kernel
theorem dX12_addValley_38 : decode cX12_addValley 38 = .ok (.lload 4, 2) := by decide +kernel
theorem dX12_addValley_40 : decode cX12_addValley 40 = .ok (.lconst 0, 1) := by decide +kernel
theorem dX12_addValley_41 : decode cX12_addValley 41 = .ok (.lcmp, 1) := by decide +kernel
theorem dX12_addValley_42 : decode cX12_addValley 42 = .ok (.ifCond .eq 32, 3) := by decide +kernel
theorem dX12_addValley_45 : decode cX12_addValley 45 = .ok (.aload_n 0, 1) := by decide +kernel
theorem dX12_addValley_46 : decode cX12_addValley 46 = .ok (.getfield 19, 3) := by decide +kernel
theorem dX12_addValley_49 : decode cX12_addValley 49 = .ok (.lload 4, 2) := by decide +kernel
theorem dX12_addValley_51 : decode cX12_addValley 51 = .ok (.invokevirtual 151, 3) := by decide +kernel
theorem dX12_addValley_54 : decode cX12_addValley 54 = .ok (.iconst (-1), 1) := by decide +kernel
theorem dX12_addValley_55 : decode cX12_addValley 55 = .ok (.if_icmp .ne 19, 3) := by decide +kernel
theorem dX12_addValley_58 : decode cX12_addValley 58 = .ok (.aload_n 0, 1) := by decide +kernel
theorem dX12_addValley_59 : decode cX12_addValley 59 = .ok (.getfield 19, 3) := by decide +kernel
theorem dX12_addValley_62 : decode cX12_addValley 62 = .ok (.getfield 108, 3) := by decide +kernel
theorem dX12_addValley_65 : decode cX12_addValley 65 = .ok (.bipush 8, 2) := by decide +kernel
theorem dX12_addValley_67 : decode cX12_addValley 67 = .ok (.if_icmp .ge 7, 3) := by decide +kernel
theorem dX12_addValley_70 : decode cX12_addValley 70 = .ok (.iconst 1, 1) := by decide +kernel
theorem dX12_addValley_71 : decode cX12_addValley 71 = .ok (.goto 4, 3) := by decide +kernel
theorem dX12_addValley_74 : decode cX12_addValley 74 = .ok (.iconst 0, 1) := by decide +kernel
theorem dX12_addValley_75 : decode cX12_addValley 75 = .ok (.invokestatic 65, 3) := by decide +kernel
theorem dX12_addValley_78 : decode cX12_addValley 78 = .ok (.aload_n 0, 1) := by decide +kernel
theorem dX12_addValley_79 : decode cX12_addValley 79 = .ok (.getfield 46, 3) := by decide +kernel
theorem dX12_addValley_82 : decode cX12_addValley 82 = .ok (.aload_n 0, 1) := by decide +kernel
theorem dX12_addValley_83 : decode cX12_addValley 83 = .ok (.getfield 19, 3) := by decide +kernel
theorem dX12_addValley_86 : decode cX12_addValley 86 = .ok (.invokevirtual 95, 3) := by decide +kernel
theorem dX12_addValley_89 : decode cX12_addValley 89 = .ok (.aload_n 0, 1) := by decide +kernel
theorem dX12_addValley_90 : decode cX12_addValley 90 = .ok (.getfield 10, 3) := by decide +kernel
theorem dX12_addValley_93 : decode cX12_addValley 93 = .ok (.iconst 0, 1) := by decide +kernel
theorem dX12_addValley_94 : decode cX12_addValley 94 = .ok (.putfield 61, 3) := by decide +kernel
theorem dX12_addValley_97 : decode cX12_addValley 97 = .ok (.aload_n 0, 1) := by decide +kernel
theorem dX12_addValley_98 : decode cX12_addValley 98 = .ok (.getfield 19, 3) := by decide +kernel
theorem dX12_addValley_101 : decode cX12_addValley 101 = .ok (.lload 4, 2) := by decide +kernel
theorem dX12_addValley_103 : decode cX12_addValley 103 = .ok (.iload_n 1, 1) := by decide +kernel
theorem dX12_addValley_104 : decode cX12_addValley 104 = .ok (.iload_n 2, 1) := by decide +kernel
theorem dX12_addValley_105 : decode cX12_addValley 105 = .ok (.iload_n 3, 1) := by decide +kernel
theorem dX12_addValley_106 : decode cX12_addValley 106 = .ok (.invokevirtual 277, 3) := by decide +kernel
theorem dX12_addValley_109 : decode cX12_addValley 109 = .ok (.ireturn, 1) := by decide +kernel
theorem dX12_addCustomer_0 : decode cX12_addCustomer 0 = .ok (.aload_n 0, 1) := by decide +kernel
theorem dX12_addCustomer_1 : decode cX12_addCustomer 1 = .ok (.getfield 10, 3) := by decide +kernel
theorem dX12_addCustomer_4 : decode cX12_addCustomer 4 = .ok (.invokevirtual 147, 3) := by decide +kernel
theorem dX12_addCustomer_7 : decode cX12_addCustomer 7 = .ok (.lstore_n 3, 1) := by decide +kernel
theorem dX12_addCustomer_8 : decode cX12_addCustomer 8 = .ok (.iload_n 1, 1) := by decide +kernel
theorem dX12_addCustomer_9 : decode cX12_addCustomer 9 = .ok (.iconst 1, 1) := by decide +kernel
theorem dX12_addCustomer_10 : decode cX12_addCustomer 10 = .ok (.sipush 240, 3) := by decide +kernel
theorem dX12_addCustomer_13 : decode cX12_addCustomer 13 = .ok (.invokestatic 73, 3) := by decide +kernel
theorem dX12_addCustomer_16 : decode cX12_addCustomer 16 = .ok (.invokestatic 77, 3) := by decide +kernel
theorem dX12_addCustomer_19 : decode cX12_addCustomer 19 = .ok (.iload_n 2, 1) := by decide +kernel
theorem dX12_addCustomer_20 : decode cX12_addCustomer 20 = .ok (.iconst 0, 1) := by decide +kernel
theorem dX12_addCustomer_21 : decode cX12_addCustomer 21 = .ok (.sipush 9999, 3) := by decide +kernel
theorem dX12_addCustomer_24 : decode cX12_addCustomer 24 = .ok (.invokestatic 73, 3) := by decide +kernel
theorem dX12_addCustomer_27 : decode cX12_addCustomer 27 = .ok (.invokestatic 77, 3) := by decide +kernel
theorem dX12_addCustomer_30 : decode cX12_addCustomer 30 = .ok (.lload_n 3, 1) := by decide +kernel
theorem dX12_addCustomer_31 : decode cX12_addCustomer 31 = .ok (.lconst 0, 1) := by decide +kernel
theorem dX12_addCustomer_32 : decode cX12_addCustomer 32 = .ok (.lcmp, 1) := by decide +kernel
theorem dX12_addCustomer_33 : decode cX12_addCustomer 33 = .ok (.ifCond .eq 31, 3) := by decide +kernel
theorem dX12_addCustomer_36 : decode cX12_addCustomer 36 = .ok (.aload_n 0, 1) := by decide +kernel
theorem dX12_addCustomer_37 : decode cX12_addCustomer 37 = .ok (.getfield 19, 3) := by decide +kernel
theorem dX12_addCustomer_40 : decode cX12_addCustomer 40 = .ok (.lload_n 3, 1) := by decide +kernel
theorem dX12_addCustomer_41 : decode cX12_addCustomer 41 = .ok (.invokevirtual 178, 3) := by decide +kernel
theorem dX12_addCustomer_44 : decode cX12_addCustomer 44 = .ok (.iconst (-1), 1) := by decide +kernel
theorem dX12_addCustomer_45 : decode cX12_addCustomer 45 = .ok (.if_icmp .ne 19, 3) := by decide +kernel
theorem dX12_addCustomer_48 : decode cX12_addCustomer 48 = .ok (.aload_n 0, 1) := by decide +kernel
theorem dX12_addCustomer_49 : decode cX12_addCustomer 49 = .ok (.getfield 19, 3) := by decide +kernel
theorem dX12_addCustomer_52 : decode cX12_addCustomer 52 = .ok (.getfield 111, 3) := by decide +kernel
theorem dX12_addCustomer_55 : decode cX12_addCustomer 55 = .ok (.bipush 8, 2) := by decide +kernel
theorem dX12_addCustomer_57 : decode cX12_addCustomer 57 = .ok (.if_icmp .ge 7, 3) := by decide +kernel
theorem dX12_addCustomer_60 : decode cX12_addCustomer 60 = .ok (.iconst 1, 1) := by decide +kernel
theorem dX12_addCustomer_61 : decode cX12_addCustomer 61 = .ok (.goto 4, 3) := by decide +kernel
theorem dX12_addCustomer_64 : decode cX12_addCustomer 64 = .ok (.iconst 0, 1) := by decide +kernel
theorem dX12_addCustomer_65 : decode cX12_addCustomer 65 = .ok (.invokestatic 65, 3) := by decide +kernel
theorem dX12_addCustomer_68 : decode cX12_addCustomer 68 = .ok (.aload_n 0, 1) := by decide +kernel
theorem dX12_addCustomer_69 : decode cX12_addCustomer 69 = .ok (.getfield 46, 3) := by decide +kernel
theorem dX12_addCustomer_72 : decode cX12_addCustomer 72 = .ok (.aload_n 0, 1) := by decide +kernel
theorem dX12_addCustomer_73 : decode cX12_addCustomer 73 = .ok (.getfield 19, 3) := by decide +kernel
theorem dX12_addCustomer_76 : decode cX12_addCustomer 76 = .ok (.invokevirtual 95, 3) := by decide +kernel
theorem dX12_addCustomer_79 : decode cX12_addCustomer 79 = .ok (.aload_n 0, 1) := by decide +kernel
theorem dX12_addCustomer_80 : decode cX12_addCustomer 80 = .ok (.getfield 10, 3) := by decide +kernel
theorem dX12_addCustomer_83 : decode cX12_addCustomer 83 = .ok (.iconst 0, 1) := by decide +kernel
theorem dX12_addCustomer_84 : decode cX12_addCustomer 84 = .ok (.putfield 61, 3) := by decide +kernel
theorem dX12_addCustomer_87 : decode cX12_addCustomer 87 = .ok (.aload_n 0, 1) := by decide +kernel
theorem dX12_addCustomer_88 : decode cX12_addCustomer 88 = .ok (.getfield 19, 3) := by decide +kernel
theorem dX12_addCustomer_91 : decode cX12_addCustomer 91 = .ok (.lload_n 3, 1) := by decide +kernel
theorem dX12_addCustomer_92 : decode cX12_addCustomer 92 = .ok (.iload_n 1, 1) := by decide +kernel
theorem dX12_addCustomer_93 : decode cX12_addCustomer 93 = .ok (.iload_n 2, 1) := by decide +kernel
theorem dX12_addCustomer_94 : decode cX12_addCustomer 94 = .ok (.invokevirtual 281, 3) := by decide +kernel
theorem dX12_addCustomer_97 : decode cX12_addCustomer 97 = .ok (.ireturn, 1) := by decide +kernel
theorem dX12_shout_0 : decode cX12_shout 0 = .ok (.aload_n 0, 1) := by decide +kernel
theorem dX12_shout_1 : decode cX12_shout 1 = .ok (.getfield 19, 3) := by decide +kernel
theorem dX12_shout_4 : decode cX12_shout 4 = .ok (.iload_n 1, 1) := by decide +kernel
theorem dX12_shout_5 : decode cX12_shout 5 = .ok (.iload_n 2, 1) := by decide +kernel
theorem dX12_shout_6 : decode cX12_shout 6 = .ok (.iload_n 3, 1) := by decide +kernel
theorem dX12_shout_7 : decode cX12_shout 7 = .ok (.iload 4, 2) := by decide +kernel
theorem dX12_shout_9 : decode cX12_shout 9 = .ok (.invokevirtual 285, 3) := by decide +kernel
theorem dX12_shout_12 : decode cX12_shout 12 = .ok (.invokestatic 289, 3) := by decide +kernel
theorem dX12_shout_15 : decode cX12_shout 15 = .ok (.aload_n 0, 1) := by decide +kernel
theorem dX12_shout_16 : decode cX12_shout 16 = .ok (.getfield 46, 3) := by decide +kernel
theorem dX12_shout_19 : decode cX12_shout 19 = .ok (.aload_n 0, 1) := by decide +kernel
theorem dX12_shout_20 : decode cX12_shout 20 = .ok (.getfield 19, 3) := by decide +kernel
theorem dX12_shout_23 : decode cX12_shout 23 = .ok (.invokevirtual 95, 3) := by decide +kernel
theorem dX12_shout_26 : decode cX12_shout 26 = .ok (.aload_n 0, 1) := by decide +kernel
theorem dX12_shout_27 : decode cX12_shout 27 = .ok (.getfield 19, 3) := by decide +kernel
theorem dX12_shout_30 : decode cX12_shout 30 = .ok (.iload_n 1, 1) := by decide +kernel
theorem dX12_shout_31 : decode cX12_shout 31 = .ok (.iload_n 2, 1) := by decide +kernel
theorem dX12_shout_32 : decode cX12_shout 32 = .ok (.iload_n 3, 1) := by decide +kernel
theorem dX12_shout_33 : decode cX12_shout 33 = .ok (.iload 4, 2) := by decide +kernel
theorem dX12_shout_35 : decode cX12_shout 35 = .ok (.invokevirtual 293, 3) := by decide +kernel
theorem dX12_shout_38 : decode cX12_shout 38 = .ok (.ireturn, 1) := by decide +kernel
theorem dX12_cancel_0 : decode cX12_cancel 0 = .ok (.aload_n 0, 1) := by decide +kernel
theorem dX12_cancel_1 : decode cX12_cancel 1 = .ok (.getfield 19, 3) := by decide +kernel
theorem dX12_cancel_4 : decode cX12_cancel 4 = .ok (.iload_n 1, 1) := by decide +kernel
theorem dX12_cancel_5 : decode cX12_cancel 5 = .ok (.invokevirtual 297, 3) := by decide +kernel
theorem dX12_cancel_8 : decode cX12_cancel 8 = .ok (.invokestatic 289, 3) := by decide +kernel
theorem dX12_cancel_11 : decode cX12_cancel 11 = .ok (.aload_n 0, 1) := by decide +kernel
theorem dX12_cancel_12 : decode cX12_cancel 12 = .ok (.getfield 46, 3) := by decide +kernel
theorem dX12_cancel_15 : decode cX12_cancel 15 = .ok (.aload_n 0, 1) := by decide +kernel
theorem dX12_cancel_16 : decode cX12_cancel 16 = .ok (.getfield 19, 3) := by decide +kernel
theorem dX12_cancel_19 : decode cX12_cancel 19 = .ok (.invokevirtual 95, 3) := by decide +kernel
theorem dX12_cancel_22 : decode cX12_cancel 22 = .ok (.aload_n 0, 1) := by decide +kernel
theorem dX12_cancel_23 : decode cX12_cancel 23 = .ok (.getfield 19, 3) := by decide +kernel
theorem dX12_cancel_26 : decode cX12_cancel 26 = .ok (.iload_n 1, 1) := by decide +kernel
theorem dX12_cancel_27 : decode cX12_cancel 27 = .ok (.invokevirtual 301, 3) := by decide +kernel
theorem dX12_cancel_30 : decode cX12_cancel 30 = .ok (.ireturn, 1) := by decide +kernel
theorem dX12_fake_0 : decode cX12_fake 0 = .ok (.aload_n 0, 1) := by decide +kernel
theorem dX12_fake_1 : decode cX12_fake 1 = .ok (.getfield 19, 3) := by decide +kernel
theorem dX12_fake_4 : decode cX12_fake 4 = .ok (.iload_n 1, 1) := by decide +kernel
theorem dX12_fake_5 : decode cX12_fake 5 = .ok (.invokevirtual 297, 3) := by decide +kernel
theorem dX12_fake_8 : decode cX12_fake 8 = .ok (.invokestatic 289, 3) := by decide +kernel
theorem dX12_fake_11 : decode cX12_fake 11 = .ok (.aload_n 0, 1) := by decide +kernel
theorem dX12_fake_12 : decode cX12_fake 12 = .ok (.getfield 46, 3) := by decide +kernel
theorem dX12_fake_15 : decode cX12_fake 15 = .ok (.aload_n 0, 1) := by decide +kernel
theorem dX12_fake_16 : decode cX12_fake 16 = .ok (.getfield 19, 3) := by decide +kernel
theorem dX12_fake_19 : decode cX12_fake 19 = .ok (.invokevirtual 95, 3) := by decide +kernel
theorem dX12_fake_22 : decode cX12_fake 22 = .ok (.aload_n 0, 1) := by decide +kernel
theorem dX12_fake_23 : decode cX12_fake 23 = .ok (.getfield 19, 3) := by decide +kernel
theorem dX12_fake_26 : decode cX12_fake 26 = .ok (.iload_n 1, 1) := by decide +kernel
theorem dX12_fake_27 : decode cX12_fake 27 = .ok (.invokevirtual 304, 3) := by decide +kernel
theorem dX12_fake_30 : decode cX12_fake 30 = .ok (.ireturn, 1) := by decide +kernel
theorem dX12_setFog_0 : decode cX12_setFog 0 = .ok (.aload_n 0, 1) := by decide +kernel
theorem dX12_setFog_1 : decode cX12_setFog 1 = .ok (.getfield 19, 3) := by decide +kernel
theorem dX12_setFog_4 : decode cX12_setFog 4 = .ok (.iload_n 1, 1) := by decide +kernel
theorem dX12_setFog_5 : decode cX12_setFog 5 = .ok (.iload_n 2, 1) := by decide +kernel
theorem dX12_setFog_6 : decode cX12_setFog 6 = .ok (.invokevirtual 307, 3) := by decide +kernel
theorem dX12_setFog_9 : decode cX12_setFog 9 = .ok (.invokestatic 289, 3) := by decide +kernel
theorem dX12_setFog_12 : decode cX12_setFog 12 = .ok (.aload_n 0, 1) := by decide +kernel
theorem dX12_setFog_13 : decode cX12_setFog 13 = .ok (.getfield 46, 3) := by decide +kernel
theorem dX12_setFog_16 : decode cX12_setFog 16 = .ok (.aload_n 0, 1) := by decide +kernel
theorem dX12_setFog_17 : decode cX12_setFog 17 = .ok (.getfield 19, 3) := by decide +kernel
theorem dX12_setFog_20 : decode cX12_setFog 20 = .ok (.invokevirtual 95, 3) := by decide +kernel
theorem dX12_setFog_23 : decode cX12_setFog 23 = .ok (.aload_n 0, 1) := by decide +kernel
theorem dX12_setFog_24 : decode cX12_setFog 24 = .ok (.getfield 19, 3) := by decide +kernel
theorem dX12_setFog_27 : decode cX12_setFog 27 = .ok (.iload_n 1, 1) := by decide +kernel
theorem dX12_setFog_28 : decode cX12_setFog 28 = .ok (.iload_n 2, 1) := by decide +kernel
theorem dX12_setFog_29 : decode cX12_setFog 29 = .ok (.invokevirtual 311, 3) := by decide +kernel
theorem dX12_setFog_32 : decode cX12_setFog 32 = .ok (.ireturn, 1) := by decide +kernel
theorem dX12_setPrice_0 : decode cX12_setPrice 0 = .ok (.aload_n 0, 1) := by decide +kernel
theorem dX12_setPrice_1 : decode cX12_setPrice 1 = .ok (.getfield 19, 3) := by decide +kernel
theorem dX12_setPrice_4 : decode cX12_setPrice 4 = .ok (.iload_n 1, 1) := by decide +kernel
theorem dX12_setPrice_5 : decode cX12_setPrice 5 = .ok (.iload_n 2, 1) := by decide +kernel
theorem dX12_setPrice_6 : decode cX12_setPrice 6 = .ok (.invokevirtual 314, 3) := by decide +kernel
theorem dX12_setPrice_9 : decode cX12_setPrice 9 = .ok (.invokestatic 289, 3) := by decide +kernel
theorem dX12_setPrice_12 : decode cX12_setPrice 12 = .ok (.aload_n 0, 1) := by decide +kernel
theorem dX12_setPrice_13 : decode cX12_setPrice 13 = .ok (.getfield 46, 3) := by decide +kernel
theorem dX12_setPrice_16 : decode cX12_setPrice 16 = .ok (.aload_n 0, 1) := by decide +kernel
theorem dX12_setPrice_17 : decode cX12_setPrice 17 = .ok (.getfield 19, 3) := by decide +kernel
theorem dX12_setPrice_20 : decode cX12_setPrice 20 = .ok (.invokevirtual 95, 3) := by decide +kernel
theorem dX12_setPrice_23 : decode cX12_setPrice 23 = .ok (.aload_n 0, 1) := by decide +kernel
theorem dX12_setPrice_24 : decode cX12_setPrice 24 = .ok (.getfield 19, 3) := by decide +kernel
theorem dX12_setPrice_27 : decode cX12_setPrice 27 = .ok (.iload_n 1, 1) := by decide +kernel
theorem dX12_setPrice_28 : decode cX12_setPrice 28 = .ok (.iload_n 2, 1) := by decide +kernel
theorem dX12_setPrice_29 : decode cX12_setPrice 29 = .ok (.invokevirtual 317, 3) := by decide +kernel
theorem dX12_setPrice_32 : decode cX12_setPrice 32 = .ok (.ireturn, 1) := by decide +kernel
theorem dX12_setWell_0 : decode cX12_setWell 0 = .ok (.aload_n 0, 1) := by decide +kernel
theorem dX12_setWell_1 : decode cX12_setWell 1 = .ok (.getfield 19, 3) := by decide +kernel
theorem dX12_setWell_4 : decode cX12_setWell 4 = .ok (.iload_n 1, 1) := by decide +kernel
theorem dX12_setWell_5 : decode cX12_setWell 5 = .ok (.invokevirtual 320, 3) := by decide +kernel
theorem dX12_setWell_8 : decode cX12_setWell 8 = .ok (.invokestatic 289, 3) := by decide +kernel
theorem dX12_setWell_11 : decode cX12_setWell 11 = .ok (.aload_n 0, 1) := by decide +kernel
theorem dX12_setWell_12 : decode cX12_setWell 12 = .ok (.getfield 46, 3) := by decide +kernel
theorem dX12_setWell_15 : decode cX12_setWell 15 = .ok (.aload_n 0, 1) := by decide +kernel
theorem dX12_setWell_16 : decode cX12_setWell 16 = .ok (.getfield 19, 3) := by decide +kernel
theorem dX12_setWell_19 : decode cX12_setWell 19 = .ok (.invokevirtual 95, 3) := by decide +kernel
theorem dX12_setWell_22 : decode cX12_setWell 22 = .ok (.aload_n 0, 1) := by decide +kernel
theorem dX12_setWell_23 : decode cX12_setWell 23 = .ok (.getfield 19, 3) := by decide +kernel
theorem dX12_setWell_26 : decode cX12_setWell 26 = .ok (.iload_n 1, 1) := by decide +kernel
theorem dX12_setWell_27 : decode cX12_setWell 27 = .ok (.invokevirtual 323, 3) := by decide +kernel
theorem dX12_setWell_30 : decode cX12_setWell 30 = .ok (.ireturn, 1) := by decide +kernel
theorem dX12_pass_0 : decode cX12_pass 0 = .ok (.aload_n 0, 1) := by decide +kernel
theorem dX12_pass_1 : decode cX12_pass 1 = .ok (.getfield 19, 3) := by decide +kernel
theorem dX12_pass_4 : decode cX12_pass 4 = .ok (.iload_n 1, 1) := by decide +kernel
theorem dX12_pass_5 : decode cX12_pass 5 = .ok (.invokevirtual 326, 3) := by decide +kernel
theorem dX12_pass_8 : decode cX12_pass 8 = .ok (.invokestatic 289, 3) := by decide +kernel
theorem dX12_pass_11 : decode cX12_pass 11 = .ok (.aload_n 0, 1) := by decide +kernel
theorem dX12_pass_12 : decode cX12_pass 12 = .ok (.getfield 46, 3) := by decide +kernel
theorem dX12_pass_15 : decode cX12_pass 15 = .ok (.aload_n 0, 1) := by decide +kernel
theorem dX12_pass_16 : decode cX12_pass 16 = .ok (.getfield 19, 3) := by decide +kernel
theorem dX12_pass_19 : decode cX12_pass 19 = .ok (.invokevirtual 95, 3) := by decide +kernel
theorem dX12_pass_22 : decode cX12_pass 22 = .ok (.aload_n 0, 1) := by decide +kernel
theorem dX12_pass_23 : decode cX12_pass 23 = .ok (.getfield 19, 3) := by decide +kernel
theorem dX12_pass_26 : decode cX12_pass 26 = .ok (.iload_n 1, 1) := by decide +kernel
theorem dX12_pass_27 : decode cX12_pass 27 = .ok (.invokevirtual 329, 3) := by decide +kernel
theorem dX12_pass_30 : decode cX12_pass 30 = .ok (.ireturn, 1) := by decide +kernel
theorem dX12_undo_0 : decode cX12_undo 0 = .ok (.aload_n 0, 1) := by decide +kernel
theorem dX12_undo_1 : decode cX12_undo 1 = .ok (.getfield 46, 3) := by decide +kernel
theorem dX12_undo_4 : decode cX12_undo 4 = .ok (.getfield 332, 3) := by decide +kernel
theorem dX12_undo_7 : decode cX12_undo 7 = .ok (.ifCond .le 7, 3) := by decide +kernel
theorem dX12_undo_10 : decode cX12_undo 10 = .ok (.iconst 1, 1) := by decide +kernel
theorem dX12_undo_11 : decode cX12_undo 11 = .ok (.goto 4, 3) := by decide +kernel
theorem dX12_undo_14 : decode cX12_undo 14 = .ok (.iconst 0, 1) := by decide +kernel
theorem dX12_undo_15 : decode cX12_undo 15 = .ok (.invokestatic 65, 3) := by decide +kernel
theorem dX12_undo_18 : decode cX12_undo 18 = .ok (.aload_n 0, 1) := by decide +kernel
theorem dX12_undo_19 : decode cX12_undo 19 = .ok (.getfield 46, 3) := by decide +kernel
theorem dX12_undo_22 : decode cX12_undo 22 = .ok (.aload_n 0, 1) := by decide +kernel
theorem dX12_undo_23 : decode cX12_undo 23 = .ok (.getfield 19, 3) := by decide +kernel
theorem dX12_undo_26 : decode cX12_undo 26 = .ok (.invokevirtual 335, 3) := by decide +kernel
theorem dX12_undo_29 : decode cX12_undo 29 = .ok (.ireturn, 1) := by decide +kernel
theorem dX12_printReceipt_0 : decode cX12_printReceipt 0 = .ok (.aload_n 0, 1) := by decide +kernel
theorem dX12_printReceipt_1 : decode cX12_printReceipt 1 = .ok (.iload_n 1, 1) := by decide +kernel
theorem dX12_printReceipt_2 : decode cX12_printReceipt 2 = .ok (.invokevirtual 210, 3) := by decide +kernel
theorem dX12_printReceipt_5 : decode cX12_printReceipt 5 = .ok (.astore_n 2, 1) := by decide +kernel
theorem dX12_printReceipt_6 : decode cX12_printReceipt 6 = .ok (.aload_n 0, 1) := by decide +kernel
theorem dX12_printReceipt_7 : decode cX12_printReceipt 7 = .ok (.getfield 53, 3) := by decide +kernel
theorem dX12_printReceipt_10 : decode cX12_printReceipt 10 = .ok (.iconst 0, 1) := by decide +kernel
theorem dX12_printReceipt_11 : decode cX12_printReceipt 11 = .ok (.invokevirtual 338, 3) := by decide +kernel
theorem dX12_printReceipt_14 : decode cX12_printReceipt 14 = .ok (.aload_n 0, 1) := by decide +kernel
theorem dX12_printReceipt_15 : decode cX12_printReceipt 15 = .ok (.aload_n 0, 1) := by decide +kernel
theorem dX12_printReceipt_16 : decode cX12_printReceipt 16 = .ok (.aload_n 2, 1) := by decide +kernel
theorem dX12_printReceipt_17 : decode cX12_printReceipt 17 = .ok (.getfield 214, 3) := by decide +kernel
theorem dX12_printReceipt_20 : decode cX12_printReceipt 20 = .ok (.invokevirtual 181, 3) := by decide +kernel
theorem dX12_printReceipt_23 : decode cX12_printReceipt 23 = .ok (.getfield 341, 3) := by decide +kernel
theorem dX12_printReceipt_26 : decode cX12_printReceipt 26 = .ok (.invokevirtual 342, 3) := by decide +kernel
theorem dX12_printReceipt_29 : decode cX12_printReceipt 29 = .ok (.aload_n 0, 1) := by decide +kernel
theorem dX12_printReceipt_30 : decode cX12_printReceipt 30 = .ok (.getfield 53, 3) := by decide +kernel
theorem dX12_printReceipt_33 : decode cX12_printReceipt 33 = .ok (.bipush 64, 2) := by decide +kernel
theorem dX12_printReceipt_35 : decode cX12_printReceipt 35 = .ok (.invokevirtual 346, 3) := by decide +kernel
theorem dX12_printReceipt_38 : decode cX12_printReceipt 38 = .ok (.pop, 1) := by decide +kernel
theorem dX12_printReceipt_39 : decode cX12_printReceipt 39 = .ok (.aload_n 0, 1) := by decide +kernel
theorem dX12_printReceipt_40 : decode cX12_printReceipt 40 = .ok (.aload_n 0, 1) := by decide +kernel
theorem dX12_printReceipt_41 : decode cX12_printReceipt 41 = .ok (.aload_n 2, 1) := by decide +kernel
theorem dX12_printReceipt_42 : decode cX12_printReceipt 42 = .ok (.getfield 219, 3) := by decide +kernel
theorem dX12_printReceipt_45 : decode cX12_printReceipt 45 = .ok (.invokevirtual 133, 3) := by decide +kernel
theorem dX12_printReceipt_48 : decode cX12_printReceipt 48 = .ok (.getfield 137, 3) := by decide +kernel
theorem dX12_printReceipt_51 : decode cX12_printReceipt 51 = .ok (.invokevirtual 342, 3) := by decide +kernel
theorem dX12_printReceipt_54 : decode cX12_printReceipt 54 = .ok (.aload_n 0, 1) := by decide +kernel
theorem dX12_printReceipt_55 : decode cX12_printReceipt 55 = .ok (.getfield 53, 3) := by decide +kernel
theorem dX12_printReceipt_58 : decode cX12_printReceipt 58 = .ok (.bipush 32, 2) := by decide +kernel
theorem dX12_printReceipt_60 : decode cX12_printReceipt 60 = .ok (.invokevirtual 346, 3) := by decide +kernel
theorem dX12_printReceipt_63 : decode cX12_printReceipt 63 = .ok (.pop, 1) := by decide +kernel
theorem dX12_printReceipt_64 : decode cX12_printReceipt 64 = .ok (.iconst 1, 1) := by decide +kernel
theorem dX12_printReceipt_65 : decode cX12_printReceipt 65 = .ok (.istore_n 3, 1) := by decide +kernel
theorem dX12_printReceipt_66 : decode cX12_printReceipt 66 = .ok (.iload_n 3, 1) := by decide +kernel
theorem dX12_printReceipt_67 : decode cX12_printReceipt 67 = .ok (.aload_n 2, 1) := by decide +kernel
theorem dX12_printReceipt_68 : decode cX12_printReceipt 68 = .ok (.getfield 349, 3) := by decide +kernel
theorem dX12_printReceipt_71 : decode cX12_printReceipt 71 = .ok (.if_icmp .gt 22, 3) := by decide +kernel
theorem dX12_printReceipt_74 : decode cX12_printReceipt 74 = .ok (.aload_n 0, 1) := by decide +kernel
theorem dX12_printReceipt_75 : decode cX12_printReceipt 75 = .ok (.getfield 53, 3) := by decide +kernel
theorem dX12_printReceipt_78 : decode cX12_printReceipt 78 = .ok (.aload_n 2, 1) := by decide +kernel
theorem dX12_printReceipt_79 : decode cX12_printReceipt 79 = .ok (.iload_n 3, 1) := by decide +kernel
theorem dX12_printReceipt_80 : decode cX12_printReceipt 80 = .ok (.invokevirtual 352, 3) := by decide +kernel
theorem dX12_printReceipt_83 : decode cX12_printReceipt 83 = .ok (.invokevirtual 346, 3) := by decide +kernel
theorem dX12_printReceipt_86 : decode cX12_printReceipt 86 = .ok (.pop, 1) := by decide +kernel
theorem dX12_printReceipt_87 : decode cX12_printReceipt 87 = .ok (.iinc 3 1, 3) := by decide +kernel
theorem dX12_printReceipt_90 : decode cX12_printReceipt 90 = .ok (.goto (-24), 3) := by decide +kernel
theorem dX12_printReceipt_93 : decode cX12_printReceipt 93 = .ok (.aload_n 0, 1) := by decide +kernel
theorem dX12_printReceipt_94 : decode cX12_printReceipt 94 = .ok (.getfield 53, 3) := by decide +kernel
theorem dX12_printReceipt_97 : decode cX12_printReceipt 97 = .ok (.bipush 32, 2) := by decide +kernel
theorem dX12_printReceipt_99 : decode cX12_printReceipt 99 = .ok (.invokevirtual 346, 3) := by decide +kernel
theorem dX12_printReceipt_102 : decode cX12_printReceipt 102 = .ok (.pop, 1) := by decide +kernel
theorem dX12_printReceipt_103 : decode cX12_printReceipt 103 = .ok (.aload_n 0, 1) := by decide +kernel
theorem dX12_printReceipt_104 : decode cX12_printReceipt 104 = .ok (.getfield 53, 3) := by decide +kernel
theorem dX12_printReceipt_107 : decode cX12_printReceipt 107 = .ok (.aload_n 2, 1) := by decide +kernel
theorem dX12_printReceipt_108 : decode cX12_printReceipt 108 = .ok (.invokevirtual 228, 3) := by decide +kernel
theorem dX12_printReceipt_111 : decode cX12_printReceipt 111 = .ok (.invokevirtual 356, 3) := by decide +kernel
theorem dX12_printReceipt_114 : decode cX12_printReceipt 114 = .ok (.pop, 1) := by decide +kernel
theorem dX12_printReceipt_115 : decode cX12_printReceipt 115 = .ok (.aload_n 0, 1) := by decide +kernel
theorem dX12_printReceipt_116 : decode cX12_printReceipt 116 = .ok (.getfield 53, 3) := by decide +kernel
theorem dX12_printReceipt_119 : decode cX12_printReceipt 119 = .ok (.bipush 10, 2) := by decide +kernel
theorem dX12_printReceipt_121 : decode cX12_printReceipt 121 = .ok (.invokevirtual 346, 3) := by decide +kernel
theorem dX12_printReceipt_124 : decode cX12_printReceipt 124 = .ok (.pop, 1) := by decide +kernel
theorem dX12_printReceipt_125 : decode cX12_printReceipt 125 = .ok (.aload_n 0, 1) := by decide +kernel
theorem dX12_printReceipt_126 : decode cX12_printReceipt 126 = .ok (.getfield 53, 3) := by decide +kernel
theorem dX12_printReceipt_129 : decode cX12_printReceipt 129 = .ok (.invokevirtual 359, 3) := by decide +kernel
theorem dX12_printReceipt_132 : decode cX12_printReceipt 132 = .ok (.ireturn, 1) := by decide +kernel
theorem dX12_outputByte_0 : decode cX12_outputByte 0 = .ok (.iload_n 1, 1) := by decide +kernel
theorem dX12_outputByte_1 : decode cX12_outputByte 1 = .ok (.iconst 0, 1) := by decide +kernel
theorem dX12_outputByte_2 : decode cX12_outputByte 2 = .ok (.aload_n 0, 1) := by decide +kernel
theorem dX12_outputByte_3 : decode cX12_outputByte 3 = .ok (.getfield 53, 3) := by decide +kernel
theorem dX12_outputByte_6 : decode cX12_outputByte 6 = .ok (.invokevirtual 359, 3) := by decide +kernel
theorem dX12_outputByte_9 : decode cX12_outputByte 9 = .ok (.iconst 1, 1) := by decide +kernel
theorem dX12_outputByte_10 : decode cX12_outputByte 10 = .ok (.isub, 1) := by decide +kernel
theorem dX12_outputByte_11 : decode cX12_outputByte 11 = .ok (.invokestatic 73, 3) := by decide +kernel
theorem dX12_outputByte_14 : decode cX12_outputByte 14 = .ok (.invokestatic 246, 3) := by decide +kernel
theorem dX12_outputByte_17 : decode cX12_outputByte 17 = .ok (.aload_n 0, 1) := by decide +kernel
theorem dX12_outputByte_18 : decode cX12_outputByte 18 = .ok (.getfield 53, 3) := by decide +kernel
theorem dX12_outputByte_21 : decode cX12_outputByte 21 = .ok (.iload_n 1, 1) := by decide +kernel
theorem dX12_outputByte_22 : decode cX12_outputByte 22 = .ok (.invokevirtual 361, 3) := by decide +kernel
theorem dX12_outputByte_25 : decode cX12_outputByte 25 = .ok (.ireturn, 1) := by decide +kernel
theorem dX12_saveState_0 : decode cX12_saveState 0 = .ok (.aload_n 0, 1) := by decide +kernel
theorem dX12_saveState_1 : decode cX12_saveState 1 = .ok (.getfield 26, 3) := by decide +kernel
theorem dX12_saveState_4 : decode cX12_saveState 4 = .ok (.aload_n 0, 1) := by decide +kernel
theorem dX12_saveState_5 : decode cX12_saveState 5 = .ok (.getfield 19, 3) := by decide +kernel
theorem dX12_saveState_8 : decode cX12_saveState 8 = .ok (.invokevirtual 84, 3) := by decide +kernel
theorem dX12_saveState_11 : decode cX12_saveState 11 = .ok (.aload_n 0, 1) := by decide +kernel
theorem dX12_saveState_12 : decode cX12_saveState 12 = .ok (.iconst 1, 1) := by decide +kernel
theorem dX12_saveState_13 : decode cX12_saveState 13 = .ok (.putfield 57, 3) := by decide +kernel
theorem dX12_saveState_16 : decode cX12_saveState 16 = .ok (.aload_n 0, 1) := by decide +kernel
theorem dX12_saveState_17 : decode cX12_saveState 17 = .ok (.getfield 19, 3) := by decide +kernel
theorem dX12_saveState_20 : decode cX12_saveState 20 = .ok (.getfield 114, 3) := by decide +kernel
theorem dX12_saveState_23 : decode cX12_saveState 23 = .ok (.ireturn, 1) := by decide +kernel
theorem dX12_restoreState_0 : decode cX12_restoreState 0 = .ok (.aload_n 0, 1) := by decide +kernel
theorem dX12_restoreState_1 : decode cX12_restoreState 1 = .ok (.getfield 57, 3) := by decide +kernel
theorem dX12_restoreState_4 : decode cX12_restoreState 4 = .ok (.invokestatic 65, 3) := by decide +kernel
theorem dX12_restoreState_7 : decode cX12_restoreState 7 = .ok (.aload_n 0, 1) := by decide +kernel
theorem dX12_restoreState_8 : decode cX12_restoreState 8 = .ok (.getfield 19, 3) := by decide +kernel
theorem dX12_restoreState_11 : decode cX12_restoreState 11 = .ok (.aload_n 0, 1) := by decide +kernel
theorem dX12_restoreState_12 : decode cX12_restoreState 12 = .ok (.getfield 26, 3) := by decide +kernel
theorem dX12_restoreState_15 : decode cX12_restoreState 15 = .ok (.invokevirtual 84, 3) := by decide +kernel
theorem dX12_restoreState_18 : decode cX12_restoreState 18 = .ok (.aload_n 0, 1) := by decide +kernel
theorem dX12_restoreState_19 : decode cX12_restoreState 19 = .ok (.getfield 46, 3) := by decide +kernel
theorem dX12_restoreState_22 : decode cX12_restoreState 22 = .ok (.invokevirtual 88, 3) := by decide +kernel
theorem dX12_restoreState_25 : decode cX12_restoreState 25 = .ok (.aload_n 0, 1) := by decide +kernel
theorem dX12_restoreState_26 : decode cX12_restoreState 26 = .ok (.getfield 19, 3) := by decide +kernel
theorem dX12_restoreState_29 : decode cX12_restoreState 29 = .ok (.getfield 114, 3) := by decide +kernel
theorem dX12_restoreState_32 : decode cX12_restoreState 32 = .ok (.ireturn, 1) := by decide +kernel
theorem dX12_valleyAt_0 : decode cX12_valleyAt 0 = .ok (.aload_n 0, 1) := by decide +kernel
theorem dX12_valleyAt_1 : decode cX12_valleyAt 1 = .ok (.getfield 19, 3) := by decide +kernel
theorem dX12_valleyAt_4 : decode cX12_valleyAt 4 = .ok (.iload_n 1, 1) := by decide +kernel
theorem dX12_valleyAt_5 : decode cX12_valleyAt 5 = .ok (.invokevirtual 243, 3) := by decide +kernel
theorem dX12_valleyAt_8 : decode cX12_valleyAt 8 = .ok (.invokestatic 246, 3) := by decide +kernel
theorem dX12_valleyAt_11 : decode cX12_valleyAt 11 = .ok (.aload_n 0, 1) := by decide +kernel
theorem dX12_valleyAt_12 : decode cX12_valleyAt 12 = .ok (.getfield 19, 3) := by decide +kernel
theorem dX12_valleyAt_15 : decode cX12_valleyAt 15 = .ok (.getfield 364, 3) := by decide +kernel
theorem dX12_valleyAt_18 : decode cX12_valleyAt 18 = .ok (.iload_n 1, 1) := by decide +kernel
theorem dX12_valleyAt_19 : decode cX12_valleyAt 19 = .ok (.aaload, 1) := by decide +kernel
theorem dX12_valleyAt_20 : decode cX12_valleyAt 20 = .ok (.areturn, 1) := by decide +kernel
theorem dX12_customerAt_0 : decode cX12_customerAt 0 = .ok (.aload_n 0, 1) := by decide +kernel
theorem dX12_customerAt_1 : decode cX12_customerAt 1 = .ok (.getfield 19, 3) := by decide +kernel
theorem dX12_customerAt_4 : decode cX12_customerAt 4 = .ok (.iload_n 1, 1) := by decide +kernel
theorem dX12_customerAt_5 : decode cX12_customerAt 5 = .ok (.invokevirtual 239, 3) := by decide +kernel
theorem dX12_customerAt_8 : decode cX12_customerAt 8 = .ok (.invokestatic 246, 3) := by decide +kernel
theorem dX12_customerAt_11 : decode cX12_customerAt 11 = .ok (.aload_n 0, 1) := by decide +kernel
theorem dX12_customerAt_12 : decode cX12_customerAt 12 = .ok (.getfield 19, 3) := by decide +kernel
theorem dX12_customerAt_15 : decode cX12_customerAt 15 = .ok (.getfield 368, 3) := by decide +kernel
theorem dX12_customerAt_18 : decode cX12_customerAt 18 = .ok (.iload_n 1, 1) := by decide +kernel
theorem dX12_customerAt_19 : decode cX12_customerAt 19 = .ok (.aaload, 1) := by decide +kernel
theorem dX12_customerAt_20 : decode cX12_customerAt 20 = .ok (.areturn, 1) := by decide +kernel
theorem dX12_shoutAt_0 : decode cX12_shoutAt 0 = .ok (.aload_n 0, 1) := by decide +kernel
theorem dX12_shoutAt_1 : decode cX12_shoutAt 1 = .ok (.getfield 19, 3) := by decide +kernel
theorem dX12_shoutAt_4 : decode cX12_shoutAt 4 = .ok (.iload_n 1, 1) := by decide +kernel
theorem dX12_shoutAt_5 : decode cX12_shoutAt 5 = .ok (.invokevirtual 372, 3) := by decide +kernel
theorem dX12_shoutAt_8 : decode cX12_shoutAt 8 = .ok (.invokestatic 246, 3) := by decide +kernel
theorem dX12_shoutAt_11 : decode cX12_shoutAt 11 = .ok (.aload_n 0, 1) := by decide +kernel
theorem dX12_shoutAt_12 : decode cX12_shoutAt 12 = .ok (.getfield 19, 3) := by decide +kernel
theorem dX12_shoutAt_15 : decode cX12_shoutAt 15 = .ok (.getfield 375, 3) := by decide +kernel
theorem dX12_shoutAt_18 : decode cX12_shoutAt 18 = .ok (.iload_n 1, 1) := by decide +kernel
theorem dX12_shoutAt_19 : decode cX12_shoutAt 19 = .ok (.aaload, 1) := by decide +kernel
theorem dX12_shoutAt_20 : decode cX12_shoutAt 20 = .ok (.areturn, 1) := by decide +kernel
theorem dX12_printName_0 : decode cX12_printName 0 = .ok (.iconst 0, 1) := by decide +kernel
theorem dX12_printName_1 : decode cX12_printName 1 = .ok (.istore_n 3, 1) := by decide +kernel
theorem dX12_printName_2 : decode cX12_printName 2 = .ok (.iload_n 3, 1) := by decide +kernel
theorem dX12_printName_3 : decode cX12_printName 3 = .ok (.bipush 8, 2) := by decide +kernel
theorem dX12_printName_5 : decode cX12_printName 5 = .ok (.if_icmp .ge 33, 3) := by decide +kernel
theorem dX12_printName_8 : decode cX12_printName 8 = .ok (.lload_n 1, 1) := by decide +kernel
theorem dX12_printName_9 : decode cX12_printName 9 = .ok (.iload_n 3, 1) := by decide +kernel
theorem dX12_printName_10 : decode cX12_printName 10 = .ok (.invokestatic 143, 3) := by decide +kernel
theorem dX12_printName_13 : decode cX12_printName 13 = .ok (.istore 4, 2) := by decide +kernel
theorem dX12_printName_15 : decode cX12_printName 15 = .ok (.iload 4, 2) := by decide +kernel
theorem dX12_printName_17 : decode cX12_printName 17 = .ok (.iconst (-1), 1) := by decide +kernel
theorem dX12_printName_18 : decode cX12_printName 18 = .ok (.if_icmp .eq 14, 3) := by decide +kernel
theorem dX12_printName_21 : decode cX12_printName 21 = .ok (.aload_n 0, 1) := by decide +kernel
theorem dX12_printName_22 : decode cX12_printName 22 = .ok (.getfield 53, 3) := by decide +kernel
theorem dX12_printName_25 : decode cX12_printName 25 = .ok (.iload 4, 2) := by decide +kernel
theorem dX12_printName_27 : decode cX12_printName 27 = .ok (.i2c, 1) := by decide +kernel
theorem dX12_printName_28 : decode cX12_printName 28 = .ok (.invokevirtual 346, 3) := by decide +kernel
theorem dX12_printName_31 : decode cX12_printName 31 = .ok (.pop, 1) := by decide +kernel
theorem dX12_printName_32 : decode cX12_printName 32 = .ok (.iinc 3 1, 3) := by decide +kernel
theorem dX12_printName_35 : decode cX12_printName 35 = .ok (.goto (-33), 3) := by decide +kernel
theorem dX12_printName_38 : decode cX12_printName 38 = .ok (.return_, 1) := by decide +kernel
theorem dX12_demand_0 : decode cX12_demand 0 = .ok (.aload_n 0, 1) := by decide +kernel
theorem dX12_demand_1 : decode cX12_demand 1 = .ok (.getstatic 379, 3) := by decide +kernel
theorem dX12_demand_4 : decode cX12_demand 4 = .ok (.if_acmp .eq 7, 3) := by decide +kernel
theorem dX12_demand_7 : decode cX12_demand 7 = .ok (.iconst 1, 1) := by decide +kernel
theorem dX12_demand_8 : decode cX12_demand 8 = .ok (.goto 4, 3) := by decide +kernel
theorem dX12_demand_11 : decode cX12_demand 11 = .ok (.iconst 0, 1) := by decide +kernel
theorem dX12_demand_12 : decode cX12_demand 12 = .ok (.invokestatic 246, 3) := by decide +kernel
theorem dX12_demand_15 : decode cX12_demand 15 = .ok (.aload_n 0, 1) := by decide +kernel
theorem dX12_demand_16 : decode cX12_demand 16 = .ok (.getstatic 385, 3) := by decide +kernel
theorem dX12_demand_19 : decode cX12_demand 19 = .ok (.if_acmp .eq 7, 3) := by decide +kernel
theorem dX12_demand_22 : decode cX12_demand 22 = .ok (.iconst 1, 1) := by decide +kernel
theorem dX12_demand_23 : decode cX12_demand 23 = .ok (.goto 4, 3) := by decide +kernel
theorem dX12_demand_26 : decode cX12_demand 26 = .ok (.iconst 0, 1) := by decide +kernel
theorem dX12_demand_27 : decode cX12_demand 27 = .ok (.invokestatic 77, 3) := by decide +kernel
theorem dX12_demand_30 : decode cX12_demand 30 = .ok (.aload_n 0, 1) := by decide +kernel
theorem dX12_demand_31 : decode cX12_demand 31 = .ok (.getstatic 388, 3) := by decide +kernel
theorem dX12_demand_34 : decode cX12_demand 34 = .ok (.if_acmp .eq 7, 3) := by decide +kernel
theorem dX12_demand_37 : decode cX12_demand 37 = .ok (.iconst 1, 1) := by decide +kernel
theorem dX12_demand_38 : decode cX12_demand 38 = .ok (.goto 4, 3) := by decide +kernel
theorem dX12_demand_41 : decode cX12_demand 41 = .ok (.iconst 0, 1) := by decide +kernel
theorem dX12_demand_42 : decode cX12_demand 42 = .ok (.invokestatic 65, 3) := by decide +kernel
theorem dX12_demand_45 : decode cX12_demand 45 = .ok (.return_, 1) := by decide +kernel
theorem dX12_demandIndex_0 : decode cX12_demandIndex 0 = .ok (.iload_n 0, 1) := by decide +kernel
theorem dX12_demandIndex_1 : decode cX12_demandIndex 1 = .ok (.ifCond .ne 14, 3) := by decide +kernel
theorem dX12_demandIndex_4 : decode cX12_demandIndex 4 = .ok (.new 391, 3) := by decide +kernel
theorem dX12_demandIndex_7 : decode cX12_demandIndex 7 = .ok (.dup, 1) := by decide +kernel
theorem dX12_demandIndex_8 : decode cX12_demandIndex 8 = .ok (.ldc_w 393, 3) := by decide +kernel
theorem dX12_demandIndex_11 : decode cX12_demandIndex 11 = .ok (.invokespecial 395, 3) := by decide +kernel
theorem dX12_demandIndex_14 : decode cX12_demandIndex 14 = .ok (.athrow, 1) := by decide +kernel
theorem dX12_demandIndex_15 : decode cX12_demandIndex 15 = .ok (.return_, 1) := by decide +kernel
theorem dX12_demandArgument_0 : decode cX12_demandArgument 0 = .ok (.iload_n 0, 1) := by decide +kernel
theorem dX12_demandArgument_1 : decode cX12_demandArgument 1 = .ok (.ifCond .ne 14, 3) := by decide +kernel
theorem dX12_demandArgument_4 : decode cX12_demandArgument 4 = .ok (.new 398, 3) := by decide +kernel
theorem dX12_demandArgument_7 : decode cX12_demandArgument 7 = .ok (.dup, 1) := by decide +kernel
theorem dX12_demandArgument_8 : decode cX12_demandArgument 8 = .ok (.ldc_w 400, 3) := by decide +kernel
theorem dX12_demandArgument_11 : decode cX12_demandArgument 11 = .ok (.invokespecial 402, 3) := by decide +kernel
theorem dX12_demandArgument_14 : decode cX12_demandArgument 14 = .ok (.athrow, 1) := by decide +kernel
theorem dX12_demandArgument_15 : decode cX12_demandArgument 15 = .ok (.return_, 1) := by decide +kernel
theorem dX12_demandState_0 : decode cX12_demandState 0 = .ok (.iload_n 0, 1) := by decide +kernel
theorem dX12_demandState_1 : decode cX12_demandState 1 = .ok (.ifCond .ne 14, 3) := by decide +kernel
theorem dX12_demandState_4 : decode cX12_demandState 4 = .ok (.new 403, 3) := by decide +kernel
theorem dX12_demandState_7 : decode cX12_demandState 7 = .ok (.dup, 1) := by decide +kernel
theorem dX12_demandState_8 : decode cX12_demandState 8 = .ok (.ldc_w 405, 3) := by decide +kernel
theorem dX12_demandState_11 : decode cX12_demandState 11 = .ok (.invokespecial 407, 3) := by decide +kernel
theorem dX12_demandState_14 : decode cX12_demandState 14 = .ok (.athrow, 1) := by decide +kernel
theorem dX12_demandState_15 : decode cX12_demandState 15 = .ok (.return_, 1) := by decide +kernel
theorem dX12_isWithin_0 : decode cX12_isWithin 0 = .ok (.iload_n 0, 1) := by decide +kernel
theorem dX12_isWithin_1 : decode cX12_isWithin 1 = .ok (.iload_n 1, 1) := by decide +kernel
theorem dX12_isWithin_2 : decode cX12_isWithin 2 = .ok (.if_icmp .lt 12, 3) := by decide +kernel
theorem dX12_isWithin_5 : decode cX12_isWithin 5 = .ok (.iload_n 0, 1) := by decide +kernel
theorem dX12_isWithin_6 : decode cX12_isWithin 6 = .ok (.iload_n 2, 1) := by decide +kernel
theorem dX12_isWithin_7 : decode cX12_isWithin 7 = .ok (.if_icmp .gt 7, 3) := by decide +kernel
theorem dX12_isWithin_10 : decode cX12_isWithin 10 = .ok (.iconst 1, 1) := by decide +kernel
theorem dX12_isWithin_11 : decode cX12_isWithin 11 = .ok (.goto 4, 3) := by decide +kernel
theorem dX12_isWithin_14 : decode cX12_isWithin 14 = .ok (.iconst 0, 1) := by decide +kernel
theorem dX12_isWithin_15 : decode cX12_isWithin 15 = .ok (.ireturn, 1) := by decide +kernel
theorem dX12_isLetter_0 : decode cX12_isLetter 0 = .ok (.iload_n 0, 1) := by decide +kernel
theorem dX12_isLetter_1 : decode cX12_isLetter 1 = .ok (.bipush 97, 2) := by decide +kernel
theorem dX12_isLetter_3 : decode cX12_isLetter 3 = .ok (.if_icmp .lt 13, 3) := by decide +kernel
theorem dX12_isLetter_6 : decode cX12_isLetter 6 = .ok (.iload_n 0, 1) := by decide +kernel
theorem dX12_isLetter_7 : decode cX12_isLetter 7 = .ok (.bipush 122, 2) := by decide +kernel
theorem dX12_isLetter_9 : decode cX12_isLetter 9 = .ok (.if_icmp .gt 7, 3) := by decide +kernel
theorem dX12_isLetter_12 : decode cX12_isLetter 12 = .ok (.iconst 1, 1) := by decide +kernel
theorem dX12_isLetter_13 : decode cX12_isLetter 13 = .ok (.goto 4, 3) := by decide +kernel
theorem dX12_isLetter_16 : decode cX12_isLetter 16 = .ok (.iconst 0, 1) := by decide +kernel
theorem dX12_isLetter_17 : decode cX12_isLetter 17 = .ok (.ireturn, 1) := by decide +kernel
theorem dX12_isDigit_0 : decode cX12_isDigit 0 = .ok (.iload_n 0, 1) := by decide +kernel
theorem dX12_isDigit_1 : decode cX12_isDigit 1 = .ok (.bipush 48, 2) := by decide +kernel
theorem dX12_isDigit_3 : decode cX12_isDigit 3 = .ok (.if_icmp .lt 13, 3) := by decide +kernel
theorem dX12_isDigit_6 : decode cX12_isDigit 6 = .ok (.iload_n 0, 1) := by decide +kernel
theorem dX12_isDigit_7 : decode cX12_isDigit 7 = .ok (.bipush 57, 2) := by decide +kernel
theorem dX12_isDigit_9 : decode cX12_isDigit 9 = .ok (.if_icmp .gt 7, 3) := by decide +kernel
theorem dX12_isDigit_12 : decode cX12_isDigit 12 = .ok (.iconst 1, 1) := by decide +kernel
theorem dX12_isDigit_13 : decode cX12_isDigit 13 = .ok (.goto 4, 3) := by decide +kernel
theorem dX12_isDigit_16 : decode cX12_isDigit 16 = .ok (.iconst 0, 1) := by decide +kernel
theorem dX12_isDigit_17 : decode cX12_isDigit 17 = .ok (.ireturn, 1) := by decide +kernel
theorem dX12_letterOf_0 : decode cX12_letterOf 0 = .ok (.iload_n 2, 1) := by decide +kernel
theorem dX12_letterOf_1 : decode cX12_letterOf 1 = .ok (.iconst 0, 1) := by decide +kernel
theorem dX12_letterOf_2 : decode cX12_letterOf 2 = .ok (.bipush 7, 2) := by decide +kernel
theorem dX12_letterOf_4 : decode cX12_letterOf 4 = .ok (.invokestatic 73, 3) := by decide +kernel
theorem dX12_letterOf_7 : decode cX12_letterOf 7 = .ok (.ifCond .ne 5, 3) := by decide +kernel
theorem dX12_letterOf_10 : decode cX12_letterOf 10 = .ok (.iconst (-1), 1) := by decide +kernel
theorem dX12_letterOf_11 : decode cX12_letterOf 11 = .ok (.ireturn, 1) := by decide +kernel
theorem dX12_letterOf_12 : decode cX12_letterOf 12 = .ok (.lload_n 0, 1) := by decide +kernel
theorem dX12_letterOf_13 : decode cX12_letterOf 13 = .ok (.bipush 8, 2) := by decide +kernel
theorem dX12_letterOf_15 : decode cX12_letterOf 15 = .ok (.bipush 7, 2) := by decide +kernel
theorem dX12_letterOf_17 : decode cX12_letterOf 17 = .ok (.iload_n 2, 1) := by decide +kernel
theorem dX12_letterOf_18 : decode cX12_letterOf 18 = .ok (.isub, 1) := by decide +kernel
theorem dX12_letterOf_19 : decode cX12_letterOf 19 = .ok (.imul, 1) := by decide +kernel
theorem dX12_letterOf_20 : decode cX12_letterOf 20 = .ok (.lushr, 1) := by decide +kernel
theorem dX12_letterOf_21 : decode cX12_letterOf 21 = .ok (.l2i, 1) := by decide +kernel
theorem dX12_letterOf_22 : decode cX12_letterOf 22 = .ok (.sipush 255, 3) := by decide +kernel
theorem dX12_letterOf_25 : decode cX12_letterOf 25 = .ok (.iand, 1) := by decide +kernel
theorem dX12_letterOf_26 : decode cX12_letterOf 26 = .ok (.istore_n 3, 1) := by decide +kernel
theorem dX12_letterOf_27 : decode cX12_letterOf 27 = .ok (.iload_n 3, 1) := by decide +kernel
theorem dX12_letterOf_28 : decode cX12_letterOf 28 = .ok (.ifCond .ne 7, 3) := by decide +kernel
theorem dX12_letterOf_31 : decode cX12_letterOf 31 = .ok (.iconst (-1), 1) := by decide +kernel
theorem dX12_letterOf_32 : decode cX12_letterOf 32 = .ok (.goto 4, 3) := by decide +kernel
theorem dX12_letterOf_35 : decode cX12_letterOf 35 = .ok (.iload_n 3, 1) := by decide +kernel
theorem dX12_letterOf_36 : decode cX12_letterOf 36 = .ok (.ireturn, 1) := by decide +kernel
theorem dX13_init_0 : decode cX13_init 0 = .ok (.aload_n 0, 1) := by decide +kernel
theorem dX13_init_1 : decode cX13_init 1 = .ok (.invokespecial 1, 3) := by decide +kernel
theorem dX13_init_4 : decode cX13_init 4 = .ok (.aload_n 0, 1) := by decide +kernel
theorem dX13_init_5 : decode cX13_init 5 = .ok (.sipush 600, 3) := by decide +kernel
theorem dX13_init_8 : decode cX13_init 8 = .ok (.newarray .int, 2) := by decide +kernel
theorem dX13_init_10 : decode cX13_init 10 = .ok (.putfield 7, 3) := by decide +kernel
theorem dX13_init_13 : decode cX13_init 13 = .ok (.aload_n 0, 1) := by decide +kernel
theorem dX13_init_14 : decode cX13_init 14 = .ok (.iconst (-1), 1) := by decide +kernel
theorem dX13_init_15 : decode cX13_init 15 = .ok (.putfield 13, 3) := by decide +kernel
theorem dX13_init_18 : decode cX13_init 18 = .ok (.aload_n 0, 1) := by decide +kernel
theorem dX13_init_19 : decode cX13_init 19 = .ok (.iconst (-1), 1) := by decide +kernel
theorem dX13_init_20 : decode cX13_init 20 = .ok (.putfield 17, 3) := by decide +kernel
theorem dX13_init_23 : decode cX13_init 23 = .ok (.aload_n 0, 1) := by decide +kernel
theorem dX13_init_24 : decode cX13_init 24 = .ok (.sipush 390, 3) := by decide +kernel
theorem dX13_init_27 : decode cX13_init 27 = .ok (.newarray .int, 2) := by decide +kernel
theorem dX13_init_29 : decode cX13_init 29 = .ok (.putfield 20, 3) := by decide +kernel
theorem dX13_init_32 : decode cX13_init 32 = .ok (.aload_n 0, 1) := by decide +kernel
theorem dX13_init_33 : decode cX13_init 33 = .ok (.sipush 390, 3) := by decide +kernel
theorem dX13_init_36 : decode cX13_init 36 = .ok (.newarray .int, 2) := by decide +kernel
theorem dX13_init_38 : decode cX13_init 38 = .ok (.putfield 23, 3) := by decide +kernel
theorem dX13_init_41 : decode cX13_init 41 = .ok (.aload_n 0, 1) := by decide +kernel
theorem dX13_init_42 : decode cX13_init 42 = .ok (.sipush 390, 3) := by decide +kernel
theorem dX13_init_45 : decode cX13_init 45 = .ok (.newarray .int, 2) := by decide +kernel
theorem dX13_init_47 : decode cX13_init 47 = .ok (.putfield 26, 3) := by decide +kernel
theorem dX13_init_50 : decode cX13_init 50 = .ok (.aload_n 0, 1) := by decide +kernel
theorem dX13_init_51 : decode cX13_init 51 = .ok (.sipush 390, 3) := by decide +kernel
theorem dX13_init_54 : decode cX13_init 54 = .ok (.newarray .int, 2) := by decide +kernel
theorem dX13_init_56 : decode cX13_init 56 = .ok (.putfield 29, 3) := by decide +kernel
theorem dX13_init_59 : decode cX13_init 59 = .ok (.aload_n 0, 1) := by decide +kernel
theorem dX13_init_60 : decode cX13_init 60 = .ok (.sipush 2340, 3) := by decide +kernel
theorem dX13_init_63 : decode cX13_init 63 = .ok (.newarray .int, 2) := by decide +kernel
theorem dX13_init_65 : decode cX13_init 65 = .ok (.putfield 32, 3) := by decide +kernel
theorem dX13_init_68 : decode cX13_init 68 = .ok (.aload_n 0, 1) := by decide +kernel
theorem dX13_init_69 : decode cX13_init 69 = .ok (.bipush 60, 2) := by decide +kernel
theorem dX13_init_71 : decode cX13_init 71 = .ok (.newarray .int, 2) := by decide +kernel
theorem dX13_init_73 : decode cX13_init 73 = .ok (.putfield 35, 3) := by decide +kernel
theorem dX13_init_76 : decode cX13_init 76 = .ok (.aload_n 0, 1) := by decide +kernel
theorem dX13_init_77 : decode cX13_init 77 = .ok (.bipush 60, 2) := by decide +kernel
theorem dX13_init_79 : decode cX13_init 79 = .ok (.newarray .int, 2) := by decide +kernel
theorem dX13_init_81 : decode cX13_init 81 = .ok (.putfield 38, 3) := by decide +kernel
theorem dX13_init_84 : decode cX13_init 84 = .ok (.aload_n 0, 1) := by decide +kernel
theorem dX13_init_85 : decode cX13_init 85 = .ok (.bipush 60, 2) := by decide +kernel
theorem dX13_init_87 : decode cX13_init 87 = .ok (.newarray .int, 2) := by decide +kernel
theorem dX13_init_89 : decode cX13_init 89 = .ok (.putfield 41, 3) := by decide +kernel
theorem dX13_init_92 : decode cX13_init 92 = .ok (.aload_n 0, 1) := by decide +kernel
theorem dX13_init_93 : decode cX13_init 93 = .ok (.bipush 60, 2) := by decide +kernel
theorem dX13_init_95 : decode cX13_init 95 = .ok (.newarray .int, 2) := by decide +kernel
theorem dX13_init_97 : decode cX13_init 97 = .ok (.putfield 44, 3) := by decide +kernel
theorem dX13_init_100 : decode cX13_init 100 = .ok (.aload_n 0, 1) := by decide +kernel
theorem dX13_init_101 : decode cX13_init 101 = .ok (.bipush 60, 2) := by decide +kernel
theorem dX13_init_103 : decode cX13_init 103 = .ok (.newarray .int, 2) := by decide +kernel
theorem dX13_init_105 : decode cX13_init 105 = .ok (.putfield 47, 3) := by decide +kernel
theorem dX13_init_108 : decode cX13_init 108 = .ok (.aload_n 0, 1) := by decide +kernel
theorem dX13_init_109 : decode cX13_init 109 = .ok (.iconst 2, 1) := by decide +kernel
theorem dX13_init_110 : decode cX13_init 110 = .ok (.newarray .int, 2) := by decide +kernel
theorem dX13_init_112 : decode cX13_init 112 = .ok (.putfield 50, 3) := by decide +kernel
theorem dX13_init_115 : decode cX13_init 115 = .ok (.aload_n 0, 1) := by decide +kernel
theorem dX13_init_116 : decode cX13_init 116 = .ok (.iconst 2, 1) := by decide +kernel
theorem dX13_init_117 : decode cX13_init 117 = .ok (.newarray .int, 2) := by decide +kernel
theorem dX13_init_119 : decode cX13_init 119 = .ok (.putfield 53, 3) := by decide +kernel
theorem dX13_init_122 : decode cX13_init 122 = .ok (.aload_n 0, 1) := by decide +kernel
theorem dX13_init_123 : decode cX13_init 123 = .ok (.bipush 60, 2) := by decide +kernel
theorem dX13_init_125 : decode cX13_init 125 = .ok (.newarray .int, 2) := by decide +kernel
theorem dX13_init_127 : decode cX13_init 127 = .ok (.putfield 56, 3) := by decide +kernel
theorem dX13_init_130 : decode cX13_init 130 = .ok (.aload_n 0, 1) := by decide +kernel
theorem dX13_init_131 : decode cX13_init 131 = .ok (.invokevirtual 59, 3) := by decide +kernel
theorem dX13_init_134 : decode cX13_init 134 = .ok (.return_, 1) := by decide +kernel
theorem dX13_thrown_0 : decode cX13_thrown 0 = .ok (.aload_n 0, 1) := by decide +kernel
theorem dX13_thrown_1 : decode cX13_thrown 1 = .ok (.getfield 62, 3) := by decide +kernel
theorem dX13_thrown_4 : decode cX13_thrown 4 = .ok (.ireturn, 1) := by decide +kernel
theorem dX13_isIn_0 : decode cX13_isIn 0 = .ok (.lload_n 0, 1) := by decide +kernel
theorem dX13_isIn_1 : decode cX13_isIn 1 = .ok (.lload_n 2, 1) := by decide +kernel
theorem dX13_isIn_2 : decode cX13_isIn 2 = .ok (.lcmp, 1) := by decide +kernel
theorem dX13_isIn_3 : decode cX13_isIn 3 = .ok (.ifCond .lt 14, 3) := by decide +kernel
theorem dX13_isIn_6 : decode cX13_isIn 6 = .ok (.lload_n 0, 1) := by decide +kernel
theorem dX13_isIn_7 : decode cX13_isIn 7 = .ok (.lload 4, 2) := by decide +kernel
theorem dX13_isIn_9 : decode cX13_isIn 9 = .ok (.lcmp, 1) := by decide +kernel
theorem dX13_isIn_10 : decode cX13_isIn 10 = .ok (.ifCond .gt 7, 3) := by decide +kernel
theorem dX13_isIn_13 : decode cX13_isIn 13 = .ok (.iconst 1, 1) := by decide +kernel
theorem dX13_isIn_14 : decode cX13_isIn 14 = .ok (.goto 4, 3) := by decide +kernel
theorem dX13_isIn_17 : decode cX13_isIn 17 = .ok (.iconst 0, 1) := by decide +kernel
theorem dX13_isIn_18 : decode cX13_isIn 18 = .ok (.ireturn, 1) := by decide +kernel
theorem dX13_truth_0 : decode cX13_truth 0 = .ok (.iload_n 0, 1) := by decide +kernel
theorem dX13_truth_1 : decode cX13_truth 1 = .ok (.ifCond .eq 7, 3) := by decide +kernel
theorem dX13_truth_4 : decode cX13_truth 4 = .ok (.iconst 1, 1) := by decide +kernel
theorem dX13_truth_5 : decode cX13_truth 5 = .ok (.goto 4, 3) := by decide +kernel
theorem dX13_truth_8 : decode cX13_truth 8 = .ok (.iconst 0, 1) := by decide +kernel
theorem dX13_truth_9 : decode cX13_truth 9 = .ok (.ireturn, 1) := by decide +kernel
theorem dX13_has_0 : decode cX13_has 0 = .ok (.iload_n 0, 1) := by decide +kernel
theorem dX13_has_1 : decode cX13_has 1 = .ok (.iload_n 1, 1) := by decide +kernel
theorem dX13_has_2 : decode cX13_has 2 = .ok (.ishr, 1) := by decide +kernel
theorem dX13_has_3 : decode cX13_has 3 = .ok (.iconst 1, 1) := by decide +kernel
theorem dX13_has_4 : decode cX13_has 4 = .ok (.iand, 1) := by decide +kernel
theorem dX13_has_5 : decode cX13_has 5 = .ok (.iconst 1, 1) := by decide +kernel
theorem dX13_has_6 : decode cX13_has 6 = .ok (.if_icmp .ne 7, 3) := by decide +kernel
theorem dX13_has_9 : decode cX13_has 9 = .ok (.iconst 1, 1) := by decide +kernel
theorem dX13_has_10 : decode cX13_has 10 = .ok (.goto 4, 3) := by decide +kernel
theorem dX13_has_13 : decode cX13_has 13 = .ok (.iconst 0, 1) := by decide +kernel
theorem dX13_has_14 : decode cX13_has 14 = .ok (.ireturn, 1) := by decide +kernel
theorem dX13_goes_0 : decode cX13_goes 0 = .ok (.aload_n 0, 1) := by decide +kernel
theorem dX13_goes_1 : decode cX13_goes 1 = .ok (.iload_n 1, 1) := by decide +kernel
theorem dX13_goes_2 : decode cX13_goes 2 = .ok (.ifCond .ne 7, 3) := by decide +kernel
theorem dX13_goes_5 : decode cX13_goes 5 = .ok (.iconst 1, 1) := by decide +kernel
theorem dX13_goes_6 : decode cX13_goes 6 = .ok (.goto 4, 3) := by decide +kernel
theorem dX13_goes_9 : decode cX13_goes 9 = .ok (.iconst 0, 1) := by decide +kernel
theorem dX13_goes_10 : decode cX13_goes 10 = .ok (.invokestatic 65, 3) := by decide +kernel
theorem dX13_goes_13 : decode cX13_goes 13 = .ok (.putfield 62, 3) := by decide +kernel
theorem dX13_goes_16 : decode cX13_goes 16 = .ok (.iload_n 1, 1) := by decide +kernel
theorem dX13_goes_17 : decode cX13_goes 17 = .ok (.ireturn, 1) := by decide +kernel
theorem dX13_goesBoth_0 : decode cX13_goesBoth 0 = .ok (.aload_n 0, 1) := by decide +kernel
theorem dX13_goesBoth_1 : decode cX13_goesBoth 1 = .ok (.iload_n 1, 1) := by decide +kernel
theorem dX13_goesBoth_2 : decode cX13_goesBoth 2 = .ok (.ifCond .ne 7, 3) := by decide +kernel
theorem dX13_goesBoth_5 : decode cX13_goesBoth 5 = .ok (.iconst 1, 1) := by decide +kernel
theorem dX13_goesBoth_6 : decode cX13_goesBoth 6 = .ok (.goto 12, 3) := by decide +kernel
theorem dX13_goesBoth_9 : decode cX13_goesBoth 9 = .ok (.iload_n 2, 1) := by decide +kernel
theorem dX13_goesBoth_10 : decode cX13_goesBoth 10 = .ok (.ifCond .ne 7, 3) := by decide +kernel
theorem dX13_goesBoth_13 : decode cX13_goesBoth 13 = .ok (.iconst 2, 1) := by decide +kernel
theorem dX13_goesBoth_14 : decode cX13_goesBoth 14 = .ok (.goto 4, 3) := by decide +kernel
theorem dX13_goesBoth_17 : decode cX13_goesBoth 17 = .ok (.iconst 0, 1) := by decide +kernel
theorem dX13_goesBoth_18 : decode cX13_goesBoth 18 = .ok (.putfield 62, 3) := by decide +kernel
theorem dX13_goesBoth_21 : decode cX13_goesBoth 21 = .ok (.aload_n 0, 1) := by decide +kernel
theorem dX13_goesBoth_22 : decode cX13_goesBoth 22 = .ok (.getfield 62, 3) := by decide +kernel
theorem dX13_goesBoth_25 : decode cX13_goesBoth 25 = .ok (.ifCond .ne 7, 3) := by decide +kernel
theorem dX13_goesBoth_28 : decode cX13_goesBoth 28 = .ok (.iconst 1, 1) := by decide +kernel
theorem dX13_goesBoth_29 : decode cX13_goesBoth 29 = .ok (.goto 4, 3) := by decide +kernel
theorem dX13_goesBoth_32 : decode cX13_goesBoth 32 = .ok (.iconst 0, 1) := by decide +kernel
theorem dX13_goesBoth_33 : decode cX13_goesBoth 33 = .ok (.ireturn, 1) := by decide +kernel
theorem dX13_goesThree_0 : decode cX13_goesThree 0 = .ok (.aload_n 0, 1) := by decide +kernel
theorem dX13_goesThree_1 : decode cX13_goesThree 1 = .ok (.iload_n 1, 1) := by decide +kernel
theorem dX13_goesThree_2 : decode cX13_goesThree 2 = .ok (.ifCond .ne 7, 3) := by decide +kernel
theorem dX13_goesThree_5 : decode cX13_goesThree 5 = .ok (.iconst 1, 1) := by decide +kernel
theorem dX13_goesThree_6 : decode cX13_goesThree 6 = .ok (.goto 20, 3) := by decide +kernel
theorem dX13_goesThree_9 : decode cX13_goesThree 9 = .ok (.iload_n 2, 1) := by decide +kernel
theorem dX13_goesThree_10 : decode cX13_goesThree 10 = .ok (.ifCond .ne 7, 3) := by decide +kernel
theorem dX13_goesThree_13 : decode cX13_goesThree 13 = .ok (.iconst 2, 1) := by decide +kernel
theorem dX13_goesThree_14 : decode cX13_goesThree 14 = .ok (.goto 12, 3) := by decide +kernel
theorem dX13_goesThree_17 : decode cX13_goesThree 17 = .ok (.iload_n 3, 1) := by decide +kernel
theorem dX13_goesThree_18 : decode cX13_goesThree 18 = .ok (.ifCond .ne 7, 3) := by decide +kernel
theorem dX13_goesThree_21 : decode cX13_goesThree 21 = .ok (.iconst 3, 1) := by decide +kernel
theorem dX13_goesThree_22 : decode cX13_goesThree 22 = .ok (.goto 4, 3) := by decide +kernel
theorem dX13_goesThree_25 : decode cX13_goesThree 25 = .ok (.iconst 0, 1) := by decide +kernel
theorem dX13_goesThree_26 : decode cX13_goesThree 26 = .ok (.putfield 62, 3) := by decide +kernel
theorem dX13_goesThree_29 : decode cX13_goesThree 29 = .ok (.aload_n 0, 1) := by decide +kernel
theorem dX13_goesThree_30 : decode cX13_goesThree 30 = .ok (.getfield 62, 3) := by decide +kernel
theorem dX13_goesThree_33 : decode cX13_goesThree 33 = .ok (.ifCond .ne 7, 3) := by decide +kernel
theorem dX13_goesThree_36 : decode cX13_goesThree 36 = .ok (.iconst 1, 1) := by decide +kernel
theorem dX13_goesThree_37 : decode cX13_goesThree 37 = .ok (.goto 4, 3) := by decide +kernel
theorem dX13_goesThree_40 : decode cX13_goesThree 40 = .ok (.iconst 0, 1) := by decide +kernel
theorem dX13_goesThree_41 : decode cX13_goesThree 41 = .ok (.ireturn, 1) := by decide +kernel
theorem dX13_feed_0 : decode cX13_feed 0 = .ok (.aload_n 0, 1) := by decide +kernel
theorem dX13_feed_1 : decode cX13_feed 1 = .ok (.aload_n 0, 1) := by decide +kernel
theorem dX13_feed_2 : decode cX13_feed 2 = .ok (.getfield 69, 3) := by decide +kernel
theorem dX13_feed_5 : decode cX13_feed 5 = .ok (.bipush 20, 2) := by decide +kernel
theorem dX13_feed_7 : decode cX13_feed 7 = .ok (.iadd, 1) := by decide +kernel
theorem dX13_feed_8 : decode cX13_feed 8 = .ok (.sipush 600, 3) := by decide +kernel
theorem dX13_feed_11 : decode cX13_feed 11 = .ok (.if_icmp .gt 7, 3) := by decide +kernel
theorem dX13_feed_14 : decode cX13_feed 14 = .ok (.iconst 1, 1) := by decide +kernel
theorem dX13_feed_15 : decode cX13_feed 15 = .ok (.goto 4, 3) := by decide +kernel
theorem dX13_feed_18 : decode cX13_feed 18 = .ok (.iconst 0, 1) := by decide +kernel
theorem dX13_feed_19 : decode cX13_feed 19 = .ok (.invokevirtual 72, 3) := by decide +kernel
theorem dX13_feed_22 : decode cX13_feed 22 = .ok (.ifCond .ne 5, 3) := by decide +kernel
theorem dX13_feed_25 : decode cX13_feed 25 = .ok (.iconst 0, 1) := by decide +kernel
theorem dX13_feed_26 : decode cX13_feed 26 = .ok (.ireturn, 1) := by decide +kernel
theorem dX13_feed_27 : decode cX13_feed 27 = .ok (.aload_n 0, 1) := by decide +kernel
theorem dX13_feed_28 : decode cX13_feed 28 = .ok (.iload_n 1, 1) := by decide +kernel
theorem dX13_feed_29 : decode cX13_feed 29 = .ok (.invokevirtual 76, 3) := by decide +kernel
theorem dX13_feed_32 : decode cX13_feed 32 = .ok (.aload_n 0, 1) := by decide +kernel
theorem dX13_feed_33 : decode cX13_feed 33 = .ok (.iload_n 2, 1) := by decide +kernel
theorem dX13_feed_34 : decode cX13_feed 34 = .ok (.invokevirtual 76, 3) := by decide +kernel
theorem dX13_feed_37 : decode cX13_feed 37 = .ok (.aload_n 0, 1) := by decide +kernel
theorem dX13_feed_38 : decode cX13_feed 38 = .ok (.iload_n 3, 1) := by decide +kernel
theorem dX13_feed_39 : decode cX13_feed 39 = .ok (.invokevirtual 76, 3) := by decide +kernel
theorem dX13_feed_42 : decode cX13_feed 42 = .ok (.aload_n 0, 1) := by decide +kernel
theorem dX13_feed_43 : decode cX13_feed 43 = .ok (.iload 4, 2) := by decide +kernel
theorem dX13_feed_45 : decode cX13_feed 45 = .ok (.invokevirtual 76, 3) := by decide +kernel
theorem dX13_feed_48 : decode cX13_feed 48 = .ok (.aload_n 0, 1) := by decide +kernel
theorem dX13_feed_49 : decode cX13_feed 49 = .ok (.iload 5, 2) := by decide +kernel
theorem dX13_feed_51 : decode cX13_feed 51 = .ok (.invokevirtual 76, 3) := by decide +kernel
theorem dX13_feed_54 : decode cX13_feed 54 = .ok (.aload_n 0, 1) := by decide +kernel
theorem dX13_feed_55 : decode cX13_feed 55 = .ok (.getfield 69, 3) := by decide +kernel
theorem dX13_feed_58 : decode cX13_feed 58 = .ok (.ireturn, 1) := by decide +kernel
theorem dX13_four_0 : decode cX13_four 0 = .ok (.bipush 24, 2) := by decide +kernel
theorem dX13_four_2 : decode cX13_four 2 = .ok (.istore_n 2, 1) := by decide +kernel
theorem dX13_four_3 : decode cX13_four 3 = .ok (.iload_n 2, 1) := by decide +kernel
theorem dX13_four_4 : decode cX13_four 4 = .ok (.ifCond .lt 35, 3) := by decide +kernel
theorem dX13_four_7 : decode cX13_four 7 = .ok (.aload_n 0, 1) := by decide +kernel
theorem dX13_four_8 : decode cX13_four 8 = .ok (.getfield 7, 3) := by decide +kernel
theorem dX13_four_11 : decode cX13_four 11 = .ok (.aload_n 0, 1) := by decide +kernel
theorem dX13_four_12 : decode cX13_four 12 = .ok (.getfield 69, 3) := by decide +kernel
theorem dX13_four_15 : decode cX13_four 15 = .ok (.iload_n 1, 1) := by decide +kernel
theorem dX13_four_16 : decode cX13_four 16 = .ok (.iload_n 2, 1) := by decide +kernel
theorem dX13_four_17 : decode cX13_four 17 = .ok (.ishr, 1) := by decide +kernel
theorem dX13_four_18 : decode cX13_four 18 = .ok (.sipush 255, 3) := by decide +kernel
theorem dX13_four_21 : decode cX13_four 21 = .ok (.iand, 1) := by decide +kernel
theorem dX13_four_22 : decode cX13_four 22 = .ok (.iastore, 1) := by decide +kernel
theorem dX13_four_23 : decode cX13_four 23 = .ok (.aload_n 0, 1) := by decide +kernel
theorem dX13_four_24 : decode cX13_four 24 = .ok (.dup, 1) := by decide +kernel
theorem dX13_four_25 : decode cX13_four 25 = .ok (.getfield 69, 3) := by decide +kernel
theorem dX13_four_28 : decode cX13_four 28 = .ok (.iconst 1, 1) := by decide +kernel
theorem dX13_four_29 : decode cX13_four 29 = .ok (.iadd, 1) := by decide +kernel
theorem dX13_four_30 : decode cX13_four 30 = .ok (.putfield 69, 3) := by decide +kernel
theorem dX13_four_33 : decode cX13_four 33 = .ok (.iinc 2 (-8), 3) := by decide +kernel
theorem dX13_four_36 : decode cX13_four 36 = .ok (.goto (-33), 3) := by decide +kernel
theorem dX13_four_39 : decode cX13_four 39 = .ok (.return_, 1) := by decide +kernel
theorem dX13_truncate_0 : decode cX13_truncate 0 = .ok (.aload_n 0, 1) := by decide +kernel
theorem dX13_truncate_1 : decode cX13_truncate 1 = .ok (.iload_n 1, 1) := by decide +kernel
theorem dX13_truncate_2 : decode cX13_truncate 2 = .ok (.i2l, 1) := by decide +kernel
theorem dX13_truncate_3 : decode cX13_truncate 3 = .ok (.lconst 0, 1) := by decide +kernel
theorem dX13_truncate_4 : decode cX13_truncate 4 = .ok (.aload_n 0, 1) := by decide +kernel
theorem dX13_truncate_5 : decode cX13_truncate 5 = .ok (.getfield 69, 3) := by decide +kernel
theorem dX13_truncate_8 : decode cX13_truncate 8 = .ok (.i2l, 1) := by decide +kernel
theorem dX13_truncate_9 : decode cX13_truncate 9 = .ok (.invokestatic 80, 3) := by decide +kernel
theorem dX13_truncate_12 : decode cX13_truncate 12 = .ok (.invokevirtual 72, 3) := by decide +kernel
theorem dX13_truncate_15 : decode cX13_truncate 15 = .ok (.ifCond .ne 5, 3) := by decide +kernel
theorem dX13_truncate_18 : decode cX13_truncate 18 = .ok (.iconst 0, 1) := by decide +kernel
theorem dX13_truncate_19 : decode cX13_truncate 19 = .ok (.ireturn, 1) := by decide +kernel
theorem dX13_truncate_20 : decode cX13_truncate 20 = .ok (.aload_n 0, 1) := by decide +kernel
theorem dX13_truncate_21 : decode cX13_truncate 21 = .ok (.iload_n 1, 1) := by decide +kernel
theorem dX13_truncate_22 : decode cX13_truncate 22 = .ok (.putfield 69, 3) := by decide +kernel
theorem dX13_truncate_25 : decode cX13_truncate 25 = .ok (.iload_n 1, 1) := by decide +kernel
theorem dX13_truncate_26 : decode cX13_truncate 26 = .ok (.ireturn, 1) := by decide +kernel
theorem dX13_here_0 : decode cX13_here 0 = .ok (.aload_n 0, 1) := by decide +kernel
theorem dX13_here_1 : decode cX13_here 1 = .ok (.getfield 84, 3) := by decide +kernel
theorem dX13_here_4 : decode cX13_here 4 = .ok (.iload_n 1, 1) := by decide +kernel
theorem dX13_here_5 : decode cX13_here 5 = .ok (.iadd, 1) := by decide +kernel
theorem dX13_here_6 : decode cX13_here 6 = .ok (.aload_n 0, 1) := by decide +kernel
theorem dX13_here_7 : decode cX13_here 7 = .ok (.getfield 87, 3) := by decide +kernel
theorem dX13_here_10 : decode cX13_here 10 = .ok (.if_icmp .ge 17, 3) := by decide +kernel
theorem dX13_here_13 : decode cX13_here 13 = .ok (.aload_n 0, 1) := by decide +kernel
theorem dX13_here_14 : decode cX13_here 14 = .ok (.getfield 7, 3) := by decide +kernel
theorem dX13_here_17 : decode cX13_here 17 = .ok (.aload_n 0, 1) := by decide +kernel
theorem dX13_here_18 : decode cX13_here 18 = .ok (.getfield 84, 3) := by decide +kernel
theorem dX13_here_21 : decode cX13_here 21 = .ok (.iload_n 1, 1) := by decide +kernel
theorem dX13_here_22 : decode cX13_here 22 = .ok (.iadd, 1) := by decide +kernel
theorem dX13_here_23 : decode cX13_here 23 = .ok (.iaload, 1) := by decide +kernel
theorem dX13_here_24 : decode cX13_here 24 = .ok (.goto 4, 3) := by decide +kernel
theorem dX13_here_27 : decode cX13_here 27 = .ok (.iconst (-1), 1) := by decide +kernel
theorem dX13_here_28 : decode cX13_here 28 = .ok (.ireturn, 1) := by decide +kernel
theorem dX13_isLetter_0 : decode cX13_isLetter 0 = .ok (.iload_n 0, 1) := by decide +kernel
theorem dX13_isLetter_1 : decode cX13_isLetter 1 = .ok (.bipush 97, 2) := by decide +kernel
theorem dX13_isLetter_3 : decode cX13_isLetter 3 = .ok (.if_icmp .lt 13, 3) := by decide +kernel
theorem dX13_isLetter_6 : decode cX13_isLetter 6 = .ok (.iload_n 0, 1) := by decide +kernel
theorem dX13_isLetter_7 : decode cX13_isLetter 7 = .ok (.bipush 122, 2) := by decide +kernel
theorem dX13_isLetter_9 : decode cX13_isLetter 9 = .ok (.if_icmp .gt 7, 3) := by decide +kernel
theorem dX13_isLetter_12 : decode cX13_isLetter 12 = .ok (.iconst 1, 1) := by decide +kernel
theorem dX13_isLetter_13 : decode cX13_isLetter 13 = .ok (.goto 4, 3) := by decide +kernel
theorem dX13_isLetter_16 : decode cX13_isLetter 16 = .ok (.iconst 0, 1) := by decide +kernel
theorem dX13_isLetter_17 : decode cX13_isLetter 17 = .ok (.ireturn, 1) := by decide +kernel
theorem dX13_isDigit_0 : decode cX13_isDigit 0 = .ok (.iload_n 0, 1) := by decide +kernel
theorem dX13_isDigit_1 : decode cX13_isDigit 1 = .ok (.bipush 48, 2) := by decide +kernel
theorem dX13_isDigit_3 : decode cX13_isDigit 3 = .ok (.if_icmp .lt 13, 3) := by decide +kernel
theorem dX13_isDigit_6 : decode cX13_isDigit 6 = .ok (.iload_n 0, 1) := by decide +kernel
theorem dX13_isDigit_7 : decode cX13_isDigit 7 = .ok (.bipush 57, 2) := by decide +kernel
theorem dX13_isDigit_9 : decode cX13_isDigit 9 = .ok (.if_icmp .gt 7, 3) := by decide +kernel
theorem dX13_isDigit_12 : decode cX13_isDigit 12 = .ok (.iconst 1, 1) := by decide +kernel
theorem dX13_isDigit_13 : decode cX13_isDigit 13 = .ok (.goto 4, 3) := by decide +kernel
theorem dX13_isDigit_16 : decode cX13_isDigit 16 = .ok (.iconst 0, 1) := by decide +kernel
theorem dX13_isDigit_17 : decode cX13_isDigit 17 = .ok (.ireturn, 1) := by decide +kernel
theorem dX13_goOnRead_0 : decode cX13_goOnRead 0 = .ok (.aload_n 0, 1) := by decide +kernel
theorem dX13_goOnRead_1 : decode cX13_goOnRead 1 = .ok (.iconst 0, 1) := by decide +kernel
theorem dX13_goOnRead_2 : decode cX13_goOnRead 2 = .ok (.invokevirtual 90, 3) := by decide +kernel
theorem dX13_goOnRead_5 : decode cX13_goOnRead 5 = .ok (.bipush 32, 2) := by decide +kernel
theorem dX13_goOnRead_7 : decode cX13_goOnRead 7 = .ok (.if_icmp .eq 13, 3) := by decide +kernel
theorem dX13_goOnRead_10 : decode cX13_goOnRead 10 = .ok (.aload_n 0, 1) := by decide +kernel
theorem dX13_goOnRead_11 : decode cX13_goOnRead 11 = .ok (.iconst 0, 1) := by decide +kernel
theorem dX13_goOnRead_12 : decode cX13_goOnRead 12 = .ok (.invokevirtual 90, 3) := by decide +kernel
theorem dX13_goOnRead_15 : decode cX13_goOnRead 15 = .ok (.bipush 10, 2) := by decide +kernel
theorem dX13_goOnRead_17 : decode cX13_goOnRead 17 = .ok (.if_icmp .ne 16, 3) := by decide +kernel
theorem dX13_goOnRead_20 : decode cX13_goOnRead 20 = .ok (.aload_n 0, 1) := by decide +kernel
theorem dX13_goOnRead_21 : decode cX13_goOnRead 21 = .ok (.dup, 1) := by decide +kernel
theorem dX13_goOnRead_22 : decode cX13_goOnRead 22 = .ok (.getfield 84, 3) := by decide +kernel
theorem dX13_goOnRead_25 : decode cX13_goOnRead 25 = .ok (.iconst 1, 1) := by decide +kernel
theorem dX13_goOnRead_26 : decode cX13_goOnRead 26 = .ok (.iadd, 1) := by decide +kernel
theorem dX13_goOnRead_27 : decode cX13_goOnRead 27 = .ok (.putfield 84, 3) := by decide +kernel
theorem dX13_goOnRead_30 : decode cX13_goOnRead 30 = .ok (.goto (-30), 3) := by decide +kernel
theorem dX13_goOnRead_33 : decode cX13_goOnRead 33 = .ok (.aload_n 0, 1) := by decide +kernel
theorem dX13_goOnRead_34 : decode cX13_goOnRead 34 = .ok (.aload_n 0, 1) := by decide +kernel
theorem dX13_goOnRead_35 : decode cX13_goOnRead 35 = .ok (.getfield 84, 3) := by decide +kernel
theorem dX13_goOnRead_38 : decode cX13_goOnRead 38 = .ok (.putfield 94, 3) := by decide +kernel
theorem dX13_goOnRead_41 : decode cX13_goOnRead 41 = .ok (.aload_n 0, 1) := by decide +kernel
theorem dX13_goOnRead_42 : decode cX13_goOnRead 42 = .ok (.lconst 0, 1) := by decide +kernel
theorem dX13_goOnRead_43 : decode cX13_goOnRead 43 = .ok (.putfield 97, 3) := by decide +kernel
theorem dX13_goOnRead_46 : decode cX13_goOnRead 46 = .ok (.aload_n 0, 1) := by decide +kernel
theorem dX13_goOnRead_47 : decode cX13_goOnRead 47 = .ok (.iconst 0, 1) := by decide +kernel
theorem dX13_goOnRead_48 : decode cX13_goOnRead 48 = .ok (.putfield 101, 3) := by decide +kernel
theorem dX13_goOnRead_51 : decode cX13_goOnRead 51 = .ok (.aload_n 0, 1) := by decide +kernel
theorem dX13_goOnRead_52 : decode cX13_goOnRead 52 = .ok (.iconst 0, 1) := by decide +kernel
theorem dX13_goOnRead_53 : decode cX13_goOnRead 53 = .ok (.invokevirtual 90, 3) := by decide +kernel
theorem dX13_goOnRead_56 : decode cX13_goOnRead 56 = .ok (.istore_n 1, 1) := by decide +kernel
theorem dX13_goOnRead_57 : decode cX13_goOnRead 57 = .ok (.iconst 0, 1) := by decide +kernel
theorem dX13_goOnRead_58 : decode cX13_goOnRead 58 = .ok (.istore_n 2, 1) := by decide +kernel
theorem dX13_goOnRead_59 : decode cX13_goOnRead 59 = .ok (.iload_n 1, 1) := by decide +kernel
theorem dX13_goOnRead_60 : decode cX13_goOnRead 60 = .ok (.ifCond .ge 9, 3) := by decide +kernel
theorem dX13_goOnRead_63 : decode cX13_goOnRead 63 = .ok (.aload_n 0, 1) := by decide +kernel
theorem dX13_goOnRead_64 : decode cX13_goOnRead 64 = .ok (.iconst 0, 1) := by decide +kernel
theorem dX13_goOnRead_65 : decode cX13_goOnRead 65 = .ok (.putfield 104, 3) := by decide +kernel
theorem dX13_goOnRead_68 : decode cX13_goOnRead 68 = .ok (.return_, 1) := by decide +kernel
theorem dX13_goOnRead_69 : decode cX13_goOnRead 69 = .ok (.iload_n 1, 1) := by decide +kernel
theorem dX13_goOnRead_70 : decode cX13_goOnRead 70 = .ok (.invokestatic 107, 3) := by decide +kernel
theorem dX13_goOnRead_73 : decode cX13_goOnRead 73 = .ok (.ifCond .eq 66, 3) := by decide +kernel
theorem dX13_goOnRead_76 : decode cX13_goOnRead 76 = .ok (.aload_n 0, 1) := by decide +kernel
theorem dX13_goOnRead_77 : decode cX13_goOnRead 77 = .ok (.iload_n 2, 1) := by decide +kernel
theorem dX13_goOnRead_78 : decode cX13_goOnRead 78 = .ok (.invokevirtual 90, 3) := by decide +kernel
theorem dX13_goOnRead_81 : decode cX13_goOnRead 81 = .ok (.invokestatic 107, 3) := by decide +kernel
theorem dX13_goOnRead_84 : decode cX13_goOnRead 84 = .ok (.ifCond .eq 37, 3) := by decide +kernel
theorem dX13_goOnRead_87 : decode cX13_goOnRead 87 = .ok (.iload_n 2, 1) := by decide +kernel
theorem dX13_goOnRead_88 : decode cX13_goOnRead 88 = .ok (.bipush 8, 2) := by decide +kernel
theorem dX13_goOnRead_90 : decode cX13_goOnRead 90 = .ok (.if_icmp .ge 25, 3) := by decide +kernel
theorem dX13_goOnRead_93 : decode cX13_goOnRead 93 = .ok (.aload_n 0, 1) := by decide +kernel
theorem dX13_goOnRead_94 : decode cX13_goOnRead 94 = .ok (.aload_n 0, 1) := by decide +kernel
theorem dX13_goOnRead_95 : decode cX13_goOnRead 95 = .ok (.getfield 97, 3) := by decide +kernel
theorem dX13_goOnRead_98 : decode cX13_goOnRead 98 = .ok (.iconst 5, 1) := by decide +kernel
theorem dX13_goOnRead_99 : decode cX13_goOnRead 99 = .ok (.lshl, 1) := by decide +kernel
theorem dX13_goOnRead_100 : decode cX13_goOnRead 100 = .ok (.aload_n 0, 1) := by decide +kernel
theorem dX13_goOnRead_101 : decode cX13_goOnRead 101 = .ok (.iload_n 2, 1) := by decide +kernel
theorem dX13_goOnRead_102 : decode cX13_goOnRead 102 = .ok (.invokevirtual 90, 3) := by decide +kernel
theorem dX13_goOnRead_105 : decode cX13_goOnRead 105 = .ok (.bipush 97, 2) := by decide +kernel
theorem dX13_goOnRead_107 : decode cX13_goOnRead 107 = .ok (.isub, 1) := by decide +kernel
theorem dX13_goOnRead_108 : decode cX13_goOnRead 108 = .ok (.iconst 1, 1) := by decide +kernel
theorem dX13_goOnRead_109 : decode cX13_goOnRead 109 = .ok (.iadd, 1) := by decide +kernel
theorem dX13_goOnRead_110 : decode cX13_goOnRead 110 = .ok (.i2l, 1) := by decide +kernel
theorem dX13_goOnRead_111 : decode cX13_goOnRead 111 = .ok (.lor, 1) := by decide +kernel
theorem dX13_goOnRead_112 : decode cX13_goOnRead 112 = .ok (.putfield 97, 3) := by decide +kernel
theorem dX13_goOnRead_115 : decode cX13_goOnRead 115 = .ok (.iinc 2 1, 3) := by decide +kernel
theorem dX13_goOnRead_118 : decode cX13_goOnRead 118 = .ok (.goto (-42), 3) := by decide +kernel
theorem dX13_goOnRead_121 : decode cX13_goOnRead 121 = .ok (.aload_n 0, 1) := by decide +kernel
theorem dX13_goOnRead_122 : decode cX13_goOnRead 122 = .ok (.iload_n 2, 1) := by decide +kernel
theorem dX13_goOnRead_123 : decode cX13_goOnRead 123 = .ok (.bipush 8, 2) := by decide +kernel
theorem dX13_goOnRead_125 : decode cX13_goOnRead 125 = .ok (.if_icmp .le 7, 3) := by decide +kernel
theorem dX13_goOnRead_128 : decode cX13_goOnRead 128 = .ok (.iconst 4, 1) := by decide +kernel
theorem dX13_goOnRead_129 : decode cX13_goOnRead 129 = .ok (.goto 4, 3) := by decide +kernel
theorem dX13_goOnRead_132 : decode cX13_goOnRead 132 = .ok (.iconst 1, 1) := by decide +kernel
theorem dX13_goOnRead_133 : decode cX13_goOnRead 133 = .ok (.putfield 104, 3) := by decide +kernel
theorem dX13_goOnRead_136 : decode cX13_goOnRead 136 = .ok (.goto 103, 3) := by decide +kernel
theorem dX13_goOnRead_139 : decode cX13_goOnRead 139 = .ok (.iload_n 1, 1) := by decide +kernel
theorem dX13_goOnRead_140 : decode cX13_goOnRead 140 = .ok (.invokestatic 111, 3) := by decide +kernel
theorem dX13_goOnRead_143 : decode cX13_goOnRead 143 = .ok (.ifCond .eq 62, 3) := by decide +kernel
theorem dX13_goOnRead_146 : decode cX13_goOnRead 146 = .ok (.aload_n 0, 1) := by decide +kernel
theorem dX13_goOnRead_147 : decode cX13_goOnRead 147 = .ok (.iload_n 2, 1) := by decide +kernel
theorem dX13_goOnRead_148 : decode cX13_goOnRead 148 = .ok (.invokevirtual 90, 3) := by decide +kernel
theorem dX13_goOnRead_151 : decode cX13_goOnRead 151 = .ok (.invokestatic 111, 3) := by decide +kernel
theorem dX13_goOnRead_154 : decode cX13_goOnRead 154 = .ok (.ifCond .eq 34, 3) := by decide +kernel
theorem dX13_goOnRead_157 : decode cX13_goOnRead 157 = .ok (.iload_n 2, 1) := by decide +kernel
theorem dX13_goOnRead_158 : decode cX13_goOnRead 158 = .ok (.iconst 4, 1) := by decide +kernel
theorem dX13_goOnRead_159 : decode cX13_goOnRead 159 = .ok (.if_icmp .ge 23, 3) := by decide +kernel
theorem dX13_goOnRead_162 : decode cX13_goOnRead 162 = .ok (.aload_n 0, 1) := by decide +kernel
theorem dX13_goOnRead_163 : decode cX13_goOnRead 163 = .ok (.bipush 10, 2) := by decide +kernel
theorem dX13_goOnRead_165 : decode cX13_goOnRead 165 = .ok (.aload_n 0, 1) := by decide +kernel
theorem dX13_goOnRead_166 : decode cX13_goOnRead 166 = .ok (.getfield 101, 3) := by decide +kernel
theorem dX13_goOnRead_169 : decode cX13_goOnRead 169 = .ok (.imul, 1) := by decide +kernel
theorem dX13_goOnRead_170 : decode cX13_goOnRead 170 = .ok (.aload_n 0, 1) := by decide +kernel
theorem dX13_goOnRead_171 : decode cX13_goOnRead 171 = .ok (.iload_n 2, 1) := by decide +kernel
theorem dX13_goOnRead_172 : decode cX13_goOnRead 172 = .ok (.invokevirtual 90, 3) := by decide +kernel
theorem dX13_goOnRead_175 : decode cX13_goOnRead 175 = .ok (.iadd, 1) := by decide +kernel
theorem dX13_goOnRead_176 : decode cX13_goOnRead 176 = .ok (.bipush 48, 2) := by decide +kernel
theorem dX13_goOnRead_178 : decode cX13_goOnRead 178 = .ok (.isub, 1) := by decide +kernel
theorem dX13_goOnRead_179 : decode cX13_goOnRead 179 = .ok (.putfield 101, 3) := by decide +kernel
theorem dX13_goOnRead_182 : decode cX13_goOnRead 182 = .ok (.iinc 2 1, 3) := by decide +kernel
theorem dX13_goOnRead_185 : decode cX13_goOnRead 185 = .ok (.goto (-39), 3) := by decide +kernel
theorem dX13_goOnRead_188 : decode cX13_goOnRead 188 = .ok (.aload_n 0, 1) := by decide +kernel
theorem dX13_goOnRead_189 : decode cX13_goOnRead 189 = .ok (.iload_n 2, 1) := by decide +kernel
theorem dX13_goOnRead_190 : decode cX13_goOnRead 190 = .ok (.iconst 4, 1) := by decide +kernel
theorem dX13_goOnRead_191 : decode cX13_goOnRead 191 = .ok (.if_icmp .le 7, 3) := by decide +kernel
theorem dX13_goOnRead_194 : decode cX13_goOnRead 194 = .ok (.iconst 4, 1) := by decide +kernel
theorem dX13_goOnRead_195 : decode cX13_goOnRead 195 = .ok (.goto 4, 3) := by decide +kernel
theorem dX13_goOnRead_198 : decode cX13_goOnRead 198 = .ok (.iconst 2, 1) := by decide +kernel
theorem dX13_goOnRead_199 : decode cX13_goOnRead 199 = .ok (.putfield 104, 3) := by decide +kernel
theorem dX13_goOnRead_202 : decode cX13_goOnRead 202 = .ok (.goto 37, 3) := by decide +kernel
theorem dX13_goOnRead_205 : decode cX13_goOnRead 205 = .ok (.aload_n 0, 1) := by decide +kernel
theorem dX13_goOnRead_206 : decode cX13_goOnRead 206 = .ok (.iload_n 1, 1) := by decide +kernel
theorem dX13_goOnRead_207 : decode cX13_goOnRead 207 = .ok (.bipush 59, 2) := by decide +kernel
theorem dX13_goOnRead_209 : decode cX13_goOnRead 209 = .ok (.if_icmp .eq 15, 3) := by decide +kernel
theorem dX13_goOnRead_212 : decode cX13_goOnRead 212 = .ok (.iload_n 1, 1) := by decide +kernel
theorem dX13_goOnRead_213 : decode cX13_goOnRead 213 = .ok (.bipush 40, 2) := by decide +kernel
theorem dX13_goOnRead_215 : decode cX13_goOnRead 215 = .ok (.if_icmp .eq 9, 3) := by decide +kernel
theorem dX13_goOnRead_218 : decode cX13_goOnRead 218 = .ok (.iload_n 1, 1) := by decide +kernel
theorem dX13_goOnRead_219 : decode cX13_goOnRead 219 = .ok (.bipush 41, 2) := by decide +kernel
theorem dX13_goOnRead_221 : decode cX13_goOnRead 221 = .ok (.if_icmp .ne 7, 3) := by decide +kernel
theorem dX13_goOnRead_224 : decode cX13_goOnRead 224 = .ok (.iconst 3, 1) := by decide +kernel
theorem dX13_goOnRead_225 : decode cX13_goOnRead 225 = .ok (.goto 4, 3) := by decide +kernel
theorem dX13_goOnRead_228 : decode cX13_goOnRead 228 = .ok (.iconst 4, 1) := by decide +kernel
theorem dX13_goOnRead_229 : decode cX13_goOnRead 229 = .ok (.putfield 104, 3) := by decide +kernel
theorem dX13_goOnRead_232 : decode cX13_goOnRead 232 = .ok (.aload_n 0, 1) := by decide +kernel
theorem dX13_goOnRead_233 : decode cX13_goOnRead 233 = .ok (.iload_n 1, 1) := by decide +kernel
theorem dX13_goOnRead_234 : decode cX13_goOnRead 234 = .ok (.putfield 101, 3) := by decide +kernel
theorem dX13_goOnRead_237 : decode cX13_goOnRead 237 = .ok (.iconst 1, 1) := by decide +kernel
theorem dX13_goOnRead_238 : decode cX13_goOnRead 238 = .ok (.istore_n 2, 1) := by decide +kernel
theorem dX13_goOnRead_239 : decode cX13_goOnRead 239 = .ok (.aload_n 0, 1) := by decide +kernel
theorem dX13_goOnRead_240 : decode cX13_goOnRead 240 = .ok (.dup, 1) := by decide +kernel
theorem dX13_goOnRead_241 : decode cX13_goOnRead 241 = .ok (.getfield 84, 3) := by decide +kernel
theorem dX13_goOnRead_244 : decode cX13_goOnRead 244 = .ok (.iload_n 2, 1) := by decide +kernel
theorem dX13_goOnRead_245 : decode cX13_goOnRead 245 = .ok (.iadd, 1) := by decide +kernel
theorem dX13_goOnRead_246 : decode cX13_goOnRead 246 = .ok (.putfield 84, 3) := by decide +kernel
theorem dX13_goOnRead_249 : decode cX13_goOnRead 249 = .ok (.return_, 1) := by decide +kernel
theorem dX13_wrong_0 : decode cX13_wrong 0 = .ok (.aload_n 0, 1) := by decide +kernel
theorem dX13_wrong_1 : decode cX13_wrong 1 = .ok (.getfield 114, 3) := by decide +kernel
theorem dX13_wrong_4 : decode cX13_wrong 4 = .ok (.ifCond .le 4, 3) := by decide +kernel
theorem dX13_wrong_7 : decode cX13_wrong 7 = .ok (.return_, 1) := by decide +kernel
theorem dX13_wrong_8 : decode cX13_wrong 8 = .ok (.aload_n 0, 1) := by decide +kernel
theorem dX13_wrong_9 : decode cX13_wrong 9 = .ok (.aload_n 0, 1) := by decide +kernel
theorem dX13_wrong_10 : decode cX13_wrong 10 = .ok (.getfield 104, 3) := by decide +kernel
theorem dX13_wrong_13 : decode cX13_wrong 13 = .ok (.iconst 4, 1) := by decide +kernel
theorem dX13_wrong_14 : decode cX13_wrong 14 = .ok (.if_icmp .ne 7, 3) := by decide +kernel
theorem dX13_wrong_17 : decode cX13_wrong 17 = .ok (.iconst 1, 1) := by decide +kernel
theorem dX13_wrong_18 : decode cX13_wrong 18 = .ok (.goto 4, 3) := by decide +kernel
theorem dX13_wrong_21 : decode cX13_wrong 21 = .ok (.iload_n 1, 1) := by decide +kernel
theorem dX13_wrong_22 : decode cX13_wrong 22 = .ok (.putfield 114, 3) := by decide +kernel
theorem dX13_wrong_25 : decode cX13_wrong 25 = .ok (.aload_n 0, 1) := by decide +kernel
theorem dX13_wrong_26 : decode cX13_wrong 26 = .ok (.aload_n 0, 1) := by decide +kernel
theorem dX13_wrong_27 : decode cX13_wrong 27 = .ok (.getfield 94, 3) := by decide +kernel
theorem dX13_wrong_30 : decode cX13_wrong 30 = .ok (.putfield 13, 3) := by decide +kernel
theorem dX13_wrong_33 : decode cX13_wrong 33 = .ok (.return_, 1) := by decide +kernel
theorem dX13_isGood_0 : decode cX13_isGood 0 = .ok (.aload_n 0, 1) := by decide +kernel
theorem dX13_isGood_1 : decode cX13_isGood 1 = .ok (.getfield 114, 3) := by decide +kernel
theorem dX13_isGood_4 : decode cX13_isGood 4 = .ok (.ifCond .ne 7, 3) := by decide +kernel
theorem dX13_isGood_7 : decode cX13_isGood 7 = .ok (.iconst 1, 1) := by decide +kernel
theorem dX13_isGood_8 : decode cX13_isGood 8 = .ok (.goto 4, 3) := by decide +kernel
theorem dX13_isGood_11 : decode cX13_isGood 11 = .ok (.iconst 0, 1) := by decide +kernel
theorem dX13_isGood_12 : decode cX13_isGood 12 = .ok (.ireturn, 1) := by decide +kernel
theorem dX13_isWord_0 : decode cX13_isWord 0 = .ok (.aload_n 0, 1) := by decide +kernel
theorem dX13_isWord_1 : decode cX13_isWord 1 = .ok (.getfield 114, 3) := by decide +kernel
theorem dX13_isWord_4 : decode cX13_isWord 4 = .ok (.ifCond .ne 24, 3) := by decide +kernel
theorem dX13_isWord_7 : decode cX13_isWord 7 = .ok (.aload_n 0, 1) := by decide +kernel
theorem dX13_isWord_8 : decode cX13_isWord 8 = .ok (.getfield 104, 3) := by decide +kernel
theorem dX13_isWord_11 : decode cX13_isWord 11 = .ok (.iconst 1, 1) := by decide +kernel
theorem dX13_isWord_12 : decode cX13_isWord 12 = .ok (.if_icmp .ne 16, 3) := by decide +kernel
theorem dX13_isWord_15 : decode cX13_isWord 15 = .ok (.aload_n 0, 1) := by decide +kernel
theorem dX13_isWord_16 : decode cX13_isWord 16 = .ok (.getfield 97, 3) := by decide +kernel
theorem dX13_isWord_19 : decode cX13_isWord 19 = .ok (.lload_n 1, 1) := by decide +kernel
theorem dX13_isWord_20 : decode cX13_isWord 20 = .ok (.lcmp, 1) := by decide +kernel
theorem dX13_isWord_21 : decode cX13_isWord 21 = .ok (.ifCond .ne 7, 3) := by decide +kernel
theorem dX13_isWord_24 : decode cX13_isWord 24 = .ok (.iconst 1, 1) := by decide +kernel
theorem dX13_isWord_25 : decode cX13_isWord 25 = .ok (.goto 4, 3) := by decide +kernel
theorem dX13_isWord_28 : decode cX13_isWord 28 = .ok (.iconst 0, 1) := by decide +kernel
theorem dX13_isWord_29 : decode cX13_isWord 29 = .ok (.ireturn, 1) := by decide +kernel
theorem dX13_isSign_0 : decode cX13_isSign 0 = .ok (.aload_n 0, 1) := by decide +kernel
theorem dX13_isSign_1 : decode cX13_isSign 1 = .ok (.getfield 114, 3) := by decide +kernel
theorem dX13_isSign_4 : decode cX13_isSign 4 = .ok (.ifCond .ne 23, 3) := by decide +kernel
theorem dX13_isSign_7 : decode cX13_isSign 7 = .ok (.aload_n 0, 1) := by decide +kernel
theorem dX13_isSign_8 : decode cX13_isSign 8 = .ok (.getfield 104, 3) := by decide +kernel
theorem dX13_isSign_11 : decode cX13_isSign 11 = .ok (.iconst 3, 1) := by decide +kernel
theorem dX13_isSign_12 : decode cX13_isSign 12 = .ok (.if_icmp .ne 15, 3) := by decide +kernel
theorem dX13_isSign_15 : decode cX13_isSign 15 = .ok (.aload_n 0, 1) := by decide +kernel
theorem dX13_isSign_16 : decode cX13_isSign 16 = .ok (.getfield 101, 3) := by decide +kernel
theorem dX13_isSign_19 : decode cX13_isSign 19 = .ok (.iload_n 1, 1) := by decide +kernel
theorem dX13_isSign_20 : decode cX13_isSign 20 = .ok (.if_icmp .ne 7, 3) := by decide +kernel
theorem dX13_isSign_23 : decode cX13_isSign 23 = .ok (.iconst 1, 1) := by decide +kernel
theorem dX13_isSign_24 : decode cX13_isSign 24 = .ok (.goto 4, 3) := by decide +kernel
theorem dX13_isSign_27 : decode cX13_isSign 27 = .ok (.iconst 0, 1) := by decide +kernel
theorem dX13_isSign_28 : decode cX13_isSign 28 = .ok (.ireturn, 1) := by decide +kernel
theorem dX13_mustSign_0 : decode cX13_mustSign 0 = .ok (.aload_n 0, 1) := by decide +kernel
theorem dX13_mustSign_1 : decode cX13_mustSign 1 = .ok (.invokevirtual 117, 3) := by decide +kernel
theorem dX13_mustSign_4 : decode cX13_mustSign 4 = .ok (.ifCond .eq 16, 3) := by decide +kernel
theorem dX13_mustSign_7 : decode cX13_mustSign 7 = .ok (.aload_n 0, 1) := by decide +kernel
theorem dX13_mustSign_8 : decode cX13_mustSign 8 = .ok (.iload_n 1, 1) := by decide +kernel
theorem dX13_mustSign_9 : decode cX13_mustSign 9 = .ok (.invokevirtual 121, 3) := by decide +kernel
theorem dX13_mustSign_12 : decode cX13_mustSign 12 = .ok (.ifCond .ne 8, 3) := by decide +kernel
theorem dX13_mustSign_15 : decode cX13_mustSign 15 = .ok (.aload_n 0, 1) := by decide +kernel
theorem dX13_mustSign_16 : decode cX13_mustSign 16 = .ok (.iconst 1, 1) := by decide +kernel
theorem dX13_mustSign_17 : decode cX13_mustSign 17 = .ok (.invokevirtual 124, 3) := by decide +kernel
theorem dX13_mustSign_20 : decode cX13_mustSign 20 = .ok (.aload_n 0, 1) := by decide +kernel
theorem dX13_mustSign_21 : decode cX13_mustSign 21 = .ok (.invokevirtual 117, 3) := by decide +kernel
theorem dX13_mustSign_24 : decode cX13_mustSign 24 = .ok (.ifCond .eq 7, 3) := by decide +kernel
theorem dX13_mustSign_27 : decode cX13_mustSign 27 = .ok (.aload_n 0, 1) := by decide +kernel
theorem dX13_mustSign_28 : decode cX13_mustSign 28 = .ok (.invokevirtual 127, 3) := by decide +kernel
theorem dX13_mustSign_31 : decode cX13_mustSign 31 = .ok (.return_, 1) := by decide +kernel
theorem dX13_mustWord_0 : decode cX13_mustWord 0 = .ok (.aload_n 0, 1) := by decide +kernel
theorem dX13_mustWord_1 : decode cX13_mustWord 1 = .ok (.invokevirtual 117, 3) := by decide +kernel
theorem dX13_mustWord_4 : decode cX13_mustWord 4 = .ok (.ifCond .eq 16, 3) := by decide +kernel
theorem dX13_mustWord_7 : decode cX13_mustWord 7 = .ok (.aload_n 0, 1) := by decide +kernel
theorem dX13_mustWord_8 : decode cX13_mustWord 8 = .ok (.lload_n 1, 1) := by decide +kernel
theorem dX13_mustWord_9 : decode cX13_mustWord 9 = .ok (.invokevirtual 130, 3) := by decide +kernel
theorem dX13_mustWord_12 : decode cX13_mustWord 12 = .ok (.ifCond .ne 8, 3) := by decide +kernel
theorem dX13_mustWord_15 : decode cX13_mustWord 15 = .ok (.aload_n 0, 1) := by decide +kernel
theorem dX13_mustWord_16 : decode cX13_mustWord 16 = .ok (.iconst 1, 1) := by decide +kernel
theorem dX13_mustWord_17 : decode cX13_mustWord 17 = .ok (.invokevirtual 124, 3) := by decide +kernel
theorem dX13_mustWord_20 : decode cX13_mustWord 20 = .ok (.aload_n 0, 1) := by decide +kernel
theorem dX13_mustWord_21 : decode cX13_mustWord 21 = .ok (.invokevirtual 117, 3) := by decide +kernel
theorem dX13_mustWord_24 : decode cX13_mustWord 24 = .ok (.ifCond .eq 7, 3) := by decide +kernel
theorem dX13_mustWord_27 : decode cX13_mustWord 27 = .ok (.aload_n 0, 1) := by decide +kernel
theorem dX13_mustWord_28 : decode cX13_mustWord 28 = .ok (.invokevirtual 127, 3) := by decide +kernel
theorem dX13_mustWord_31 : decode cX13_mustWord 31 = .ok (.return_, 1) := by decide +kernel
theorem dX13_looks_0 : decode cX13_looks 0 = .ok (.aload_n 0, 1) := by decide +kernel
theorem dX13_looks_1 : decode cX13_looks 1 = .ok (.invokevirtual 117, 3) := by decide +kernel
theorem dX13_looks_4 : decode cX13_looks 4 = .ok (.ifCond .eq 16, 3) := by decide +kernel
theorem dX13_looks_7 : decode cX13_looks 7 = .ok (.aload_n 0, 1) := by decide +kernel
theorem dX13_looks_8 : decode cX13_looks 8 = .ok (.getfield 104, 3) := by decide +kernel
theorem dX13_looks_11 : decode cX13_looks 11 = .ok (.iconst 2, 1) := by decide +kernel
theorem dX13_looks_12 : decode cX13_looks 12 = .ok (.if_icmp .eq 8, 3) := by decide +kernel
theorem dX13_looks_15 : decode cX13_looks 15 = .ok (.aload_n 0, 1) := by decide +kernel
theorem dX13_looks_16 : decode cX13_looks 16 = .ok (.iconst 1, 1) := by decide +kernel
theorem dX13_looks_17 : decode cX13_looks 17 = .ok (.invokevirtual 124, 3) := by decide +kernel
theorem dX13_looks_20 : decode cX13_looks 20 = .ok (.aload_n 0, 1) := by decide +kernel
theorem dX13_looks_21 : decode cX13_looks 21 = .ok (.invokevirtual 117, 3) := by decide +kernel
theorem dX13_looks_24 : decode cX13_looks 24 = .ok (.ifCond .eq 23, 3) := by decide +kernel
theorem dX13_looks_27 : decode cX13_looks 27 = .ok (.aload_n 0, 1) := by decide +kernel
theorem dX13_looks_28 : decode cX13_looks 28 = .ok (.getfield 101, 3) := by decide +kernel
theorem dX13_looks_31 : decode cX13_looks 31 = .ok (.i2l, 1) := by decide +kernel
theorem dX13_looks_32 : decode cX13_looks 32 = .ok (.iload_n 1, 1) := by decide +kernel
theorem dX13_looks_33 : decode cX13_looks 33 = .ok (.i2l, 1) := by decide +kernel
theorem dX13_looks_34 : decode cX13_looks 34 = .ok (.iload_n 2, 1) := by decide +kernel
theorem dX13_looks_35 : decode cX13_looks 35 = .ok (.i2l, 1) := by decide +kernel
theorem dX13_looks_36 : decode cX13_looks 36 = .ok (.invokestatic 80, 3) := by decide +kernel
theorem dX13_looks_39 : decode cX13_looks 39 = .ok (.ifCond .ne 8, 3) := by decide +kernel
theorem dX13_looks_42 : decode cX13_looks 42 = .ok (.aload_n 0, 1) := by decide +kernel
theorem dX13_looks_43 : decode cX13_looks 43 = .ok (.iconst 2, 1) := by decide +kernel
theorem dX13_looks_44 : decode cX13_looks 44 = .ok (.invokevirtual 124, 3) := by decide +kernel
theorem dX13_looks_47 : decode cX13_looks 47 = .ok (.aload_n 0, 1) := by decide +kernel
theorem dX13_looks_48 : decode cX13_looks 48 = .ok (.getfield 101, 3) := by decide +kernel
theorem dX13_looks_51 : decode cX13_looks 51 = .ok (.ireturn, 1) := by decide +kernel
theorem dX13_number_0 : decode cX13_number 0 = .ok (.aload_n 0, 1) := by decide +kernel
theorem dX13_number_1 : decode cX13_number 1 = .ok (.iload_n 1, 1) := by decide +kernel
theorem dX13_number_2 : decode cX13_number 2 = .ok (.iload_n 2, 1) := by decide +kernel
theorem dX13_number_3 : decode cX13_number 3 = .ok (.invokevirtual 134, 3) := by decide +kernel
theorem dX13_number_6 : decode cX13_number 6 = .ok (.istore_n 3, 1) := by decide +kernel
theorem dX13_number_7 : decode cX13_number 7 = .ok (.aload_n 0, 1) := by decide +kernel
theorem dX13_number_8 : decode cX13_number 8 = .ok (.invokevirtual 117, 3) := by decide +kernel
theorem dX13_number_11 : decode cX13_number 11 = .ok (.ifCond .eq 7, 3) := by decide +kernel
theorem dX13_number_14 : decode cX13_number 14 = .ok (.aload_n 0, 1) := by decide +kernel
theorem dX13_number_15 : decode cX13_number 15 = .ok (.invokevirtual 127, 3) := by decide +kernel
theorem dX13_number_18 : decode cX13_number 18 = .ok (.iload_n 3, 1) := by decide +kernel
theorem dX13_number_19 : decode cX13_number 19 = .ok (.ireturn, 1) := by decide +kernel
theorem dX13_beginsText_0 : decode cX13_beginsText 0 = .ok (.aload_n 0, 1) := by decide +kernel
theorem dX13_beginsText_1 : decode cX13_beginsText 1 = .ok (.aload_n 0, 1) := by decide +kernel
theorem dX13_beginsText_2 : decode cX13_beginsText 2 = .ok (.getfield 69, 3) := by decide +kernel
theorem dX13_beginsText_5 : decode cX13_beginsText 5 = .ok (.putfield 87, 3) := by decide +kernel
theorem dX13_beginsText_8 : decode cX13_beginsText 8 = .ok (.aload_n 0, 1) := by decide +kernel
theorem dX13_beginsText_9 : decode cX13_beginsText 9 = .ok (.iconst 0, 1) := by decide +kernel
theorem dX13_beginsText_10 : decode cX13_beginsText 10 = .ok (.putfield 69, 3) := by decide +kernel
theorem dX13_beginsText_13 : decode cX13_beginsText 13 = .ok (.aload_n 0, 1) := by decide +kernel
theorem dX13_beginsText_14 : decode cX13_beginsText 14 = .ok (.iconst 0, 1) := by decide +kernel
theorem dX13_beginsText_15 : decode cX13_beginsText 15 = .ok (.putfield 84, 3) := by decide +kernel
theorem dX13_beginsText_18 : decode cX13_beginsText 18 = .ok (.aload_n 0, 1) := by decide +kernel
theorem dX13_beginsText_19 : decode cX13_beginsText 19 = .ok (.iconst 0, 1) := by decide +kernel
theorem dX13_beginsText_20 : decode cX13_beginsText 20 = .ok (.putfield 114, 3) := by decide +kernel
theorem dX13_beginsText_23 : decode cX13_beginsText 23 = .ok (.aload_n 0, 1) := by decide +kernel
theorem dX13_beginsText_24 : decode cX13_beginsText 24 = .ok (.iconst (-1), 1) := by decide +kernel
theorem dX13_beginsText_25 : decode cX13_beginsText 25 = .ok (.putfield 13, 3) := by decide +kernel
theorem dX13_beginsText_28 : decode cX13_beginsText 28 = .ok (.aload_n 0, 1) := by decide +kernel
theorem dX13_beginsText_29 : decode cX13_beginsText 29 = .ok (.invokevirtual 127, 3) := by decide +kernel
theorem dX13_beginsText_32 : decode cX13_beginsText 32 = .ok (.return_, 1) := by decide +kernel
theorem dX13_endsText_0 : decode cX13_endsText 0 = .ok (.aload_n 0, 1) := by decide +kernel
theorem dX13_endsText_1 : decode cX13_endsText 1 = .ok (.aload_n 0, 1) := by decide +kernel
theorem dX13_endsText_2 : decode cX13_endsText 2 = .ok (.getfield 114, 3) := by decide +kernel
theorem dX13_endsText_5 : decode cX13_endsText 5 = .ok (.putfield 138, 3) := by decide +kernel
theorem dX13_endsText_8 : decode cX13_endsText 8 = .ok (.aload_n 0, 1) := by decide +kernel
theorem dX13_endsText_9 : decode cX13_endsText 9 = .ok (.aload_n 0, 1) := by decide +kernel
theorem dX13_endsText_10 : decode cX13_endsText 10 = .ok (.getfield 13, 3) := by decide +kernel
theorem dX13_endsText_13 : decode cX13_endsText 13 = .ok (.putfield 17, 3) := by decide +kernel
theorem dX13_endsText_16 : decode cX13_endsText 16 = .ok (.aload_n 0, 1) := by decide +kernel
theorem dX13_endsText_17 : decode cX13_endsText 17 = .ok (.aload_n 0, 1) := by decide +kernel
theorem dX13_endsText_18 : decode cX13_endsText 18 = .ok (.getfield 114, 3) := by decide +kernel
theorem dX13_endsText_21 : decode cX13_endsText 21 = .ok (.ifCond .ne 7, 3) := by decide +kernel
theorem dX13_endsText_24 : decode cX13_endsText 24 = .ok (.iconst 1, 1) := by decide +kernel
theorem dX13_endsText_25 : decode cX13_endsText 25 = .ok (.goto 4, 3) := by decide +kernel
theorem dX13_endsText_28 : decode cX13_endsText 28 = .ok (.iconst 0, 1) := by decide +kernel
theorem dX13_endsText_29 : decode cX13_endsText 29 = .ok (.invokevirtual 72, 3) := by decide +kernel
theorem dX13_endsText_32 : decode cX13_endsText 32 = .ok (.ireturn, 1) := by decide +kernel
theorem dX13_errorCode_0 : decode cX13_errorCode 0 = .ok (.aload_n 0, 1) := by decide +kernel
theorem dX13_errorCode_1 : decode cX13_errorCode 1 = .ok (.iconst 0, 1) := by decide +kernel
theorem dX13_errorCode_2 : decode cX13_errorCode 2 = .ok (.putfield 62, 3) := by decide +kernel
theorem dX13_errorCode_5 : decode cX13_errorCode 5 = .ok (.aload_n 0, 1) := by decide +kernel
theorem dX13_errorCode_6 : decode cX13_errorCode 6 = .ok (.getfield 138, 3) := by decide +kernel
theorem dX13_errorCode_9 : decode cX13_errorCode 9 = .ok (.ireturn, 1) := by decide +kernel
theorem dX13_errorOffset_0 : decode cX13_errorOffset 0 = .ok (.aload_n 0, 1) := by decide +kernel
theorem dX13_errorOffset_1 : decode cX13_errorOffset 1 = .ok (.iconst 0, 1) := by decide +kernel
theorem dX13_errorOffset_2 : decode cX13_errorOffset 2 = .ok (.putfield 62, 3) := by decide +kernel
theorem dX13_errorOffset_5 : decode cX13_errorOffset 5 = .ok (.aload_n 0, 1) := by decide +kernel
theorem dX13_errorOffset_6 : decode cX13_errorOffset 6 = .ok (.getfield 17, 3) := by decide +kernel
theorem dX13_errorOffset_9 : decode cX13_errorOffset 9 = .ok (.ireturn, 1) := by decide +kernel
theorem dX13_bufferName_0 : decode cX13_bufferName 0 = .ok (.aload_n 0, 1) := by decide +kernel
theorem dX13_bufferName_1 : decode cX13_bufferName 1 = .ok (.getfield 69, 3) := by decide +kernel
theorem dX13_bufferName_4 : decode cX13_bufferName 4 = .ok (.i2l, 1) := by decide +kernel
theorem dX13_bufferName_5 : decode cX13_bufferName 5 = .ok (.lconst 1, 1) := by decide +kernel
theorem dX13_bufferName_6 : decode cX13_bufferName 6 = .ok (.ldc2_w 141, 3) := by decide +kernel
theorem dX13_bufferName_9 : decode cX13_bufferName 9 = .ok (.invokestatic 80, 3) := by decide +kernel
theorem dX13_bufferName_12 : decode cX13_bufferName 12 = .ok (.ifCond .ne 5, 3) := by decide +kernel
theorem dX13_bufferName_15 : decode cX13_bufferName 15 = .ok (.lconst 0, 1) := by decide +kernel
theorem dX13_bufferName_16 : decode cX13_bufferName 16 = .ok (.lreturn, 1) := by decide +kernel
theorem dX13_bufferName_17 : decode cX13_bufferName 17 = .ok (.lconst 0, 1) := by decide +kernel
theorem dX13_bufferName_18 : decode cX13_bufferName 18 = .ok (.lstore_n 1, 1) := by decide +kernel
theorem dX13_bufferName_19 : decode cX13_bufferName 19 = .ok (.iconst 0, 1) := by decide +kernel
theorem dX13_bufferName_20 : decode cX13_bufferName 20 = .ok (.istore_n 3, 1) := by decide +kernel
theorem dX13_bufferName_21 : decode cX13_bufferName 21 = .ok (.iload_n 3, 1) := by decide +kernel
theorem dX13_bufferName_22 : decode cX13_bufferName 22 = .ok (.aload_n 0, 1) := by decide +kernel
theorem dX13_bufferName_23 : decode cX13_bufferName 23 = .ok (.getfield 69, 3) := by decide +kernel
theorem dX13_bufferName_26 : decode cX13_bufferName 26 = .ok (.if_icmp .ge 40, 3) := by decide +kernel
theorem dX13_bufferName_29 : decode cX13_bufferName 29 = .ok (.aload_n 0, 1) := by decide +kernel
theorem dX13_bufferName_30 : decode cX13_bufferName 30 = .ok (.getfield 7, 3) := by decide +kernel
theorem dX13_bufferName_33 : decode cX13_bufferName 33 = .ok (.iload_n 3, 1) := by decide +kernel
theorem dX13_bufferName_34 : decode cX13_bufferName 34 = .ok (.iaload, 1) := by decide +kernel
theorem dX13_bufferName_35 : decode cX13_bufferName 35 = .ok (.invokestatic 107, 3) := by decide +kernel
theorem dX13_bufferName_38 : decode cX13_bufferName 38 = .ok (.ifCond .ne 5, 3) := by decide +kernel
theorem dX13_bufferName_41 : decode cX13_bufferName 41 = .ok (.lconst 0, 1) := by decide +kernel
theorem dX13_bufferName_42 : decode cX13_bufferName 42 = .ok (.lreturn, 1) := by decide +kernel
theorem dX13_bufferName_43 : decode cX13_bufferName 43 = .ok (.lload_n 1, 1) := by decide +kernel
theorem dX13_bufferName_44 : decode cX13_bufferName 44 = .ok (.iconst 5, 1) := by decide +kernel
theorem dX13_bufferName_45 : decode cX13_bufferName 45 = .ok (.lshl, 1) := by decide +kernel
theorem dX13_bufferName_46 : decode cX13_bufferName 46 = .ok (.aload_n 0, 1) := by decide +kernel
theorem dX13_bufferName_47 : decode cX13_bufferName 47 = .ok (.getfield 7, 3) := by decide +kernel
theorem dX13_bufferName_50 : decode cX13_bufferName 50 = .ok (.iload_n 3, 1) := by decide +kernel
theorem dX13_bufferName_51 : decode cX13_bufferName 51 = .ok (.iaload, 1) := by decide +kernel
theorem dX13_bufferName_52 : decode cX13_bufferName 52 = .ok (.bipush 97, 2) := by decide +kernel
theorem dX13_bufferName_54 : decode cX13_bufferName 54 = .ok (.isub, 1) := by decide +kernel
theorem dX13_bufferName_55 : decode cX13_bufferName 55 = .ok (.iconst 1, 1) := by decide +kernel
theorem dX13_bufferName_56 : decode cX13_bufferName 56 = .ok (.iadd, 1) := by decide +kernel
theorem dX13_bufferName_57 : decode cX13_bufferName 57 = .ok (.i2l, 1) := by decide +kernel
theorem dX13_bufferName_58 : decode cX13_bufferName 58 = .ok (.lor, 1) := by decide +kernel
theorem dX13_bufferName_59 : decode cX13_bufferName 59 = .ok (.lstore_n 1, 1) := by decide +kernel
theorem dX13_bufferName_60 : decode cX13_bufferName 60 = .ok (.iinc 3 1, 3) := by decide +kernel
theorem dX13_bufferName_63 : decode cX13_bufferName 63 = .ok (.goto (-42), 3) := by decide +kernel
theorem dX13_bufferName_66 : decode cX13_bufferName 66 = .ok (.lload_n 1, 1) := by decide +kernel
theorem dX13_bufferName_67 : decode cX13_bufferName 67 = .ok (.lreturn, 1) := by decide +kernel
theorem dX13_copiesRow_0 : decode cX13_copiesRow 0 = .ok (.iconst 0, 1) := by decide +kernel
theorem dX13_copiesRow_1 : decode cX13_copiesRow 1 = .ok (.istore 4, 2) := by decide +kernel
theorem dX13_copiesRow_3 : decode cX13_copiesRow 3 = .ok (.iload 4, 2) := by decide +kernel
theorem dX13_copiesRow_5 : decode cX13_copiesRow 5 = .ok (.sipush 390, 3) := by decide +kernel
theorem dX13_copiesRow_8 : decode cX13_copiesRow 8 = .ok (.if_icmp .ge 21, 3) := by decide +kernel
theorem dX13_copiesRow_11 : decode cX13_copiesRow 11 = .ok (.aload_n 2, 1) := by decide +kernel
theorem dX13_copiesRow_12 : decode cX13_copiesRow 12 = .ok (.iload_n 3, 1) := by decide +kernel
theorem dX13_copiesRow_13 : decode cX13_copiesRow 13 = .ok (.iload 4, 2) := by decide +kernel
theorem dX13_copiesRow_15 : decode cX13_copiesRow 15 = .ok (.iadd, 1) := by decide +kernel
theorem dX13_copiesRow_16 : decode cX13_copiesRow 16 = .ok (.aload_n 0, 1) := by decide +kernel
theorem dX13_copiesRow_17 : decode cX13_copiesRow 17 = .ok (.iload_n 1, 1) := by decide +kernel
theorem dX13_copiesRow_18 : decode cX13_copiesRow 18 = .ok (.iload 4, 2) := by decide +kernel
theorem dX13_copiesRow_20 : decode cX13_copiesRow 20 = .ok (.iadd, 1) := by decide +kernel
theorem dX13_copiesRow_21 : decode cX13_copiesRow 21 = .ok (.iaload, 1) := by decide +kernel
theorem dX13_copiesRow_22 : decode cX13_copiesRow 22 = .ok (.iastore, 1) := by decide +kernel
theorem dX13_copiesRow_23 : decode cX13_copiesRow 23 = .ok (.iinc 4 1, 3) := by decide +kernel
theorem dX13_copiesRow_26 : decode cX13_copiesRow 26 = .ok (.goto (-23), 3) := by decide +kernel
theorem dX13_copiesRow_29 : decode cX13_copiesRow 29 = .ok (.return_, 1) := by decide +kernel
theorem dX13_begins_0 : decode cX13_begins 0 = .ok (.iconst 0, 1) := by decide +kernel
theorem dX13_begins_1 : decode cX13_begins 1 = .ok (.istore_n 1, 1) := by decide +kernel
theorem dX13_begins_2 : decode cX13_begins 2 = .ok (.iload_n 1, 1) := by decide +kernel
theorem dX13_begins_3 : decode cX13_begins 3 = .ok (.sipush 390, 3) := by decide +kernel
theorem dX13_begins_6 : decode cX13_begins 6 = .ok (.if_icmp .ge 16, 3) := by decide +kernel
theorem dX13_begins_9 : decode cX13_begins 9 = .ok (.aload_n 0, 1) := by decide +kernel
theorem dX13_begins_10 : decode cX13_begins 10 = .ok (.getfield 20, 3) := by decide +kernel
theorem dX13_begins_13 : decode cX13_begins 13 = .ok (.iload_n 1, 1) := by decide +kernel
theorem dX13_begins_14 : decode cX13_begins 14 = .ok (.iconst 0, 1) := by decide +kernel
theorem dX13_begins_15 : decode cX13_begins 15 = .ok (.iastore, 1) := by decide +kernel
theorem dX13_begins_16 : decode cX13_begins 16 = .ok (.iinc 1 1, 3) := by decide +kernel
theorem dX13_begins_19 : decode cX13_begins 19 = .ok (.goto (-17), 3) := by decide +kernel
theorem dX13_begins_22 : decode cX13_begins 22 = .ok (.return_, 1) := by decide +kernel
theorem dX13_laysAside_0 : decode cX13_laysAside 0 = .ok (.aload_n 0, 1) := by decide +kernel
theorem dX13_laysAside_1 : decode cX13_laysAside 1 = .ok (.getfield 20, 3) := by decide +kernel
theorem dX13_laysAside_4 : decode cX13_laysAside 4 = .ok (.iconst 0, 1) := by decide +kernel
theorem dX13_laysAside_5 : decode cX13_laysAside 5 = .ok (.aload_n 0, 1) := by decide +kernel
theorem dX13_laysAside_6 : decode cX13_laysAside 6 = .ok (.getfield 26, 3) := by decide +kernel
theorem dX13_laysAside_9 : decode cX13_laysAside 9 = .ok (.iconst 0, 1) := by decide +kernel
theorem dX13_laysAside_10 : decode cX13_laysAside 10 = .ok (.invokestatic 143, 3) := by decide +kernel
theorem dX13_laysAside_13 : decode cX13_laysAside 13 = .ok (.return_, 1) := by decide +kernel
theorem dX13_goesBack_0 : decode cX13_goesBack 0 = .ok (.aload_n 0, 1) := by decide +kernel
theorem dX13_goesBack_1 : decode cX13_goesBack 1 = .ok (.getfield 26, 3) := by decide +kernel
theorem dX13_goesBack_4 : decode cX13_goesBack 4 = .ok (.iconst 0, 1) := by decide +kernel
theorem dX13_goesBack_5 : decode cX13_goesBack 5 = .ok (.aload_n 0, 1) := by decide +kernel
theorem dX13_goesBack_6 : decode cX13_goesBack 6 = .ok (.getfield 20, 3) := by decide +kernel
theorem dX13_goesBack_9 : decode cX13_goesBack 9 = .ok (.iconst 0, 1) := by decide +kernel
theorem dX13_goesBack_10 : decode cX13_goesBack 10 = .ok (.invokestatic 143, 3) := by decide +kernel
theorem dX13_goesBack_13 : decode cX13_goesBack 13 = .ok (.return_, 1) := by decide +kernel
theorem dX13_holds_0 : decode cX13_holds 0 = .ok (.aload_n 0, 1) := by decide +kernel
theorem dX13_holds_1 : decode cX13_holds 1 = .ok (.getfield 20, 3) := by decide +kernel
theorem dX13_holds_4 : decode cX13_holds 4 = .ok (.iconst 0, 1) := by decide +kernel
theorem dX13_holds_5 : decode cX13_holds 5 = .ok (.aload_n 0, 1) := by decide +kernel
theorem dX13_holds_6 : decode cX13_holds 6 = .ok (.getfield 29, 3) := by decide +kernel
theorem dX13_holds_9 : decode cX13_holds 9 = .ok (.iconst 0, 1) := by decide +kernel
theorem dX13_holds_10 : decode cX13_holds 10 = .ok (.invokestatic 143, 3) := by decide +kernel
theorem dX13_holds_13 : decode cX13_holds 13 = .ok (.return_, 1) := by decide +kernel
theorem dX13_putBack_0 : decode cX13_putBack 0 = .ok (.aload_n 0, 1) := by decide +kernel
theorem dX13_putBack_1 : decode cX13_putBack 1 = .ok (.getfield 29, 3) := by decide +kernel
theorem dX13_putBack_4 : decode cX13_putBack 4 = .ok (.iconst 0, 1) := by decide +kernel
theorem dX13_putBack_5 : decode cX13_putBack 5 = .ok (.aload_n 0, 1) := by decide +kernel
theorem dX13_putBack_6 : decode cX13_putBack 6 = .ok (.getfield 20, 3) := by decide +kernel
theorem dX13_putBack_9 : decode cX13_putBack 9 = .ok (.iconst 0, 1) := by decide +kernel
theorem dX13_putBack_10 : decode cX13_putBack 10 = .ok (.invokestatic 143, 3) := by decide +kernel
theorem dX13_putBack_13 : decode cX13_putBack 13 = .ok (.iload_n 1, 1) := by decide +kernel
theorem dX13_putBack_14 : decode cX13_putBack 14 = .ok (.ireturn, 1) := by decide +kernel
theorem dX13_keeps_0 : decode cX13_keeps 0 = .ok (.aload_n 0, 1) := by decide +kernel
theorem dX13_keeps_1 : decode cX13_keeps 1 = .ok (.getfield 147, 3) := by decide +kernel
theorem dX13_keeps_4 : decode cX13_keeps 4 = .ok (.bipush 6, 2) := by decide +kernel
theorem dX13_keeps_6 : decode cX13_keeps 6 = .ok (.if_icmp .ne 49, 3) := by decide +kernel
theorem dX13_keeps_9 : decode cX13_keeps 9 = .ok (.aload_n 0, 1) := by decide +kernel
theorem dX13_keeps_10 : decode cX13_keeps 10 = .ok (.dup, 1) := by decide +kernel
theorem dX13_keeps_11 : decode cX13_keeps 11 = .ok (.getfield 147, 3) := by decide +kernel
theorem dX13_keeps_14 : decode cX13_keeps 14 = .ok (.iconst 1, 1) := by decide +kernel
theorem dX13_keeps_15 : decode cX13_keeps 15 = .ok (.isub, 1) := by decide +kernel
theorem dX13_keeps_16 : decode cX13_keeps 16 = .ok (.putfield 147, 3) := by decide +kernel
theorem dX13_keeps_19 : decode cX13_keeps 19 = .ok (.iconst 0, 1) := by decide +kernel
theorem dX13_keeps_20 : decode cX13_keeps 20 = .ok (.istore_n 1, 1) := by decide +kernel
theorem dX13_keeps_21 : decode cX13_keeps 21 = .ok (.iload_n 1, 1) := by decide +kernel
theorem dX13_keeps_22 : decode cX13_keeps 22 = .ok (.sipush 390, 3) := by decide +kernel
theorem dX13_keeps_25 : decode cX13_keeps 25 = .ok (.aload_n 0, 1) := by decide +kernel
theorem dX13_keeps_26 : decode cX13_keeps 26 = .ok (.getfield 147, 3) := by decide +kernel
theorem dX13_keeps_29 : decode cX13_keeps 29 = .ok (.imul, 1) := by decide +kernel
theorem dX13_keeps_30 : decode cX13_keeps 30 = .ok (.if_icmp .ge 25, 3) := by decide +kernel
theorem dX13_keeps_33 : decode cX13_keeps 33 = .ok (.aload_n 0, 1) := by decide +kernel
theorem dX13_keeps_34 : decode cX13_keeps 34 = .ok (.getfield 32, 3) := by decide +kernel
theorem dX13_keeps_37 : decode cX13_keeps 37 = .ok (.iload_n 1, 1) := by decide +kernel
theorem dX13_keeps_38 : decode cX13_keeps 38 = .ok (.aload_n 0, 1) := by decide +kernel
theorem dX13_keeps_39 : decode cX13_keeps 39 = .ok (.getfield 32, 3) := by decide +kernel
theorem dX13_keeps_42 : decode cX13_keeps 42 = .ok (.iload_n 1, 1) := by decide +kernel
theorem dX13_keeps_43 : decode cX13_keeps 43 = .ok (.sipush 390, 3) := by decide +kernel
theorem dX13_keeps_46 : decode cX13_keeps 46 = .ok (.iadd, 1) := by decide +kernel
theorem dX13_keeps_47 : decode cX13_keeps 47 = .ok (.iaload, 1) := by decide +kernel
theorem dX13_keeps_48 : decode cX13_keeps 48 = .ok (.iastore, 1) := by decide +kernel
theorem dX13_keeps_49 : decode cX13_keeps 49 = .ok (.iinc 1 1, 3) := by decide +kernel
theorem dX13_keeps_52 : decode cX13_keeps 52 = .ok (.goto (-31), 3) := by decide +kernel
theorem dX13_keeps_55 : decode cX13_keeps 55 = .ok (.aload_n 0, 1) := by decide +kernel
theorem dX13_keeps_56 : decode cX13_keeps 56 = .ok (.getfield 26, 3) := by decide +kernel
theorem dX13_keeps_59 : decode cX13_keeps 59 = .ok (.iconst 0, 1) := by decide +kernel
theorem dX13_keeps_60 : decode cX13_keeps 60 = .ok (.aload_n 0, 1) := by decide +kernel
theorem dX13_keeps_61 : decode cX13_keeps 61 = .ok (.getfield 32, 3) := by decide +kernel
theorem dX13_keeps_64 : decode cX13_keeps 64 = .ok (.sipush 390, 3) := by decide +kernel
theorem dX13_keeps_67 : decode cX13_keeps 67 = .ok (.aload_n 0, 1) := by decide +kernel
theorem dX13_keeps_68 : decode cX13_keeps 68 = .ok (.getfield 147, 3) := by decide +kernel
theorem dX13_keeps_71 : decode cX13_keeps 71 = .ok (.imul, 1) := by decide +kernel
theorem dX13_keeps_72 : decode cX13_keeps 72 = .ok (.invokestatic 143, 3) := by decide +kernel
theorem dX13_keeps_75 : decode cX13_keeps 75 = .ok (.aload_n 0, 1) := by decide +kernel
theorem dX13_keeps_76 : decode cX13_keeps 76 = .ok (.dup, 1) := by decide +kernel
theorem dX13_keeps_77 : decode cX13_keeps 77 = .ok (.getfield 147, 3) := by decide +kernel
theorem dX13_keeps_80 : decode cX13_keeps 80 = .ok (.iconst 1, 1) := by decide +kernel
theorem dX13_keeps_81 : decode cX13_keeps 81 = .ok (.iadd, 1) := by decide +kernel
theorem dX13_keeps_82 : decode cX13_keeps 82 = .ok (.putfield 147, 3) := by decide +kernel
theorem dX13_keeps_85 : decode cX13_keeps 85 = .ok (.return_, 1) := by decide +kernel
theorem dX13_kept_0 : decode cX13_kept 0 = .ok (.aload_n 0, 1) := by decide +kernel
theorem dX13_kept_1 : decode cX13_kept 1 = .ok (.invokevirtual 150, 3) := by decide +kernel
theorem dX13_kept_4 : decode cX13_kept 4 = .ok (.iload_n 1, 1) := by decide +kernel
theorem dX13_kept_5 : decode cX13_kept 5 = .ok (.ireturn, 1) := by decide +kernel
theorem dX13_undo_0 : decode cX13_undo 0 = .ok (.aload_n 0, 1) := by decide +kernel
theorem dX13_undo_1 : decode cX13_undo 1 = .ok (.aload_n 0, 1) := by decide +kernel
theorem dX13_undo_2 : decode cX13_undo 2 = .ok (.getfield 147, 3) := by decide +kernel
theorem dX13_undo_5 : decode cX13_undo 5 = .ok (.ifCond .le 7, 3) := by decide +kernel
theorem dX13_undo_8 : decode cX13_undo 8 = .ok (.iconst 1, 1) := by decide +kernel
theorem dX13_undo_9 : decode cX13_undo 9 = .ok (.goto 4, 3) := by decide +kernel
theorem dX13_undo_12 : decode cX13_undo 12 = .ok (.iconst 0, 1) := by decide +kernel
theorem dX13_undo_13 : decode cX13_undo 13 = .ok (.invokevirtual 72, 3) := by decide +kernel
theorem dX13_undo_16 : decode cX13_undo 16 = .ok (.ifCond .ne 5, 3) := by decide +kernel
theorem dX13_undo_19 : decode cX13_undo 19 = .ok (.iconst 0, 1) := by decide +kernel
theorem dX13_undo_20 : decode cX13_undo 20 = .ok (.ireturn, 1) := by decide +kernel
theorem dX13_undo_21 : decode cX13_undo 21 = .ok (.aload_n 0, 1) := by decide +kernel
theorem dX13_undo_22 : decode cX13_undo 22 = .ok (.dup, 1) := by decide +kernel
theorem dX13_undo_23 : decode cX13_undo 23 = .ok (.getfield 147, 3) := by decide +kernel
theorem dX13_undo_26 : decode cX13_undo 26 = .ok (.iconst 1, 1) := by decide +kernel
theorem dX13_undo_27 : decode cX13_undo 27 = .ok (.isub, 1) := by decide +kernel
theorem dX13_undo_28 : decode cX13_undo 28 = .ok (.putfield 147, 3) := by decide +kernel
theorem dX13_undo_31 : decode cX13_undo 31 = .ok (.aload_n 0, 1) := by decide +kernel
theorem dX13_undo_32 : decode cX13_undo 32 = .ok (.getfield 32, 3) := by decide +kernel
theorem dX13_undo_35 : decode cX13_undo 35 = .ok (.sipush 390, 3) := by decide +kernel
theorem dX13_undo_38 : decode cX13_undo 38 = .ok (.aload_n 0, 1) := by decide +kernel
theorem dX13_undo_39 : decode cX13_undo 39 = .ok (.getfield 147, 3) := by decide +kernel
theorem dX13_undo_42 : decode cX13_undo 42 = .ok (.imul, 1) := by decide +kernel
theorem dX13_undo_43 : decode cX13_undo 43 = .ok (.aload_n 0, 1) := by decide +kernel
theorem dX13_undo_44 : decode cX13_undo 44 = .ok (.getfield 20, 3) := by decide +kernel
theorem dX13_undo_47 : decode cX13_undo 47 = .ok (.iconst 0, 1) := by decide +kernel
theorem dX13_undo_48 : decode cX13_undo 48 = .ok (.invokestatic 143, 3) := by decide +kernel
theorem dX13_undo_51 : decode cX13_undo 51 = .ok (.aload_n 0, 1) := by decide +kernel
theorem dX13_undo_52 : decode cX13_undo 52 = .ok (.getfield 147, 3) := by decide +kernel
theorem dX13_undo_55 : decode cX13_undo 55 = .ok (.ireturn, 1) := by decide +kernel
theorem dX13_saveState_0 : decode cX13_saveState 0 = .ok (.aload_n 0, 1) := by decide +kernel
theorem dX13_saveState_1 : decode cX13_saveState 1 = .ok (.iconst 0, 1) := by decide +kernel
theorem dX13_saveState_2 : decode cX13_saveState 2 = .ok (.putfield 62, 3) := by decide +kernel
theorem dX13_saveState_5 : decode cX13_saveState 5 = .ok (.aload_n 0, 1) := by decide +kernel
theorem dX13_saveState_6 : decode cX13_saveState 6 = .ok (.getfield 20, 3) := by decide +kernel
theorem dX13_saveState_9 : decode cX13_saveState 9 = .ok (.iconst 0, 1) := by decide +kernel
theorem dX13_saveState_10 : decode cX13_saveState 10 = .ok (.aload_n 0, 1) := by decide +kernel
theorem dX13_saveState_11 : decode cX13_saveState 11 = .ok (.getfield 23, 3) := by decide +kernel
theorem dX13_saveState_14 : decode cX13_saveState 14 = .ok (.iconst 0, 1) := by decide +kernel
theorem dX13_saveState_15 : decode cX13_saveState 15 = .ok (.invokestatic 143, 3) := by decide +kernel
theorem dX13_saveState_18 : decode cX13_saveState 18 = .ok (.aload_n 0, 1) := by decide +kernel
theorem dX13_saveState_19 : decode cX13_saveState 19 = .ok (.iconst 1, 1) := by decide +kernel
theorem dX13_saveState_20 : decode cX13_saveState 20 = .ok (.putfield 153, 3) := by decide +kernel
theorem dX13_saveState_23 : decode cX13_saveState 23 = .ok (.aload_n 0, 1) := by decide +kernel
theorem dX13_saveState_24 : decode cX13_saveState 24 = .ok (.getfield 20, 3) := by decide +kernel
theorem dX13_saveState_27 : decode cX13_saveState 27 = .ok (.iconst 3, 1) := by decide +kernel
theorem dX13_saveState_28 : decode cX13_saveState 28 = .ok (.iaload, 1) := by decide +kernel
theorem dX13_saveState_29 : decode cX13_saveState 29 = .ok (.ireturn, 1) := by decide +kernel
theorem dX13_restoreState_0 : decode cX13_restoreState 0 = .ok (.aload_n 0, 1) := by decide +kernel
theorem dX13_restoreState_1 : decode cX13_restoreState 1 = .ok (.aload_n 0, 1) := by decide +kernel
theorem dX13_restoreState_2 : decode cX13_restoreState 2 = .ok (.getfield 153, 3) := by decide +kernel
theorem dX13_restoreState_5 : decode cX13_restoreState 5 = .ok (.invokevirtual 72, 3) := by decide +kernel
theorem dX13_restoreState_8 : decode cX13_restoreState 8 = .ok (.ifCond .ne 5, 3) := by decide +kernel
theorem dX13_restoreState_11 : decode cX13_restoreState 11 = .ok (.iconst 0, 1) := by decide +kernel
theorem dX13_restoreState_12 : decode cX13_restoreState 12 = .ok (.ireturn, 1) := by decide +kernel
theorem dX13_restoreState_13 : decode cX13_restoreState 13 = .ok (.aload_n 0, 1) := by decide +kernel
theorem dX13_restoreState_14 : decode cX13_restoreState 14 = .ok (.getfield 23, 3) := by decide +kernel
theorem dX13_restoreState_17 : decode cX13_restoreState 17 = .ok (.iconst 0, 1) := by decide +kernel
theorem dX13_restoreState_18 : decode cX13_restoreState 18 = .ok (.aload_n 0, 1) := by decide +kernel
theorem dX13_restoreState_19 : decode cX13_restoreState 19 = .ok (.getfield 20, 3) := by decide +kernel
theorem dX13_restoreState_22 : decode cX13_restoreState 22 = .ok (.iconst 0, 1) := by decide +kernel
theorem dX13_restoreState_23 : decode cX13_restoreState 23 = .ok (.invokestatic 143, 3) := by decide +kernel
theorem dX13_restoreState_26 : decode cX13_restoreState 26 = .ok (.aload_n 0, 1) := by decide +kernel
theorem dX13_restoreState_27 : decode cX13_restoreState 27 = .ok (.iconst 0, 1) := by decide +kernel
theorem dX13_restoreState_28 : decode cX13_restoreState 28 = .ok (.putfield 147, 3) := by decide +kernel
theorem dX13_restoreState_31 : decode cX13_restoreState 31 = .ok (.aload_n 0, 1) := by decide +kernel
theorem dX13_restoreState_32 : decode cX13_restoreState 32 = .ok (.getfield 20, 3) := by decide +kernel
theorem dX13_restoreState_35 : decode cX13_restoreState 35 = .ok (.iconst 3, 1) := by decide +kernel
theorem dX13_restoreState_36 : decode cX13_restoreState 36 = .ok (.iaload, 1) := by decide +kernel
theorem dX13_restoreState_37 : decode cX13_restoreState 37 = .ok (.ireturn, 1) := by decide +kernel
theorem dX13_vly_0 : decode cX13_vly 0 = .ok (.bipush 8, 2) := by decide +kernel
theorem dX13_vly_2 : decode cX13_vly 2 = .ok (.bipush 8, 2) := by decide +kernel
theorem dX13_vly_4 : decode cX13_vly 4 = .ok (.iload_n 0, 1) := by decide +kernel
theorem dX13_vly_5 : decode cX13_vly 5 = .ok (.imul, 1) := by decide +kernel
theorem dX13_vly_6 : decode cX13_vly 6 = .ok (.iadd, 1) := by decide +kernel
theorem dX13_vly_7 : decode cX13_vly 7 = .ok (.ireturn, 1) := by decide +kernel
theorem dX13_cst_0 : decode cX13_cst 0 = .ok (.bipush 72, 2) := by decide +kernel
theorem dX13_cst_2 : decode cX13_cst 2 = .ok (.bipush 6, 2) := by decide +kernel
theorem dX13_cst_4 : decode cX13_cst 4 = .ok (.iload_n 0, 1) := by decide +kernel
theorem dX13_cst_5 : decode cX13_cst 5 = .ok (.imul, 1) := by decide +kernel
theorem dX13_cst_6 : decode cX13_cst 6 = .ok (.iadd, 1) := by decide +kernel
theorem dX13_cst_7 : decode cX13_cst 7 = .ok (.ireturn, 1) := by decide +kernel
theorem dX13_sht_0 : decode cX13_sht 0 = .ok (.bipush 120, 2) := by decide +kernel
theorem dX13_sht_2 : decode cX13_sht 2 = .ok (.bipush 9, 2) := by decide +kernel
theorem dX13_sht_4 : decode cX13_sht 4 = .ok (.iload_n 0, 1) := by decide +kernel
theorem dX13_sht_5 : decode cX13_sht 5 = .ok (.imul, 1) := by decide +kernel
theorem dX13_sht_6 : decode cX13_sht 6 = .ok (.iadd, 1) := by decide +kernel
theorem dX13_sht_7 : decode cX13_sht 7 = .ok (.ireturn, 1) := by decide +kernel
theorem dX13_ofValley_0 : decode cX13_ofValley 0 = .ok (.aload_n 0, 1) := by decide +kernel
theorem dX13_ofValley_1 : decode cX13_ofValley 1 = .ok (.getfield 20, 3) := by decide +kernel
theorem dX13_ofValley_4 : decode cX13_ofValley 4 = .ok (.iload_n 1, 1) := by decide +kernel
theorem dX13_ofValley_5 : decode cX13_ofValley 5 = .ok (.invokestatic 157, 3) := by decide +kernel
theorem dX13_ofValley_8 : decode cX13_ofValley 8 = .ok (.iload_n 2, 1) := by decide +kernel
theorem dX13_ofValley_9 : decode cX13_ofValley 9 = .ok (.iadd, 1) := by decide +kernel
theorem dX13_ofValley_10 : decode cX13_ofValley 10 = .ok (.iaload, 1) := by decide +kernel
theorem dX13_ofValley_11 : decode cX13_ofValley 11 = .ok (.ireturn, 1) := by decide +kernel
theorem dX13_ofCustomer_0 : decode cX13_ofCustomer 0 = .ok (.aload_n 0, 1) := by decide +kernel
theorem dX13_ofCustomer_1 : decode cX13_ofCustomer 1 = .ok (.getfield 20, 3) := by decide +kernel
theorem dX13_ofCustomer_4 : decode cX13_ofCustomer 4 = .ok (.iload_n 1, 1) := by decide +kernel
theorem dX13_ofCustomer_5 : decode cX13_ofCustomer 5 = .ok (.invokestatic 160, 3) := by decide +kernel
theorem dX13_ofCustomer_8 : decode cX13_ofCustomer 8 = .ok (.iload_n 2, 1) := by decide +kernel
theorem dX13_ofCustomer_9 : decode cX13_ofCustomer 9 = .ok (.iadd, 1) := by decide +kernel
theorem dX13_ofCustomer_10 : decode cX13_ofCustomer 10 = .ok (.iaload, 1) := by decide +kernel
theorem dX13_ofCustomer_11 : decode cX13_ofCustomer 11 = .ok (.ireturn, 1) := by decide +kernel
theorem dX13_of_0 : decode cX13_of 0 = .ok (.aload_n 0, 1) := by decide +kernel
theorem dX13_of_1 : decode cX13_of 1 = .ok (.getfield 20, 3) := by decide +kernel
theorem dX13_of_4 : decode cX13_of 4 = .ok (.iload_n 1, 1) := by decide +kernel
theorem dX13_of_5 : decode cX13_of 5 = .ok (.invokestatic 163, 3) := by decide +kernel
theorem dX13_of_8 : decode cX13_of 8 = .ok (.iload_n 2, 1) := by decide +kernel
theorem dX13_of_9 : decode cX13_of 9 = .ok (.iadd, 1) := by decide +kernel
theorem dX13_of_10 : decode cX13_of 10 = .ok (.iaload, 1) := by decide +kernel
theorem dX13_of_11 : decode cX13_of 11 = .ok (.ireturn, 1) := by decide +kernel
theorem dX13_isValley_0 : decode cX13_isValley 0 = .ok (.iload_n 1, 1) := by decide +kernel
theorem dX13_isValley_1 : decode cX13_isValley 1 = .ok (.i2l, 1) := by decide +kernel
theorem dX13_isValley_2 : decode cX13_isValley 2 = .ok (.lconst 0, 1) := by decide +kernel
theorem dX13_isValley_3 : decode cX13_isValley 3 = .ok (.aload_n 0, 1) := by decide +kernel
theorem dX13_isValley_4 : decode cX13_isValley 4 = .ok (.getfield 20, 3) := by decide +kernel
theorem dX13_isValley_7 : decode cX13_isValley 7 = .ok (.iconst 0, 1) := by decide +kernel
theorem dX13_isValley_8 : decode cX13_isValley 8 = .ok (.iaload, 1) := by decide +kernel
theorem dX13_isValley_9 : decode cX13_isValley 9 = .ok (.iconst 1, 1) := by decide +kernel
theorem dX13_isValley_10 : decode cX13_isValley 10 = .ok (.isub, 1) := by decide +kernel
theorem dX13_isValley_11 : decode cX13_isValley 11 = .ok (.i2l, 1) := by decide +kernel
theorem dX13_isValley_12 : decode cX13_isValley 12 = .ok (.invokestatic 80, 3) := by decide +kernel
theorem dX13_isValley_15 : decode cX13_isValley 15 = .ok (.ireturn, 1) := by decide +kernel
theorem dX13_isCustomer_0 : decode cX13_isCustomer 0 = .ok (.iload_n 1, 1) := by decide +kernel
theorem dX13_isCustomer_1 : decode cX13_isCustomer 1 = .ok (.i2l, 1) := by decide +kernel
theorem dX13_isCustomer_2 : decode cX13_isCustomer 2 = .ok (.lconst 0, 1) := by decide +kernel
theorem dX13_isCustomer_3 : decode cX13_isCustomer 3 = .ok (.aload_n 0, 1) := by decide +kernel
theorem dX13_isCustomer_4 : decode cX13_isCustomer 4 = .ok (.getfield 20, 3) := by decide +kernel
theorem dX13_isCustomer_7 : decode cX13_isCustomer 7 = .ok (.iconst 1, 1) := by decide +kernel
theorem dX13_isCustomer_8 : decode cX13_isCustomer 8 = .ok (.iaload, 1) := by decide +kernel
theorem dX13_isCustomer_9 : decode cX13_isCustomer 9 = .ok (.iconst 1, 1) := by decide +kernel
theorem dX13_isCustomer_10 : decode cX13_isCustomer 10 = .ok (.isub, 1) := by decide +kernel
theorem dX13_isCustomer_11 : decode cX13_isCustomer 11 = .ok (.i2l, 1) := by decide +kernel
theorem dX13_isCustomer_12 : decode cX13_isCustomer 12 = .ok (.invokestatic 80, 3) := by decide +kernel
theorem dX13_isCustomer_15 : decode cX13_isCustomer 15 = .ok (.ireturn, 1) := by decide +kernel
theorem dX13_isShout0_0 : decode cX13_isShout0 0 = .ok (.iload_n 1, 1) := by decide +kernel
theorem dX13_isShout0_1 : decode cX13_isShout0 1 = .ok (.i2l, 1) := by decide +kernel
theorem dX13_isShout0_2 : decode cX13_isShout0 2 = .ok (.lconst 0, 1) := by decide +kernel
theorem dX13_isShout0_3 : decode cX13_isShout0 3 = .ok (.aload_n 0, 1) := by decide +kernel
theorem dX13_isShout0_4 : decode cX13_isShout0 4 = .ok (.getfield 20, 3) := by decide +kernel
theorem dX13_isShout0_7 : decode cX13_isShout0 7 = .ok (.iconst 2, 1) := by decide +kernel
theorem dX13_isShout0_8 : decode cX13_isShout0 8 = .ok (.iaload, 1) := by decide +kernel
theorem dX13_isShout0_9 : decode cX13_isShout0 9 = .ok (.iconst 1, 1) := by decide +kernel
theorem dX13_isShout0_10 : decode cX13_isShout0 10 = .ok (.isub, 1) := by decide +kernel
theorem dX13_isShout0_11 : decode cX13_isShout0 11 = .ok (.i2l, 1) := by decide +kernel
theorem dX13_isShout0_12 : decode cX13_isShout0 12 = .ok (.invokestatic 80, 3) := by decide +kernel
theorem dX13_isShout0_15 : decode cX13_isShout0 15 = .ok (.ireturn, 1) := by decide +kernel
theorem dX13_isOpen_0 : decode cX13_isOpen 0 = .ok (.aload_n 0, 1) := by decide +kernel
theorem dX13_isOpen_1 : decode cX13_isOpen 1 = .ok (.iload_n 1, 1) := by decide +kernel
theorem dX13_isOpen_2 : decode cX13_isOpen 2 = .ok (.invokevirtual 166, 3) := by decide +kernel
theorem dX13_isOpen_5 : decode cX13_isOpen 5 = .ok (.ifCond .eq 17, 3) := by decide +kernel
theorem dX13_isOpen_8 : decode cX13_isOpen 8 = .ok (.aload_n 0, 1) := by decide +kernel
theorem dX13_isOpen_9 : decode cX13_isOpen 9 = .ok (.iload_n 1, 1) := by decide +kernel
theorem dX13_isOpen_10 : decode cX13_isOpen 10 = .ok (.bipush 6, 2) := by decide +kernel
theorem dX13_isOpen_12 : decode cX13_isOpen 12 = .ok (.invokevirtual 169, 3) := by decide +kernel
theorem dX13_isOpen_15 : decode cX13_isOpen 15 = .ok (.ifCond .ne 7, 3) := by decide +kernel
theorem dX13_isOpen_18 : decode cX13_isOpen 18 = .ok (.iconst 1, 1) := by decide +kernel
theorem dX13_isOpen_19 : decode cX13_isOpen 19 = .ok (.goto 4, 3) := by decide +kernel
theorem dX13_isOpen_22 : decode cX13_isOpen 22 = .ok (.iconst 0, 1) := by decide +kernel
theorem dX13_isOpen_23 : decode cX13_isOpen 23 = .ok (.ireturn, 1) := by decide +kernel
theorem dX13_laysName_0 : decode cX13_laysName 0 = .ok (.aload_n 0, 1) := by decide +kernel
theorem dX13_laysName_1 : decode cX13_laysName 1 = .ok (.getfield 20, 3) := by decide +kernel
theorem dX13_laysName_4 : decode cX13_laysName 4 = .ok (.iload_n 1, 1) := by decide +kernel
theorem dX13_laysName_5 : decode cX13_laysName 5 = .ok (.lload_n 2, 1) := by decide +kernel
theorem dX13_laysName_6 : decode cX13_laysName 6 = .ok (.bipush 20, 2) := by decide +kernel
theorem dX13_laysName_8 : decode cX13_laysName 8 = .ok (.lshr, 1) := by decide +kernel
theorem dX13_laysName_9 : decode cX13_laysName 9 = .ok (.l2i, 1) := by decide +kernel
theorem dX13_laysName_10 : decode cX13_laysName 10 = .ok (.iastore, 1) := by decide +kernel
theorem dX13_laysName_11 : decode cX13_laysName 11 = .ok (.aload_n 0, 1) := by decide +kernel
theorem dX13_laysName_12 : decode cX13_laysName 12 = .ok (.getfield 20, 3) := by decide +kernel
theorem dX13_laysName_15 : decode cX13_laysName 15 = .ok (.iload_n 1, 1) := by decide +kernel
theorem dX13_laysName_16 : decode cX13_laysName 16 = .ok (.iconst 1, 1) := by decide +kernel
theorem dX13_laysName_17 : decode cX13_laysName 17 = .ok (.iadd, 1) := by decide +kernel
theorem dX13_laysName_18 : decode cX13_laysName 18 = .ok (.lload_n 2, 1) := by decide +kernel
theorem dX13_laysName_19 : decode cX13_laysName 19 = .ok (.ldc2_w 172, 3) := by decide +kernel
theorem dX13_laysName_22 : decode cX13_laysName 22 = .ok (.land, 1) := by decide +kernel
theorem dX13_laysName_23 : decode cX13_laysName 23 = .ok (.l2i, 1) := by decide +kernel
theorem dX13_laysName_24 : decode cX13_laysName 24 = .ok (.iastore, 1) := by decide +kernel
theorem dX13_laysName_25 : decode cX13_laysName 25 = .ok (.return_, 1) := by decide +kernel
theorem dX13_nameAt_0 : decode cX13_nameAt 0 = .ok (.aload_n 0, 1) := by decide +kernel
theorem dX13_nameAt_1 : decode cX13_nameAt 1 = .ok (.getfield 20, 3) := by decide +kernel
theorem dX13_nameAt_4 : decode cX13_nameAt 4 = .ok (.iload_n 1, 1) := by decide +kernel
theorem dX13_nameAt_5 : decode cX13_nameAt 5 = .ok (.iaload, 1) := by decide +kernel
theorem dX13_nameAt_6 : decode cX13_nameAt 6 = .ok (.i2l, 1) := by decide +kernel
theorem dX13_nameAt_7 : decode cX13_nameAt 7 = .ok (.bipush 20, 2) := by decide +kernel
theorem dX13_nameAt_9 : decode cX13_nameAt 9 = .ok (.lshl, 1) := by decide +kernel
theorem dX13_nameAt_10 : decode cX13_nameAt 10 = .ok (.aload_n 0, 1) := by decide +kernel
theorem dX13_nameAt_11 : decode cX13_nameAt 11 = .ok (.getfield 20, 3) := by decide +kernel
theorem dX13_nameAt_14 : decode cX13_nameAt 14 = .ok (.iload_n 1, 1) := by decide +kernel
theorem dX13_nameAt_15 : decode cX13_nameAt 15 = .ok (.iconst 1, 1) := by decide +kernel
theorem dX13_nameAt_16 : decode cX13_nameAt 16 = .ok (.iadd, 1) := by decide +kernel
theorem dX13_nameAt_17 : decode cX13_nameAt 17 = .ok (.iaload, 1) := by decide +kernel
theorem dX13_nameAt_18 : decode cX13_nameAt 18 = .ok (.i2l, 1) := by decide +kernel
theorem dX13_nameAt_19 : decode cX13_nameAt 19 = .ok (.lor, 1) := by decide +kernel
theorem dX13_nameAt_20 : decode cX13_nameAt 20 = .ok (.lreturn, 1) := by decide +kernel
theorem dX13_nme_0 : decode cX13_nme 0 = .ok (.iload_n 0, 1) := by decide +kernel
theorem dX13_nme_1 : decode cX13_nme 1 = .ok (.ifCond .ne 13, 3) := by decide +kernel
theorem dX13_nme_4 : decode cX13_nme 4 = .ok (.iload_n 1, 1) := by decide +kernel
theorem dX13_nme_5 : decode cX13_nme 5 = .ok (.invokestatic 157, 3) := by decide +kernel
theorem dX13_nme_8 : decode cX13_nme 8 = .ok (.bipush 6, 2) := by decide +kernel
theorem dX13_nme_10 : decode cX13_nme 10 = .ok (.iadd, 1) := by decide +kernel
theorem dX13_nme_11 : decode cX13_nme 11 = .ok (.goto 9, 3) := by decide +kernel
theorem dX13_nme_14 : decode cX13_nme 14 = .ok (.iload_n 1, 1) := by decide +kernel
theorem dX13_nme_15 : decode cX13_nme 15 = .ok (.invokestatic 160, 3) := by decide +kernel
theorem dX13_nme_18 : decode cX13_nme 18 = .ok (.iconst 4, 1) := by decide +kernel
theorem dX13_nme_19 : decode cX13_nme 19 = .ok (.iadd, 1) := by decide +kernel
theorem dX13_nme_20 : decode cX13_nme 20 = .ok (.ireturn, 1) := by decide +kernel
theorem dX13_found_0 : decode cX13_found 0 = .ok (.iconst 0, 1) := by decide +kernel
theorem dX13_found_1 : decode cX13_found 1 = .ok (.istore 4, 2) := by decide +kernel
theorem dX13_found_3 : decode cX13_found 3 = .ok (.iload 4, 2) := by decide +kernel
theorem dX13_found_5 : decode cX13_found 5 = .ok (.aload_n 0, 1) := by decide +kernel
theorem dX13_found_6 : decode cX13_found 6 = .ok (.getfield 20, 3) := by decide +kernel
theorem dX13_found_9 : decode cX13_found 9 = .ok (.iload_n 1, 1) := by decide +kernel
theorem dX13_found_10 : decode cX13_found 10 = .ok (.iaload, 1) := by decide +kernel
theorem dX13_found_11 : decode cX13_found 11 = .ok (.if_icmp .ge 33, 3) := by decide +kernel
theorem dX13_found_14 : decode cX13_found 14 = .ok (.lload_n 2, 1) := by decide +kernel
theorem dX13_found_15 : decode cX13_found 15 = .ok (.lconst 0, 1) := by decide +kernel
theorem dX13_found_16 : decode cX13_found 16 = .ok (.lcmp, 1) := by decide +kernel
theorem dX13_found_17 : decode cX13_found 17 = .ok (.ifCond .eq 21, 3) := by decide +kernel
theorem dX13_found_20 : decode cX13_found 20 = .ok (.aload_n 0, 1) := by decide +kernel
theorem dX13_found_21 : decode cX13_found 21 = .ok (.iload_n 1, 1) := by decide +kernel
theorem dX13_found_22 : decode cX13_found 22 = .ok (.iload 4, 2) := by decide +kernel
theorem dX13_found_24 : decode cX13_found 24 = .ok (.invokestatic 174, 3) := by decide +kernel
theorem dX13_found_27 : decode cX13_found 27 = .ok (.invokevirtual 177, 3) := by decide +kernel
theorem dX13_found_30 : decode cX13_found 30 = .ok (.lload_n 2, 1) := by decide +kernel
theorem dX13_found_31 : decode cX13_found 31 = .ok (.lcmp, 1) := by decide +kernel
theorem dX13_found_32 : decode cX13_found 32 = .ok (.ifCond .ne 6, 3) := by decide +kernel
theorem dX13_found_35 : decode cX13_found 35 = .ok (.iload 4, 2) := by decide +kernel
theorem dX13_found_37 : decode cX13_found 37 = .ok (.ireturn, 1) := by decide +kernel
theorem dX13_found_38 : decode cX13_found 38 = .ok (.iinc 4 1, 3) := by decide +kernel
theorem dX13_found_41 : decode cX13_found 41 = .ok (.goto (-38), 3) := by decide +kernel
theorem dX13_found_44 : decode cX13_found 44 = .ok (.iconst (-1), 1) := by decide +kernel
theorem dX13_found_45 : decode cX13_found 45 = .ok (.ireturn, 1) := by decide +kernel
theorem dX13_left_0 : decode cX13_left 0 = .ok (.aload_n 0, 1) := by decide +kernel
theorem dX13_left_1 : decode cX13_left 1 = .ok (.iload_n 1, 1) := by decide +kernel
theorem dX13_left_2 : decode cX13_left 2 = .ok (.bipush 6, 2) := by decide +kernel
theorem dX13_left_4 : decode cX13_left 4 = .ok (.invokevirtual 169, 3) := by decide +kernel
theorem dX13_left_7 : decode cX13_left 7 = .ok (.ifCond .ne 27, 3) := by decide +kernel
theorem dX13_left_10 : decode cX13_left 10 = .ok (.aload_n 0, 1) := by decide +kernel
theorem dX13_left_11 : decode cX13_left 11 = .ok (.iload_n 1, 1) := by decide +kernel
theorem dX13_left_12 : decode cX13_left 12 = .ok (.iconst 4, 1) := by decide +kernel
theorem dX13_left_13 : decode cX13_left 13 = .ok (.invokevirtual 169, 3) := by decide +kernel
theorem dX13_left_16 : decode cX13_left 16 = .ok (.aload_n 0, 1) := by decide +kernel
theorem dX13_left_17 : decode cX13_left 17 = .ok (.iload_n 1, 1) := by decide +kernel
theorem dX13_left_18 : decode cX13_left 18 = .ok (.iconst 3, 1) := by decide +kernel
theorem dX13_left_19 : decode cX13_left 19 = .ok (.invokevirtual 169, 3) := by decide +kernel
theorem dX13_left_22 : decode cX13_left 22 = .ok (.aload_n 0, 1) := by decide +kernel
theorem dX13_left_23 : decode cX13_left 23 = .ok (.iload_n 1, 1) := by decide +kernel
theorem dX13_left_24 : decode cX13_left 24 = .ok (.bipush 7, 2) := by decide +kernel
theorem dX13_left_26 : decode cX13_left 26 = .ok (.invokevirtual 169, 3) := by decide +kernel
theorem dX13_left_29 : decode cX13_left 29 = .ok (.isub, 1) := by decide +kernel
theorem dX13_left_30 : decode cX13_left 30 = .ok (.imul, 1) := by decide +kernel
theorem dX13_left_31 : decode cX13_left 31 = .ok (.goto 4, 3) := by decide +kernel
theorem dX13_left_34 : decode cX13_left 34 = .ok (.iconst 0, 1) := by decide +kernel
theorem dX13_left_35 : decode cX13_left 35 = .ok (.ireturn, 1) := by decide +kernel
theorem dX13_heldAll_0 : decode cX13_heldAll 0 = .ok (.iconst 0, 1) := by decide +kernel
theorem dX13_heldAll_1 : decode cX13_heldAll 1 = .ok (.istore_n 1, 1) := by decide +kernel
theorem dX13_heldAll_2 : decode cX13_heldAll 2 = .ok (.iconst 0, 1) := by decide +kernel
theorem dX13_heldAll_3 : decode cX13_heldAll 3 = .ok (.istore_n 2, 1) := by decide +kernel
theorem dX13_heldAll_4 : decode cX13_heldAll 4 = .ok (.iload_n 2, 1) := by decide +kernel
theorem dX13_heldAll_5 : decode cX13_heldAll 5 = .ok (.aload_n 0, 1) := by decide +kernel
theorem dX13_heldAll_6 : decode cX13_heldAll 6 = .ok (.getfield 20, 3) := by decide +kernel
theorem dX13_heldAll_9 : decode cX13_heldAll 9 = .ok (.iconst 2, 1) := by decide +kernel
theorem dX13_heldAll_10 : decode cX13_heldAll 10 = .ok (.iaload, 1) := by decide +kernel
theorem dX13_heldAll_11 : decode cX13_heldAll 11 = .ok (.if_icmp .ge 17, 3) := by decide +kernel
theorem dX13_heldAll_14 : decode cX13_heldAll 14 = .ok (.iload_n 1, 1) := by decide +kernel
theorem dX13_heldAll_15 : decode cX13_heldAll 15 = .ok (.aload_n 0, 1) := by decide +kernel
theorem dX13_heldAll_16 : decode cX13_heldAll 16 = .ok (.iload_n 2, 1) := by decide +kernel
theorem dX13_heldAll_17 : decode cX13_heldAll 17 = .ok (.invokevirtual 181, 3) := by decide +kernel
theorem dX13_heldAll_20 : decode cX13_heldAll 20 = .ok (.iadd, 1) := by decide +kernel
theorem dX13_heldAll_21 : decode cX13_heldAll 21 = .ok (.istore_n 1, 1) := by decide +kernel
theorem dX13_heldAll_22 : decode cX13_heldAll 22 = .ok (.iinc 2 1, 3) := by decide +kernel
theorem dX13_heldAll_25 : decode cX13_heldAll 25 = .ok (.goto (-21), 3) := by decide +kernel
theorem dX13_heldAll_28 : decode cX13_heldAll 28 = .ok (.iload_n 1, 1) := by decide +kernel
theorem dX13_heldAll_29 : decode cX13_heldAll 29 = .ok (.ireturn, 1) := by decide +kernel
theorem dX13_heldOf_0 : decode cX13_heldOf 0 = .ok (.iconst 0, 1) := by decide +kernel
theorem dX13_heldOf_1 : decode cX13_heldOf 1 = .ok (.istore_n 2, 1) := by decide +kernel
theorem dX13_heldOf_2 : decode cX13_heldOf 2 = .ok (.iconst 0, 1) := by decide +kernel
theorem dX13_heldOf_3 : decode cX13_heldOf 3 = .ok (.istore_n 3, 1) := by decide +kernel
theorem dX13_heldOf_4 : decode cX13_heldOf 4 = .ok (.iload_n 3, 1) := by decide +kernel
theorem dX13_heldOf_5 : decode cX13_heldOf 5 = .ok (.aload_n 0, 1) := by decide +kernel
theorem dX13_heldOf_6 : decode cX13_heldOf 6 = .ok (.getfield 20, 3) := by decide +kernel
theorem dX13_heldOf_9 : decode cX13_heldOf 9 = .ok (.iconst 2, 1) := by decide +kernel
theorem dX13_heldOf_10 : decode cX13_heldOf 10 = .ok (.iaload, 1) := by decide +kernel
theorem dX13_heldOf_11 : decode cX13_heldOf 11 = .ok (.if_icmp .ge 31, 3) := by decide +kernel
theorem dX13_heldOf_14 : decode cX13_heldOf 14 = .ok (.iload_n 2, 1) := by decide +kernel
theorem dX13_heldOf_15 : decode cX13_heldOf 15 = .ok (.aload_n 0, 1) := by decide +kernel
theorem dX13_heldOf_16 : decode cX13_heldOf 16 = .ok (.iload_n 3, 1) := by decide +kernel
theorem dX13_heldOf_17 : decode cX13_heldOf 17 = .ok (.iconst 0, 1) := by decide +kernel
theorem dX13_heldOf_18 : decode cX13_heldOf 18 = .ok (.invokevirtual 169, 3) := by decide +kernel
theorem dX13_heldOf_21 : decode cX13_heldOf 21 = .ok (.iload_n 1, 1) := by decide +kernel
theorem dX13_heldOf_22 : decode cX13_heldOf 22 = .ok (.if_icmp .ne 11, 3) := by decide +kernel
theorem dX13_heldOf_25 : decode cX13_heldOf 25 = .ok (.aload_n 0, 1) := by decide +kernel
theorem dX13_heldOf_26 : decode cX13_heldOf 26 = .ok (.iload_n 3, 1) := by decide +kernel
theorem dX13_heldOf_27 : decode cX13_heldOf 27 = .ok (.invokevirtual 181, 3) := by decide +kernel
theorem dX13_heldOf_30 : decode cX13_heldOf 30 = .ok (.goto 4, 3) := by decide +kernel
theorem dX13_heldOf_33 : decode cX13_heldOf 33 = .ok (.iconst 0, 1) := by decide +kernel
theorem dX13_heldOf_34 : decode cX13_heldOf 34 = .ok (.iadd, 1) := by decide +kernel
theorem dX13_heldOf_35 : decode cX13_heldOf 35 = .ok (.istore_n 2, 1) := by decide +kernel
theorem dX13_heldOf_36 : decode cX13_heldOf 36 = .ok (.iinc 3 1, 3) := by decide +kernel
theorem dX13_heldOf_39 : decode cX13_heldOf 39 = .ok (.goto (-35), 3) := by decide +kernel
theorem dX13_heldOf_42 : decode cX13_heldOf 42 = .ok (.iload_n 2, 1) := by decide +kernel
theorem dX13_heldOf_43 : decode cX13_heldOf 43 = .ok (.ireturn, 1) := by decide +kernel
theorem dX13_bits_0 : decode cX13_bits 0 = .ok (.iconst 0, 1) := by decide +kernel
theorem dX13_bits_1 : decode cX13_bits 1 = .ok (.istore_n 1, 1) := by decide +kernel
theorem dX13_bits_2 : decode cX13_bits 2 = .ok (.iload_n 0, 1) := by decide +kernel
theorem dX13_bits_3 : decode cX13_bits 3 = .ok (.istore_n 2, 1) := by decide +kernel
theorem dX13_bits_4 : decode cX13_bits 4 = .ok (.iload_n 2, 1) := by decide +kernel
theorem dX13_bits_5 : decode cX13_bits 5 = .ok (.ifCond .eq 15, 3) := by decide +kernel
theorem dX13_bits_8 : decode cX13_bits 8 = .ok (.iinc 1 1, 3) := by decide +kernel
theorem dX13_bits_11 : decode cX13_bits 11 = .ok (.iload_n 2, 1) := by decide +kernel
theorem dX13_bits_12 : decode cX13_bits 12 = .ok (.iload_n 2, 1) := by decide +kernel
theorem dX13_bits_13 : decode cX13_bits 13 = .ok (.iconst 1, 1) := by decide +kernel
theorem dX13_bits_14 : decode cX13_bits 14 = .ok (.isub, 1) := by decide +kernel
theorem dX13_bits_15 : decode cX13_bits 15 = .ok (.iand, 1) := by decide +kernel
theorem dX13_bits_16 : decode cX13_bits 16 = .ok (.istore_n 2, 1) := by decide +kernel
theorem dX13_bits_17 : decode cX13_bits 17 = .ok (.goto (-13), 3) := by decide +kernel
theorem dX13_bits_20 : decode cX13_bits 20 = .ok (.iload_n 1, 1) := by decide +kernel
theorem dX13_bits_21 : decode cX13_bits 21 = .ok (.ireturn, 1) := by decide +kernel
theorem dX13_receiptOf_0 : decode cX13_receiptOf 0 = .ok (.aload_n 0, 1) := by decide +kernel
theorem dX13_receiptOf_1 : decode cX13_receiptOf 1 = .ok (.iload_n 1, 1) := by decide +kernel
theorem dX13_receiptOf_2 : decode cX13_receiptOf 2 = .ok (.iconst 4, 1) := by decide +kernel
theorem dX13_receiptOf_3 : decode cX13_receiptOf 3 = .ok (.invokevirtual 169, 3) := by decide +kernel
theorem dX13_receiptOf_6 : decode cX13_receiptOf 6 = .ok (.aload_n 0, 1) := by decide +kernel
theorem dX13_receiptOf_7 : decode cX13_receiptOf 7 = .ok (.iload_n 1, 1) := by decide +kernel
theorem dX13_receiptOf_8 : decode cX13_receiptOf 8 = .ok (.bipush 8, 2) := by decide +kernel
theorem dX13_receiptOf_10 : decode cX13_receiptOf 10 = .ok (.invokevirtual 169, 3) := by decide +kernel
theorem dX13_receiptOf_13 : decode cX13_receiptOf 13 = .ok (.invokestatic 184, 3) := by decide +kernel
theorem dX13_receiptOf_16 : decode cX13_receiptOf 16 = .ok (.imul, 1) := by decide +kernel
theorem dX13_receiptOf_17 : decode cX13_receiptOf 17 = .ok (.ireturn, 1) := by decide +kernel
theorem dX13_hasOpen_0 : decode cX13_hasOpen 0 = .ok (.iconst 0, 1) := by decide +kernel
theorem dX13_hasOpen_1 : decode cX13_hasOpen 1 = .ok (.istore_n 3, 1) := by decide +kernel
theorem dX13_hasOpen_2 : decode cX13_hasOpen 2 = .ok (.iload_n 3, 1) := by decide +kernel
theorem dX13_hasOpen_3 : decode cX13_hasOpen 3 = .ok (.aload_n 0, 1) := by decide +kernel
theorem dX13_hasOpen_4 : decode cX13_hasOpen 4 = .ok (.getfield 20, 3) := by decide +kernel
theorem dX13_hasOpen_7 : decode cX13_hasOpen 7 = .ok (.iconst 2, 1) := by decide +kernel
theorem dX13_hasOpen_8 : decode cX13_hasOpen 8 = .ok (.iaload, 1) := by decide +kernel
theorem dX13_hasOpen_9 : decode cX13_hasOpen 9 = .ok (.if_icmp .ge 41, 3) := by decide +kernel
theorem dX13_hasOpen_12 : decode cX13_hasOpen 12 = .ok (.aload_n 0, 1) := by decide +kernel
theorem dX13_hasOpen_13 : decode cX13_hasOpen 13 = .ok (.iload_n 3, 1) := by decide +kernel
theorem dX13_hasOpen_14 : decode cX13_hasOpen 14 = .ok (.iconst 0, 1) := by decide +kernel
theorem dX13_hasOpen_15 : decode cX13_hasOpen 15 = .ok (.invokevirtual 169, 3) := by decide +kernel
theorem dX13_hasOpen_18 : decode cX13_hasOpen 18 = .ok (.iload_n 1, 1) := by decide +kernel
theorem dX13_hasOpen_19 : decode cX13_hasOpen 19 = .ok (.if_icmp .ne 25, 3) := by decide +kernel
theorem dX13_hasOpen_22 : decode cX13_hasOpen 22 = .ok (.aload_n 0, 1) := by decide +kernel
theorem dX13_hasOpen_23 : decode cX13_hasOpen 23 = .ok (.iload_n 3, 1) := by decide +kernel
theorem dX13_hasOpen_24 : decode cX13_hasOpen 24 = .ok (.iconst 1, 1) := by decide +kernel
theorem dX13_hasOpen_25 : decode cX13_hasOpen 25 = .ok (.invokevirtual 169, 3) := by decide +kernel
theorem dX13_hasOpen_28 : decode cX13_hasOpen 28 = .ok (.iload_n 2, 1) := by decide +kernel
theorem dX13_hasOpen_29 : decode cX13_hasOpen 29 = .ok (.if_icmp .ne 15, 3) := by decide +kernel
theorem dX13_hasOpen_32 : decode cX13_hasOpen 32 = .ok (.aload_n 0, 1) := by decide +kernel
theorem dX13_hasOpen_33 : decode cX13_hasOpen 33 = .ok (.iload_n 3, 1) := by decide +kernel
theorem dX13_hasOpen_34 : decode cX13_hasOpen 34 = .ok (.bipush 6, 2) := by decide +kernel
theorem dX13_hasOpen_36 : decode cX13_hasOpen 36 = .ok (.invokevirtual 169, 3) := by decide +kernel
theorem dX13_hasOpen_39 : decode cX13_hasOpen 39 = .ok (.ifCond .ne 5, 3) := by decide +kernel
theorem dX13_hasOpen_42 : decode cX13_hasOpen 42 = .ok (.iconst 1, 1) := by decide +kernel
theorem dX13_hasOpen_43 : decode cX13_hasOpen 43 = .ok (.ireturn, 1) := by decide +kernel
theorem dX13_hasOpen_44 : decode cX13_hasOpen 44 = .ok (.iinc 3 1, 3) := by decide +kernel
theorem dX13_hasOpen_47 : decode cX13_hasOpen 47 = .ok (.goto (-45), 3) := by decide +kernel
theorem dX13_hasOpen_50 : decode cX13_hasOpen 50 = .ok (.iconst 0, 1) := by decide +kernel
theorem dX13_hasOpen_51 : decode cX13_hasOpen 51 = .ok (.ireturn, 1) := by decide +kernel
theorem dX13_isAngryNow_0 : decode cX13_isAngryNow 0 = .ok (.aload_n 0, 1) := by decide +kernel
theorem dX13_isAngryNow_1 : decode cX13_isAngryNow 1 = .ok (.iload_n 1, 1) := by decide +kernel
theorem dX13_isAngryNow_2 : decode cX13_isAngryNow 2 = .ok (.iconst 2, 1) := by decide +kernel
theorem dX13_isAngryNow_3 : decode cX13_isAngryNow 3 = .ok (.invokevirtual 187, 3) := by decide +kernel
theorem dX13_isAngryNow_6 : decode cX13_isAngryNow 6 = .ok (.iconst 3, 1) := by decide +kernel
theorem dX13_isAngryNow_7 : decode cX13_isAngryNow 7 = .ok (.if_icmp .lt 7, 3) := by decide +kernel
theorem dX13_isAngryNow_10 : decode cX13_isAngryNow 10 = .ok (.iconst 1, 1) := by decide +kernel
theorem dX13_isAngryNow_11 : decode cX13_isAngryNow 11 = .ok (.goto 4, 3) := by decide +kernel
theorem dX13_isAngryNow_14 : decode cX13_isAngryNow 14 = .ok (.iconst 0, 1) := by decide +kernel
theorem dX13_isAngryNow_15 : decode cX13_isAngryNow 15 = .ok (.ireturn, 1) := by decide +kernel
theorem dX13_refuses_0 : decode cX13_refuses 0 = .ok (.aload_n 0, 1) := by decide +kernel
theorem dX13_refuses_1 : decode cX13_refuses 1 = .ok (.getfield 20, 3) := by decide +kernel
theorem dX13_refuses_4 : decode cX13_refuses 4 = .ok (.iconst 2, 1) := by decide +kernel
theorem dX13_refuses_5 : decode cX13_refuses 5 = .ok (.iaload, 1) := by decide +kernel
theorem dX13_refuses_6 : decode cX13_refuses 6 = .ok (.bipush 30, 2) := by decide +kernel
theorem dX13_refuses_8 : decode cX13_refuses 8 = .ok (.if_icmp .ne 5, 3) := by decide +kernel
theorem dX13_refuses_11 : decode cX13_refuses 11 = .ok (.iconst 1, 1) := by decide +kernel
theorem dX13_refuses_12 : decode cX13_refuses 12 = .ok (.ireturn, 1) := by decide +kernel
theorem dX13_refuses_13 : decode cX13_refuses 13 = .ok (.iload_n 3, 1) := by decide +kernel
theorem dX13_refuses_14 : decode cX13_refuses 14 = .ok (.aload_n 0, 1) := by decide +kernel
theorem dX13_refuses_15 : decode cX13_refuses 15 = .ok (.iload_n 2, 1) := by decide +kernel
theorem dX13_refuses_16 : decode cX13_refuses 16 = .ok (.iconst 1, 1) := by decide +kernel
theorem dX13_refuses_17 : decode cX13_refuses 17 = .ok (.invokevirtual 190, 3) := by decide +kernel
theorem dX13_refuses_20 : decode cX13_refuses 20 = .ok (.if_icmp .le 5, 3) := by decide +kernel
theorem dX13_refuses_23 : decode cX13_refuses 23 = .ok (.iconst 2, 1) := by decide +kernel
theorem dX13_refuses_24 : decode cX13_refuses 24 = .ok (.ireturn, 1) := by decide +kernel
theorem dX13_refuses_25 : decode cX13_refuses 25 = .ok (.aload_n 0, 1) := by decide +kernel
theorem dX13_refuses_26 : decode cX13_refuses 26 = .ok (.iload_n 1, 1) := by decide +kernel
theorem dX13_refuses_27 : decode cX13_refuses 27 = .ok (.iconst 1, 1) := by decide +kernel
theorem dX13_refuses_28 : decode cX13_refuses 28 = .ok (.invokevirtual 187, 3) := by decide +kernel
theorem dX13_refuses_31 : decode cX13_refuses 31 = .ok (.aload_n 0, 1) := by decide +kernel
theorem dX13_refuses_32 : decode cX13_refuses 32 = .ok (.iload_n 2, 1) := by decide +kernel
theorem dX13_refuses_33 : decode cX13_refuses 33 = .ok (.iconst 2, 1) := by decide +kernel
theorem dX13_refuses_34 : decode cX13_refuses 34 = .ok (.invokevirtual 190, 3) := by decide +kernel
theorem dX13_refuses_37 : decode cX13_refuses 37 = .ok (.iload_n 3, 1) := by decide +kernel
theorem dX13_refuses_38 : decode cX13_refuses 38 = .ok (.imul, 1) := by decide +kernel
theorem dX13_refuses_39 : decode cX13_refuses 39 = .ok (.if_icmp .ge 5, 3) := by decide +kernel
theorem dX13_refuses_42 : decode cX13_refuses 42 = .ok (.iconst 3, 1) := by decide +kernel
theorem dX13_refuses_43 : decode cX13_refuses 43 = .ok (.ireturn, 1) := by decide +kernel
theorem dX13_refuses_44 : decode cX13_refuses 44 = .ok (.aload_n 0, 1) := by decide +kernel
theorem dX13_refuses_45 : decode cX13_refuses 45 = .ok (.iload_n 1, 1) := by decide +kernel
theorem dX13_refuses_46 : decode cX13_refuses 46 = .ok (.iload_n 2, 1) := by decide +kernel
theorem dX13_refuses_47 : decode cX13_refuses 47 = .ok (.invokevirtual 193, 3) := by decide +kernel
theorem dX13_refuses_50 : decode cX13_refuses 50 = .ok (.ifCond .eq 5, 3) := by decide +kernel
theorem dX13_refuses_53 : decode cX13_refuses 53 = .ok (.iconst 4, 1) := by decide +kernel
theorem dX13_refuses_54 : decode cX13_refuses 54 = .ok (.ireturn, 1) := by decide +kernel
theorem dX13_refuses_55 : decode cX13_refuses 55 = .ok (.aload_n 0, 1) := by decide +kernel
theorem dX13_refuses_56 : decode cX13_refuses 56 = .ok (.iload_n 1, 1) := by decide +kernel
theorem dX13_refuses_57 : decode cX13_refuses 57 = .ok (.invokevirtual 197, 3) := by decide +kernel
theorem dX13_refuses_60 : decode cX13_refuses 60 = .ok (.ifCond .eq 7, 3) := by decide +kernel
theorem dX13_refuses_63 : decode cX13_refuses 63 = .ok (.iconst 5, 1) := by decide +kernel
theorem dX13_refuses_64 : decode cX13_refuses 64 = .ok (.goto 4, 3) := by decide +kernel
theorem dX13_refuses_67 : decode cX13_refuses 67 = .ok (.iconst 0, 1) := by decide +kernel
theorem dX13_refuses_68 : decode cX13_refuses 68 = .ok (.ireturn, 1) := by decide +kernel
theorem dX13_sells_0 : decode cX13_sells 0 = .ok (.aload_n 0, 1) := by decide +kernel
theorem dX13_sells_1 : decode cX13_sells 1 = .ok (.getfield 20, 3) := by decide +kernel
theorem dX13_sells_4 : decode cX13_sells 4 = .ok (.iconst 2, 1) := by decide +kernel
theorem dX13_sells_5 : decode cX13_sells 5 = .ok (.iaload, 1) := by decide +kernel
theorem dX13_sells_6 : decode cX13_sells 6 = .ok (.invokestatic 163, 3) := by decide +kernel
theorem dX13_sells_9 : decode cX13_sells 9 = .ok (.istore 5, 2) := by decide +kernel
theorem dX13_sells_11 : decode cX13_sells 11 = .ok (.aload_n 0, 1) := by decide +kernel
theorem dX13_sells_12 : decode cX13_sells 12 = .ok (.getfield 20, 3) := by decide +kernel
theorem dX13_sells_15 : decode cX13_sells 15 = .ok (.iload 5, 2) := by decide +kernel
theorem dX13_sells_17 : decode cX13_sells 17 = .ok (.iconst 0, 1) := by decide +kernel
theorem dX13_sells_18 : decode cX13_sells 18 = .ok (.iadd, 1) := by decide +kernel
theorem dX13_sells_19 : decode cX13_sells 19 = .ok (.iload_n 1, 1) := by decide +kernel
theorem dX13_sells_20 : decode cX13_sells 20 = .ok (.iastore, 1) := by decide +kernel
theorem dX13_sells_21 : decode cX13_sells 21 = .ok (.aload_n 0, 1) := by decide +kernel
theorem dX13_sells_22 : decode cX13_sells 22 = .ok (.getfield 20, 3) := by decide +kernel
theorem dX13_sells_25 : decode cX13_sells 25 = .ok (.iload 5, 2) := by decide +kernel
theorem dX13_sells_27 : decode cX13_sells 27 = .ok (.iconst 1, 1) := by decide +kernel
theorem dX13_sells_28 : decode cX13_sells 28 = .ok (.iadd, 1) := by decide +kernel
theorem dX13_sells_29 : decode cX13_sells 29 = .ok (.iload_n 2, 1) := by decide +kernel
theorem dX13_sells_30 : decode cX13_sells 30 = .ok (.iastore, 1) := by decide +kernel
theorem dX13_sells_31 : decode cX13_sells 31 = .ok (.aload_n 0, 1) := by decide +kernel
theorem dX13_sells_32 : decode cX13_sells 32 = .ok (.getfield 20, 3) := by decide +kernel
theorem dX13_sells_35 : decode cX13_sells 35 = .ok (.iload 5, 2) := by decide +kernel
theorem dX13_sells_37 : decode cX13_sells 37 = .ok (.iconst 2, 1) := by decide +kernel
theorem dX13_sells_38 : decode cX13_sells 38 = .ok (.iadd, 1) := by decide +kernel
theorem dX13_sells_39 : decode cX13_sells 39 = .ok (.iload_n 3, 1) := by decide +kernel
theorem dX13_sells_40 : decode cX13_sells 40 = .ok (.iastore, 1) := by decide +kernel
theorem dX13_sells_41 : decode cX13_sells 41 = .ok (.aload_n 0, 1) := by decide +kernel
theorem dX13_sells_42 : decode cX13_sells 42 = .ok (.getfield 20, 3) := by decide +kernel
theorem dX13_sells_45 : decode cX13_sells 45 = .ok (.iload 5, 2) := by decide +kernel
theorem dX13_sells_47 : decode cX13_sells 47 = .ok (.iconst 3, 1) := by decide +kernel
theorem dX13_sells_48 : decode cX13_sells 48 = .ok (.iadd, 1) := by decide +kernel
theorem dX13_sells_49 : decode cX13_sells 49 = .ok (.iload 4, 2) := by decide +kernel
theorem dX13_sells_51 : decode cX13_sells 51 = .ok (.iastore, 1) := by decide +kernel
theorem dX13_sells_52 : decode cX13_sells 52 = .ok (.aload_n 0, 1) := by decide +kernel
theorem dX13_sells_53 : decode cX13_sells 53 = .ok (.getfield 20, 3) := by decide +kernel
theorem dX13_sells_56 : decode cX13_sells 56 = .ok (.iload 5, 2) := by decide +kernel
theorem dX13_sells_58 : decode cX13_sells 58 = .ok (.iconst 4, 1) := by decide +kernel
theorem dX13_sells_59 : decode cX13_sells 59 = .ok (.iadd, 1) := by decide +kernel
theorem dX13_sells_60 : decode cX13_sells 60 = .ok (.aload_n 0, 1) := by decide +kernel
theorem dX13_sells_61 : decode cX13_sells 61 = .ok (.iload_n 2, 1) := by decide +kernel
theorem dX13_sells_62 : decode cX13_sells 62 = .ok (.iconst 2, 1) := by decide +kernel
theorem dX13_sells_63 : decode cX13_sells 63 = .ok (.invokevirtual 190, 3) := by decide +kernel
theorem dX13_sells_66 : decode cX13_sells 66 = .ok (.iastore, 1) := by decide +kernel
theorem dX13_sells_67 : decode cX13_sells 67 = .ok (.aload_n 0, 1) := by decide +kernel
theorem dX13_sells_68 : decode cX13_sells 68 = .ok (.getfield 20, 3) := by decide +kernel
theorem dX13_sells_71 : decode cX13_sells 71 = .ok (.iload 5, 2) := by decide +kernel
theorem dX13_sells_73 : decode cX13_sells 73 = .ok (.iconst 5, 1) := by decide +kernel
theorem dX13_sells_74 : decode cX13_sells 74 = .ok (.iadd, 1) := by decide +kernel
theorem dX13_sells_75 : decode cX13_sells 75 = .ok (.aload_n 0, 1) := by decide +kernel
theorem dX13_sells_76 : decode cX13_sells 76 = .ok (.getfield 20, 3) := by decide +kernel
theorem dX13_sells_79 : decode cX13_sells 79 = .ok (.iconst 3, 1) := by decide +kernel
theorem dX13_sells_80 : decode cX13_sells 80 = .ok (.iaload, 1) := by decide +kernel
theorem dX13_sells_81 : decode cX13_sells 81 = .ok (.iastore, 1) := by decide +kernel
theorem dX13_sells_82 : decode cX13_sells 82 = .ok (.aload_n 0, 1) := by decide +kernel
theorem dX13_sells_83 : decode cX13_sells 83 = .ok (.getfield 20, 3) := by decide +kernel
theorem dX13_sells_86 : decode cX13_sells 86 = .ok (.iload 5, 2) := by decide +kernel
theorem dX13_sells_88 : decode cX13_sells 88 = .ok (.bipush 6, 2) := by decide +kernel
theorem dX13_sells_90 : decode cX13_sells 90 = .ok (.iadd, 1) := by decide +kernel
theorem dX13_sells_91 : decode cX13_sells 91 = .ok (.iconst 0, 1) := by decide +kernel
theorem dX13_sells_92 : decode cX13_sells 92 = .ok (.iastore, 1) := by decide +kernel
theorem dX13_sells_93 : decode cX13_sells 93 = .ok (.aload_n 0, 1) := by decide +kernel
theorem dX13_sells_94 : decode cX13_sells 94 = .ok (.getfield 20, 3) := by decide +kernel
theorem dX13_sells_97 : decode cX13_sells 97 = .ok (.iload 5, 2) := by decide +kernel
theorem dX13_sells_99 : decode cX13_sells 99 = .ok (.bipush 7, 2) := by decide +kernel
theorem dX13_sells_101 : decode cX13_sells 101 = .ok (.iadd, 1) := by decide +kernel
theorem dX13_sells_102 : decode cX13_sells 102 = .ok (.iconst 0, 1) := by decide +kernel
theorem dX13_sells_103 : decode cX13_sells 103 = .ok (.iastore, 1) := by decide +kernel
theorem dX13_sells_104 : decode cX13_sells 104 = .ok (.aload_n 0, 1) := by decide +kernel
theorem dX13_sells_105 : decode cX13_sells 105 = .ok (.getfield 20, 3) := by decide +kernel
theorem dX13_sells_108 : decode cX13_sells 108 = .ok (.iload 5, 2) := by decide +kernel
theorem dX13_sells_110 : decode cX13_sells 110 = .ok (.bipush 8, 2) := by decide +kernel
theorem dX13_sells_112 : decode cX13_sells 112 = .ok (.iadd, 1) := by decide +kernel
theorem dX13_sells_113 : decode cX13_sells 113 = .ok (.iconst 0, 1) := by decide +kernel
theorem dX13_sells_114 : decode cX13_sells 114 = .ok (.iastore, 1) := by decide +kernel
theorem dX13_sells_115 : decode cX13_sells 115 = .ok (.aload_n 0, 1) := by decide +kernel
theorem dX13_sells_116 : decode cX13_sells 116 = .ok (.getfield 20, 3) := by decide +kernel
theorem dX13_sells_119 : decode cX13_sells 119 = .ok (.iload_n 1, 1) := by decide +kernel
theorem dX13_sells_120 : decode cX13_sells 120 = .ok (.invokestatic 160, 3) := by decide +kernel
theorem dX13_sells_123 : decode cX13_sells 123 = .ok (.iconst 1, 1) := by decide +kernel
theorem dX13_sells_124 : decode cX13_sells 124 = .ok (.iadd, 1) := by decide +kernel
theorem dX13_sells_125 : decode cX13_sells 125 = .ok (.dup2, 1) := by decide +kernel
theorem dX13_sells_126 : decode cX13_sells 126 = .ok (.iaload, 1) := by decide +kernel
theorem dX13_sells_127 : decode cX13_sells 127 = .ok (.aload_n 0, 1) := by decide +kernel
theorem dX13_sells_128 : decode cX13_sells 128 = .ok (.iload_n 2, 1) := by decide +kernel
theorem dX13_sells_129 : decode cX13_sells 129 = .ok (.iconst 2, 1) := by decide +kernel
theorem dX13_sells_130 : decode cX13_sells 130 = .ok (.invokevirtual 190, 3) := by decide +kernel
theorem dX13_sells_133 : decode cX13_sells 133 = .ok (.iload 4, 2) := by decide +kernel
theorem dX13_sells_135 : decode cX13_sells 135 = .ok (.imul, 1) := by decide +kernel
theorem dX13_sells_136 : decode cX13_sells 136 = .ok (.isub, 1) := by decide +kernel
theorem dX13_sells_137 : decode cX13_sells 137 = .ok (.iastore, 1) := by decide +kernel
theorem dX13_sells_138 : decode cX13_sells 138 = .ok (.aload_n 0, 1) := by decide +kernel
theorem dX13_sells_139 : decode cX13_sells 139 = .ok (.getfield 20, 3) := by decide +kernel
theorem dX13_sells_142 : decode cX13_sells 142 = .ok (.iconst 2, 1) := by decide +kernel
theorem dX13_sells_143 : decode cX13_sells 143 = .ok (.dup2, 1) := by decide +kernel
theorem dX13_sells_144 : decode cX13_sells 144 = .ok (.iaload, 1) := by decide +kernel
theorem dX13_sells_145 : decode cX13_sells 145 = .ok (.iconst 1, 1) := by decide +kernel
theorem dX13_sells_146 : decode cX13_sells 146 = .ok (.iadd, 1) := by decide +kernel
theorem dX13_sells_147 : decode cX13_sells 147 = .ok (.iastore, 1) := by decide +kernel
theorem dX13_sells_148 : decode cX13_sells 148 = .ok (.aload_n 0, 1) := by decide +kernel
theorem dX13_sells_149 : decode cX13_sells 149 = .ok (.getfield 20, 3) := by decide +kernel
theorem dX13_sells_152 : decode cX13_sells 152 = .ok (.iconst 2, 1) := by decide +kernel
theorem dX13_sells_153 : decode cX13_sells 153 = .ok (.iaload, 1) := by decide +kernel
theorem dX13_sells_154 : decode cX13_sells 154 = .ok (.iconst 1, 1) := by decide +kernel
theorem dX13_sells_155 : decode cX13_sells 155 = .ok (.isub, 1) := by decide +kernel
theorem dX13_sells_156 : decode cX13_sells 156 = .ok (.ireturn, 1) := by decide +kernel
theorem dX13_refunds_0 : decode cX13_refunds 0 = .ok (.aload_n 0, 1) := by decide +kernel
theorem dX13_refunds_1 : decode cX13_refunds 1 = .ok (.getfield 20, 3) := by decide +kernel
theorem dX13_refunds_4 : decode cX13_refunds 4 = .ok (.iconst 5, 1) := by decide +kernel
theorem dX13_refunds_5 : decode cX13_refunds 5 = .ok (.dup2, 1) := by decide +kernel
theorem dX13_refunds_6 : decode cX13_refunds 6 = .ok (.iaload, 1) := by decide +kernel
theorem dX13_refunds_7 : decode cX13_refunds 7 = .ok (.iload_n 2, 1) := by decide +kernel
theorem dX13_refunds_8 : decode cX13_refunds 8 = .ok (.iadd, 1) := by decide +kernel
theorem dX13_refunds_9 : decode cX13_refunds 9 = .ok (.iastore, 1) := by decide +kernel
theorem dX13_refunds_10 : decode cX13_refunds 10 = .ok (.aload_n 0, 1) := by decide +kernel
theorem dX13_refunds_11 : decode cX13_refunds 11 = .ok (.getfield 20, 3) := by decide +kernel
theorem dX13_refunds_14 : decode cX13_refunds 14 = .ok (.aload_n 0, 1) := by decide +kernel
theorem dX13_refunds_15 : decode cX13_refunds 15 = .ok (.iload_n 1, 1) := by decide +kernel
theorem dX13_refunds_16 : decode cX13_refunds 16 = .ok (.iconst 0, 1) := by decide +kernel
theorem dX13_refunds_17 : decode cX13_refunds 17 = .ok (.invokevirtual 169, 3) := by decide +kernel
theorem dX13_refunds_20 : decode cX13_refunds 20 = .ok (.invokestatic 160, 3) := by decide +kernel
theorem dX13_refunds_23 : decode cX13_refunds 23 = .ok (.iconst 1, 1) := by decide +kernel
theorem dX13_refunds_24 : decode cX13_refunds 24 = .ok (.iadd, 1) := by decide +kernel
theorem dX13_refunds_25 : decode cX13_refunds 25 = .ok (.dup2, 1) := by decide +kernel
theorem dX13_refunds_26 : decode cX13_refunds 26 = .ok (.iaload, 1) := by decide +kernel
theorem dX13_refunds_27 : decode cX13_refunds 27 = .ok (.iload_n 2, 1) := by decide +kernel
theorem dX13_refunds_28 : decode cX13_refunds 28 = .ok (.iadd, 1) := by decide +kernel
theorem dX13_refunds_29 : decode cX13_refunds 29 = .ok (.iastore, 1) := by decide +kernel
theorem dX13_refunds_30 : decode cX13_refunds 30 = .ok (.return_, 1) := by decide +kernel
theorem dX13_hears_0 : decode cX13_hears 0 = .ok (.aload_n 0, 1) := by decide +kernel
theorem dX13_hears_1 : decode cX13_hears 1 = .ok (.iload_n 1, 1) := by decide +kernel
theorem dX13_hears_2 : decode cX13_hears 2 = .ok (.iconst 1, 1) := by decide +kernel
theorem dX13_hears_3 : decode cX13_hears 3 = .ok (.invokevirtual 169, 3) := by decide +kernel
theorem dX13_hears_6 : decode cX13_hears 6 = .ok (.invokestatic 157, 3) := by decide +kernel
theorem dX13_hears_9 : decode cX13_hears 9 = .ok (.istore_n 2, 1) := by decide +kernel
theorem dX13_hears_10 : decode cX13_hears 10 = .ok (.aload_n 0, 1) := by decide +kernel
theorem dX13_hears_11 : decode cX13_hears 11 = .ok (.getfield 20, 3) := by decide +kernel
theorem dX13_hears_14 : decode cX13_hears 14 = .ok (.iconst 4, 1) := by decide +kernel
theorem dX13_hears_15 : decode cX13_hears 15 = .ok (.dup2, 1) := by decide +kernel
theorem dX13_hears_16 : decode cX13_hears 16 = .ok (.iaload, 1) := by decide +kernel
theorem dX13_hears_17 : decode cX13_hears 17 = .ok (.aload_n 0, 1) := by decide +kernel
theorem dX13_hears_18 : decode cX13_hears 18 = .ok (.iload_n 1, 1) := by decide +kernel
theorem dX13_hears_19 : decode cX13_hears 19 = .ok (.iconst 4, 1) := by decide +kernel
theorem dX13_hears_20 : decode cX13_hears 20 = .ok (.invokevirtual 169, 3) := by decide +kernel
theorem dX13_hears_23 : decode cX13_hears 23 = .ok (.iadd, 1) := by decide +kernel
theorem dX13_hears_24 : decode cX13_hears 24 = .ok (.iastore, 1) := by decide +kernel
theorem dX13_hears_25 : decode cX13_hears 25 = .ok (.aload_n 0, 1) := by decide +kernel
theorem dX13_hears_26 : decode cX13_hears 26 = .ok (.getfield 20, 3) := by decide +kernel
theorem dX13_hears_29 : decode cX13_hears 29 = .ok (.iload_n 2, 1) := by decide +kernel
theorem dX13_hears_30 : decode cX13_hears 30 = .ok (.iconst 4, 1) := by decide +kernel
theorem dX13_hears_31 : decode cX13_hears 31 = .ok (.iadd, 1) := by decide +kernel
theorem dX13_hears_32 : decode cX13_hears 32 = .ok (.dup2, 1) := by decide +kernel
theorem dX13_hears_33 : decode cX13_hears 33 = .ok (.iaload, 1) := by decide +kernel
theorem dX13_hears_34 : decode cX13_hears 34 = .ok (.iconst 1, 1) := by decide +kernel
theorem dX13_hears_35 : decode cX13_hears 35 = .ok (.iadd, 1) := by decide +kernel
theorem dX13_hears_36 : decode cX13_hears 36 = .ok (.iastore, 1) := by decide +kernel
theorem dX13_hears_37 : decode cX13_hears 37 = .ok (.aload_n 0, 1) := by decide +kernel
theorem dX13_hears_38 : decode cX13_hears 38 = .ok (.getfield 20, 3) := by decide +kernel
theorem dX13_hears_41 : decode cX13_hears 41 = .ok (.aload_n 0, 1) := by decide +kernel
theorem dX13_hears_42 : decode cX13_hears 42 = .ok (.iload_n 1, 1) := by decide +kernel
theorem dX13_hears_43 : decode cX13_hears 43 = .ok (.iconst 0, 1) := by decide +kernel
theorem dX13_hears_44 : decode cX13_hears 44 = .ok (.invokevirtual 169, 3) := by decide +kernel
theorem dX13_hears_47 : decode cX13_hears 47 = .ok (.invokestatic 160, 3) := by decide +kernel
theorem dX13_hears_50 : decode cX13_hears 50 = .ok (.iconst 3, 1) := by decide +kernel
theorem dX13_hears_51 : decode cX13_hears 51 = .ok (.iadd, 1) := by decide +kernel
theorem dX13_hears_52 : decode cX13_hears 52 = .ok (.dup2, 1) := by decide +kernel
theorem dX13_hears_53 : decode cX13_hears 53 = .ok (.iaload, 1) := by decide +kernel
theorem dX13_hears_54 : decode cX13_hears 54 = .ok (.iconst 1, 1) := by decide +kernel
theorem dX13_hears_55 : decode cX13_hears 55 = .ok (.iadd, 1) := by decide +kernel
theorem dX13_hears_56 : decode cX13_hears 56 = .ok (.iastore, 1) := by decide +kernel
theorem dX13_hears_57 : decode cX13_hears 57 = .ok (.aload_n 0, 1) := by decide +kernel
theorem dX13_hears_58 : decode cX13_hears 58 = .ok (.getfield 20, 3) := by decide +kernel
theorem dX13_hears_61 : decode cX13_hears 61 = .ok (.iload_n 1, 1) := by decide +kernel
theorem dX13_hears_62 : decode cX13_hears 62 = .ok (.invokestatic 163, 3) := by decide +kernel
theorem dX13_hears_65 : decode cX13_hears 65 = .ok (.bipush 8, 2) := by decide +kernel
theorem dX13_hears_67 : decode cX13_hears 67 = .ok (.iadd, 1) := by decide +kernel
theorem dX13_hears_68 : decode cX13_hears 68 = .ok (.dup2, 1) := by decide +kernel
theorem dX13_hears_69 : decode cX13_hears 69 = .ok (.iaload, 1) := by decide +kernel
theorem dX13_hears_70 : decode cX13_hears 70 = .ok (.iconst 1, 1) := by decide +kernel
theorem dX13_hears_71 : decode cX13_hears 71 = .ok (.aload_n 0, 1) := by decide +kernel
theorem dX13_hears_72 : decode cX13_hears 72 = .ok (.iload_n 1, 1) := by decide +kernel
theorem dX13_hears_73 : decode cX13_hears 73 = .ok (.bipush 7, 2) := by decide +kernel
theorem dX13_hears_75 : decode cX13_hears 75 = .ok (.invokevirtual 169, 3) := by decide +kernel
theorem dX13_hears_78 : decode cX13_hears 78 = .ok (.ishl, 1) := by decide +kernel
theorem dX13_hears_79 : decode cX13_hears 79 = .ok (.ior, 1) := by decide +kernel
theorem dX13_hears_80 : decode cX13_hears 80 = .ok (.iastore, 1) := by decide +kernel
theorem dX13_hears_81 : decode cX13_hears 81 = .ok (.return_, 1) := by decide +kernel
theorem dX13_loses_0 : decode cX13_loses 0 = .ok (.aload_n 0, 1) := by decide +kernel
theorem dX13_loses_1 : decode cX13_loses 1 = .ok (.iload_n 1, 1) := by decide +kernel
theorem dX13_loses_2 : decode cX13_loses 2 = .ok (.iconst 1, 1) := by decide +kernel
theorem dX13_loses_3 : decode cX13_loses 3 = .ok (.invokevirtual 169, 3) := by decide +kernel
theorem dX13_loses_6 : decode cX13_loses 6 = .ok (.invokestatic 157, 3) := by decide +kernel
theorem dX13_loses_9 : decode cX13_loses 9 = .ok (.istore_n 2, 1) := by decide +kernel
theorem dX13_loses_10 : decode cX13_loses 10 = .ok (.aload_n 0, 1) := by decide +kernel
theorem dX13_loses_11 : decode cX13_loses 11 = .ok (.iload_n 1, 1) := by decide +kernel
theorem dX13_loses_12 : decode cX13_loses 12 = .ok (.aload_n 0, 1) := by decide +kernel
theorem dX13_loses_13 : decode cX13_loses 13 = .ok (.iload_n 1, 1) := by decide +kernel
theorem dX13_loses_14 : decode cX13_loses 14 = .ok (.iconst 4, 1) := by decide +kernel
theorem dX13_loses_15 : decode cX13_loses 15 = .ok (.invokevirtual 169, 3) := by decide +kernel
theorem dX13_loses_18 : decode cX13_loses 18 = .ok (.invokevirtual 200, 3) := by decide +kernel
theorem dX13_loses_21 : decode cX13_loses 21 = .ok (.aload_n 0, 1) := by decide +kernel
theorem dX13_loses_22 : decode cX13_loses 22 = .ok (.getfield 20, 3) := by decide +kernel
theorem dX13_loses_25 : decode cX13_loses 25 = .ok (.iload_n 2, 1) := by decide +kernel
theorem dX13_loses_26 : decode cX13_loses 26 = .ok (.iconst 5, 1) := by decide +kernel
theorem dX13_loses_27 : decode cX13_loses 27 = .ok (.iadd, 1) := by decide +kernel
theorem dX13_loses_28 : decode cX13_loses 28 = .ok (.dup2, 1) := by decide +kernel
theorem dX13_loses_29 : decode cX13_loses 29 = .ok (.iaload, 1) := by decide +kernel
theorem dX13_loses_30 : decode cX13_loses 30 = .ok (.iconst 1, 1) := by decide +kernel
theorem dX13_loses_31 : decode cX13_loses 31 = .ok (.iadd, 1) := by decide +kernel
theorem dX13_loses_32 : decode cX13_loses 32 = .ok (.iastore, 1) := by decide +kernel
theorem dX13_loses_33 : decode cX13_loses 33 = .ok (.aload_n 0, 1) := by decide +kernel
theorem dX13_loses_34 : decode cX13_loses 34 = .ok (.getfield 20, 3) := by decide +kernel
theorem dX13_loses_37 : decode cX13_loses 37 = .ok (.iload_n 2, 1) := by decide +kernel
theorem dX13_loses_38 : decode cX13_loses 38 = .ok (.iconst 4, 1) := by decide +kernel
theorem dX13_loses_39 : decode cX13_loses 39 = .ok (.iadd, 1) := by decide +kernel
theorem dX13_loses_40 : decode cX13_loses 40 = .ok (.aload_n 0, 1) := by decide +kernel
theorem dX13_loses_41 : decode cX13_loses 41 = .ok (.getfield 20, 3) := by decide +kernel
theorem dX13_loses_44 : decode cX13_loses 44 = .ok (.iload_n 2, 1) := by decide +kernel
theorem dX13_loses_45 : decode cX13_loses 45 = .ok (.iconst 4, 1) := by decide +kernel
theorem dX13_loses_46 : decode cX13_loses 46 = .ok (.iadd, 1) := by decide +kernel
theorem dX13_loses_47 : decode cX13_loses 47 = .ok (.iaload, 1) := by decide +kernel
theorem dX13_loses_48 : decode cX13_loses 48 = .ok (.iconst 2, 1) := by decide +kernel
theorem dX13_loses_49 : decode cX13_loses 49 = .ok (.if_icmp .ge 7, 3) := by decide +kernel
theorem dX13_loses_52 : decode cX13_loses 52 = .ok (.iconst 0, 1) := by decide +kernel
theorem dX13_loses_53 : decode cX13_loses 53 = .ok (.goto 13, 3) := by decide +kernel
theorem dX13_loses_56 : decode cX13_loses 56 = .ok (.aload_n 0, 1) := by decide +kernel
theorem dX13_loses_57 : decode cX13_loses 57 = .ok (.getfield 20, 3) := by decide +kernel
theorem dX13_loses_60 : decode cX13_loses 60 = .ok (.iload_n 2, 1) := by decide +kernel
theorem dX13_loses_61 : decode cX13_loses 61 = .ok (.iconst 4, 1) := by decide +kernel
theorem dX13_loses_62 : decode cX13_loses 62 = .ok (.iadd, 1) := by decide +kernel
theorem dX13_loses_63 : decode cX13_loses 63 = .ok (.iaload, 1) := by decide +kernel
theorem dX13_loses_64 : decode cX13_loses 64 = .ok (.iconst 2, 1) := by decide +kernel
theorem dX13_loses_65 : decode cX13_loses 65 = .ok (.isub, 1) := by decide +kernel
theorem dX13_loses_66 : decode cX13_loses 66 = .ok (.iastore, 1) := by decide +kernel
theorem dX13_loses_67 : decode cX13_loses 67 = .ok (.return_, 1) := by decide +kernel
theorem dX13_comesBack_0 : decode cX13_comesBack 0 = .ok (.iload_n 2, 1) := by decide +kernel
theorem dX13_comesBack_1 : decode cX13_comesBack 1 = .ok (.iconst 1, 1) := by decide +kernel
theorem dX13_comesBack_2 : decode cX13_comesBack 2 = .ok (.if_icmp .lt 7, 3) := by decide +kernel
theorem dX13_comesBack_5 : decode cX13_comesBack 5 = .ok (.iconst 1, 1) := by decide +kernel
theorem dX13_comesBack_6 : decode cX13_comesBack 6 = .ok (.goto 4, 3) := by decide +kernel
theorem dX13_comesBack_9 : decode cX13_comesBack 9 = .ok (.iconst 0, 1) := by decide +kernel
theorem dX13_comesBack_10 : decode cX13_comesBack 10 = .ok (.istore_n 3, 1) := by decide +kernel
theorem dX13_comesBack_11 : decode cX13_comesBack 11 = .ok (.iload_n 3, 1) := by decide +kernel
theorem dX13_comesBack_12 : decode cX13_comesBack 12 = .ok (.ifCond .eq 11, 3) := by decide +kernel
theorem dX13_comesBack_15 : decode cX13_comesBack 15 = .ok (.aload_n 0, 1) := by decide +kernel
theorem dX13_comesBack_16 : decode cX13_comesBack 16 = .ok (.iload_n 1, 1) := by decide +kernel
theorem dX13_comesBack_17 : decode cX13_comesBack 17 = .ok (.invokevirtual 204, 3) := by decide +kernel
theorem dX13_comesBack_20 : decode cX13_comesBack 20 = .ok (.goto 8, 3) := by decide +kernel
theorem dX13_comesBack_23 : decode cX13_comesBack 23 = .ok (.aload_n 0, 1) := by decide +kernel
theorem dX13_comesBack_24 : decode cX13_comesBack 24 = .ok (.iload_n 1, 1) := by decide +kernel
theorem dX13_comesBack_25 : decode cX13_comesBack 25 = .ok (.invokevirtual 207, 3) := by decide +kernel
theorem dX13_comesBack_28 : decode cX13_comesBack 28 = .ok (.aload_n 0, 1) := by decide +kernel
theorem dX13_comesBack_29 : decode cX13_comesBack 29 = .ok (.getfield 20, 3) := by decide +kernel
theorem dX13_comesBack_32 : decode cX13_comesBack 32 = .ok (.iload_n 1, 1) := by decide +kernel
theorem dX13_comesBack_33 : decode cX13_comesBack 33 = .ok (.invokestatic 163, 3) := by decide +kernel
theorem dX13_comesBack_36 : decode cX13_comesBack 36 = .ok (.bipush 7, 2) := by decide +kernel
theorem dX13_comesBack_38 : decode cX13_comesBack 38 = .ok (.iadd, 1) := by decide +kernel
theorem dX13_comesBack_39 : decode cX13_comesBack 39 = .ok (.dup2, 1) := by decide +kernel
theorem dX13_comesBack_40 : decode cX13_comesBack 40 = .ok (.iaload, 1) := by decide +kernel
theorem dX13_comesBack_41 : decode cX13_comesBack 41 = .ok (.iconst 1, 1) := by decide +kernel
theorem dX13_comesBack_42 : decode cX13_comesBack 42 = .ok (.iadd, 1) := by decide +kernel
theorem dX13_comesBack_43 : decode cX13_comesBack 43 = .ok (.iastore, 1) := by decide +kernel
theorem dX13_comesBack_44 : decode cX13_comesBack 44 = .ok (.aload_n 0, 1) := by decide +kernel
theorem dX13_comesBack_45 : decode cX13_comesBack 45 = .ok (.iload_n 1, 1) := by decide +kernel
theorem dX13_comesBack_46 : decode cX13_comesBack 46 = .ok (.bipush 7, 2) := by decide +kernel
theorem dX13_comesBack_48 : decode cX13_comesBack 48 = .ok (.invokevirtual 169, 3) := by decide +kernel
theorem dX13_comesBack_51 : decode cX13_comesBack 51 = .ok (.aload_n 0, 1) := by decide +kernel
theorem dX13_comesBack_52 : decode cX13_comesBack 52 = .ok (.iload_n 1, 1) := by decide +kernel
theorem dX13_comesBack_53 : decode cX13_comesBack 53 = .ok (.iconst 3, 1) := by decide +kernel
theorem dX13_comesBack_54 : decode cX13_comesBack 54 = .ok (.invokevirtual 169, 3) := by decide +kernel
theorem dX13_comesBack_57 : decode cX13_comesBack 57 = .ok (.if_icmp .ne 16, 3) := by decide +kernel
theorem dX13_comesBack_60 : decode cX13_comesBack 60 = .ok (.aload_n 0, 1) := by decide +kernel
theorem dX13_comesBack_61 : decode cX13_comesBack 61 = .ok (.getfield 20, 3) := by decide +kernel
theorem dX13_comesBack_64 : decode cX13_comesBack 64 = .ok (.iload_n 1, 1) := by decide +kernel
theorem dX13_comesBack_65 : decode cX13_comesBack 65 = .ok (.invokestatic 163, 3) := by decide +kernel
theorem dX13_comesBack_68 : decode cX13_comesBack 68 = .ok (.bipush 6, 2) := by decide +kernel
theorem dX13_comesBack_70 : decode cX13_comesBack 70 = .ok (.iadd, 1) := by decide +kernel
theorem dX13_comesBack_71 : decode cX13_comesBack 71 = .ok (.iconst 1, 1) := by decide +kernel
theorem dX13_comesBack_72 : decode cX13_comesBack 72 = .ok (.iastore, 1) := by decide +kernel
theorem dX13_comesBack_73 : decode cX13_comesBack 73 = .ok (.iload_n 3, 1) := by decide +kernel
theorem dX13_comesBack_74 : decode cX13_comesBack 74 = .ok (.ireturn, 1) := by decide +kernel
theorem dX13_cancels_0 : decode cX13_cancels 0 = .ok (.aload_n 0, 1) := by decide +kernel
theorem dX13_cancels_1 : decode cX13_cancels 1 = .ok (.iload_n 1, 1) := by decide +kernel
theorem dX13_cancels_2 : decode cX13_cancels 2 = .ok (.invokevirtual 181, 3) := by decide +kernel
theorem dX13_cancels_5 : decode cX13_cancels 5 = .ok (.istore_n 2, 1) := by decide +kernel
theorem dX13_cancels_6 : decode cX13_cancels 6 = .ok (.aload_n 0, 1) := by decide +kernel
theorem dX13_cancels_7 : decode cX13_cancels 7 = .ok (.getfield 20, 3) := by decide +kernel
theorem dX13_cancels_10 : decode cX13_cancels 10 = .ok (.iload_n 1, 1) := by decide +kernel
theorem dX13_cancels_11 : decode cX13_cancels 11 = .ok (.invokestatic 163, 3) := by decide +kernel
theorem dX13_cancels_14 : decode cX13_cancels 14 = .ok (.bipush 6, 2) := by decide +kernel
theorem dX13_cancels_16 : decode cX13_cancels 16 = .ok (.iadd, 1) := by decide +kernel
theorem dX13_cancels_17 : decode cX13_cancels 17 = .ok (.iconst 2, 1) := by decide +kernel
theorem dX13_cancels_18 : decode cX13_cancels 18 = .ok (.iastore, 1) := by decide +kernel
theorem dX13_cancels_19 : decode cX13_cancels 19 = .ok (.aload_n 0, 1) := by decide +kernel
theorem dX13_cancels_20 : decode cX13_cancels 20 = .ok (.iload_n 1, 1) := by decide +kernel
theorem dX13_cancels_21 : decode cX13_cancels 21 = .ok (.iload_n 2, 1) := by decide +kernel
theorem dX13_cancels_22 : decode cX13_cancels 22 = .ok (.invokevirtual 200, 3) := by decide +kernel
theorem dX13_cancels_25 : decode cX13_cancels 25 = .ok (.iload_n 2, 1) := by decide +kernel
theorem dX13_cancels_26 : decode cX13_cancels 26 = .ok (.ireturn, 1) := by decide +kernel
theorem dX13_cancelsAll_0 : decode cX13_cancelsAll 0 = .ok (.iconst 0, 1) := by decide +kernel
theorem dX13_cancelsAll_1 : decode cX13_cancelsAll 1 = .ok (.istore_n 2, 1) := by decide +kernel
theorem dX13_cancelsAll_2 : decode cX13_cancelsAll 2 = .ok (.iload_n 2, 1) := by decide +kernel
theorem dX13_cancelsAll_3 : decode cX13_cancelsAll 3 = .ok (.aload_n 0, 1) := by decide +kernel
theorem dX13_cancelsAll_4 : decode cX13_cancelsAll 4 = .ok (.getfield 20, 3) := by decide +kernel
theorem dX13_cancelsAll_7 : decode cX13_cancelsAll 7 = .ok (.iconst 2, 1) := by decide +kernel
theorem dX13_cancelsAll_8 : decode cX13_cancelsAll 8 = .ok (.iaload, 1) := by decide +kernel
theorem dX13_cancelsAll_9 : decode cX13_cancelsAll 9 = .ok (.if_icmp .ge 36, 3) := by decide +kernel
theorem dX13_cancelsAll_12 : decode cX13_cancelsAll 12 = .ok (.aload_n 0, 1) := by decide +kernel
theorem dX13_cancelsAll_13 : decode cX13_cancelsAll 13 = .ok (.iload_n 2, 1) := by decide +kernel
theorem dX13_cancelsAll_14 : decode cX13_cancelsAll 14 = .ok (.iconst 0, 1) := by decide +kernel
theorem dX13_cancelsAll_15 : decode cX13_cancelsAll 15 = .ok (.invokevirtual 169, 3) := by decide +kernel
theorem dX13_cancelsAll_18 : decode cX13_cancelsAll 18 = .ok (.iload_n 1, 1) := by decide +kernel
theorem dX13_cancelsAll_19 : decode cX13_cancelsAll 19 = .ok (.if_icmp .ne 20, 3) := by decide +kernel
theorem dX13_cancelsAll_22 : decode cX13_cancelsAll 22 = .ok (.aload_n 0, 1) := by decide +kernel
theorem dX13_cancelsAll_23 : decode cX13_cancelsAll 23 = .ok (.iload_n 2, 1) := by decide +kernel
theorem dX13_cancelsAll_24 : decode cX13_cancelsAll 24 = .ok (.invokevirtual 210, 3) := by decide +kernel
theorem dX13_cancelsAll_27 : decode cX13_cancelsAll 27 = .ok (.ifCond .eq 12, 3) := by decide +kernel
theorem dX13_cancelsAll_30 : decode cX13_cancelsAll 30 = .ok (.aload_n 0, 1) := by decide +kernel
theorem dX13_cancelsAll_31 : decode cX13_cancelsAll 31 = .ok (.aload_n 0, 1) := by decide +kernel
theorem dX13_cancelsAll_32 : decode cX13_cancelsAll 32 = .ok (.iload_n 2, 1) := by decide +kernel
theorem dX13_cancelsAll_33 : decode cX13_cancelsAll 33 = .ok (.invokevirtual 213, 3) := by decide +kernel
theorem dX13_cancelsAll_36 : decode cX13_cancelsAll 36 = .ok (.putfield 216, 3) := by decide +kernel
theorem dX13_cancelsAll_39 : decode cX13_cancelsAll 39 = .ok (.iinc 2 1, 3) := by decide +kernel
theorem dX13_cancelsAll_42 : decode cX13_cancelsAll 42 = .ok (.goto (-40), 3) := by decide +kernel
theorem dX13_cancelsAll_45 : decode cX13_cancelsAll 45 = .ok (.return_, 1) := by decide +kernel
theorem dX13_fakes_0 : decode cX13_fakes 0 = .ok (.aload_n 0, 1) := by decide +kernel
theorem dX13_fakes_1 : decode cX13_fakes 1 = .ok (.iload_n 1, 1) := by decide +kernel
theorem dX13_fakes_2 : decode cX13_fakes 2 = .ok (.iconst 0, 1) := by decide +kernel
theorem dX13_fakes_3 : decode cX13_fakes 3 = .ok (.invokevirtual 169, 3) := by decide +kernel
theorem dX13_fakes_6 : decode cX13_fakes 6 = .ok (.istore_n 2, 1) := by decide +kernel
theorem dX13_fakes_7 : decode cX13_fakes 7 = .ok (.aload_n 0, 1) := by decide +kernel
theorem dX13_fakes_8 : decode cX13_fakes 8 = .ok (.iload_n 1, 1) := by decide +kernel
theorem dX13_fakes_9 : decode cX13_fakes 9 = .ok (.aload_n 0, 1) := by decide +kernel
theorem dX13_fakes_10 : decode cX13_fakes 10 = .ok (.getfield 20, 3) := by decide +kernel
theorem dX13_fakes_13 : decode cX13_fakes 13 = .ok (.bipush 6, 2) := by decide +kernel
theorem dX13_fakes_15 : decode cX13_fakes 15 = .ok (.iaload, 1) := by decide +kernel
theorem dX13_fakes_16 : decode cX13_fakes 16 = .ok (.invokevirtual 219, 3) := by decide +kernel
theorem dX13_fakes_19 : decode cX13_fakes 19 = .ok (.istore_n 3, 1) := by decide +kernel
theorem dX13_fakes_20 : decode cX13_fakes 20 = .ok (.aload_n 0, 1) := by decide +kernel
theorem dX13_fakes_21 : decode cX13_fakes 21 = .ok (.getfield 20, 3) := by decide +kernel
theorem dX13_fakes_24 : decode cX13_fakes 24 = .ok (.iload_n 2, 1) := by decide +kernel
theorem dX13_fakes_25 : decode cX13_fakes 25 = .ok (.invokestatic 160, 3) := by decide +kernel
theorem dX13_fakes_28 : decode cX13_fakes 28 = .ok (.iconst 2, 1) := by decide +kernel
theorem dX13_fakes_29 : decode cX13_fakes 29 = .ok (.iadd, 1) := by decide +kernel
theorem dX13_fakes_30 : decode cX13_fakes 30 = .ok (.dup2, 1) := by decide +kernel
theorem dX13_fakes_31 : decode cX13_fakes 31 = .ok (.iaload, 1) := by decide +kernel
theorem dX13_fakes_32 : decode cX13_fakes 32 = .ok (.iload_n 3, 1) := by decide +kernel
theorem dX13_fakes_33 : decode cX13_fakes 33 = .ok (.invokestatic 65, 3) := by decide +kernel
theorem dX13_fakes_36 : decode cX13_fakes 36 = .ok (.iadd, 1) := by decide +kernel
theorem dX13_fakes_37 : decode cX13_fakes 37 = .ok (.iastore, 1) := by decide +kernel
theorem dX13_fakes_38 : decode cX13_fakes 38 = .ok (.aload_n 0, 1) := by decide +kernel
theorem dX13_fakes_39 : decode cX13_fakes 39 = .ok (.iload_n 2, 1) := by decide +kernel
theorem dX13_fakes_40 : decode cX13_fakes 40 = .ok (.invokevirtual 197, 3) := by decide +kernel
theorem dX13_fakes_43 : decode cX13_fakes 43 = .ok (.ifCond .eq 8, 3) := by decide +kernel
theorem dX13_fakes_46 : decode cX13_fakes 46 = .ok (.aload_n 0, 1) := by decide +kernel
theorem dX13_fakes_47 : decode cX13_fakes 47 = .ok (.iload_n 2, 1) := by decide +kernel
theorem dX13_fakes_48 : decode cX13_fakes 48 = .ok (.invokevirtual 222, 3) := by decide +kernel
theorem dX13_fakes_51 : decode cX13_fakes 51 = .ok (.aload_n 0, 1) := by decide +kernel
theorem dX13_fakes_52 : decode cX13_fakes 52 = .ok (.iload_n 2, 1) := by decide +kernel
theorem dX13_fakes_53 : decode cX13_fakes 53 = .ok (.iconst 2, 1) := by decide +kernel
theorem dX13_fakes_54 : decode cX13_fakes 54 = .ok (.invokevirtual 187, 3) := by decide +kernel
theorem dX13_fakes_57 : decode cX13_fakes 57 = .ok (.ireturn, 1) := by decide +kernel
theorem dX13_returnsAt_0 : decode cX13_returnsAt 0 = .ok (.aload_n 0, 1) := by decide +kernel
theorem dX13_returnsAt_1 : decode cX13_returnsAt 1 = .ok (.iload_n 1, 1) := by decide +kernel
theorem dX13_returnsAt_2 : decode cX13_returnsAt 2 = .ok (.iconst 5, 1) := by decide +kernel
theorem dX13_returnsAt_3 : decode cX13_returnsAt 3 = .ok (.invokevirtual 169, 3) := by decide +kernel
theorem dX13_returnsAt_6 : decode cX13_returnsAt 6 = .ok (.aload_n 0, 1) := by decide +kernel
theorem dX13_returnsAt_7 : decode cX13_returnsAt 7 = .ok (.aload_n 0, 1) := by decide +kernel
theorem dX13_returnsAt_8 : decode cX13_returnsAt 8 = .ok (.iload_n 1, 1) := by decide +kernel
theorem dX13_returnsAt_9 : decode cX13_returnsAt 9 = .ok (.iconst 1, 1) := by decide +kernel
theorem dX13_returnsAt_10 : decode cX13_returnsAt 10 = .ok (.invokevirtual 169, 3) := by decide +kernel
theorem dX13_returnsAt_13 : decode cX13_returnsAt 13 = .ok (.iconst 0, 1) := by decide +kernel
theorem dX13_returnsAt_14 : decode cX13_returnsAt 14 = .ok (.invokevirtual 190, 3) := by decide +kernel
theorem dX13_returnsAt_17 : decode cX13_returnsAt 17 = .ok (.aload_n 0, 1) := by decide +kernel
theorem dX13_returnsAt_18 : decode cX13_returnsAt 18 = .ok (.iload_n 1, 1) := by decide +kernel
theorem dX13_returnsAt_19 : decode cX13_returnsAt 19 = .ok (.bipush 7, 2) := by decide +kernel
theorem dX13_returnsAt_21 : decode cX13_returnsAt 21 = .ok (.invokevirtual 169, 3) := by decide +kernel
theorem dX13_returnsAt_24 : decode cX13_returnsAt 24 = .ok (.iconst 1, 1) := by decide +kernel
theorem dX13_returnsAt_25 : decode cX13_returnsAt 25 = .ok (.iadd, 1) := by decide +kernel
theorem dX13_returnsAt_26 : decode cX13_returnsAt 26 = .ok (.imul, 1) := by decide +kernel
theorem dX13_returnsAt_27 : decode cX13_returnsAt 27 = .ok (.iadd, 1) := by decide +kernel
theorem dX13_returnsAt_28 : decode cX13_returnsAt 28 = .ok (.ireturn, 1) := by decide +kernel
theorem dX13_endsAt_0 : decode cX13_endsAt 0 = .ok (.aload_n 0, 1) := by decide +kernel
theorem dX13_endsAt_1 : decode cX13_endsAt 1 = .ok (.iload_n 1, 1) := by decide +kernel
theorem dX13_endsAt_2 : decode cX13_endsAt 2 = .ok (.iconst 5, 1) := by decide +kernel
theorem dX13_endsAt_3 : decode cX13_endsAt 3 = .ok (.invokevirtual 169, 3) := by decide +kernel
theorem dX13_endsAt_6 : decode cX13_endsAt 6 = .ok (.aload_n 0, 1) := by decide +kernel
theorem dX13_endsAt_7 : decode cX13_endsAt 7 = .ok (.aload_n 0, 1) := by decide +kernel
theorem dX13_endsAt_8 : decode cX13_endsAt 8 = .ok (.iload_n 1, 1) := by decide +kernel
theorem dX13_endsAt_9 : decode cX13_endsAt 9 = .ok (.iconst 0, 1) := by decide +kernel
theorem dX13_endsAt_10 : decode cX13_endsAt 10 = .ok (.invokevirtual 169, 3) := by decide +kernel
theorem dX13_endsAt_13 : decode cX13_endsAt 13 = .ok (.iconst 0, 1) := by decide +kernel
theorem dX13_endsAt_14 : decode cX13_endsAt 14 = .ok (.invokevirtual 187, 3) := by decide +kernel
theorem dX13_endsAt_17 : decode cX13_endsAt 17 = .ok (.iadd, 1) := by decide +kernel
theorem dX13_endsAt_18 : decode cX13_endsAt 18 = .ok (.ireturn, 1) := by decide +kernel
theorem dX13_loudnessOf_0 : decode cX13_loudnessOf 0 = .ok (.aload_n 0, 1) := by decide +kernel
theorem dX13_loudnessOf_1 : decode cX13_loudnessOf 1 = .ok (.iload_n 1, 1) := by decide +kernel
theorem dX13_loudnessOf_2 : decode cX13_loudnessOf 2 = .ok (.iconst 2, 1) := by decide +kernel
theorem dX13_loudnessOf_3 : decode cX13_loudnessOf 3 = .ok (.invokevirtual 169, 3) := by decide +kernel
theorem dX13_loudnessOf_6 : decode cX13_loudnessOf 6 = .ok (.iconst 2, 1) := by decide +kernel
theorem dX13_loudnessOf_7 : decode cX13_loudnessOf 7 = .ok (.aload_n 0, 1) := by decide +kernel
theorem dX13_loudnessOf_8 : decode cX13_loudnessOf 8 = .ok (.iload_n 1, 1) := by decide +kernel
theorem dX13_loudnessOf_9 : decode cX13_loudnessOf 9 = .ok (.bipush 7, 2) := by decide +kernel
theorem dX13_loudnessOf_11 : decode cX13_loudnessOf 11 = .ok (.invokevirtual 169, 3) := by decide +kernel
theorem dX13_loudnessOf_14 : decode cX13_loudnessOf 14 = .ok (.iconst 1, 1) := by decide +kernel
theorem dX13_loudnessOf_15 : decode cX13_loudnessOf 15 = .ok (.iadd, 1) := by decide +kernel
theorem dX13_loudnessOf_16 : decode cX13_loudnessOf 16 = .ok (.imul, 1) := by decide +kernel
theorem dX13_loudnessOf_17 : decode cX13_loudnessOf 17 = .ok (.isub, 1) := by decide +kernel
theorem dX13_loudnessOf_18 : decode cX13_loudnessOf 18 = .ok (.aload_n 0, 1) := by decide +kernel
theorem dX13_loudnessOf_19 : decode cX13_loudnessOf 19 = .ok (.aload_n 0, 1) := by decide +kernel
theorem dX13_loudnessOf_20 : decode cX13_loudnessOf 20 = .ok (.iload_n 1, 1) := by decide +kernel
theorem dX13_loudnessOf_21 : decode cX13_loudnessOf 21 = .ok (.iconst 1, 1) := by decide +kernel
theorem dX13_loudnessOf_22 : decode cX13_loudnessOf 22 = .ok (.invokevirtual 169, 3) := by decide +kernel
theorem dX13_loudnessOf_25 : decode cX13_loudnessOf 25 = .ok (.iconst 3, 1) := by decide +kernel
theorem dX13_loudnessOf_26 : decode cX13_loudnessOf 26 = .ok (.invokevirtual 190, 3) := by decide +kernel
theorem dX13_loudnessOf_29 : decode cX13_loudnessOf 29 = .ok (.isub, 1) := by decide +kernel
theorem dX13_loudnessOf_30 : decode cX13_loudnessOf 30 = .ok (.ireturn, 1) := by decide +kernel
theorem dX13_returnsNow_0 : decode cX13_returnsNow 0 = .ok (.iconst 0, 1) := by decide +kernel
theorem dX13_returnsNow_1 : decode cX13_returnsNow 1 = .ok (.istore_n 1, 1) := by decide +kernel
theorem dX13_returnsNow_2 : decode cX13_returnsNow 2 = .ok (.iconst 0, 1) := by decide +kernel
theorem dX13_returnsNow_3 : decode cX13_returnsNow 3 = .ok (.istore_n 2, 1) := by decide +kernel
theorem dX13_returnsNow_4 : decode cX13_returnsNow 4 = .ok (.iload_n 2, 1) := by decide +kernel
theorem dX13_returnsNow_5 : decode cX13_returnsNow 5 = .ok (.aload_n 0, 1) := by decide +kernel
theorem dX13_returnsNow_6 : decode cX13_returnsNow 6 = .ok (.getfield 20, 3) := by decide +kernel
theorem dX13_returnsNow_9 : decode cX13_returnsNow 9 = .ok (.iconst 2, 1) := by decide +kernel
theorem dX13_returnsNow_10 : decode cX13_returnsNow 10 = .ok (.iaload, 1) := by decide +kernel
theorem dX13_returnsNow_11 : decode cX13_returnsNow 11 = .ok (.if_icmp .ge 51, 3) := by decide +kernel
theorem dX13_returnsNow_14 : decode cX13_returnsNow 14 = .ok (.aload_n 0, 1) := by decide +kernel
theorem dX13_returnsNow_15 : decode cX13_returnsNow 15 = .ok (.iload_n 2, 1) := by decide +kernel
theorem dX13_returnsNow_16 : decode cX13_returnsNow 16 = .ok (.invokevirtual 210, 3) := by decide +kernel
theorem dX13_returnsNow_19 : decode cX13_returnsNow 19 = .ok (.ifCond .eq 37, 3) := by decide +kernel
theorem dX13_returnsNow_22 : decode cX13_returnsNow 22 = .ok (.aload_n 0, 1) := by decide +kernel
theorem dX13_returnsNow_23 : decode cX13_returnsNow 23 = .ok (.iload_n 2, 1) := by decide +kernel
theorem dX13_returnsNow_24 : decode cX13_returnsNow 24 = .ok (.invokevirtual 225, 3) := by decide +kernel
theorem dX13_returnsNow_27 : decode cX13_returnsNow 27 = .ok (.aload_n 0, 1) := by decide +kernel
theorem dX13_returnsNow_28 : decode cX13_returnsNow 28 = .ok (.getfield 20, 3) := by decide +kernel
theorem dX13_returnsNow_31 : decode cX13_returnsNow 31 = .ok (.iconst 3, 1) := by decide +kernel
theorem dX13_returnsNow_32 : decode cX13_returnsNow 32 = .ok (.iaload, 1) := by decide +kernel
theorem dX13_returnsNow_33 : decode cX13_returnsNow 33 = .ok (.if_icmp .eq 6, 3) := by decide +kernel
theorem dX13_returnsNow_36 : decode cX13_returnsNow 36 = .ok (.goto 20, 3) := by decide +kernel
theorem dX13_returnsNow_39 : decode cX13_returnsNow 39 = .ok (.aload_n 0, 1) := by decide +kernel
theorem dX13_returnsNow_40 : decode cX13_returnsNow 40 = .ok (.aload_n 0, 1) := by decide +kernel
theorem dX13_returnsNow_41 : decode cX13_returnsNow 41 = .ok (.iload_n 2, 1) := by decide +kernel
theorem dX13_returnsNow_42 : decode cX13_returnsNow 42 = .ok (.aload_n 0, 1) := by decide +kernel
theorem dX13_returnsNow_43 : decode cX13_returnsNow 43 = .ok (.iload_n 2, 1) := by decide +kernel
theorem dX13_returnsNow_44 : decode cX13_returnsNow 44 = .ok (.invokevirtual 228, 3) := by decide +kernel
theorem dX13_returnsNow_47 : decode cX13_returnsNow 47 = .ok (.invokevirtual 219, 3) := by decide +kernel
theorem dX13_returnsNow_50 : decode cX13_returnsNow 50 = .ok (.putfield 231, 3) := by decide +kernel
theorem dX13_returnsNow_53 : decode cX13_returnsNow 53 = .ok (.iinc 1 1, 3) := by decide +kernel
theorem dX13_returnsNow_56 : decode cX13_returnsNow 56 = .ok (.iinc 2 1, 3) := by decide +kernel
theorem dX13_returnsNow_59 : decode cX13_returnsNow 59 = .ok (.goto (-55), 3) := by decide +kernel
theorem dX13_returnsNow_62 : decode cX13_returnsNow 62 = .ok (.iload_n 1, 1) := by decide +kernel
theorem dX13_returnsNow_63 : decode cX13_returnsNow 63 = .ok (.ireturn, 1) := by decide +kernel
theorem dX13_losesPatience_0 : decode cX13_losesPatience 0 = .ok (.iconst 0, 1) := by decide +kernel
theorem dX13_losesPatience_1 : decode cX13_losesPatience 1 = .ok (.istore_n 1, 1) := by decide +kernel
theorem dX13_losesPatience_2 : decode cX13_losesPatience 2 = .ok (.iload_n 1, 1) := by decide +kernel
theorem dX13_losesPatience_3 : decode cX13_losesPatience 3 = .ok (.aload_n 0, 1) := by decide +kernel
theorem dX13_losesPatience_4 : decode cX13_losesPatience 4 = .ok (.getfield 20, 3) := by decide +kernel
theorem dX13_losesPatience_7 : decode cX13_losesPatience 7 = .ok (.iconst 2, 1) := by decide +kernel
theorem dX13_losesPatience_8 : decode cX13_losesPatience 8 = .ok (.iaload, 1) := by decide +kernel
theorem dX13_losesPatience_9 : decode cX13_losesPatience 9 = .ok (.if_icmp .ge 40, 3) := by decide +kernel
theorem dX13_losesPatience_12 : decode cX13_losesPatience 12 = .ok (.aload_n 0, 1) := by decide +kernel
theorem dX13_losesPatience_13 : decode cX13_losesPatience 13 = .ok (.iload_n 1, 1) := by decide +kernel
theorem dX13_losesPatience_14 : decode cX13_losesPatience 14 = .ok (.invokevirtual 210, 3) := by decide +kernel
theorem dX13_losesPatience_17 : decode cX13_losesPatience 17 = .ok (.ifCond .eq 26, 3) := by decide +kernel
theorem dX13_losesPatience_20 : decode cX13_losesPatience 20 = .ok (.aload_n 0, 1) := by decide +kernel
theorem dX13_losesPatience_21 : decode cX13_losesPatience 21 = .ok (.iload_n 1, 1) := by decide +kernel
theorem dX13_losesPatience_22 : decode cX13_losesPatience 22 = .ok (.invokevirtual 234, 3) := by decide +kernel
theorem dX13_losesPatience_25 : decode cX13_losesPatience 25 = .ok (.aload_n 0, 1) := by decide +kernel
theorem dX13_losesPatience_26 : decode cX13_losesPatience 26 = .ok (.getfield 20, 3) := by decide +kernel
theorem dX13_losesPatience_29 : decode cX13_losesPatience 29 = .ok (.iconst 3, 1) := by decide +kernel
theorem dX13_losesPatience_30 : decode cX13_losesPatience 30 = .ok (.iaload, 1) := by decide +kernel
theorem dX13_losesPatience_31 : decode cX13_losesPatience 31 = .ok (.if_icmp .ne 12, 3) := by decide +kernel
theorem dX13_losesPatience_34 : decode cX13_losesPatience 34 = .ok (.aload_n 0, 1) := by decide +kernel
theorem dX13_losesPatience_35 : decode cX13_losesPatience 35 = .ok (.aload_n 0, 1) := by decide +kernel
theorem dX13_losesPatience_36 : decode cX13_losesPatience 36 = .ok (.iload_n 1, 1) := by decide +kernel
theorem dX13_losesPatience_37 : decode cX13_losesPatience 37 = .ok (.invokevirtual 213, 3) := by decide +kernel
theorem dX13_losesPatience_40 : decode cX13_losesPatience 40 = .ok (.putfield 216, 3) := by decide +kernel
theorem dX13_losesPatience_43 : decode cX13_losesPatience 43 = .ok (.iinc 1 1, 3) := by decide +kernel
theorem dX13_losesPatience_46 : decode cX13_losesPatience 46 = .ok (.goto (-44), 3) := by decide +kernel
theorem dX13_losesPatience_49 : decode cX13_losesPatience 49 = .ok (.return_, 1) := by decide +kernel
theorem dX13_passesOne_0 : decode cX13_passesOne 0 = .ok (.aload_n 0, 1) := by decide +kernel
theorem dX13_passesOne_1 : decode cX13_passesOne 1 = .ok (.getfield 20, 3) := by decide +kernel
theorem dX13_passesOne_4 : decode cX13_passesOne 4 = .ok (.iconst 3, 1) := by decide +kernel
theorem dX13_passesOne_5 : decode cX13_passesOne 5 = .ok (.dup2, 1) := by decide +kernel
theorem dX13_passesOne_6 : decode cX13_passesOne 6 = .ok (.iaload, 1) := by decide +kernel
theorem dX13_passesOne_7 : decode cX13_passesOne 7 = .ok (.iconst 1, 1) := by decide +kernel
theorem dX13_passesOne_8 : decode cX13_passesOne 8 = .ok (.iadd, 1) := by decide +kernel
theorem dX13_passesOne_9 : decode cX13_passesOne 9 = .ok (.iastore, 1) := by decide +kernel
theorem dX13_passesOne_10 : decode cX13_passesOne 10 = .ok (.aload_n 0, 1) := by decide +kernel
theorem dX13_passesOne_11 : decode cX13_passesOne 11 = .ok (.invokevirtual 237, 3) := by decide +kernel
theorem dX13_passesOne_14 : decode cX13_passesOne 14 = .ok (.istore_n 1, 1) := by decide +kernel
theorem dX13_passesOne_15 : decode cX13_passesOne 15 = .ok (.aload_n 0, 1) := by decide +kernel
theorem dX13_passesOne_16 : decode cX13_passesOne 16 = .ok (.invokevirtual 241, 3) := by decide +kernel
theorem dX13_passesOne_19 : decode cX13_passesOne 19 = .ok (.iload_n 1, 1) := by decide +kernel
theorem dX13_passesOne_20 : decode cX13_passesOne 20 = .ok (.ireturn, 1) := by decide +kernel
theorem dX13_passes_0 : decode cX13_passes 0 = .ok (.iconst 0, 1) := by decide +kernel
theorem dX13_passes_1 : decode cX13_passes 1 = .ok (.istore_n 2, 1) := by decide +kernel
theorem dX13_passes_2 : decode cX13_passes 2 = .ok (.iconst 0, 1) := by decide +kernel
theorem dX13_passes_3 : decode cX13_passes 3 = .ok (.istore_n 3, 1) := by decide +kernel
theorem dX13_passes_4 : decode cX13_passes 4 = .ok (.iload_n 3, 1) := by decide +kernel
theorem dX13_passes_5 : decode cX13_passes 5 = .ok (.iload_n 1, 1) := by decide +kernel
theorem dX13_passes_6 : decode cX13_passes 6 = .ok (.if_icmp .ge 16, 3) := by decide +kernel
theorem dX13_passes_9 : decode cX13_passes 9 = .ok (.iload_n 2, 1) := by decide +kernel
theorem dX13_passes_10 : decode cX13_passes 10 = .ok (.aload_n 0, 1) := by decide +kernel
theorem dX13_passes_11 : decode cX13_passes 11 = .ok (.invokevirtual 244, 3) := by decide +kernel
theorem dX13_passes_14 : decode cX13_passes 14 = .ok (.iadd, 1) := by decide +kernel
theorem dX13_passes_15 : decode cX13_passes 15 = .ok (.istore_n 2, 1) := by decide +kernel
theorem dX13_passes_16 : decode cX13_passes 16 = .ok (.iinc 3 1, 3) := by decide +kernel
theorem dX13_passes_19 : decode cX13_passes 19 = .ok (.goto (-15), 3) := by decide +kernel
theorem dX13_passes_22 : decode cX13_passes 22 = .ok (.iload_n 2, 1) := by decide +kernel
theorem dX13_passes_23 : decode cX13_passes 23 = .ok (.ireturn, 1) := by decide +kernel
theorem dX13_isWidth_0 : decode cX13_isWidth 0 = .ok (.iload_n 0, 1) := by decide +kernel
theorem dX13_isWidth_1 : decode cX13_isWidth 1 = .ok (.i2l, 1) := by decide +kernel
theorem dX13_isWidth_2 : decode cX13_isWidth 2 = .ok (.lconst 1, 1) := by decide +kernel
theorem dX13_isWidth_3 : decode cX13_isWidth 3 = .ok (.ldc2_w 247, 3) := by decide +kernel
theorem dX13_isWidth_6 : decode cX13_isWidth 6 = .ok (.invokestatic 80, 3) := by decide +kernel
theorem dX13_isWidth_9 : decode cX13_isWidth 9 = .ok (.ireturn, 1) := by decide +kernel
theorem dX13_areWalls_0 : decode cX13_areWalls 0 = .ok (.iload_n 0, 1) := by decide +kernel
theorem dX13_areWalls_1 : decode cX13_areWalls 1 = .ok (.i2l, 1) := by decide +kernel
theorem dX13_areWalls_2 : decode cX13_areWalls 2 = .ok (.lconst 1, 1) := by decide +kernel
theorem dX13_areWalls_3 : decode cX13_areWalls 3 = .ok (.ldc2_w 249, 3) := by decide +kernel
theorem dX13_areWalls_6 : decode cX13_areWalls 6 = .ok (.invokestatic 80, 3) := by decide +kernel
theorem dX13_areWalls_9 : decode cX13_areWalls 9 = .ok (.ireturn, 1) := by decide +kernel
theorem dX13_isPrice_0 : decode cX13_isPrice 0 = .ok (.iload_n 0, 1) := by decide +kernel
theorem dX13_isPrice_1 : decode cX13_isPrice 1 = .ok (.i2l, 1) := by decide +kernel
theorem dX13_isPrice_2 : decode cX13_isPrice 2 = .ok (.lconst 1, 1) := by decide +kernel
theorem dX13_isPrice_3 : decode cX13_isPrice 3 = .ok (.ldc2_w 251, 3) := by decide +kernel
theorem dX13_isPrice_6 : decode cX13_isPrice 6 = .ok (.invokestatic 80, 3) := by decide +kernel
theorem dX13_isPrice_9 : decode cX13_isPrice 9 = .ok (.ireturn, 1) := by decide +kernel
theorem dX13_isFog_0 : decode cX13_isFog 0 = .ok (.iload_n 0, 1) := by decide +kernel
theorem dX13_isFog_1 : decode cX13_isFog 1 = .ok (.i2l, 1) := by decide +kernel
theorem dX13_isFog_2 : decode cX13_isFog 2 = .ok (.lconst 0, 1) := by decide +kernel
theorem dX13_isFog_3 : decode cX13_isFog 3 = .ok (.ldc2_w 253, 3) := by decide +kernel
theorem dX13_isFog_6 : decode cX13_isFog 6 = .ok (.invokestatic 80, 3) := by decide +kernel
theorem dX13_isFog_9 : decode cX13_isFog 9 = .ok (.ireturn, 1) := by decide +kernel
theorem dX13_isPatience_0 : decode cX13_isPatience 0 = .ok (.iload_n 0, 1) := by decide +kernel
theorem dX13_isPatience_1 : decode cX13_isPatience 1 = .ok (.i2l, 1) := by decide +kernel
theorem dX13_isPatience_2 : decode cX13_isPatience 2 = .ok (.lconst 1, 1) := by decide +kernel
theorem dX13_isPatience_3 : decode cX13_isPatience 3 = .ok (.ldc2_w 255, 3) := by decide +kernel
theorem dX13_isPatience_6 : decode cX13_isPatience 6 = .ok (.invokestatic 80, 3) := by decide +kernel
theorem dX13_isPatience_9 : decode cX13_isPatience 9 = .ok (.ireturn, 1) := by decide +kernel
theorem dX13_isMoney_0 : decode cX13_isMoney 0 = .ok (.iload_n 0, 1) := by decide +kernel
theorem dX13_isMoney_1 : decode cX13_isMoney 1 = .ok (.i2l, 1) := by decide +kernel
theorem dX13_isMoney_2 : decode cX13_isMoney 2 = .ok (.lconst 0, 1) := by decide +kernel
theorem dX13_isMoney_3 : decode cX13_isMoney 3 = .ok (.ldc2_w 257, 3) := by decide +kernel
theorem dX13_isMoney_6 : decode cX13_isMoney 6 = .ok (.invokestatic 80, 3) := by decide +kernel
theorem dX13_isMoney_9 : decode cX13_isMoney 9 = .ok (.ireturn, 1) := by decide +kernel
theorem dX13_isLoud_0 : decode cX13_isLoud 0 = .ok (.iload_n 0, 1) := by decide +kernel
theorem dX13_isLoud_1 : decode cX13_isLoud 1 = .ok (.i2l, 1) := by decide +kernel
theorem dX13_isLoud_2 : decode cX13_isLoud 2 = .ok (.lconst 1, 1) := by decide +kernel
theorem dX13_isLoud_3 : decode cX13_isLoud 3 = .ok (.ldc2_w 259, 3) := by decide +kernel
theorem dX13_isLoud_6 : decode cX13_isLoud 6 = .ok (.invokestatic 80, 3) := by decide +kernel
theorem dX13_isLoud_9 : decode cX13_isLoud 9 = .ok (.ireturn, 1) := by decide +kernel
theorem dX13_isDepth_0 : decode cX13_isDepth 0 = .ok (.iload_n 0, 1) := by decide +kernel
theorem dX13_isDepth_1 : decode cX13_isDepth 1 = .ok (.i2l, 1) := by decide +kernel
theorem dX13_isDepth_2 : decode cX13_isDepth 2 = .ok (.lconst 0, 1) := by decide +kernel
theorem dX13_isDepth_3 : decode cX13_isDepth 3 = .ok (.ldc2_w 259, 3) := by decide +kernel
theorem dX13_isDepth_6 : decode cX13_isDepth 6 = .ok (.invokestatic 80, 3) := by decide +kernel
theorem dX13_isDepth_9 : decode cX13_isDepth 9 = .ok (.ireturn, 1) := by decide +kernel
theorem dX13_mayPass_0 : decode cX13_mayPass 0 = .ok (.aload_n 0, 1) := by decide +kernel
theorem dX13_mayPass_1 : decode cX13_mayPass 1 = .ok (.getfield 20, 3) := by decide +kernel
theorem dX13_mayPass_4 : decode cX13_mayPass 4 = .ok (.iconst 3, 1) := by decide +kernel
theorem dX13_mayPass_5 : decode cX13_mayPass 5 = .ok (.iaload, 1) := by decide +kernel
theorem dX13_mayPass_6 : decode cX13_mayPass 6 = .ok (.iload_n 1, 1) := by decide +kernel
theorem dX13_mayPass_7 : decode cX13_mayPass 7 = .ok (.iadd, 1) := by decide +kernel
theorem dX13_mayPass_8 : decode cX13_mayPass 8 = .ok (.sipush 9999, 3) := by decide +kernel
theorem dX13_mayPass_11 : decode cX13_mayPass 11 = .ok (.if_icmp .gt 7, 3) := by decide +kernel
theorem dX13_mayPass_14 : decode cX13_mayPass 14 = .ok (.iconst 1, 1) := by decide +kernel
theorem dX13_mayPass_15 : decode cX13_mayPass 15 = .ok (.goto 4, 3) := by decide +kernel
theorem dX13_mayPass_18 : decode cX13_mayPass 18 = .ok (.iconst 0, 1) := by decide +kernel
theorem dX13_mayPass_19 : decode cX13_mayPass 19 = .ok (.ireturn, 1) := by decide +kernel
theorem dX13_addsValley_0 : decode cX13_addsValley 0 = .ok (.aload_n 0, 1) := by decide +kernel
theorem dX13_addsValley_1 : decode cX13_addsValley 1 = .ok (.getfield 20, 3) := by decide +kernel
theorem dX13_addsValley_4 : decode cX13_addsValley 4 = .ok (.iconst 0, 1) := by decide +kernel
theorem dX13_addsValley_5 : decode cX13_addsValley 5 = .ok (.iaload, 1) := by decide +kernel
theorem dX13_addsValley_6 : decode cX13_addsValley 6 = .ok (.invokestatic 157, 3) := by decide +kernel
theorem dX13_addsValley_9 : decode cX13_addsValley 9 = .ok (.istore 6, 2) := by decide +kernel
theorem dX13_addsValley_11 : decode cX13_addsValley 11 = .ok (.aload_n 0, 1) := by decide +kernel
theorem dX13_addsValley_12 : decode cX13_addsValley 12 = .ok (.getfield 20, 3) := by decide +kernel
theorem dX13_addsValley_15 : decode cX13_addsValley 15 = .ok (.iload 6, 2) := by decide +kernel
theorem dX13_addsValley_17 : decode cX13_addsValley 17 = .ok (.iconst 0, 1) := by decide +kernel
theorem dX13_addsValley_18 : decode cX13_addsValley 18 = .ok (.iadd, 1) := by decide +kernel
theorem dX13_addsValley_19 : decode cX13_addsValley 19 = .ok (.iload_n 3, 1) := by decide +kernel
theorem dX13_addsValley_20 : decode cX13_addsValley 20 = .ok (.iastore, 1) := by decide +kernel
theorem dX13_addsValley_21 : decode cX13_addsValley 21 = .ok (.aload_n 0, 1) := by decide +kernel
theorem dX13_addsValley_22 : decode cX13_addsValley 22 = .ok (.getfield 20, 3) := by decide +kernel
theorem dX13_addsValley_25 : decode cX13_addsValley 25 = .ok (.iload 6, 2) := by decide +kernel
theorem dX13_addsValley_27 : decode cX13_addsValley 27 = .ok (.iconst 1, 1) := by decide +kernel
theorem dX13_addsValley_28 : decode cX13_addsValley 28 = .ok (.iadd, 1) := by decide +kernel
theorem dX13_addsValley_29 : decode cX13_addsValley 29 = .ok (.iload 4, 2) := by decide +kernel
theorem dX13_addsValley_31 : decode cX13_addsValley 31 = .ok (.iastore, 1) := by decide +kernel
theorem dX13_addsValley_32 : decode cX13_addsValley 32 = .ok (.aload_n 0, 1) := by decide +kernel
theorem dX13_addsValley_33 : decode cX13_addsValley 33 = .ok (.getfield 20, 3) := by decide +kernel
theorem dX13_addsValley_36 : decode cX13_addsValley 36 = .ok (.iload 6, 2) := by decide +kernel
theorem dX13_addsValley_38 : decode cX13_addsValley 38 = .ok (.iconst 2, 1) := by decide +kernel
theorem dX13_addsValley_39 : decode cX13_addsValley 39 = .ok (.iadd, 1) := by decide +kernel
theorem dX13_addsValley_40 : decode cX13_addsValley 40 = .ok (.iload 5, 2) := by decide +kernel
theorem dX13_addsValley_42 : decode cX13_addsValley 42 = .ok (.iastore, 1) := by decide +kernel
theorem dX13_addsValley_43 : decode cX13_addsValley 43 = .ok (.aload_n 0, 1) := by decide +kernel
theorem dX13_addsValley_44 : decode cX13_addsValley 44 = .ok (.getfield 20, 3) := by decide +kernel
theorem dX13_addsValley_47 : decode cX13_addsValley 47 = .ok (.iload 6, 2) := by decide +kernel
theorem dX13_addsValley_49 : decode cX13_addsValley 49 = .ok (.iconst 3, 1) := by decide +kernel
theorem dX13_addsValley_50 : decode cX13_addsValley 50 = .ok (.iadd, 1) := by decide +kernel
theorem dX13_addsValley_51 : decode cX13_addsValley 51 = .ok (.iconst 0, 1) := by decide +kernel
theorem dX13_addsValley_52 : decode cX13_addsValley 52 = .ok (.iastore, 1) := by decide +kernel
theorem dX13_addsValley_53 : decode cX13_addsValley 53 = .ok (.aload_n 0, 1) := by decide +kernel
theorem dX13_addsValley_54 : decode cX13_addsValley 54 = .ok (.getfield 20, 3) := by decide +kernel
theorem dX13_addsValley_57 : decode cX13_addsValley 57 = .ok (.iload 6, 2) := by decide +kernel
theorem dX13_addsValley_59 : decode cX13_addsValley 59 = .ok (.iconst 4, 1) := by decide +kernel
theorem dX13_addsValley_60 : decode cX13_addsValley 60 = .ok (.iadd, 1) := by decide +kernel
theorem dX13_addsValley_61 : decode cX13_addsValley 61 = .ok (.bipush 10, 2) := by decide +kernel
theorem dX13_addsValley_63 : decode cX13_addsValley 63 = .ok (.iastore, 1) := by decide +kernel
theorem dX13_addsValley_64 : decode cX13_addsValley 64 = .ok (.aload_n 0, 1) := by decide +kernel
theorem dX13_addsValley_65 : decode cX13_addsValley 65 = .ok (.getfield 20, 3) := by decide +kernel
theorem dX13_addsValley_68 : decode cX13_addsValley 68 = .ok (.iload 6, 2) := by decide +kernel
theorem dX13_addsValley_70 : decode cX13_addsValley 70 = .ok (.iconst 5, 1) := by decide +kernel
theorem dX13_addsValley_71 : decode cX13_addsValley 71 = .ok (.iadd, 1) := by decide +kernel
theorem dX13_addsValley_72 : decode cX13_addsValley 72 = .ok (.iconst 0, 1) := by decide +kernel
theorem dX13_addsValley_73 : decode cX13_addsValley 73 = .ok (.iastore, 1) := by decide +kernel
theorem dX13_addsValley_74 : decode cX13_addsValley 74 = .ok (.aload_n 0, 1) := by decide +kernel
theorem dX13_addsValley_75 : decode cX13_addsValley 75 = .ok (.iload 6, 2) := by decide +kernel
theorem dX13_addsValley_77 : decode cX13_addsValley 77 = .ok (.bipush 6, 2) := by decide +kernel
theorem dX13_addsValley_79 : decode cX13_addsValley 79 = .ok (.iadd, 1) := by decide +kernel
theorem dX13_addsValley_80 : decode cX13_addsValley 80 = .ok (.lload_n 1, 1) := by decide +kernel
theorem dX13_addsValley_81 : decode cX13_addsValley 81 = .ok (.invokevirtual 261, 3) := by decide +kernel
theorem dX13_addsValley_84 : decode cX13_addsValley 84 = .ok (.aload_n 0, 1) := by decide +kernel
theorem dX13_addsValley_85 : decode cX13_addsValley 85 = .ok (.getfield 20, 3) := by decide +kernel
theorem dX13_addsValley_88 : decode cX13_addsValley 88 = .ok (.iconst 0, 1) := by decide +kernel
theorem dX13_addsValley_89 : decode cX13_addsValley 89 = .ok (.dup2, 1) := by decide +kernel
theorem dX13_addsValley_90 : decode cX13_addsValley 90 = .ok (.iaload, 1) := by decide +kernel
theorem dX13_addsValley_91 : decode cX13_addsValley 91 = .ok (.iconst 1, 1) := by decide +kernel
theorem dX13_addsValley_92 : decode cX13_addsValley 92 = .ok (.iadd, 1) := by decide +kernel
theorem dX13_addsValley_93 : decode cX13_addsValley 93 = .ok (.iastore, 1) := by decide +kernel
theorem dX13_addsValley_94 : decode cX13_addsValley 94 = .ok (.aload_n 0, 1) := by decide +kernel
theorem dX13_addsValley_95 : decode cX13_addsValley 95 = .ok (.getfield 20, 3) := by decide +kernel
theorem dX13_addsValley_98 : decode cX13_addsValley 98 = .ok (.iconst 0, 1) := by decide +kernel
theorem dX13_addsValley_99 : decode cX13_addsValley 99 = .ok (.iaload, 1) := by decide +kernel
theorem dX13_addsValley_100 : decode cX13_addsValley 100 = .ok (.iconst 1, 1) := by decide +kernel
theorem dX13_addsValley_101 : decode cX13_addsValley 101 = .ok (.isub, 1) := by decide +kernel
theorem dX13_addsValley_102 : decode cX13_addsValley 102 = .ok (.ireturn, 1) := by decide +kernel
theorem dX13_addsCustomer_0 : decode cX13_addsCustomer 0 = .ok (.aload_n 0, 1) := by decide +kernel
theorem dX13_addsCustomer_1 : decode cX13_addsCustomer 1 = .ok (.getfield 20, 3) := by decide +kernel
theorem dX13_addsCustomer_4 : decode cX13_addsCustomer 4 = .ok (.iconst 1, 1) := by decide +kernel
theorem dX13_addsCustomer_5 : decode cX13_addsCustomer 5 = .ok (.iaload, 1) := by decide +kernel
theorem dX13_addsCustomer_6 : decode cX13_addsCustomer 6 = .ok (.invokestatic 160, 3) := by decide +kernel
theorem dX13_addsCustomer_9 : decode cX13_addsCustomer 9 = .ok (.istore 5, 2) := by decide +kernel
theorem dX13_addsCustomer_11 : decode cX13_addsCustomer 11 = .ok (.aload_n 0, 1) := by decide +kernel
theorem dX13_addsCustomer_12 : decode cX13_addsCustomer 12 = .ok (.getfield 20, 3) := by decide +kernel
theorem dX13_addsCustomer_15 : decode cX13_addsCustomer 15 = .ok (.iload 5, 2) := by decide +kernel
theorem dX13_addsCustomer_17 : decode cX13_addsCustomer 17 = .ok (.iconst 0, 1) := by decide +kernel
theorem dX13_addsCustomer_18 : decode cX13_addsCustomer 18 = .ok (.iadd, 1) := by decide +kernel
theorem dX13_addsCustomer_19 : decode cX13_addsCustomer 19 = .ok (.iload_n 3, 1) := by decide +kernel
theorem dX13_addsCustomer_20 : decode cX13_addsCustomer 20 = .ok (.iastore, 1) := by decide +kernel
theorem dX13_addsCustomer_21 : decode cX13_addsCustomer 21 = .ok (.aload_n 0, 1) := by decide +kernel
theorem dX13_addsCustomer_22 : decode cX13_addsCustomer 22 = .ok (.getfield 20, 3) := by decide +kernel
theorem dX13_addsCustomer_25 : decode cX13_addsCustomer 25 = .ok (.iload 5, 2) := by decide +kernel
theorem dX13_addsCustomer_27 : decode cX13_addsCustomer 27 = .ok (.iconst 1, 1) := by decide +kernel
theorem dX13_addsCustomer_28 : decode cX13_addsCustomer 28 = .ok (.iadd, 1) := by decide +kernel
theorem dX13_addsCustomer_29 : decode cX13_addsCustomer 29 = .ok (.iload 4, 2) := by decide +kernel
theorem dX13_addsCustomer_31 : decode cX13_addsCustomer 31 = .ok (.iastore, 1) := by decide +kernel
theorem dX13_addsCustomer_32 : decode cX13_addsCustomer 32 = .ok (.aload_n 0, 1) := by decide +kernel
theorem dX13_addsCustomer_33 : decode cX13_addsCustomer 33 = .ok (.getfield 20, 3) := by decide +kernel
theorem dX13_addsCustomer_36 : decode cX13_addsCustomer 36 = .ok (.iload 5, 2) := by decide +kernel
theorem dX13_addsCustomer_38 : decode cX13_addsCustomer 38 = .ok (.iconst 2, 1) := by decide +kernel
theorem dX13_addsCustomer_39 : decode cX13_addsCustomer 39 = .ok (.iadd, 1) := by decide +kernel
theorem dX13_addsCustomer_40 : decode cX13_addsCustomer 40 = .ok (.iconst 0, 1) := by decide +kernel
theorem dX13_addsCustomer_41 : decode cX13_addsCustomer 41 = .ok (.iastore, 1) := by decide +kernel
theorem dX13_addsCustomer_42 : decode cX13_addsCustomer 42 = .ok (.aload_n 0, 1) := by decide +kernel
theorem dX13_addsCustomer_43 : decode cX13_addsCustomer 43 = .ok (.getfield 20, 3) := by decide +kernel
theorem dX13_addsCustomer_46 : decode cX13_addsCustomer 46 = .ok (.iload 5, 2) := by decide +kernel
theorem dX13_addsCustomer_48 : decode cX13_addsCustomer 48 = .ok (.iconst 3, 1) := by decide +kernel
theorem dX13_addsCustomer_49 : decode cX13_addsCustomer 49 = .ok (.iadd, 1) := by decide +kernel
theorem dX13_addsCustomer_50 : decode cX13_addsCustomer 50 = .ok (.iconst 0, 1) := by decide +kernel
theorem dX13_addsCustomer_51 : decode cX13_addsCustomer 51 = .ok (.iastore, 1) := by decide +kernel
theorem dX13_addsCustomer_52 : decode cX13_addsCustomer 52 = .ok (.aload_n 0, 1) := by decide +kernel
theorem dX13_addsCustomer_53 : decode cX13_addsCustomer 53 = .ok (.iload 5, 2) := by decide +kernel
theorem dX13_addsCustomer_55 : decode cX13_addsCustomer 55 = .ok (.iconst 4, 1) := by decide +kernel
theorem dX13_addsCustomer_56 : decode cX13_addsCustomer 56 = .ok (.iadd, 1) := by decide +kernel
theorem dX13_addsCustomer_57 : decode cX13_addsCustomer 57 = .ok (.lload_n 1, 1) := by decide +kernel
theorem dX13_addsCustomer_58 : decode cX13_addsCustomer 58 = .ok (.invokevirtual 261, 3) := by decide +kernel
theorem dX13_addsCustomer_61 : decode cX13_addsCustomer 61 = .ok (.aload_n 0, 1) := by decide +kernel
theorem dX13_addsCustomer_62 : decode cX13_addsCustomer 62 = .ok (.getfield 20, 3) := by decide +kernel
theorem dX13_addsCustomer_65 : decode cX13_addsCustomer 65 = .ok (.iconst 1, 1) := by decide +kernel
theorem dX13_addsCustomer_66 : decode cX13_addsCustomer 66 = .ok (.dup2, 1) := by decide +kernel
theorem dX13_addsCustomer_67 : decode cX13_addsCustomer 67 = .ok (.iaload, 1) := by decide +kernel
theorem dX13_addsCustomer_68 : decode cX13_addsCustomer 68 = .ok (.iconst 1, 1) := by decide +kernel
theorem dX13_addsCustomer_69 : decode cX13_addsCustomer 69 = .ok (.iadd, 1) := by decide +kernel
theorem dX13_addsCustomer_70 : decode cX13_addsCustomer 70 = .ok (.iastore, 1) := by decide +kernel
theorem dX13_addsCustomer_71 : decode cX13_addsCustomer 71 = .ok (.aload_n 0, 1) := by decide +kernel
theorem dX13_addsCustomer_72 : decode cX13_addsCustomer 72 = .ok (.getfield 20, 3) := by decide +kernel
theorem dX13_addsCustomer_75 : decode cX13_addsCustomer 75 = .ok (.bipush 7, 2) := by decide +kernel
theorem dX13_addsCustomer_77 : decode cX13_addsCustomer 77 = .ok (.dup2, 1) := by decide +kernel
theorem dX13_addsCustomer_78 : decode cX13_addsCustomer 78 = .ok (.iaload, 1) := by decide +kernel
theorem dX13_addsCustomer_79 : decode cX13_addsCustomer 79 = .ok (.iload 4, 2) := by decide +kernel
theorem dX13_addsCustomer_81 : decode cX13_addsCustomer 81 = .ok (.iadd, 1) := by decide +kernel
theorem dX13_addsCustomer_82 : decode cX13_addsCustomer 82 = .ok (.iastore, 1) := by decide +kernel
theorem dX13_addsCustomer_83 : decode cX13_addsCustomer 83 = .ok (.aload_n 0, 1) := by decide +kernel
theorem dX13_addsCustomer_84 : decode cX13_addsCustomer 84 = .ok (.getfield 20, 3) := by decide +kernel
theorem dX13_addsCustomer_87 : decode cX13_addsCustomer 87 = .ok (.iconst 1, 1) := by decide +kernel
theorem dX13_addsCustomer_88 : decode cX13_addsCustomer 88 = .ok (.iaload, 1) := by decide +kernel
theorem dX13_addsCustomer_89 : decode cX13_addsCustomer 89 = .ok (.iconst 1, 1) := by decide +kernel
theorem dX13_addsCustomer_90 : decode cX13_addsCustomer 90 = .ok (.isub, 1) := by decide +kernel
theorem dX13_addsCustomer_91 : decode cX13_addsCustomer 91 = .ok (.ireturn, 1) := by decide +kernel
theorem dX13_sets_0 : decode cX13_sets 0 = .ok (.aload_n 0, 1) := by decide +kernel
theorem dX13_sets_1 : decode cX13_sets 1 = .ok (.getfield 20, 3) := by decide +kernel
theorem dX13_sets_4 : decode cX13_sets 4 = .ok (.iload_n 1, 1) := by decide +kernel
theorem dX13_sets_5 : decode cX13_sets 5 = .ok (.iaload, 1) := by decide +kernel
theorem dX13_sets_6 : decode cX13_sets 6 = .ok (.istore_n 3, 1) := by decide +kernel
theorem dX13_sets_7 : decode cX13_sets 7 = .ok (.aload_n 0, 1) := by decide +kernel
theorem dX13_sets_8 : decode cX13_sets 8 = .ok (.getfield 20, 3) := by decide +kernel
theorem dX13_sets_11 : decode cX13_sets 11 = .ok (.iload_n 1, 1) := by decide +kernel
theorem dX13_sets_12 : decode cX13_sets 12 = .ok (.iload_n 2, 1) := by decide +kernel
theorem dX13_sets_13 : decode cX13_sets 13 = .ok (.iastore, 1) := by decide +kernel
theorem dX13_sets_14 : decode cX13_sets 14 = .ok (.iload_n 3, 1) := by decide +kernel
theorem dX13_sets_15 : decode cX13_sets 15 = .ok (.ireturn, 1) := by decide +kernel
theorem dX13_isNew_0 : decode cX13_isNew 0 = .ok (.lload_n 2, 1) := by decide +kernel
theorem dX13_isNew_1 : decode cX13_isNew 1 = .ok (.lconst 0, 1) := by decide +kernel
theorem dX13_isNew_2 : decode cX13_isNew 2 = .ok (.lcmp, 1) := by decide +kernel
theorem dX13_isNew_3 : decode cX13_isNew 3 = .ok (.ifCond .eq 28, 3) := by decide +kernel
theorem dX13_isNew_6 : decode cX13_isNew 6 = .ok (.aload_n 0, 1) := by decide +kernel
theorem dX13_isNew_7 : decode cX13_isNew 7 = .ok (.iload_n 1, 1) := by decide +kernel
theorem dX13_isNew_8 : decode cX13_isNew 8 = .ok (.lload_n 2, 1) := by decide +kernel
theorem dX13_isNew_9 : decode cX13_isNew 9 = .ok (.invokevirtual 265, 3) := by decide +kernel
theorem dX13_isNew_12 : decode cX13_isNew 12 = .ok (.iconst (-1), 1) := by decide +kernel
theorem dX13_isNew_13 : decode cX13_isNew 13 = .ok (.if_icmp .ne 18, 3) := by decide +kernel
theorem dX13_isNew_16 : decode cX13_isNew 16 = .ok (.aload_n 0, 1) := by decide +kernel
theorem dX13_isNew_17 : decode cX13_isNew 17 = .ok (.getfield 20, 3) := by decide +kernel
theorem dX13_isNew_20 : decode cX13_isNew 20 = .ok (.iload_n 1, 1) := by decide +kernel
theorem dX13_isNew_21 : decode cX13_isNew 21 = .ok (.iaload, 1) := by decide +kernel
theorem dX13_isNew_22 : decode cX13_isNew 22 = .ok (.bipush 8, 2) := by decide +kernel
theorem dX13_isNew_24 : decode cX13_isNew 24 = .ok (.if_icmp .ge 7, 3) := by decide +kernel
theorem dX13_isNew_27 : decode cX13_isNew 27 = .ok (.iconst 1, 1) := by decide +kernel
theorem dX13_isNew_28 : decode cX13_isNew 28 = .ok (.goto 4, 3) := by decide +kernel
theorem dX13_isNew_31 : decode cX13_isNew 31 = .ok (.iconst 0, 1) := by decide +kernel
theorem dX13_isNew_32 : decode cX13_isNew 32 = .ok (.ireturn, 1) := by decide +kernel
theorem dX13_addValley_0 : decode cX13_addValley 0 = .ok (.aload_n 0, 1) := by decide +kernel
theorem dX13_addValley_1 : decode cX13_addValley 1 = .ok (.invokevirtual 269, 3) := by decide +kernel
theorem dX13_addValley_4 : decode cX13_addValley 4 = .ok (.lstore 4, 2) := by decide +kernel
theorem dX13_addValley_6 : decode cX13_addValley 6 = .ok (.aload_n 0, 1) := by decide +kernel
theorem dX13_addValley_7 : decode cX13_addValley 7 = .ok (.iload_n 1, 1) := by decide +kernel
theorem dX13_addValley_8 : decode cX13_addValley 8 = .ok (.invokestatic 273, 3) := by decide +kernel
theorem dX13_addValley_11 : decode cX13_addValley 11 = .ok (.ifCond .eq 21, 3) := by decide +kernel
theorem dX13_addValley_14 : decode cX13_addValley 14 = .ok (.iload_n 2, 1) := by decide +kernel
theorem dX13_addValley_15 : decode cX13_addValley 15 = .ok (.invokestatic 276, 3) := by decide +kernel
theorem dX13_addValley_18 : decode cX13_addValley 18 = .ok (.ifCond .eq 14, 3) := by decide +kernel
theorem dX13_addValley_21 : decode cX13_addValley 21 = .ok (.iload_n 3, 1) := by decide +kernel
theorem dX13_addValley_22 : decode cX13_addValley 22 = .ok (.invokestatic 279, 3) := by decide +kernel
theorem dX13_addValley_25 : decode cX13_addValley 25 = .ok (.ifCond .eq 7, 3) := by decide +kernel
theorem dX13_addValley_28 : decode cX13_addValley 28 = .ok (.iconst 1, 1) := by decide +kernel
theorem dX13_addValley_29 : decode cX13_addValley 29 = .ok (.goto 4, 3) := by decide +kernel
theorem dX13_addValley_32 : decode cX13_addValley 32 = .ok (.iconst 0, 1) := by decide +kernel
theorem dX13_addValley_33 : decode cX13_addValley 33 = .ok (.aload_n 0, 1) := by decide +kernel
theorem dX13_addValley_34 : decode cX13_addValley 34 = .ok (.iconst 0, 1) := by decide +kernel
theorem dX13_addValley_35 : decode cX13_addValley 35 = .ok (.lload 4, 2) := by decide +kernel
theorem dX13_addValley_37 : decode cX13_addValley 37 = .ok (.invokevirtual 282, 3) := by decide +kernel
theorem dX13_addValley_40 : decode cX13_addValley 40 = .ok (.invokevirtual 286, 3) := by decide +kernel
theorem dX13_addValley_43 : decode cX13_addValley 43 = .ok (.ifCond .ne 5, 3) := by decide +kernel
theorem dX13_addValley_46 : decode cX13_addValley 46 = .ok (.iconst 0, 1) := by decide +kernel
theorem dX13_addValley_47 : decode cX13_addValley 47 = .ok (.ireturn, 1) := by decide +kernel
theorem dX13_addValley_48 : decode cX13_addValley 48 = .ok (.aload_n 0, 1) := by decide +kernel
theorem dX13_addValley_49 : decode cX13_addValley 49 = .ok (.invokevirtual 290, 3) := by decide +kernel
theorem dX13_addValley_52 : decode cX13_addValley 52 = .ok (.aload_n 0, 1) := by decide +kernel
theorem dX13_addValley_53 : decode cX13_addValley 53 = .ok (.iconst 0, 1) := by decide +kernel
theorem dX13_addValley_54 : decode cX13_addValley 54 = .ok (.putfield 69, 3) := by decide +kernel
theorem dX13_addValley_57 : decode cX13_addValley 57 = .ok (.aload_n 0, 1) := by decide +kernel
theorem dX13_addValley_58 : decode cX13_addValley 58 = .ok (.aload_n 0, 1) := by decide +kernel
theorem dX13_addValley_59 : decode cX13_addValley 59 = .ok (.lload 4, 2) := by decide +kernel
theorem dX13_addValley_61 : decode cX13_addValley 61 = .ok (.iload_n 1, 1) := by decide +kernel
theorem dX13_addValley_62 : decode cX13_addValley 62 = .ok (.iload_n 2, 1) := by decide +kernel
theorem dX13_addValley_63 : decode cX13_addValley 63 = .ok (.iload_n 3, 1) := by decide +kernel
theorem dX13_addValley_64 : decode cX13_addValley 64 = .ok (.invokevirtual 293, 3) := by decide +kernel
theorem dX13_addValley_67 : decode cX13_addValley 67 = .ok (.invokevirtual 297, 3) := by decide +kernel
theorem dX13_addValley_70 : decode cX13_addValley 70 = .ok (.ireturn, 1) := by decide +kernel
theorem dX13_addCustomer_0 : decode cX13_addCustomer 0 = .ok (.aload_n 0, 1) := by decide +kernel
theorem dX13_addCustomer_1 : decode cX13_addCustomer 1 = .ok (.invokevirtual 269, 3) := by decide +kernel
theorem dX13_addCustomer_4 : decode cX13_addCustomer 4 = .ok (.lstore_n 3, 1) := by decide +kernel
theorem dX13_addCustomer_5 : decode cX13_addCustomer 5 = .ok (.aload_n 0, 1) := by decide +kernel
theorem dX13_addCustomer_6 : decode cX13_addCustomer 6 = .ok (.iload_n 1, 1) := by decide +kernel
theorem dX13_addCustomer_7 : decode cX13_addCustomer 7 = .ok (.invokestatic 300, 3) := by decide +kernel
theorem dX13_addCustomer_10 : decode cX13_addCustomer 10 = .ok (.ifCond .eq 14, 3) := by decide +kernel
theorem dX13_addCustomer_13 : decode cX13_addCustomer 13 = .ok (.iload_n 2, 1) := by decide +kernel
theorem dX13_addCustomer_14 : decode cX13_addCustomer 14 = .ok (.invokestatic 303, 3) := by decide +kernel
theorem dX13_addCustomer_17 : decode cX13_addCustomer 17 = .ok (.ifCond .eq 7, 3) := by decide +kernel
theorem dX13_addCustomer_20 : decode cX13_addCustomer 20 = .ok (.iconst 1, 1) := by decide +kernel
theorem dX13_addCustomer_21 : decode cX13_addCustomer 21 = .ok (.goto 4, 3) := by decide +kernel
theorem dX13_addCustomer_24 : decode cX13_addCustomer 24 = .ok (.iconst 0, 1) := by decide +kernel
theorem dX13_addCustomer_25 : decode cX13_addCustomer 25 = .ok (.aload_n 0, 1) := by decide +kernel
theorem dX13_addCustomer_26 : decode cX13_addCustomer 26 = .ok (.iconst 1, 1) := by decide +kernel
theorem dX13_addCustomer_27 : decode cX13_addCustomer 27 = .ok (.lload_n 3, 1) := by decide +kernel
theorem dX13_addCustomer_28 : decode cX13_addCustomer 28 = .ok (.invokevirtual 282, 3) := by decide +kernel
theorem dX13_addCustomer_31 : decode cX13_addCustomer 31 = .ok (.invokevirtual 286, 3) := by decide +kernel
theorem dX13_addCustomer_34 : decode cX13_addCustomer 34 = .ok (.ifCond .ne 5, 3) := by decide +kernel
theorem dX13_addCustomer_37 : decode cX13_addCustomer 37 = .ok (.iconst 0, 1) := by decide +kernel
theorem dX13_addCustomer_38 : decode cX13_addCustomer 38 = .ok (.ireturn, 1) := by decide +kernel
theorem dX13_addCustomer_39 : decode cX13_addCustomer 39 = .ok (.aload_n 0, 1) := by decide +kernel
theorem dX13_addCustomer_40 : decode cX13_addCustomer 40 = .ok (.invokevirtual 290, 3) := by decide +kernel
theorem dX13_addCustomer_43 : decode cX13_addCustomer 43 = .ok (.aload_n 0, 1) := by decide +kernel
theorem dX13_addCustomer_44 : decode cX13_addCustomer 44 = .ok (.iconst 0, 1) := by decide +kernel
theorem dX13_addCustomer_45 : decode cX13_addCustomer 45 = .ok (.putfield 69, 3) := by decide +kernel
theorem dX13_addCustomer_48 : decode cX13_addCustomer 48 = .ok (.aload_n 0, 1) := by decide +kernel
theorem dX13_addCustomer_49 : decode cX13_addCustomer 49 = .ok (.aload_n 0, 1) := by decide +kernel
theorem dX13_addCustomer_50 : decode cX13_addCustomer 50 = .ok (.lload_n 3, 1) := by decide +kernel
theorem dX13_addCustomer_51 : decode cX13_addCustomer 51 = .ok (.iload_n 1, 1) := by decide +kernel
theorem dX13_addCustomer_52 : decode cX13_addCustomer 52 = .ok (.iload_n 2, 1) := by decide +kernel
theorem dX13_addCustomer_53 : decode cX13_addCustomer 53 = .ok (.invokevirtual 306, 3) := by decide +kernel
theorem dX13_addCustomer_56 : decode cX13_addCustomer 56 = .ok (.invokevirtual 297, 3) := by decide +kernel
theorem dX13_addCustomer_59 : decode cX13_addCustomer 59 = .ok (.ireturn, 1) := by decide +kernel
theorem dX13_shout_0 : decode cX13_shout 0 = .ok (.aload_n 0, 1) := by decide +kernel
theorem dX13_shout_1 : decode cX13_shout 1 = .ok (.iload_n 1, 1) := by decide +kernel
theorem dX13_shout_2 : decode cX13_shout 2 = .ok (.invokevirtual 310, 3) := by decide +kernel
theorem dX13_shout_5 : decode cX13_shout 5 = .ok (.ifCond .eq 15, 3) := by decide +kernel
theorem dX13_shout_8 : decode cX13_shout 8 = .ok (.aload_n 0, 1) := by decide +kernel
theorem dX13_shout_9 : decode cX13_shout 9 = .ok (.iload_n 2, 1) := by decide +kernel
theorem dX13_shout_10 : decode cX13_shout 10 = .ok (.invokevirtual 313, 3) := by decide +kernel
theorem dX13_shout_13 : decode cX13_shout 13 = .ok (.ifCond .eq 7, 3) := by decide +kernel
theorem dX13_shout_16 : decode cX13_shout 16 = .ok (.iconst 1, 1) := by decide +kernel
theorem dX13_shout_17 : decode cX13_shout 17 = .ok (.goto 4, 3) := by decide +kernel
theorem dX13_shout_20 : decode cX13_shout 20 = .ok (.iconst 0, 1) := by decide +kernel
theorem dX13_shout_21 : decode cX13_shout 21 = .ok (.istore 5, 2) := by decide +kernel
theorem dX13_shout_23 : decode cX13_shout 23 = .ok (.iload_n 3, 1) := by decide +kernel
theorem dX13_shout_24 : decode cX13_shout 24 = .ok (.invokestatic 316, 3) := by decide +kernel
theorem dX13_shout_27 : decode cX13_shout 27 = .ok (.ifCond .eq 15, 3) := by decide +kernel
theorem dX13_shout_30 : decode cX13_shout 30 = .ok (.iload 4, 2) := by decide +kernel
theorem dX13_shout_32 : decode cX13_shout 32 = .ok (.invokestatic 276, 3) := by decide +kernel
theorem dX13_shout_35 : decode cX13_shout 35 = .ok (.ifCond .eq 7, 3) := by decide +kernel
theorem dX13_shout_38 : decode cX13_shout 38 = .ok (.iconst 1, 1) := by decide +kernel
theorem dX13_shout_39 : decode cX13_shout 39 = .ok (.goto 4, 3) := by decide +kernel
theorem dX13_shout_42 : decode cX13_shout 42 = .ok (.iconst 0, 1) := by decide +kernel
theorem dX13_shout_43 : decode cX13_shout 43 = .ok (.istore 6, 2) := by decide +kernel
theorem dX13_shout_45 : decode cX13_shout 45 = .ok (.aload_n 0, 1) := by decide +kernel
theorem dX13_shout_46 : decode cX13_shout 46 = .ok (.iload 5, 2) := by decide +kernel
theorem dX13_shout_48 : decode cX13_shout 48 = .ok (.iload 6, 2) := by decide +kernel
theorem dX13_shout_50 : decode cX13_shout 50 = .ok (.iload 5, 2) := by decide +kernel
theorem dX13_shout_52 : decode cX13_shout 52 = .ok (.ifCond .eq 23, 3) := by decide +kernel
theorem dX13_shout_55 : decode cX13_shout 55 = .ok (.iload 6, 2) := by decide +kernel
theorem dX13_shout_57 : decode cX13_shout 57 = .ok (.ifCond .eq 18, 3) := by decide +kernel
theorem dX13_shout_60 : decode cX13_shout 60 = .ok (.aload_n 0, 1) := by decide +kernel
theorem dX13_shout_61 : decode cX13_shout 61 = .ok (.iload_n 1, 1) := by decide +kernel
theorem dX13_shout_62 : decode cX13_shout 62 = .ok (.iload_n 2, 1) := by decide +kernel
theorem dX13_shout_63 : decode cX13_shout 63 = .ok (.iload 4, 2) := by decide +kernel
theorem dX13_shout_65 : decode cX13_shout 65 = .ok (.invokevirtual 319, 3) := by decide +kernel
theorem dX13_shout_68 : decode cX13_shout 68 = .ok (.ifCond .ne 7, 3) := by decide +kernel
theorem dX13_shout_71 : decode cX13_shout 71 = .ok (.iconst 1, 1) := by decide +kernel
theorem dX13_shout_72 : decode cX13_shout 72 = .ok (.goto 4, 3) := by decide +kernel
theorem dX13_shout_75 : decode cX13_shout 75 = .ok (.iconst 0, 1) := by decide +kernel
theorem dX13_shout_76 : decode cX13_shout 76 = .ok (.invokevirtual 323, 3) := by decide +kernel
theorem dX13_shout_79 : decode cX13_shout 79 = .ok (.ifCond .ne 5, 3) := by decide +kernel
theorem dX13_shout_82 : decode cX13_shout 82 = .ok (.iconst 0, 1) := by decide +kernel
theorem dX13_shout_83 : decode cX13_shout 83 = .ok (.ireturn, 1) := by decide +kernel
theorem dX13_shout_84 : decode cX13_shout 84 = .ok (.aload_n 0, 1) := by decide +kernel
theorem dX13_shout_85 : decode cX13_shout 85 = .ok (.invokevirtual 290, 3) := by decide +kernel
theorem dX13_shout_88 : decode cX13_shout 88 = .ok (.aload_n 0, 1) := by decide +kernel
theorem dX13_shout_89 : decode cX13_shout 89 = .ok (.aload_n 0, 1) := by decide +kernel
theorem dX13_shout_90 : decode cX13_shout 90 = .ok (.iload_n 1, 1) := by decide +kernel
theorem dX13_shout_91 : decode cX13_shout 91 = .ok (.iload_n 2, 1) := by decide +kernel
theorem dX13_shout_92 : decode cX13_shout 92 = .ok (.iload_n 3, 1) := by decide +kernel
theorem dX13_shout_93 : decode cX13_shout 93 = .ok (.iload 4, 2) := by decide +kernel
theorem dX13_shout_95 : decode cX13_shout 95 = .ok (.invokevirtual 327, 3) := by decide +kernel
theorem dX13_shout_98 : decode cX13_shout 98 = .ok (.invokevirtual 297, 3) := by decide +kernel
theorem dX13_shout_101 : decode cX13_shout 101 = .ok (.ireturn, 1) := by decide +kernel
theorem dX13_cancel_0 : decode cX13_cancel 0 = .ok (.aload_n 0, 1) := by decide +kernel
theorem dX13_cancel_1 : decode cX13_cancel 1 = .ok (.aload_n 0, 1) := by decide +kernel
theorem dX13_cancel_2 : decode cX13_cancel 2 = .ok (.iload_n 1, 1) := by decide +kernel
theorem dX13_cancel_3 : decode cX13_cancel 3 = .ok (.invokevirtual 166, 3) := by decide +kernel
theorem dX13_cancel_6 : decode cX13_cancel 6 = .ok (.aload_n 0, 1) := by decide +kernel
theorem dX13_cancel_7 : decode cX13_cancel 7 = .ok (.iload_n 1, 1) := by decide +kernel
theorem dX13_cancel_8 : decode cX13_cancel 8 = .ok (.invokevirtual 210, 3) := by decide +kernel
theorem dX13_cancel_11 : decode cX13_cancel 11 = .ok (.invokevirtual 286, 3) := by decide +kernel
theorem dX13_cancel_14 : decode cX13_cancel 14 = .ok (.ifCond .ne 5, 3) := by decide +kernel
theorem dX13_cancel_17 : decode cX13_cancel 17 = .ok (.iconst 0, 1) := by decide +kernel
theorem dX13_cancel_18 : decode cX13_cancel 18 = .ok (.ireturn, 1) := by decide +kernel
theorem dX13_cancel_19 : decode cX13_cancel 19 = .ok (.aload_n 0, 1) := by decide +kernel
theorem dX13_cancel_20 : decode cX13_cancel 20 = .ok (.invokevirtual 290, 3) := by decide +kernel
theorem dX13_cancel_23 : decode cX13_cancel 23 = .ok (.aload_n 0, 1) := by decide +kernel
theorem dX13_cancel_24 : decode cX13_cancel 24 = .ok (.aload_n 0, 1) := by decide +kernel
theorem dX13_cancel_25 : decode cX13_cancel 25 = .ok (.iload_n 1, 1) := by decide +kernel
theorem dX13_cancel_26 : decode cX13_cancel 26 = .ok (.invokevirtual 213, 3) := by decide +kernel
theorem dX13_cancel_29 : decode cX13_cancel 29 = .ok (.invokevirtual 297, 3) := by decide +kernel
theorem dX13_cancel_32 : decode cX13_cancel 32 = .ok (.ireturn, 1) := by decide +kernel
theorem dX13_fake_0 : decode cX13_fake 0 = .ok (.aload_n 0, 1) := by decide +kernel
theorem dX13_fake_1 : decode cX13_fake 1 = .ok (.aload_n 0, 1) := by decide +kernel
theorem dX13_fake_2 : decode cX13_fake 2 = .ok (.iload_n 1, 1) := by decide +kernel
theorem dX13_fake_3 : decode cX13_fake 3 = .ok (.invokevirtual 166, 3) := by decide +kernel
theorem dX13_fake_6 : decode cX13_fake 6 = .ok (.aload_n 0, 1) := by decide +kernel
theorem dX13_fake_7 : decode cX13_fake 7 = .ok (.iload_n 1, 1) := by decide +kernel
theorem dX13_fake_8 : decode cX13_fake 8 = .ok (.invokevirtual 210, 3) := by decide +kernel
theorem dX13_fake_11 : decode cX13_fake 11 = .ok (.invokevirtual 286, 3) := by decide +kernel
theorem dX13_fake_14 : decode cX13_fake 14 = .ok (.ifCond .ne 5, 3) := by decide +kernel
theorem dX13_fake_17 : decode cX13_fake 17 = .ok (.iconst 0, 1) := by decide +kernel
theorem dX13_fake_18 : decode cX13_fake 18 = .ok (.ireturn, 1) := by decide +kernel
theorem dX13_fake_19 : decode cX13_fake 19 = .ok (.aload_n 0, 1) := by decide +kernel
theorem dX13_fake_20 : decode cX13_fake 20 = .ok (.invokevirtual 290, 3) := by decide +kernel
theorem dX13_fake_23 : decode cX13_fake 23 = .ok (.aload_n 0, 1) := by decide +kernel
theorem dX13_fake_24 : decode cX13_fake 24 = .ok (.aload_n 0, 1) := by decide +kernel
theorem dX13_fake_25 : decode cX13_fake 25 = .ok (.iload_n 1, 1) := by decide +kernel
theorem dX13_fake_26 : decode cX13_fake 26 = .ok (.invokevirtual 331, 3) := by decide +kernel
theorem dX13_fake_29 : decode cX13_fake 29 = .ok (.invokevirtual 297, 3) := by decide +kernel
theorem dX13_fake_32 : decode cX13_fake 32 = .ok (.ireturn, 1) := by decide +kernel
theorem dX13_setFog_0 : decode cX13_setFog 0 = .ok (.aload_n 0, 1) := by decide +kernel
theorem dX13_setFog_1 : decode cX13_setFog 1 = .ok (.aload_n 0, 1) := by decide +kernel
theorem dX13_setFog_2 : decode cX13_setFog 2 = .ok (.iload_n 1, 1) := by decide +kernel
theorem dX13_setFog_3 : decode cX13_setFog 3 = .ok (.invokevirtual 313, 3) := by decide +kernel
theorem dX13_setFog_6 : decode cX13_setFog 6 = .ok (.iload_n 2, 1) := by decide +kernel
theorem dX13_setFog_7 : decode cX13_setFog 7 = .ok (.invokestatic 334, 3) := by decide +kernel
theorem dX13_setFog_10 : decode cX13_setFog 10 = .ok (.invokevirtual 286, 3) := by decide +kernel
theorem dX13_setFog_13 : decode cX13_setFog 13 = .ok (.ifCond .ne 5, 3) := by decide +kernel
theorem dX13_setFog_16 : decode cX13_setFog 16 = .ok (.iconst 0, 1) := by decide +kernel
theorem dX13_setFog_17 : decode cX13_setFog 17 = .ok (.ireturn, 1) := by decide +kernel
theorem dX13_setFog_18 : decode cX13_setFog 18 = .ok (.aload_n 0, 1) := by decide +kernel
theorem dX13_setFog_19 : decode cX13_setFog 19 = .ok (.invokevirtual 290, 3) := by decide +kernel
theorem dX13_setFog_22 : decode cX13_setFog 22 = .ok (.aload_n 0, 1) := by decide +kernel
theorem dX13_setFog_23 : decode cX13_setFog 23 = .ok (.aload_n 0, 1) := by decide +kernel
theorem dX13_setFog_24 : decode cX13_setFog 24 = .ok (.iload_n 1, 1) := by decide +kernel
theorem dX13_setFog_25 : decode cX13_setFog 25 = .ok (.invokestatic 157, 3) := by decide +kernel
theorem dX13_setFog_28 : decode cX13_setFog 28 = .ok (.iconst 3, 1) := by decide +kernel
theorem dX13_setFog_29 : decode cX13_setFog 29 = .ok (.iadd, 1) := by decide +kernel
theorem dX13_setFog_30 : decode cX13_setFog 30 = .ok (.iload_n 2, 1) := by decide +kernel
theorem dX13_setFog_31 : decode cX13_setFog 31 = .ok (.invokevirtual 337, 3) := by decide +kernel
theorem dX13_setFog_34 : decode cX13_setFog 34 = .ok (.invokevirtual 297, 3) := by decide +kernel
theorem dX13_setFog_37 : decode cX13_setFog 37 = .ok (.ireturn, 1) := by decide +kernel
theorem dX13_setPrice_0 : decode cX13_setPrice 0 = .ok (.aload_n 0, 1) := by decide +kernel
theorem dX13_setPrice_1 : decode cX13_setPrice 1 = .ok (.aload_n 0, 1) := by decide +kernel
theorem dX13_setPrice_2 : decode cX13_setPrice 2 = .ok (.iload_n 1, 1) := by decide +kernel
theorem dX13_setPrice_3 : decode cX13_setPrice 3 = .ok (.invokevirtual 313, 3) := by decide +kernel
theorem dX13_setPrice_6 : decode cX13_setPrice 6 = .ok (.iload_n 2, 1) := by decide +kernel
theorem dX13_setPrice_7 : decode cX13_setPrice 7 = .ok (.invokestatic 279, 3) := by decide +kernel
theorem dX13_setPrice_10 : decode cX13_setPrice 10 = .ok (.invokevirtual 286, 3) := by decide +kernel
theorem dX13_setPrice_13 : decode cX13_setPrice 13 = .ok (.ifCond .ne 5, 3) := by decide +kernel
theorem dX13_setPrice_16 : decode cX13_setPrice 16 = .ok (.iconst 0, 1) := by decide +kernel
theorem dX13_setPrice_17 : decode cX13_setPrice 17 = .ok (.ireturn, 1) := by decide +kernel
theorem dX13_setPrice_18 : decode cX13_setPrice 18 = .ok (.aload_n 0, 1) := by decide +kernel
theorem dX13_setPrice_19 : decode cX13_setPrice 19 = .ok (.invokevirtual 290, 3) := by decide +kernel
theorem dX13_setPrice_22 : decode cX13_setPrice 22 = .ok (.aload_n 0, 1) := by decide +kernel
theorem dX13_setPrice_23 : decode cX13_setPrice 23 = .ok (.aload_n 0, 1) := by decide +kernel
theorem dX13_setPrice_24 : decode cX13_setPrice 24 = .ok (.iload_n 1, 1) := by decide +kernel
theorem dX13_setPrice_25 : decode cX13_setPrice 25 = .ok (.invokestatic 157, 3) := by decide +kernel
theorem dX13_setPrice_28 : decode cX13_setPrice 28 = .ok (.iconst 2, 1) := by decide +kernel
theorem dX13_setPrice_29 : decode cX13_setPrice 29 = .ok (.iadd, 1) := by decide +kernel
theorem dX13_setPrice_30 : decode cX13_setPrice 30 = .ok (.iload_n 2, 1) := by decide +kernel
theorem dX13_setPrice_31 : decode cX13_setPrice 31 = .ok (.invokevirtual 337, 3) := by decide +kernel
theorem dX13_setPrice_34 : decode cX13_setPrice 34 = .ok (.invokevirtual 297, 3) := by decide +kernel
theorem dX13_setPrice_37 : decode cX13_setPrice 37 = .ok (.ireturn, 1) := by decide +kernel
theorem dX13_setWell_0 : decode cX13_setWell 0 = .ok (.aload_n 0, 1) := by decide +kernel
theorem dX13_setWell_1 : decode cX13_setWell 1 = .ok (.iload_n 1, 1) := by decide +kernel
theorem dX13_setWell_2 : decode cX13_setWell 2 = .ok (.invokestatic 340, 3) := by decide +kernel
theorem dX13_setWell_5 : decode cX13_setWell 5 = .ok (.invokevirtual 72, 3) := by decide +kernel
theorem dX13_setWell_8 : decode cX13_setWell 8 = .ok (.ifCond .ne 5, 3) := by decide +kernel
theorem dX13_setWell_11 : decode cX13_setWell 11 = .ok (.iconst 0, 1) := by decide +kernel
theorem dX13_setWell_12 : decode cX13_setWell 12 = .ok (.ireturn, 1) := by decide +kernel
theorem dX13_setWell_13 : decode cX13_setWell 13 = .ok (.aload_n 0, 1) := by decide +kernel
theorem dX13_setWell_14 : decode cX13_setWell 14 = .ok (.invokevirtual 290, 3) := by decide +kernel
theorem dX13_setWell_17 : decode cX13_setWell 17 = .ok (.aload_n 0, 1) := by decide +kernel
theorem dX13_setWell_18 : decode cX13_setWell 18 = .ok (.aload_n 0, 1) := by decide +kernel
theorem dX13_setWell_19 : decode cX13_setWell 19 = .ok (.bipush 6, 2) := by decide +kernel
theorem dX13_setWell_21 : decode cX13_setWell 21 = .ok (.iload_n 1, 1) := by decide +kernel
theorem dX13_setWell_22 : decode cX13_setWell 22 = .ok (.invokevirtual 337, 3) := by decide +kernel
theorem dX13_setWell_25 : decode cX13_setWell 25 = .ok (.invokevirtual 297, 3) := by decide +kernel
theorem dX13_setWell_28 : decode cX13_setWell 28 = .ok (.ireturn, 1) := by decide +kernel
theorem dX13_pass_0 : decode cX13_pass 0 = .ok (.aload_n 0, 1) := by decide +kernel
theorem dX13_pass_1 : decode cX13_pass 1 = .ok (.iload_n 1, 1) := by decide +kernel
theorem dX13_pass_2 : decode cX13_pass 2 = .ok (.invokestatic 300, 3) := by decide +kernel
theorem dX13_pass_5 : decode cX13_pass 5 = .ok (.iload_n 1, 1) := by decide +kernel
theorem dX13_pass_6 : decode cX13_pass 6 = .ok (.invokestatic 300, 3) := by decide +kernel
theorem dX13_pass_9 : decode cX13_pass 9 = .ok (.ifCond .eq 15, 3) := by decide +kernel
theorem dX13_pass_12 : decode cX13_pass 12 = .ok (.aload_n 0, 1) := by decide +kernel
theorem dX13_pass_13 : decode cX13_pass 13 = .ok (.iload_n 1, 1) := by decide +kernel
theorem dX13_pass_14 : decode cX13_pass 14 = .ok (.invokevirtual 343, 3) := by decide +kernel
theorem dX13_pass_17 : decode cX13_pass 17 = .ok (.ifCond .eq 7, 3) := by decide +kernel
theorem dX13_pass_20 : decode cX13_pass 20 = .ok (.iconst 1, 1) := by decide +kernel
theorem dX13_pass_21 : decode cX13_pass 21 = .ok (.goto 4, 3) := by decide +kernel
theorem dX13_pass_24 : decode cX13_pass 24 = .ok (.iconst 0, 1) := by decide +kernel
theorem dX13_pass_25 : decode cX13_pass 25 = .ok (.invokevirtual 286, 3) := by decide +kernel
theorem dX13_pass_28 : decode cX13_pass 28 = .ok (.ifCond .ne 5, 3) := by decide +kernel
theorem dX13_pass_31 : decode cX13_pass 31 = .ok (.iconst 0, 1) := by decide +kernel
theorem dX13_pass_32 : decode cX13_pass 32 = .ok (.ireturn, 1) := by decide +kernel
theorem dX13_pass_33 : decode cX13_pass 33 = .ok (.aload_n 0, 1) := by decide +kernel
theorem dX13_pass_34 : decode cX13_pass 34 = .ok (.invokevirtual 290, 3) := by decide +kernel
theorem dX13_pass_37 : decode cX13_pass 37 = .ok (.aload_n 0, 1) := by decide +kernel
theorem dX13_pass_38 : decode cX13_pass 38 = .ok (.aload_n 0, 1) := by decide +kernel
theorem dX13_pass_39 : decode cX13_pass 39 = .ok (.iload_n 1, 1) := by decide +kernel
theorem dX13_pass_40 : decode cX13_pass 40 = .ok (.invokevirtual 346, 3) := by decide +kernel
theorem dX13_pass_43 : decode cX13_pass 43 = .ok (.invokevirtual 297, 3) := by decide +kernel
theorem dX13_pass_46 : decode cX13_pass 46 = .ok (.ireturn, 1) := by decide +kernel
theorem dX13_newLine_0 : decode cX13_newLine 0 = .ok (.aload_n 0, 1) := by decide +kernel
theorem dX13_newLine_1 : decode cX13_newLine 1 = .ok (.getfield 20, 3) := by decide +kernel
theorem dX13_newLine_4 : decode cX13_newLine 4 = .ok (.iload_n 1, 1) := by decide +kernel
theorem dX13_newLine_5 : decode cX13_newLine 5 = .ok (.iaload, 1) := by decide +kernel
theorem dX13_newLine_6 : decode cX13_newLine 6 = .ok (.bipush 8, 2) := by decide +kernel
theorem dX13_newLine_8 : decode cX13_newLine 8 = .ok (.if_icmp .ne 8, 3) := by decide +kernel
theorem dX13_newLine_11 : decode cX13_newLine 11 = .ok (.aload_n 0, 1) := by decide +kernel
theorem dX13_newLine_12 : decode cX13_newLine 12 = .ok (.iconst 5, 1) := by decide +kernel
theorem dX13_newLine_13 : decode cX13_newLine 13 = .ok (.invokevirtual 124, 3) := by decide +kernel
theorem dX13_newLine_16 : decode cX13_newLine 16 = .ok (.aload_n 0, 1) := by decide +kernel
theorem dX13_newLine_17 : decode cX13_newLine 17 = .ok (.invokevirtual 117, 3) := by decide +kernel
theorem dX13_newLine_20 : decode cX13_newLine 20 = .ok (.ifCond .eq 7, 3) := by decide +kernel
theorem dX13_newLine_23 : decode cX13_newLine 23 = .ok (.aload_n 0, 1) := by decide +kernel
theorem dX13_newLine_24 : decode cX13_newLine 24 = .ok (.invokevirtual 127, 3) := by decide +kernel
theorem dX13_newLine_27 : decode cX13_newLine 27 = .ok (.aload_n 0, 1) := by decide +kernel
theorem dX13_newLine_28 : decode cX13_newLine 28 = .ok (.invokevirtual 117, 3) := by decide +kernel
theorem dX13_newLine_31 : decode cX13_newLine 31 = .ok (.ifCond .eq 16, 3) := by decide +kernel
theorem dX13_newLine_34 : decode cX13_newLine 34 = .ok (.aload_n 0, 1) := by decide +kernel
theorem dX13_newLine_35 : decode cX13_newLine 35 = .ok (.getfield 104, 3) := by decide +kernel
theorem dX13_newLine_38 : decode cX13_newLine 38 = .ok (.iconst 1, 1) := by decide +kernel
theorem dX13_newLine_39 : decode cX13_newLine 39 = .ok (.if_icmp .eq 8, 3) := by decide +kernel
theorem dX13_newLine_42 : decode cX13_newLine 42 = .ok (.aload_n 0, 1) := by decide +kernel
theorem dX13_newLine_43 : decode cX13_newLine 43 = .ok (.iconst 1, 1) := by decide +kernel
theorem dX13_newLine_44 : decode cX13_newLine 44 = .ok (.invokevirtual 124, 3) := by decide +kernel
theorem dX13_newLine_47 : decode cX13_newLine 47 = .ok (.aload_n 0, 1) := by decide +kernel
theorem dX13_newLine_48 : decode cX13_newLine 48 = .ok (.invokevirtual 117, 3) := by decide +kernel
theorem dX13_newLine_51 : decode cX13_newLine 51 = .ok (.ifCond .eq 21, 3) := by decide +kernel
theorem dX13_newLine_54 : decode cX13_newLine 54 = .ok (.aload_n 0, 1) := by decide +kernel
theorem dX13_newLine_55 : decode cX13_newLine 55 = .ok (.iload_n 1, 1) := by decide +kernel
theorem dX13_newLine_56 : decode cX13_newLine 56 = .ok (.aload_n 0, 1) := by decide +kernel
theorem dX13_newLine_57 : decode cX13_newLine 57 = .ok (.getfield 97, 3) := by decide +kernel
theorem dX13_newLine_60 : decode cX13_newLine 60 = .ok (.invokevirtual 265, 3) := by decide +kernel
theorem dX13_newLine_63 : decode cX13_newLine 63 = .ok (.iconst (-1), 1) := by decide +kernel
theorem dX13_newLine_64 : decode cX13_newLine 64 = .ok (.if_icmp .eq 8, 3) := by decide +kernel
theorem dX13_newLine_67 : decode cX13_newLine 67 = .ok (.aload_n 0, 1) := by decide +kernel
theorem dX13_newLine_68 : decode cX13_newLine 68 = .ok (.iconst 3, 1) := by decide +kernel
theorem dX13_newLine_69 : decode cX13_newLine 69 = .ok (.invokevirtual 124, 3) := by decide +kernel
theorem dX13_newLine_72 : decode cX13_newLine 72 = .ok (.aload_n 0, 1) := by decide +kernel
theorem dX13_newLine_73 : decode cX13_newLine 73 = .ok (.getfield 97, 3) := by decide +kernel
theorem dX13_newLine_76 : decode cX13_newLine 76 = .ok (.lstore_n 2, 1) := by decide +kernel
theorem dX13_newLine_77 : decode cX13_newLine 77 = .ok (.aload_n 0, 1) := by decide +kernel
theorem dX13_newLine_78 : decode cX13_newLine 78 = .ok (.invokevirtual 117, 3) := by decide +kernel
theorem dX13_newLine_81 : decode cX13_newLine 81 = .ok (.ifCond .eq 7, 3) := by decide +kernel
theorem dX13_newLine_84 : decode cX13_newLine 84 = .ok (.aload_n 0, 1) := by decide +kernel
theorem dX13_newLine_85 : decode cX13_newLine 85 = .ok (.invokevirtual 127, 3) := by decide +kernel
theorem dX13_newLine_88 : decode cX13_newLine 88 = .ok (.iload_n 1, 1) := by decide +kernel
theorem dX13_newLine_89 : decode cX13_newLine 89 = .ok (.ifCond .ne 11, 3) := by decide +kernel
theorem dX13_newLine_92 : decode cX13_newLine 92 = .ok (.aload_n 0, 1) := by decide +kernel
theorem dX13_newLine_93 : decode cX13_newLine 93 = .ok (.lload_n 2, 1) := by decide +kernel
theorem dX13_newLine_94 : decode cX13_newLine 94 = .ok (.invokevirtual 349, 3) := by decide +kernel
theorem dX13_newLine_97 : decode cX13_newLine 97 = .ok (.goto 8, 3) := by decide +kernel
theorem dX13_newLine_100 : decode cX13_newLine 100 = .ok (.aload_n 0, 1) := by decide +kernel
theorem dX13_newLine_101 : decode cX13_newLine 101 = .ok (.lload_n 2, 1) := by decide +kernel
theorem dX13_newLine_102 : decode cX13_newLine 102 = .ok (.invokevirtual 353, 3) := by decide +kernel
theorem dX13_newLine_105 : decode cX13_newLine 105 = .ok (.return_, 1) := by decide +kernel
theorem dX13_valleyRest_0 : decode cX13_valleyRest 0 = .ok (.aload_n 0, 1) := by decide +kernel
theorem dX13_valleyRest_1 : decode cX13_valleyRest 1 = .ok (.iconst 1, 1) := by decide +kernel
theorem dX13_valleyRest_2 : decode cX13_valleyRest 2 = .ok (.bipush 60, 2) := by decide +kernel
theorem dX13_valleyRest_4 : decode cX13_valleyRest 4 = .ok (.invokevirtual 356, 3) := by decide +kernel
theorem dX13_valleyRest_7 : decode cX13_valleyRest 7 = .ok (.istore_n 3, 1) := by decide +kernel
theorem dX13_valleyRest_8 : decode cX13_valleyRest 8 = .ok (.aload_n 0, 1) := by decide +kernel
theorem dX13_valleyRest_9 : decode cX13_valleyRest 9 = .ok (.iconst 1, 1) := by decide +kernel
theorem dX13_valleyRest_10 : decode cX13_valleyRest 10 = .ok (.iconst 4, 1) := by decide +kernel
theorem dX13_valleyRest_11 : decode cX13_valleyRest 11 = .ok (.invokevirtual 356, 3) := by decide +kernel
theorem dX13_valleyRest_14 : decode cX13_valleyRest 14 = .ok (.istore 4, 2) := by decide +kernel
theorem dX13_valleyRest_16 : decode cX13_valleyRest 16 = .ok (.aload_n 0, 1) := by decide +kernel
theorem dX13_valleyRest_17 : decode cX13_valleyRest 17 = .ok (.iconst 1, 1) := by decide +kernel
theorem dX13_valleyRest_18 : decode cX13_valleyRest 18 = .ok (.bipush 99, 2) := by decide +kernel
theorem dX13_valleyRest_20 : decode cX13_valleyRest 20 = .ok (.invokevirtual 356, 3) := by decide +kernel
theorem dX13_valleyRest_23 : decode cX13_valleyRest 23 = .ok (.istore 5, 2) := by decide +kernel
theorem dX13_valleyRest_25 : decode cX13_valleyRest 25 = .ok (.aload_n 0, 1) := by decide +kernel
theorem dX13_valleyRest_26 : decode cX13_valleyRest 26 = .ok (.invokevirtual 117, 3) := by decide +kernel
theorem dX13_valleyRest_29 : decode cX13_valleyRest 29 = .ok (.ifCond .eq 17, 3) := by decide +kernel
theorem dX13_valleyRest_32 : decode cX13_valleyRest 32 = .ok (.aload_n 0, 1) := by decide +kernel
theorem dX13_valleyRest_33 : decode cX13_valleyRest 33 = .ok (.aload_n 0, 1) := by decide +kernel
theorem dX13_valleyRest_34 : decode cX13_valleyRest 34 = .ok (.lload_n 1, 1) := by decide +kernel
theorem dX13_valleyRest_35 : decode cX13_valleyRest 35 = .ok (.iload_n 3, 1) := by decide +kernel
theorem dX13_valleyRest_36 : decode cX13_valleyRest 36 = .ok (.iload 4, 2) := by decide +kernel
theorem dX13_valleyRest_38 : decode cX13_valleyRest 38 = .ok (.iload 5, 2) := by decide +kernel
theorem dX13_valleyRest_40 : decode cX13_valleyRest 40 = .ok (.invokevirtual 293, 3) := by decide +kernel
theorem dX13_valleyRest_43 : decode cX13_valleyRest 43 = .ok (.putfield 216, 3) := by decide +kernel
theorem dX13_valleyRest_46 : decode cX13_valleyRest 46 = .ok (.return_, 1) := by decide +kernel
theorem dX13_customerRest_0 : decode cX13_customerRest 0 = .ok (.aload_n 0, 1) := by decide +kernel
theorem dX13_customerRest_1 : decode cX13_customerRest 1 = .ok (.iconst 1, 1) := by decide +kernel
theorem dX13_customerRest_2 : decode cX13_customerRest 2 = .ok (.sipush 240, 3) := by decide +kernel
theorem dX13_customerRest_5 : decode cX13_customerRest 5 = .ok (.invokevirtual 356, 3) := by decide +kernel
theorem dX13_customerRest_8 : decode cX13_customerRest 8 = .ok (.istore_n 3, 1) := by decide +kernel
theorem dX13_customerRest_9 : decode cX13_customerRest 9 = .ok (.aload_n 0, 1) := by decide +kernel
theorem dX13_customerRest_10 : decode cX13_customerRest 10 = .ok (.iconst 0, 1) := by decide +kernel
theorem dX13_customerRest_11 : decode cX13_customerRest 11 = .ok (.sipush 9999, 3) := by decide +kernel
theorem dX13_customerRest_14 : decode cX13_customerRest 14 = .ok (.invokevirtual 356, 3) := by decide +kernel
theorem dX13_customerRest_17 : decode cX13_customerRest 17 = .ok (.istore 4, 2) := by decide +kernel
theorem dX13_customerRest_19 : decode cX13_customerRest 19 = .ok (.aload_n 0, 1) := by decide +kernel
theorem dX13_customerRest_20 : decode cX13_customerRest 20 = .ok (.invokevirtual 117, 3) := by decide +kernel
theorem dX13_customerRest_23 : decode cX13_customerRest 23 = .ok (.ifCond .eq 15, 3) := by decide +kernel
theorem dX13_customerRest_26 : decode cX13_customerRest 26 = .ok (.aload_n 0, 1) := by decide +kernel
theorem dX13_customerRest_27 : decode cX13_customerRest 27 = .ok (.aload_n 0, 1) := by decide +kernel
theorem dX13_customerRest_28 : decode cX13_customerRest 28 = .ok (.lload_n 1, 1) := by decide +kernel
theorem dX13_customerRest_29 : decode cX13_customerRest 29 = .ok (.iload_n 3, 1) := by decide +kernel
theorem dX13_customerRest_30 : decode cX13_customerRest 30 = .ok (.iload 4, 2) := by decide +kernel
theorem dX13_customerRest_32 : decode cX13_customerRest 32 = .ok (.invokevirtual 306, 3) := by decide +kernel
theorem dX13_customerRest_35 : decode cX13_customerRest 35 = .ok (.putfield 216, 3) := by decide +kernel
theorem dX13_customerRest_38 : decode cX13_customerRest 38 = .ok (.return_, 1) := by decide +kernel
theorem dX13_more_0 : decode cX13_more 0 = .ok (.aload_n 0, 1) := by decide +kernel
theorem dX13_more_1 : decode cX13_more 1 = .ok (.invokevirtual 117, 3) := by decide +kernel
theorem dX13_more_4 : decode cX13_more 4 = .ok (.ifCond .eq 12, 3) := by decide +kernel
theorem dX13_more_7 : decode cX13_more 7 = .ok (.aload_n 0, 1) := by decide +kernel
theorem dX13_more_8 : decode cX13_more 8 = .ok (.iload_n 1, 1) := by decide +kernel
theorem dX13_more_9 : decode cX13_more 9 = .ok (.iload_n 2, 1) := by decide +kernel
theorem dX13_more_10 : decode cX13_more 10 = .ok (.invokevirtual 359, 3) := by decide +kernel
theorem dX13_more_13 : decode cX13_more 13 = .ok (.goto 4, 3) := by decide +kernel
theorem dX13_more_16 : decode cX13_more 16 = .ok (.iload_n 1, 1) := by decide +kernel
theorem dX13_more_17 : decode cX13_more 17 = .ok (.ireturn, 1) := by decide +kernel
theorem dX13_nameHere_0 : decode cX13_nameHere 0 = .ok (.aload_n 0, 1) := by decide +kernel
theorem dX13_nameHere_1 : decode cX13_nameHere 1 = .ok (.invokevirtual 117, 3) := by decide +kernel
theorem dX13_nameHere_4 : decode cX13_nameHere 4 = .ok (.ifCond .eq 16, 3) := by decide +kernel
theorem dX13_nameHere_7 : decode cX13_nameHere 7 = .ok (.aload_n 0, 1) := by decide +kernel
theorem dX13_nameHere_8 : decode cX13_nameHere 8 = .ok (.getfield 104, 3) := by decide +kernel
theorem dX13_nameHere_11 : decode cX13_nameHere 11 = .ok (.iconst 1, 1) := by decide +kernel
theorem dX13_nameHere_12 : decode cX13_nameHere 12 = .ok (.if_icmp .eq 8, 3) := by decide +kernel
theorem dX13_nameHere_15 : decode cX13_nameHere 15 = .ok (.aload_n 0, 1) := by decide +kernel
theorem dX13_nameHere_16 : decode cX13_nameHere 16 = .ok (.iconst 1, 1) := by decide +kernel
theorem dX13_nameHere_17 : decode cX13_nameHere 17 = .ok (.invokevirtual 124, 3) := by decide +kernel
theorem dX13_nameHere_20 : decode cX13_nameHere 20 = .ok (.aload_n 0, 1) := by decide +kernel
theorem dX13_nameHere_21 : decode cX13_nameHere 21 = .ok (.invokevirtual 117, 3) := by decide +kernel
theorem dX13_nameHere_24 : decode cX13_nameHere 24 = .ok (.ifCond .eq 15, 3) := by decide +kernel
theorem dX13_nameHere_27 : decode cX13_nameHere 27 = .ok (.aload_n 0, 1) := by decide +kernel
theorem dX13_nameHere_28 : decode cX13_nameHere 28 = .ok (.iload_n 1, 1) := by decide +kernel
theorem dX13_nameHere_29 : decode cX13_nameHere 29 = .ok (.aload_n 0, 1) := by decide +kernel
theorem dX13_nameHere_30 : decode cX13_nameHere 30 = .ok (.getfield 97, 3) := by decide +kernel
theorem dX13_nameHere_33 : decode cX13_nameHere 33 = .ok (.invokevirtual 265, 3) := by decide +kernel
theorem dX13_nameHere_36 : decode cX13_nameHere 36 = .ok (.goto 4, 3) := by decide +kernel
theorem dX13_nameHere_39 : decode cX13_nameHere 39 = .ok (.iconst (-1), 1) := by decide +kernel
theorem dX13_nameHere_40 : decode cX13_nameHere 40 = .ok (.istore_n 2, 1) := by decide +kernel
theorem dX13_nameHere_41 : decode cX13_nameHere 41 = .ok (.aload_n 0, 1) := by decide +kernel
theorem dX13_nameHere_42 : decode cX13_nameHere 42 = .ok (.invokevirtual 117, 3) := by decide +kernel
theorem dX13_nameHere_45 : decode cX13_nameHere 45 = .ok (.ifCond .eq 13, 3) := by decide +kernel
theorem dX13_nameHere_48 : decode cX13_nameHere 48 = .ok (.iload_n 2, 1) := by decide +kernel
theorem dX13_nameHere_49 : decode cX13_nameHere 49 = .ok (.iconst (-1), 1) := by decide +kernel
theorem dX13_nameHere_50 : decode cX13_nameHere 50 = .ok (.if_icmp .ne 8, 3) := by decide +kernel
theorem dX13_nameHere_53 : decode cX13_nameHere 53 = .ok (.aload_n 0, 1) := by decide +kernel
theorem dX13_nameHere_54 : decode cX13_nameHere 54 = .ok (.iconst 4, 1) := by decide +kernel
theorem dX13_nameHere_55 : decode cX13_nameHere 55 = .ok (.invokevirtual 124, 3) := by decide +kernel
theorem dX13_nameHere_58 : decode cX13_nameHere 58 = .ok (.aload_n 0, 1) := by decide +kernel
theorem dX13_nameHere_59 : decode cX13_nameHere 59 = .ok (.invokevirtual 117, 3) := by decide +kernel
theorem dX13_nameHere_62 : decode cX13_nameHere 62 = .ok (.ifCond .eq 7, 3) := by decide +kernel
theorem dX13_nameHere_65 : decode cX13_nameHere 65 = .ok (.aload_n 0, 1) := by decide +kernel
theorem dX13_nameHere_66 : decode cX13_nameHere 66 = .ok (.invokevirtual 127, 3) := by decide +kernel
theorem dX13_nameHere_69 : decode cX13_nameHere 69 = .ok (.iload_n 2, 1) := by decide +kernel
theorem dX13_nameHere_70 : decode cX13_nameHere 70 = .ok (.ireturn, 1) := by decide +kernel
theorem dX13_shoutLine_0 : decode cX13_shoutLine 0 = .ok (.aload_n 0, 1) := by decide +kernel
theorem dX13_shoutLine_1 : decode cX13_shoutLine 1 = .ok (.invokevirtual 127, 3) := by decide +kernel
theorem dX13_shoutLine_4 : decode cX13_shoutLine 4 = .ok (.aload_n 0, 1) := by decide +kernel
theorem dX13_shoutLine_5 : decode cX13_shoutLine 5 = .ok (.iconst 1, 1) := by decide +kernel
theorem dX13_shoutLine_6 : decode cX13_shoutLine 6 = .ok (.invokevirtual 362, 3) := by decide +kernel
theorem dX13_shoutLine_9 : decode cX13_shoutLine 9 = .ok (.istore_n 1, 1) := by decide +kernel
theorem dX13_shoutLine_10 : decode cX13_shoutLine 10 = .ok (.aload_n 0, 1) := by decide +kernel
theorem dX13_shoutLine_11 : decode cX13_shoutLine 11 = .ok (.iconst 0, 1) := by decide +kernel
theorem dX13_shoutLine_12 : decode cX13_shoutLine 12 = .ok (.invokevirtual 362, 3) := by decide +kernel
theorem dX13_shoutLine_15 : decode cX13_shoutLine 15 = .ok (.istore_n 2, 1) := by decide +kernel
theorem dX13_shoutLine_16 : decode cX13_shoutLine 16 = .ok (.aload_n 0, 1) := by decide +kernel
theorem dX13_shoutLine_17 : decode cX13_shoutLine 17 = .ok (.iconst 1, 1) := by decide +kernel
theorem dX13_shoutLine_18 : decode cX13_shoutLine 18 = .ok (.bipush 20, 2) := by decide +kernel
theorem dX13_shoutLine_20 : decode cX13_shoutLine 20 = .ok (.invokevirtual 356, 3) := by decide +kernel
theorem dX13_shoutLine_23 : decode cX13_shoutLine 23 = .ok (.istore_n 3, 1) := by decide +kernel
theorem dX13_shoutLine_24 : decode cX13_shoutLine 24 = .ok (.aload_n 0, 1) := by decide +kernel
theorem dX13_shoutLine_25 : decode cX13_shoutLine 25 = .ok (.iconst 1, 1) := by decide +kernel
theorem dX13_shoutLine_26 : decode cX13_shoutLine 26 = .ok (.iconst 4, 1) := by decide +kernel
theorem dX13_shoutLine_27 : decode cX13_shoutLine 27 = .ok (.invokevirtual 356, 3) := by decide +kernel
theorem dX13_shoutLine_30 : decode cX13_shoutLine 30 = .ok (.istore 4, 2) := by decide +kernel
theorem dX13_shoutLine_32 : decode cX13_shoutLine 32 = .ok (.aload_n 0, 1) := by decide +kernel
theorem dX13_shoutLine_33 : decode cX13_shoutLine 33 = .ok (.bipush 59, 2) := by decide +kernel
theorem dX13_shoutLine_35 : decode cX13_shoutLine 35 = .ok (.invokevirtual 121, 3) := by decide +kernel
theorem dX13_shoutLine_38 : decode cX13_shoutLine 38 = .ok (.ifCond .ne 4, 3) := by decide +kernel
theorem dX13_shoutLine_41 : decode cX13_shoutLine 41 = .ok (.return_, 1) := by decide +kernel
theorem dX13_shoutLine_42 : decode cX13_shoutLine 42 = .ok (.aload_n 0, 1) := by decide +kernel
theorem dX13_shoutLine_43 : decode cX13_shoutLine 43 = .ok (.iload_n 1, 1) := by decide +kernel
theorem dX13_shoutLine_44 : decode cX13_shoutLine 44 = .ok (.iload_n 2, 1) := by decide +kernel
theorem dX13_shoutLine_45 : decode cX13_shoutLine 45 = .ok (.iload 4, 2) := by decide +kernel
theorem dX13_shoutLine_47 : decode cX13_shoutLine 47 = .ok (.invokevirtual 319, 3) := by decide +kernel
theorem dX13_shoutLine_50 : decode cX13_shoutLine 50 = .ok (.ifCond .eq 12, 3) := by decide +kernel
theorem dX13_shoutLine_53 : decode cX13_shoutLine 53 = .ok (.aload_n 0, 1) := by decide +kernel
theorem dX13_shoutLine_54 : decode cX13_shoutLine 54 = .ok (.bipush 6, 2) := by decide +kernel
theorem dX13_shoutLine_56 : decode cX13_shoutLine 56 = .ok (.invokevirtual 124, 3) := by decide +kernel
theorem dX13_shoutLine_59 : decode cX13_shoutLine 59 = .ok (.goto 16, 3) := by decide +kernel
theorem dX13_shoutLine_62 : decode cX13_shoutLine 62 = .ok (.aload_n 0, 1) := by decide +kernel
theorem dX13_shoutLine_63 : decode cX13_shoutLine 63 = .ok (.aload_n 0, 1) := by decide +kernel
theorem dX13_shoutLine_64 : decode cX13_shoutLine 64 = .ok (.iload_n 1, 1) := by decide +kernel
theorem dX13_shoutLine_65 : decode cX13_shoutLine 65 = .ok (.iload_n 2, 1) := by decide +kernel
theorem dX13_shoutLine_66 : decode cX13_shoutLine 66 = .ok (.iload_n 3, 1) := by decide +kernel
theorem dX13_shoutLine_67 : decode cX13_shoutLine 67 = .ok (.iload 4, 2) := by decide +kernel
theorem dX13_shoutLine_69 : decode cX13_shoutLine 69 = .ok (.invokevirtual 327, 3) := by decide +kernel
theorem dX13_shoutLine_72 : decode cX13_shoutLine 72 = .ok (.putfield 216, 3) := by decide +kernel
theorem dX13_shoutLine_75 : decode cX13_shoutLine 75 = .ok (.return_, 1) := by decide +kernel
theorem dX13_valleyLine_0 : decode cX13_valleyLine 0 = .ok (.aload_n 0, 1) := by decide +kernel
theorem dX13_valleyLine_1 : decode cX13_valleyLine 1 = .ok (.invokevirtual 127, 3) := by decide +kernel
theorem dX13_valleyLine_4 : decode cX13_valleyLine 4 = .ok (.aload_n 0, 1) := by decide +kernel
theorem dX13_valleyLine_5 : decode cX13_valleyLine 5 = .ok (.iconst 0, 1) := by decide +kernel
theorem dX13_valleyLine_6 : decode cX13_valleyLine 6 = .ok (.invokevirtual 362, 3) := by decide +kernel
theorem dX13_valleyLine_9 : decode cX13_valleyLine 9 = .ok (.istore 4, 2) := by decide +kernel
theorem dX13_valleyLine_11 : decode cX13_valleyLine 11 = .ok (.aload_n 0, 1) := by decide +kernel
theorem dX13_valleyLine_12 : decode cX13_valleyLine 12 = .ok (.iload_n 2, 1) := by decide +kernel
theorem dX13_valleyLine_13 : decode cX13_valleyLine 13 = .ok (.iload_n 3, 1) := by decide +kernel
theorem dX13_valleyLine_14 : decode cX13_valleyLine 14 = .ok (.invokevirtual 356, 3) := by decide +kernel
theorem dX13_valleyLine_17 : decode cX13_valleyLine 17 = .ok (.istore 5, 2) := by decide +kernel
theorem dX13_valleyLine_19 : decode cX13_valleyLine 19 = .ok (.aload_n 0, 1) := by decide +kernel
theorem dX13_valleyLine_20 : decode cX13_valleyLine 20 = .ok (.invokevirtual 117, 3) := by decide +kernel
theorem dX13_valleyLine_23 : decode cX13_valleyLine 23 = .ok (.ifCond .eq 20, 3) := by decide +kernel
theorem dX13_valleyLine_26 : decode cX13_valleyLine 26 = .ok (.aload_n 0, 1) := by decide +kernel
theorem dX13_valleyLine_27 : decode cX13_valleyLine 27 = .ok (.aload_n 0, 1) := by decide +kernel
theorem dX13_valleyLine_28 : decode cX13_valleyLine 28 = .ok (.iload 4, 2) := by decide +kernel
theorem dX13_valleyLine_30 : decode cX13_valleyLine 30 = .ok (.invokestatic 157, 3) := by decide +kernel
theorem dX13_valleyLine_33 : decode cX13_valleyLine 33 = .ok (.iload_n 1, 1) := by decide +kernel
theorem dX13_valleyLine_34 : decode cX13_valleyLine 34 = .ok (.iadd, 1) := by decide +kernel
theorem dX13_valleyLine_35 : decode cX13_valleyLine 35 = .ok (.iload 5, 2) := by decide +kernel
theorem dX13_valleyLine_37 : decode cX13_valleyLine 37 = .ok (.invokevirtual 337, 3) := by decide +kernel
theorem dX13_valleyLine_40 : decode cX13_valleyLine 40 = .ok (.putfield 216, 3) := by decide +kernel
theorem dX13_valleyLine_43 : decode cX13_valleyLine 43 = .ok (.return_, 1) := by decide +kernel
theorem dX13_wellLine_0 : decode cX13_wellLine 0 = .ok (.aload_n 0, 1) := by decide +kernel
theorem dX13_wellLine_1 : decode cX13_wellLine 1 = .ok (.invokevirtual 127, 3) := by decide +kernel
theorem dX13_wellLine_4 : decode cX13_wellLine 4 = .ok (.aload_n 0, 1) := by decide +kernel
theorem dX13_wellLine_5 : decode cX13_wellLine 5 = .ok (.iconst 0, 1) := by decide +kernel
theorem dX13_wellLine_6 : decode cX13_wellLine 6 = .ok (.bipush 20, 2) := by decide +kernel
theorem dX13_wellLine_8 : decode cX13_wellLine 8 = .ok (.invokevirtual 356, 3) := by decide +kernel
theorem dX13_wellLine_11 : decode cX13_wellLine 11 = .ok (.istore_n 1, 1) := by decide +kernel
theorem dX13_wellLine_12 : decode cX13_wellLine 12 = .ok (.aload_n 0, 1) := by decide +kernel
theorem dX13_wellLine_13 : decode cX13_wellLine 13 = .ok (.invokevirtual 117, 3) := by decide +kernel
theorem dX13_wellLine_16 : decode cX13_wellLine 16 = .ok (.ifCond .eq 14, 3) := by decide +kernel
theorem dX13_wellLine_19 : decode cX13_wellLine 19 = .ok (.aload_n 0, 1) := by decide +kernel
theorem dX13_wellLine_20 : decode cX13_wellLine 20 = .ok (.aload_n 0, 1) := by decide +kernel
theorem dX13_wellLine_21 : decode cX13_wellLine 21 = .ok (.bipush 6, 2) := by decide +kernel
theorem dX13_wellLine_23 : decode cX13_wellLine 23 = .ok (.iload_n 1, 1) := by decide +kernel
theorem dX13_wellLine_24 : decode cX13_wellLine 24 = .ok (.invokevirtual 337, 3) := by decide +kernel
theorem dX13_wellLine_27 : decode cX13_wellLine 27 = .ok (.putfield 216, 3) := by decide +kernel
theorem dX13_wellLine_30 : decode cX13_wellLine 30 = .ok (.return_, 1) := by decide +kernel
theorem dX13_passLine_0 : decode cX13_passLine 0 = .ok (.aload_n 0, 1) := by decide +kernel
theorem dX13_passLine_1 : decode cX13_passLine 1 = .ok (.invokevirtual 127, 3) := by decide +kernel
theorem dX13_passLine_4 : decode cX13_passLine 4 = .ok (.aload_n 0, 1) := by decide +kernel
theorem dX13_passLine_5 : decode cX13_passLine 5 = .ok (.iconst 1, 1) := by decide +kernel
theorem dX13_passLine_6 : decode cX13_passLine 6 = .ok (.sipush 240, 3) := by decide +kernel
theorem dX13_passLine_9 : decode cX13_passLine 9 = .ok (.invokevirtual 134, 3) := by decide +kernel
theorem dX13_passLine_12 : decode cX13_passLine 12 = .ok (.istore_n 1, 1) := by decide +kernel
theorem dX13_passLine_13 : decode cX13_passLine 13 = .ok (.aload_n 0, 1) := by decide +kernel
theorem dX13_passLine_14 : decode cX13_passLine 14 = .ok (.invokevirtual 117, 3) := by decide +kernel
theorem dX13_passLine_17 : decode cX13_passLine 17 = .ok (.ifCond .eq 17, 3) := by decide +kernel
theorem dX13_passLine_20 : decode cX13_passLine 20 = .ok (.aload_n 0, 1) := by decide +kernel
theorem dX13_passLine_21 : decode cX13_passLine 21 = .ok (.iload_n 1, 1) := by decide +kernel
theorem dX13_passLine_22 : decode cX13_passLine 22 = .ok (.invokevirtual 343, 3) := by decide +kernel
theorem dX13_passLine_25 : decode cX13_passLine 25 = .ok (.ifCond .ne 9, 3) := by decide +kernel
theorem dX13_passLine_28 : decode cX13_passLine 28 = .ok (.aload_n 0, 1) := by decide +kernel
theorem dX13_passLine_29 : decode cX13_passLine 29 = .ok (.bipush 6, 2) := by decide +kernel
theorem dX13_passLine_31 : decode cX13_passLine 31 = .ok (.invokevirtual 124, 3) := by decide +kernel
theorem dX13_passLine_34 : decode cX13_passLine 34 = .ok (.aload_n 0, 1) := by decide +kernel
theorem dX13_passLine_35 : decode cX13_passLine 35 = .ok (.invokevirtual 117, 3) := by decide +kernel
theorem dX13_passLine_38 : decode cX13_passLine 38 = .ok (.ifCond .ne 4, 3) := by decide +kernel
theorem dX13_passLine_41 : decode cX13_passLine 41 = .ok (.return_, 1) := by decide +kernel
theorem dX13_passLine_42 : decode cX13_passLine 42 = .ok (.aload_n 0, 1) := by decide +kernel
theorem dX13_passLine_43 : decode cX13_passLine 43 = .ok (.aload_n 0, 1) := by decide +kernel
theorem dX13_passLine_44 : decode cX13_passLine 44 = .ok (.iload_n 1, 1) := by decide +kernel
theorem dX13_passLine_45 : decode cX13_passLine 45 = .ok (.invokevirtual 346, 3) := by decide +kernel
theorem dX13_passLine_48 : decode cX13_passLine 48 = .ok (.putfield 216, 3) := by decide +kernel
theorem dX13_passLine_51 : decode cX13_passLine 51 = .ok (.aload_n 0, 1) := by decide +kernel
theorem dX13_passLine_52 : decode cX13_passLine 52 = .ok (.invokevirtual 127, 3) := by decide +kernel
theorem dX13_passLine_55 : decode cX13_passLine 55 = .ok (.return_, 1) := by decide +kernel
theorem dX13_fakeLine_0 : decode cX13_fakeLine 0 = .ok (.aload_n 0, 1) := by decide +kernel
theorem dX13_fakeLine_1 : decode cX13_fakeLine 1 = .ok (.invokevirtual 127, 3) := by decide +kernel
theorem dX13_fakeLine_4 : decode cX13_fakeLine 4 = .ok (.aload_n 0, 1) := by decide +kernel
theorem dX13_fakeLine_5 : decode cX13_fakeLine 5 = .ok (.iconst 0, 1) := by decide +kernel
theorem dX13_fakeLine_6 : decode cX13_fakeLine 6 = .ok (.aload_n 0, 1) := by decide +kernel
theorem dX13_fakeLine_7 : decode cX13_fakeLine 7 = .ok (.getfield 20, 3) := by decide +kernel
theorem dX13_fakeLine_10 : decode cX13_fakeLine 10 = .ok (.iconst 2, 1) := by decide +kernel
theorem dX13_fakeLine_11 : decode cX13_fakeLine 11 = .ok (.iaload, 1) := by decide +kernel
theorem dX13_fakeLine_12 : decode cX13_fakeLine 12 = .ok (.iconst 1, 1) := by decide +kernel
theorem dX13_fakeLine_13 : decode cX13_fakeLine 13 = .ok (.isub, 1) := by decide +kernel
theorem dX13_fakeLine_14 : decode cX13_fakeLine 14 = .ok (.invokevirtual 134, 3) := by decide +kernel
theorem dX13_fakeLine_17 : decode cX13_fakeLine 17 = .ok (.istore_n 1, 1) := by decide +kernel
theorem dX13_fakeLine_18 : decode cX13_fakeLine 18 = .ok (.aload_n 0, 1) := by decide +kernel
theorem dX13_fakeLine_19 : decode cX13_fakeLine 19 = .ok (.invokevirtual 117, 3) := by decide +kernel
theorem dX13_fakeLine_22 : decode cX13_fakeLine 22 = .ok (.ifCond .eq 17, 3) := by decide +kernel
theorem dX13_fakeLine_25 : decode cX13_fakeLine 25 = .ok (.aload_n 0, 1) := by decide +kernel
theorem dX13_fakeLine_26 : decode cX13_fakeLine 26 = .ok (.iload_n 1, 1) := by decide +kernel
theorem dX13_fakeLine_27 : decode cX13_fakeLine 27 = .ok (.invokevirtual 210, 3) := by decide +kernel
theorem dX13_fakeLine_30 : decode cX13_fakeLine 30 = .ok (.ifCond .ne 9, 3) := by decide +kernel
theorem dX13_fakeLine_33 : decode cX13_fakeLine 33 = .ok (.aload_n 0, 1) := by decide +kernel
theorem dX13_fakeLine_34 : decode cX13_fakeLine 34 = .ok (.bipush 6, 2) := by decide +kernel
theorem dX13_fakeLine_36 : decode cX13_fakeLine 36 = .ok (.invokevirtual 124, 3) := by decide +kernel
theorem dX13_fakeLine_39 : decode cX13_fakeLine 39 = .ok (.aload_n 0, 1) := by decide +kernel
theorem dX13_fakeLine_40 : decode cX13_fakeLine 40 = .ok (.invokevirtual 117, 3) := by decide +kernel
theorem dX13_fakeLine_43 : decode cX13_fakeLine 43 = .ok (.ifCond .ne 4, 3) := by decide +kernel
theorem dX13_fakeLine_46 : decode cX13_fakeLine 46 = .ok (.return_, 1) := by decide +kernel
theorem dX13_fakeLine_47 : decode cX13_fakeLine 47 = .ok (.aload_n 0, 1) := by decide +kernel
theorem dX13_fakeLine_48 : decode cX13_fakeLine 48 = .ok (.aload_n 0, 1) := by decide +kernel
theorem dX13_fakeLine_49 : decode cX13_fakeLine 49 = .ok (.iload_n 1, 1) := by decide +kernel
theorem dX13_fakeLine_50 : decode cX13_fakeLine 50 = .ok (.invokevirtual 331, 3) := by decide +kernel
theorem dX13_fakeLine_53 : decode cX13_fakeLine 53 = .ok (.putfield 216, 3) := by decide +kernel
theorem dX13_fakeLine_56 : decode cX13_fakeLine 56 = .ok (.aload_n 0, 1) := by decide +kernel
theorem dX13_fakeLine_57 : decode cX13_fakeLine 57 = .ok (.invokevirtual 127, 3) := by decide +kernel
theorem dX13_fakeLine_60 : decode cX13_fakeLine 60 = .ok (.return_, 1) := by decide +kernel
theorem dX13_statement_0 : decode cX13_statement 0 = .ok (.aload_n 0, 1) := by decide +kernel
theorem dX13_statement_1 : decode cX13_statement 1 = .ok (.ldc2_w 365, 3) := by decide +kernel
theorem dX13_statement_4 : decode cX13_statement 4 = .ok (.invokevirtual 130, 3) := by decide +kernel
theorem dX13_statement_7 : decode cX13_statement 7 = .ok (.ifCond .eq 11, 3) := by decide +kernel
theorem dX13_statement_10 : decode cX13_statement 10 = .ok (.aload_n 0, 1) := by decide +kernel
theorem dX13_statement_11 : decode cX13_statement 11 = .ok (.iconst 0, 1) := by decide +kernel
theorem dX13_statement_12 : decode cX13_statement 12 = .ok (.invokevirtual 367, 3) := by decide +kernel
theorem dX13_statement_15 : decode cX13_statement 15 = .ok (.goto 136, 3) := by decide +kernel
theorem dX13_statement_18 : decode cX13_statement 18 = .ok (.aload_n 0, 1) := by decide +kernel
theorem dX13_statement_19 : decode cX13_statement 19 = .ok (.ldc2_w 370, 3) := by decide +kernel
theorem dX13_statement_22 : decode cX13_statement 22 = .ok (.invokevirtual 130, 3) := by decide +kernel
theorem dX13_statement_25 : decode cX13_statement 25 = .ok (.ifCond .eq 11, 3) := by decide +kernel
theorem dX13_statement_28 : decode cX13_statement 28 = .ok (.aload_n 0, 1) := by decide +kernel
theorem dX13_statement_29 : decode cX13_statement 29 = .ok (.iconst 1, 1) := by decide +kernel
theorem dX13_statement_30 : decode cX13_statement 30 = .ok (.invokevirtual 367, 3) := by decide +kernel
theorem dX13_statement_33 : decode cX13_statement 33 = .ok (.goto 118, 3) := by decide +kernel
theorem dX13_statement_36 : decode cX13_statement 36 = .ok (.aload_n 0, 1) := by decide +kernel
theorem dX13_statement_37 : decode cX13_statement 37 = .ok (.ldc2_w 372, 3) := by decide +kernel
theorem dX13_statement_40 : decode cX13_statement 40 = .ok (.invokevirtual 130, 3) := by decide +kernel
theorem dX13_statement_43 : decode cX13_statement 43 = .ok (.ifCond .eq 10, 3) := by decide +kernel
theorem dX13_statement_46 : decode cX13_statement 46 = .ok (.aload_n 0, 1) := by decide +kernel
theorem dX13_statement_47 : decode cX13_statement 47 = .ok (.invokevirtual 374, 3) := by decide +kernel
theorem dX13_statement_50 : decode cX13_statement 50 = .ok (.goto 101, 3) := by decide +kernel
theorem dX13_statement_53 : decode cX13_statement 53 = .ok (.aload_n 0, 1) := by decide +kernel
theorem dX13_statement_54 : decode cX13_statement 54 = .ok (.ldc2_w 377, 3) := by decide +kernel
theorem dX13_statement_57 : decode cX13_statement 57 = .ok (.invokevirtual 130, 3) := by decide +kernel
theorem dX13_statement_60 : decode cX13_statement 60 = .ok (.ifCond .eq 14, 3) := by decide +kernel
theorem dX13_statement_63 : decode cX13_statement 63 = .ok (.aload_n 0, 1) := by decide +kernel
theorem dX13_statement_64 : decode cX13_statement 64 = .ok (.iconst 3, 1) := by decide +kernel
theorem dX13_statement_65 : decode cX13_statement 65 = .ok (.iconst 0, 1) := by decide +kernel
theorem dX13_statement_66 : decode cX13_statement 66 = .ok (.bipush 9, 2) := by decide +kernel
theorem dX13_statement_68 : decode cX13_statement 68 = .ok (.invokevirtual 379, 3) := by decide +kernel
theorem dX13_statement_71 : decode cX13_statement 71 = .ok (.goto 80, 3) := by decide +kernel
theorem dX13_statement_74 : decode cX13_statement 74 = .ok (.aload_n 0, 1) := by decide +kernel
theorem dX13_statement_75 : decode cX13_statement 75 = .ok (.ldc2_w 383, 3) := by decide +kernel
theorem dX13_statement_78 : decode cX13_statement 78 = .ok (.invokevirtual 130, 3) := by decide +kernel
theorem dX13_statement_81 : decode cX13_statement 81 = .ok (.ifCond .eq 14, 3) := by decide +kernel
theorem dX13_statement_84 : decode cX13_statement 84 = .ok (.aload_n 0, 1) := by decide +kernel
theorem dX13_statement_85 : decode cX13_statement 85 = .ok (.iconst 2, 1) := by decide +kernel
theorem dX13_statement_86 : decode cX13_statement 86 = .ok (.iconst 1, 1) := by decide +kernel
theorem dX13_statement_87 : decode cX13_statement 87 = .ok (.bipush 99, 2) := by decide +kernel
theorem dX13_statement_89 : decode cX13_statement 89 = .ok (.invokevirtual 379, 3) := by decide +kernel
theorem dX13_statement_92 : decode cX13_statement 92 = .ok (.goto 59, 3) := by decide +kernel
theorem dX13_statement_95 : decode cX13_statement 95 = .ok (.aload_n 0, 1) := by decide +kernel
theorem dX13_statement_96 : decode cX13_statement 96 = .ok (.ldc2_w 385, 3) := by decide +kernel
theorem dX13_statement_99 : decode cX13_statement 99 = .ok (.invokevirtual 130, 3) := by decide +kernel
theorem dX13_statement_102 : decode cX13_statement 102 = .ok (.ifCond .eq 10, 3) := by decide +kernel
theorem dX13_statement_105 : decode cX13_statement 105 = .ok (.aload_n 0, 1) := by decide +kernel
theorem dX13_statement_106 : decode cX13_statement 106 = .ok (.invokevirtual 387, 3) := by decide +kernel
theorem dX13_statement_109 : decode cX13_statement 109 = .ok (.goto 42, 3) := by decide +kernel
theorem dX13_statement_112 : decode cX13_statement 112 = .ok (.aload_n 0, 1) := by decide +kernel
theorem dX13_statement_113 : decode cX13_statement 113 = .ok (.ldc2_w 390, 3) := by decide +kernel
theorem dX13_statement_116 : decode cX13_statement 116 = .ok (.invokevirtual 130, 3) := by decide +kernel
theorem dX13_statement_119 : decode cX13_statement 119 = .ok (.ifCond .eq 10, 3) := by decide +kernel
theorem dX13_statement_122 : decode cX13_statement 122 = .ok (.aload_n 0, 1) := by decide +kernel
theorem dX13_statement_123 : decode cX13_statement 123 = .ok (.invokevirtual 392, 3) := by decide +kernel
theorem dX13_statement_126 : decode cX13_statement 126 = .ok (.goto 25, 3) := by decide +kernel
theorem dX13_statement_129 : decode cX13_statement 129 = .ok (.aload_n 0, 1) := by decide +kernel
theorem dX13_statement_130 : decode cX13_statement 130 = .ok (.ldc2_w 395, 3) := by decide +kernel
theorem dX13_statement_133 : decode cX13_statement 133 = .ok (.invokevirtual 130, 3) := by decide +kernel
theorem dX13_statement_136 : decode cX13_statement 136 = .ok (.ifCond .eq 10, 3) := by decide +kernel
theorem dX13_statement_139 : decode cX13_statement 139 = .ok (.aload_n 0, 1) := by decide +kernel
theorem dX13_statement_140 : decode cX13_statement 140 = .ok (.invokevirtual 397, 3) := by decide +kernel
theorem dX13_statement_143 : decode cX13_statement 143 = .ok (.goto 8, 3) := by decide +kernel
theorem dX13_statement_146 : decode cX13_statement 146 = .ok (.aload_n 0, 1) := by decide +kernel
theorem dX13_statement_147 : decode cX13_statement 147 = .ok (.iconst 1, 1) := by decide +kernel
theorem dX13_statement_148 : decode cX13_statement 148 = .ok (.invokevirtual 124, 3) := by decide +kernel
theorem dX13_statement_151 : decode cX13_statement 151 = .ok (.return_, 1) := by decide +kernel
theorem dX13_readText_0 : decode cX13_readText 0 = .ok (.aload_n 0, 1) := by decide +kernel
theorem dX13_readText_1 : decode cX13_readText 1 = .ok (.invokevirtual 290, 3) := by decide +kernel
theorem dX13_readText_4 : decode cX13_readText 4 = .ok (.aload_n 0, 1) := by decide +kernel
theorem dX13_readText_5 : decode cX13_readText 5 = .ok (.invokevirtual 400, 3) := by decide +kernel
theorem dX13_readText_8 : decode cX13_readText 8 = .ok (.aload_n 0, 1) := by decide +kernel
theorem dX13_readText_9 : decode cX13_readText 9 = .ok (.invokevirtual 59, 3) := by decide +kernel
theorem dX13_readText_12 : decode cX13_readText 12 = .ok (.aload_n 0, 1) := by decide +kernel
theorem dX13_readText_13 : decode cX13_readText 13 = .ok (.ldc2_w 403, 3) := by decide +kernel
theorem dX13_readText_16 : decode cX13_readText 16 = .ok (.invokevirtual 405, 3) := by decide +kernel
theorem dX13_readText_19 : decode cX13_readText 19 = .ok (.aload_n 0, 1) := by decide +kernel
theorem dX13_readText_20 : decode cX13_readText 20 = .ok (.bipush 59, 2) := by decide +kernel
theorem dX13_readText_22 : decode cX13_readText 22 = .ok (.invokevirtual 408, 3) := by decide +kernel
theorem dX13_readText_25 : decode cX13_readText 25 = .ok (.aload_n 0, 1) := by decide +kernel
theorem dX13_readText_26 : decode cX13_readText 26 = .ok (.invokevirtual 117, 3) := by decide +kernel
theorem dX13_readText_29 : decode cX13_readText 29 = .ok (.ifCond .eq 23, 3) := by decide +kernel
theorem dX13_readText_32 : decode cX13_readText 32 = .ok (.aload_n 0, 1) := by decide +kernel
theorem dX13_readText_33 : decode cX13_readText 33 = .ok (.getfield 104, 3) := by decide +kernel
theorem dX13_readText_36 : decode cX13_readText 36 = .ok (.ifCond .eq 16, 3) := by decide +kernel
theorem dX13_readText_39 : decode cX13_readText 39 = .ok (.aload_n 0, 1) := by decide +kernel
theorem dX13_readText_40 : decode cX13_readText 40 = .ok (.invokevirtual 411, 3) := by decide +kernel
theorem dX13_readText_43 : decode cX13_readText 43 = .ok (.aload_n 0, 1) := by decide +kernel
theorem dX13_readText_44 : decode cX13_readText 44 = .ok (.bipush 59, 2) := by decide +kernel
theorem dX13_readText_46 : decode cX13_readText 46 = .ok (.invokevirtual 408, 3) := by decide +kernel
theorem dX13_readText_49 : decode cX13_readText 49 = .ok (.goto (-24), 3) := by decide +kernel
theorem dX13_readText_52 : decode cX13_readText 52 = .ok (.aload_n 0, 1) := by decide +kernel
theorem dX13_readText_53 : decode cX13_readText 53 = .ok (.invokevirtual 414, 3) := by decide +kernel
theorem dX13_readText_56 : decode cX13_readText 56 = .ok (.ifCond .ne 9, 3) := by decide +kernel
theorem dX13_readText_59 : decode cX13_readText 59 = .ok (.aload_n 0, 1) := by decide +kernel
theorem dX13_readText_60 : decode cX13_readText 60 = .ok (.invokevirtual 417, 3) := by decide +kernel
theorem dX13_readText_63 : decode cX13_readText 63 = .ok (.iconst 0, 1) := by decide +kernel
theorem dX13_readText_64 : decode cX13_readText 64 = .ok (.ireturn, 1) := by decide +kernel
theorem dX13_readText_65 : decode cX13_readText 65 = .ok (.aload_n 0, 1) := by decide +kernel
theorem dX13_readText_66 : decode cX13_readText 66 = .ok (.iconst 0, 1) := by decide +kernel
theorem dX13_readText_67 : decode cX13_readText 67 = .ok (.putfield 147, 3) := by decide +kernel
theorem dX13_readText_70 : decode cX13_readText 70 = .ok (.aload_n 0, 1) := by decide +kernel
theorem dX13_readText_71 : decode cX13_readText 71 = .ok (.getfield 20, 3) := by decide +kernel
theorem dX13_readText_74 : decode cX13_readText 74 = .ok (.iconst 2, 1) := by decide +kernel
theorem dX13_readText_75 : decode cX13_readText 75 = .ok (.iaload, 1) := by decide +kernel
theorem dX13_readText_76 : decode cX13_readText 76 = .ok (.ireturn, 1) := by decide +kernel
theorem dX13_told_0 : decode cX13_told 0 = .ok (.aload_n 0, 1) := by decide +kernel
theorem dX13_told_1 : decode cX13_told 1 = .ok (.iconst 0, 1) := by decide +kernel
theorem dX13_told_2 : decode cX13_told 2 = .ok (.putfield 62, 3) := by decide +kernel
theorem dX13_told_5 : decode cX13_told 5 = .ok (.iload_n 1, 1) := by decide +kernel
theorem dX13_told_6 : decode cX13_told 6 = .ok (.ireturn, 1) := by decide +kernel
theorem dX13_valleyCount_0 : decode cX13_valleyCount 0 = .ok (.aload_n 0, 1) := by decide +kernel
theorem dX13_valleyCount_1 : decode cX13_valleyCount 1 = .ok (.aload_n 0, 1) := by decide +kernel
theorem dX13_valleyCount_2 : decode cX13_valleyCount 2 = .ok (.getfield 20, 3) := by decide +kernel
theorem dX13_valleyCount_5 : decode cX13_valleyCount 5 = .ok (.iconst 0, 1) := by decide +kernel
theorem dX13_valleyCount_6 : decode cX13_valleyCount 6 = .ok (.iaload, 1) := by decide +kernel
theorem dX13_valleyCount_7 : decode cX13_valleyCount 7 = .ok (.invokevirtual 420, 3) := by decide +kernel
theorem dX13_valleyCount_10 : decode cX13_valleyCount 10 = .ok (.ireturn, 1) := by decide +kernel
theorem dX13_customerCount_0 : decode cX13_customerCount 0 = .ok (.aload_n 0, 1) := by decide +kernel
theorem dX13_customerCount_1 : decode cX13_customerCount 1 = .ok (.aload_n 0, 1) := by decide +kernel
theorem dX13_customerCount_2 : decode cX13_customerCount 2 = .ok (.getfield 20, 3) := by decide +kernel
theorem dX13_customerCount_5 : decode cX13_customerCount 5 = .ok (.iconst 1, 1) := by decide +kernel
theorem dX13_customerCount_6 : decode cX13_customerCount 6 = .ok (.iaload, 1) := by decide +kernel
theorem dX13_customerCount_7 : decode cX13_customerCount 7 = .ok (.invokevirtual 420, 3) := by decide +kernel
theorem dX13_customerCount_10 : decode cX13_customerCount 10 = .ok (.ireturn, 1) := by decide +kernel
theorem dX13_shoutCount_0 : decode cX13_shoutCount 0 = .ok (.aload_n 0, 1) := by decide +kernel
theorem dX13_shoutCount_1 : decode cX13_shoutCount 1 = .ok (.aload_n 0, 1) := by decide +kernel
theorem dX13_shoutCount_2 : decode cX13_shoutCount 2 = .ok (.getfield 20, 3) := by decide +kernel
theorem dX13_shoutCount_5 : decode cX13_shoutCount 5 = .ok (.iconst 2, 1) := by decide +kernel
theorem dX13_shoutCount_6 : decode cX13_shoutCount 6 = .ok (.iaload, 1) := by decide +kernel
theorem dX13_shoutCount_7 : decode cX13_shoutCount 7 = .ok (.invokevirtual 420, 3) := by decide +kernel
theorem dX13_shoutCount_10 : decode cX13_shoutCount 10 = .ok (.ireturn, 1) := by decide +kernel
theorem dX13_time_0 : decode cX13_time 0 = .ok (.aload_n 0, 1) := by decide +kernel
theorem dX13_time_1 : decode cX13_time 1 = .ok (.aload_n 0, 1) := by decide +kernel
theorem dX13_time_2 : decode cX13_time 2 = .ok (.getfield 20, 3) := by decide +kernel
theorem dX13_time_5 : decode cX13_time 5 = .ok (.iconst 3, 1) := by decide +kernel
theorem dX13_time_6 : decode cX13_time 6 = .ok (.iaload, 1) := by decide +kernel
theorem dX13_time_7 : decode cX13_time 7 = .ok (.invokevirtual 420, 3) := by decide +kernel
theorem dX13_time_10 : decode cX13_time 10 = .ok (.ireturn, 1) := by decide +kernel
theorem dX13_earned_0 : decode cX13_earned 0 = .ok (.aload_n 0, 1) := by decide +kernel
theorem dX13_earned_1 : decode cX13_earned 1 = .ok (.aload_n 0, 1) := by decide +kernel
theorem dX13_earned_2 : decode cX13_earned 2 = .ok (.getfield 20, 3) := by decide +kernel
theorem dX13_earned_5 : decode cX13_earned 5 = .ok (.iconst 4, 1) := by decide +kernel
theorem dX13_earned_6 : decode cX13_earned 6 = .ok (.iaload, 1) := by decide +kernel
theorem dX13_earned_7 : decode cX13_earned 7 = .ok (.invokevirtual 420, 3) := by decide +kernel
theorem dX13_earned_10 : decode cX13_earned 10 = .ok (.ireturn, 1) := by decide +kernel
theorem dX13_refunded_0 : decode cX13_refunded 0 = .ok (.aload_n 0, 1) := by decide +kernel
theorem dX13_refunded_1 : decode cX13_refunded 1 = .ok (.aload_n 0, 1) := by decide +kernel
theorem dX13_refunded_2 : decode cX13_refunded 2 = .ok (.getfield 20, 3) := by decide +kernel
theorem dX13_refunded_5 : decode cX13_refunded 5 = .ok (.iconst 5, 1) := by decide +kernel
theorem dX13_refunded_6 : decode cX13_refunded 6 = .ok (.iaload, 1) := by decide +kernel
theorem dX13_refunded_7 : decode cX13_refunded 7 = .ok (.invokevirtual 420, 3) := by decide +kernel
theorem dX13_refunded_10 : decode cX13_refunded 10 = .ok (.ireturn, 1) := by decide +kernel
theorem dX13_held_0 : decode cX13_held 0 = .ok (.aload_n 0, 1) := by decide +kernel
theorem dX13_held_1 : decode cX13_held 1 = .ok (.aload_n 0, 1) := by decide +kernel
theorem dX13_held_2 : decode cX13_held 2 = .ok (.invokevirtual 423, 3) := by decide +kernel
theorem dX13_held_5 : decode cX13_held 5 = .ok (.invokevirtual 420, 3) := by decide +kernel
theorem dX13_held_8 : decode cX13_held 8 = .ok (.ireturn, 1) := by decide +kernel
theorem dX13_wellDepth_0 : decode cX13_wellDepth 0 = .ok (.aload_n 0, 1) := by decide +kernel
theorem dX13_wellDepth_1 : decode cX13_wellDepth 1 = .ok (.aload_n 0, 1) := by decide +kernel
theorem dX13_wellDepth_2 : decode cX13_wellDepth 2 = .ok (.getfield 20, 3) := by decide +kernel
theorem dX13_wellDepth_5 : decode cX13_wellDepth 5 = .ok (.bipush 6, 2) := by decide +kernel
theorem dX13_wellDepth_7 : decode cX13_wellDepth 7 = .ok (.iaload, 1) := by decide +kernel
theorem dX13_wellDepth_8 : decode cX13_wellDepth 8 = .ok (.invokevirtual 420, 3) := by decide +kernel
theorem dX13_wellDepth_11 : decode cX13_wellDepth 11 = .ok (.ireturn, 1) := by decide +kernel
theorem dX13_openShouts_0 : decode cX13_openShouts 0 = .ok (.iconst 0, 1) := by decide +kernel
theorem dX13_openShouts_1 : decode cX13_openShouts 1 = .ok (.istore_n 1, 1) := by decide +kernel
theorem dX13_openShouts_2 : decode cX13_openShouts 2 = .ok (.iconst 0, 1) := by decide +kernel
theorem dX13_openShouts_3 : decode cX13_openShouts 3 = .ok (.istore_n 2, 1) := by decide +kernel
theorem dX13_openShouts_4 : decode cX13_openShouts 4 = .ok (.iload_n 2, 1) := by decide +kernel
theorem dX13_openShouts_5 : decode cX13_openShouts 5 = .ok (.aload_n 0, 1) := by decide +kernel
theorem dX13_openShouts_6 : decode cX13_openShouts 6 = .ok (.getfield 20, 3) := by decide +kernel
theorem dX13_openShouts_9 : decode cX13_openShouts 9 = .ok (.iconst 2, 1) := by decide +kernel
theorem dX13_openShouts_10 : decode cX13_openShouts 10 = .ok (.iaload, 1) := by decide +kernel
theorem dX13_openShouts_11 : decode cX13_openShouts 11 = .ok (.if_icmp .ge 20, 3) := by decide +kernel
theorem dX13_openShouts_14 : decode cX13_openShouts 14 = .ok (.iload_n 1, 1) := by decide +kernel
theorem dX13_openShouts_15 : decode cX13_openShouts 15 = .ok (.aload_n 0, 1) := by decide +kernel
theorem dX13_openShouts_16 : decode cX13_openShouts 16 = .ok (.iload_n 2, 1) := by decide +kernel
theorem dX13_openShouts_17 : decode cX13_openShouts 17 = .ok (.invokevirtual 210, 3) := by decide +kernel
theorem dX13_openShouts_20 : decode cX13_openShouts 20 = .ok (.invokestatic 65, 3) := by decide +kernel
theorem dX13_openShouts_23 : decode cX13_openShouts 23 = .ok (.iadd, 1) := by decide +kernel
theorem dX13_openShouts_24 : decode cX13_openShouts 24 = .ok (.istore_n 1, 1) := by decide +kernel
theorem dX13_openShouts_25 : decode cX13_openShouts 25 = .ok (.iinc 2 1, 3) := by decide +kernel
theorem dX13_openShouts_28 : decode cX13_openShouts 28 = .ok (.goto (-24), 3) := by decide +kernel
theorem dX13_openShouts_31 : decode cX13_openShouts 31 = .ok (.aload_n 0, 1) := by decide +kernel
theorem dX13_openShouts_32 : decode cX13_openShouts 32 = .ok (.iload_n 1, 1) := by decide +kernel
theorem dX13_openShouts_33 : decode cX13_openShouts 33 = .ok (.invokevirtual 420, 3) := by decide +kernel
theorem dX13_openShouts_36 : decode cX13_openShouts 36 = .ok (.ireturn, 1) := by decide +kernel
theorem dX13_lengthOf_0 : decode cX13_lengthOf 0 = .ok (.iconst 0, 1) := by decide +kernel
theorem dX13_lengthOf_1 : decode cX13_lengthOf 1 = .ok (.istore_n 2, 1) := by decide +kernel
theorem dX13_lengthOf_2 : decode cX13_lengthOf 2 = .ok (.lload_n 0, 1) := by decide +kernel
theorem dX13_lengthOf_3 : decode cX13_lengthOf 3 = .ok (.lstore_n 3, 1) := by decide +kernel
theorem dX13_lengthOf_4 : decode cX13_lengthOf 4 = .ok (.lload_n 3, 1) := by decide +kernel
theorem dX13_lengthOf_5 : decode cX13_lengthOf 5 = .ok (.lconst 0, 1) := by decide +kernel
theorem dX13_lengthOf_6 : decode cX13_lengthOf 6 = .ok (.lcmp, 1) := by decide +kernel
theorem dX13_lengthOf_7 : decode cX13_lengthOf 7 = .ok (.ifCond .le 13, 3) := by decide +kernel
theorem dX13_lengthOf_10 : decode cX13_lengthOf 10 = .ok (.iinc 2 1, 3) := by decide +kernel
theorem dX13_lengthOf_13 : decode cX13_lengthOf 13 = .ok (.lload_n 3, 1) := by decide +kernel
theorem dX13_lengthOf_14 : decode cX13_lengthOf 14 = .ok (.iconst 5, 1) := by decide +kernel
theorem dX13_lengthOf_15 : decode cX13_lengthOf 15 = .ok (.lshr, 1) := by decide +kernel
theorem dX13_lengthOf_16 : decode cX13_lengthOf 16 = .ok (.lstore_n 3, 1) := by decide +kernel
theorem dX13_lengthOf_17 : decode cX13_lengthOf 17 = .ok (.goto (-13), 3) := by decide +kernel
theorem dX13_lengthOf_20 : decode cX13_lengthOf 20 = .ok (.iload_n 2, 1) := by decide +kernel
theorem dX13_lengthOf_21 : decode cX13_lengthOf 21 = .ok (.ireturn, 1) := by decide +kernel
theorem dX13_letterAt_0 : decode cX13_letterAt 0 = .ok (.lload_n 0, 1) := by decide +kernel
theorem dX13_letterAt_1 : decode cX13_letterAt 1 = .ok (.invokestatic 426, 3) := by decide +kernel
theorem dX13_letterAt_4 : decode cX13_letterAt 4 = .ok (.istore_n 3, 1) := by decide +kernel
theorem dX13_letterAt_5 : decode cX13_letterAt 5 = .ok (.iload_n 2, 1) := by decide +kernel
theorem dX13_letterAt_6 : decode cX13_letterAt 6 = .ok (.i2l, 1) := by decide +kernel
theorem dX13_letterAt_7 : decode cX13_letterAt 7 = .ok (.lconst 0, 1) := by decide +kernel
theorem dX13_letterAt_8 : decode cX13_letterAt 8 = .ok (.iload_n 3, 1) := by decide +kernel
theorem dX13_letterAt_9 : decode cX13_letterAt 9 = .ok (.iconst 1, 1) := by decide +kernel
theorem dX13_letterAt_10 : decode cX13_letterAt 10 = .ok (.isub, 1) := by decide +kernel
theorem dX13_letterAt_11 : decode cX13_letterAt 11 = .ok (.i2l, 1) := by decide +kernel
theorem dX13_letterAt_12 : decode cX13_letterAt 12 = .ok (.invokestatic 80, 3) := by decide +kernel
theorem dX13_letterAt_15 : decode cX13_letterAt 15 = .ok (.ifCond .ne 5, 3) := by decide +kernel
theorem dX13_letterAt_18 : decode cX13_letterAt 18 = .ok (.iconst (-1), 1) := by decide +kernel
theorem dX13_letterAt_19 : decode cX13_letterAt 19 = .ok (.ireturn, 1) := by decide +kernel
theorem dX13_letterAt_20 : decode cX13_letterAt 20 = .ok (.bipush 96, 2) := by decide +kernel
theorem dX13_letterAt_22 : decode cX13_letterAt 22 = .ok (.lload_n 0, 1) := by decide +kernel
theorem dX13_letterAt_23 : decode cX13_letterAt 23 = .ok (.iconst 5, 1) := by decide +kernel
theorem dX13_letterAt_24 : decode cX13_letterAt 24 = .ok (.iload_n 3, 1) := by decide +kernel
theorem dX13_letterAt_25 : decode cX13_letterAt 25 = .ok (.iconst 1, 1) := by decide +kernel
theorem dX13_letterAt_26 : decode cX13_letterAt 26 = .ok (.isub, 1) := by decide +kernel
theorem dX13_letterAt_27 : decode cX13_letterAt 27 = .ok (.iload_n 2, 1) := by decide +kernel
theorem dX13_letterAt_28 : decode cX13_letterAt 28 = .ok (.isub, 1) := by decide +kernel
theorem dX13_letterAt_29 : decode cX13_letterAt 29 = .ok (.imul, 1) := by decide +kernel
theorem dX13_letterAt_30 : decode cX13_letterAt 30 = .ok (.lshr, 1) := by decide +kernel
theorem dX13_letterAt_31 : decode cX13_letterAt 31 = .ok (.ldc2_w 430, 3) := by decide +kernel
theorem dX13_letterAt_34 : decode cX13_letterAt 34 = .ok (.land, 1) := by decide +kernel
theorem dX13_letterAt_35 : decode cX13_letterAt 35 = .ok (.l2i, 1) := by decide +kernel
theorem dX13_letterAt_36 : decode cX13_letterAt 36 = .ok (.iadd, 1) := by decide +kernel
theorem dX13_letterAt_37 : decode cX13_letterAt 37 = .ok (.ireturn, 1) := by decide +kernel
theorem dX13_valleyByte_0 : decode cX13_valleyByte 0 = .ok (.aload_n 0, 1) := by decide +kernel
theorem dX13_valleyByte_1 : decode cX13_valleyByte 1 = .ok (.aload_n 0, 1) := by decide +kernel
theorem dX13_valleyByte_2 : decode cX13_valleyByte 2 = .ok (.iload_n 1, 1) := by decide +kernel
theorem dX13_valleyByte_3 : decode cX13_valleyByte 3 = .ok (.invokevirtual 313, 3) := by decide +kernel
theorem dX13_valleyByte_6 : decode cX13_valleyByte 6 = .ok (.invokevirtual 72, 3) := by decide +kernel
theorem dX13_valleyByte_9 : decode cX13_valleyByte 9 = .ok (.ifCond .eq 19, 3) := by decide +kernel
theorem dX13_valleyByte_12 : decode cX13_valleyByte 12 = .ok (.aload_n 0, 1) := by decide +kernel
theorem dX13_valleyByte_13 : decode cX13_valleyByte 13 = .ok (.iconst 0, 1) := by decide +kernel
theorem dX13_valleyByte_14 : decode cX13_valleyByte 14 = .ok (.iload_n 1, 1) := by decide +kernel
theorem dX13_valleyByte_15 : decode cX13_valleyByte 15 = .ok (.invokestatic 174, 3) := by decide +kernel
theorem dX13_valleyByte_18 : decode cX13_valleyByte 18 = .ok (.invokevirtual 177, 3) := by decide +kernel
theorem dX13_valleyByte_21 : decode cX13_valleyByte 21 = .ok (.iload_n 2, 1) := by decide +kernel
theorem dX13_valleyByte_22 : decode cX13_valleyByte 22 = .ok (.invokestatic 432, 3) := by decide +kernel
theorem dX13_valleyByte_25 : decode cX13_valleyByte 25 = .ok (.goto 4, 3) := by decide +kernel
theorem dX13_valleyByte_28 : decode cX13_valleyByte 28 = .ok (.iconst 0, 1) := by decide +kernel
theorem dX13_valleyByte_29 : decode cX13_valleyByte 29 = .ok (.ireturn, 1) := by decide +kernel
theorem dX13_findValley_0 : decode cX13_findValley 0 = .ok (.aload_n 0, 1) := by decide +kernel
theorem dX13_findValley_1 : decode cX13_findValley 1 = .ok (.aload_n 0, 1) := by decide +kernel
theorem dX13_findValley_2 : decode cX13_findValley 2 = .ok (.iconst 0, 1) := by decide +kernel
theorem dX13_findValley_3 : decode cX13_findValley 3 = .ok (.aload_n 0, 1) := by decide +kernel
theorem dX13_findValley_4 : decode cX13_findValley 4 = .ok (.invokevirtual 269, 3) := by decide +kernel
theorem dX13_findValley_7 : decode cX13_findValley 7 = .ok (.invokevirtual 265, 3) := by decide +kernel
theorem dX13_findValley_10 : decode cX13_findValley 10 = .ok (.invokevirtual 420, 3) := by decide +kernel
theorem dX13_findValley_13 : decode cX13_findValley 13 = .ok (.ireturn, 1) := by decide +kernel
theorem dX13_inValley_0 : decode cX13_inValley 0 = .ok (.aload_n 0, 1) := by decide +kernel
theorem dX13_inValley_1 : decode cX13_inValley 1 = .ok (.aload_n 0, 1) := by decide +kernel
theorem dX13_inValley_2 : decode cX13_inValley 2 = .ok (.iload_n 1, 1) := by decide +kernel
theorem dX13_inValley_3 : decode cX13_inValley 3 = .ok (.invokevirtual 313, 3) := by decide +kernel
theorem dX13_inValley_6 : decode cX13_inValley 6 = .ok (.invokevirtual 72, 3) := by decide +kernel
theorem dX13_inValley_9 : decode cX13_inValley 9 = .ok (.ifCond .eq 12, 3) := by decide +kernel
theorem dX13_inValley_12 : decode cX13_inValley 12 = .ok (.aload_n 0, 1) := by decide +kernel
theorem dX13_inValley_13 : decode cX13_inValley 13 = .ok (.iload_n 1, 1) := by decide +kernel
theorem dX13_inValley_14 : decode cX13_inValley 14 = .ok (.iload_n 2, 1) := by decide +kernel
theorem dX13_inValley_15 : decode cX13_inValley 15 = .ok (.invokevirtual 190, 3) := by decide +kernel
theorem dX13_inValley_18 : decode cX13_inValley 18 = .ok (.goto 4, 3) := by decide +kernel
theorem dX13_inValley_21 : decode cX13_inValley 21 = .ok (.iconst 0, 1) := by decide +kernel
theorem dX13_inValley_22 : decode cX13_inValley 22 = .ok (.ireturn, 1) := by decide +kernel
theorem dX13_width_0 : decode cX13_width 0 = .ok (.aload_n 0, 1) := by decide +kernel
theorem dX13_width_1 : decode cX13_width 1 = .ok (.iload_n 1, 1) := by decide +kernel
theorem dX13_width_2 : decode cX13_width 2 = .ok (.iconst 0, 1) := by decide +kernel
theorem dX13_width_3 : decode cX13_width 3 = .ok (.invokevirtual 436, 3) := by decide +kernel
theorem dX13_width_6 : decode cX13_width 6 = .ok (.ireturn, 1) := by decide +kernel
theorem dX13_walls_0 : decode cX13_walls 0 = .ok (.aload_n 0, 1) := by decide +kernel
theorem dX13_walls_1 : decode cX13_walls 1 = .ok (.iload_n 1, 1) := by decide +kernel
theorem dX13_walls_2 : decode cX13_walls 2 = .ok (.iconst 1, 1) := by decide +kernel
theorem dX13_walls_3 : decode cX13_walls 3 = .ok (.invokevirtual 436, 3) := by decide +kernel
theorem dX13_walls_6 : decode cX13_walls 6 = .ok (.ireturn, 1) := by decide +kernel
theorem dX13_price_0 : decode cX13_price 0 = .ok (.aload_n 0, 1) := by decide +kernel
theorem dX13_price_1 : decode cX13_price 1 = .ok (.iload_n 1, 1) := by decide +kernel
theorem dX13_price_2 : decode cX13_price 2 = .ok (.iconst 2, 1) := by decide +kernel
theorem dX13_price_3 : decode cX13_price 3 = .ok (.invokevirtual 436, 3) := by decide +kernel
theorem dX13_price_6 : decode cX13_price 6 = .ok (.ireturn, 1) := by decide +kernel
theorem dX13_rating_0 : decode cX13_rating 0 = .ok (.aload_n 0, 1) := by decide +kernel
theorem dX13_rating_1 : decode cX13_rating 1 = .ok (.iload_n 1, 1) := by decide +kernel
theorem dX13_rating_2 : decode cX13_rating 2 = .ok (.iconst 4, 1) := by decide +kernel
theorem dX13_rating_3 : decode cX13_rating 3 = .ok (.invokevirtual 436, 3) := by decide +kernel
theorem dX13_rating_6 : decode cX13_rating 6 = .ok (.ireturn, 1) := by decide +kernel
theorem dX13_echoesLost_0 : decode cX13_echoesLost 0 = .ok (.aload_n 0, 1) := by decide +kernel
theorem dX13_echoesLost_1 : decode cX13_echoesLost 1 = .ok (.iload_n 1, 1) := by decide +kernel
theorem dX13_echoesLost_2 : decode cX13_echoesLost 2 = .ok (.iconst 5, 1) := by decide +kernel
theorem dX13_echoesLost_3 : decode cX13_echoesLost 3 = .ok (.invokevirtual 436, 3) := by decide +kernel
theorem dX13_echoesLost_6 : decode cX13_echoesLost 6 = .ok (.ireturn, 1) := by decide +kernel
theorem dX13_earnedOf_0 : decode cX13_earnedOf 0 = .ok (.iconst 0, 1) := by decide +kernel
theorem dX13_earnedOf_1 : decode cX13_earnedOf 1 = .ok (.istore_n 2, 1) := by decide +kernel
theorem dX13_earnedOf_2 : decode cX13_earnedOf 2 = .ok (.iconst 0, 1) := by decide +kernel
theorem dX13_earnedOf_3 : decode cX13_earnedOf 3 = .ok (.istore_n 3, 1) := by decide +kernel
theorem dX13_earnedOf_4 : decode cX13_earnedOf 4 = .ok (.iload_n 3, 1) := by decide +kernel
theorem dX13_earnedOf_5 : decode cX13_earnedOf 5 = .ok (.aload_n 0, 1) := by decide +kernel
theorem dX13_earnedOf_6 : decode cX13_earnedOf 6 = .ok (.getfield 20, 3) := by decide +kernel
theorem dX13_earnedOf_9 : decode cX13_earnedOf 9 = .ok (.iconst 2, 1) := by decide +kernel
theorem dX13_earnedOf_10 : decode cX13_earnedOf 10 = .ok (.iaload, 1) := by decide +kernel
theorem dX13_earnedOf_11 : decode cX13_earnedOf 11 = .ok (.if_icmp .ge 31, 3) := by decide +kernel
theorem dX13_earnedOf_14 : decode cX13_earnedOf 14 = .ok (.iload_n 2, 1) := by decide +kernel
theorem dX13_earnedOf_15 : decode cX13_earnedOf 15 = .ok (.aload_n 0, 1) := by decide +kernel
theorem dX13_earnedOf_16 : decode cX13_earnedOf 16 = .ok (.iload_n 3, 1) := by decide +kernel
theorem dX13_earnedOf_17 : decode cX13_earnedOf 17 = .ok (.iconst 1, 1) := by decide +kernel
theorem dX13_earnedOf_18 : decode cX13_earnedOf 18 = .ok (.invokevirtual 169, 3) := by decide +kernel
theorem dX13_earnedOf_21 : decode cX13_earnedOf 21 = .ok (.iload_n 1, 1) := by decide +kernel
theorem dX13_earnedOf_22 : decode cX13_earnedOf 22 = .ok (.if_icmp .ne 11, 3) := by decide +kernel
theorem dX13_earnedOf_25 : decode cX13_earnedOf 25 = .ok (.aload_n 0, 1) := by decide +kernel
theorem dX13_earnedOf_26 : decode cX13_earnedOf 26 = .ok (.iload_n 3, 1) := by decide +kernel
theorem dX13_earnedOf_27 : decode cX13_earnedOf 27 = .ok (.invokevirtual 439, 3) := by decide +kernel
theorem dX13_earnedOf_30 : decode cX13_earnedOf 30 = .ok (.goto 4, 3) := by decide +kernel
theorem dX13_earnedOf_33 : decode cX13_earnedOf 33 = .ok (.iconst 0, 1) := by decide +kernel
theorem dX13_earnedOf_34 : decode cX13_earnedOf 34 = .ok (.iadd, 1) := by decide +kernel
theorem dX13_earnedOf_35 : decode cX13_earnedOf 35 = .ok (.istore_n 2, 1) := by decide +kernel
theorem dX13_earnedOf_36 : decode cX13_earnedOf 36 = .ok (.iinc 3 1, 3) := by decide +kernel
theorem dX13_earnedOf_39 : decode cX13_earnedOf 39 = .ok (.goto (-35), 3) := by decide +kernel
theorem dX13_earnedOf_42 : decode cX13_earnedOf 42 = .ok (.iload_n 2, 1) := by decide +kernel
theorem dX13_earnedOf_43 : decode cX13_earnedOf 43 = .ok (.ireturn, 1) := by decide +kernel
theorem dX13_earnedIn_0 : decode cX13_earnedIn 0 = .ok (.aload_n 0, 1) := by decide +kernel
theorem dX13_earnedIn_1 : decode cX13_earnedIn 1 = .ok (.aload_n 0, 1) := by decide +kernel
theorem dX13_earnedIn_2 : decode cX13_earnedIn 2 = .ok (.iload_n 1, 1) := by decide +kernel
theorem dX13_earnedIn_3 : decode cX13_earnedIn 3 = .ok (.invokevirtual 313, 3) := by decide +kernel
theorem dX13_earnedIn_6 : decode cX13_earnedIn 6 = .ok (.invokevirtual 72, 3) := by decide +kernel
theorem dX13_earnedIn_9 : decode cX13_earnedIn 9 = .ok (.ifCond .eq 11, 3) := by decide +kernel
theorem dX13_earnedIn_12 : decode cX13_earnedIn 12 = .ok (.aload_n 0, 1) := by decide +kernel
theorem dX13_earnedIn_13 : decode cX13_earnedIn 13 = .ok (.iload_n 1, 1) := by decide +kernel
theorem dX13_earnedIn_14 : decode cX13_earnedIn 14 = .ok (.invokevirtual 442, 3) := by decide +kernel
theorem dX13_earnedIn_17 : decode cX13_earnedIn 17 = .ok (.goto 4, 3) := by decide +kernel
theorem dX13_earnedIn_20 : decode cX13_earnedIn 20 = .ok (.iconst 0, 1) := by decide +kernel
theorem dX13_earnedIn_21 : decode cX13_earnedIn 21 = .ok (.ireturn, 1) := by decide +kernel
theorem dX13_isBetter_0 : decode cX13_isBetter 0 = .ok (.aload_n 0, 1) := by decide +kernel
theorem dX13_isBetter_1 : decode cX13_isBetter 1 = .ok (.iload_n 1, 1) := by decide +kernel
theorem dX13_isBetter_2 : decode cX13_isBetter 2 = .ok (.iconst 4, 1) := by decide +kernel
theorem dX13_isBetter_3 : decode cX13_isBetter 3 = .ok (.invokevirtual 190, 3) := by decide +kernel
theorem dX13_isBetter_6 : decode cX13_isBetter 6 = .ok (.aload_n 0, 1) := by decide +kernel
theorem dX13_isBetter_7 : decode cX13_isBetter 7 = .ok (.iload_n 2, 1) := by decide +kernel
theorem dX13_isBetter_8 : decode cX13_isBetter 8 = .ok (.iconst 4, 1) := by decide +kernel
theorem dX13_isBetter_9 : decode cX13_isBetter 9 = .ok (.invokevirtual 190, 3) := by decide +kernel
theorem dX13_isBetter_12 : decode cX13_isBetter 12 = .ok (.if_icmp .eq 24, 3) := by decide +kernel
theorem dX13_isBetter_15 : decode cX13_isBetter 15 = .ok (.aload_n 0, 1) := by decide +kernel
theorem dX13_isBetter_16 : decode cX13_isBetter 16 = .ok (.iload_n 1, 1) := by decide +kernel
theorem dX13_isBetter_17 : decode cX13_isBetter 17 = .ok (.iconst 4, 1) := by decide +kernel
theorem dX13_isBetter_18 : decode cX13_isBetter 18 = .ok (.invokevirtual 190, 3) := by decide +kernel
theorem dX13_isBetter_21 : decode cX13_isBetter 21 = .ok (.aload_n 0, 1) := by decide +kernel
theorem dX13_isBetter_22 : decode cX13_isBetter 22 = .ok (.iload_n 2, 1) := by decide +kernel
theorem dX13_isBetter_23 : decode cX13_isBetter 23 = .ok (.iconst 4, 1) := by decide +kernel
theorem dX13_isBetter_24 : decode cX13_isBetter 24 = .ok (.invokevirtual 190, 3) := by decide +kernel
theorem dX13_isBetter_27 : decode cX13_isBetter 27 = .ok (.if_icmp .le 7, 3) := by decide +kernel
theorem dX13_isBetter_30 : decode cX13_isBetter 30 = .ok (.iconst 1, 1) := by decide +kernel
theorem dX13_isBetter_31 : decode cX13_isBetter 31 = .ok (.goto 4, 3) := by decide +kernel
theorem dX13_isBetter_34 : decode cX13_isBetter 34 = .ok (.iconst 0, 1) := by decide +kernel
theorem dX13_isBetter_35 : decode cX13_isBetter 35 = .ok (.ireturn, 1) := by decide +kernel
theorem dX13_isBetter_36 : decode cX13_isBetter 36 = .ok (.aload_n 0, 1) := by decide +kernel
theorem dX13_isBetter_37 : decode cX13_isBetter 37 = .ok (.iload_n 1, 1) := by decide +kernel
theorem dX13_isBetter_38 : decode cX13_isBetter 38 = .ok (.iconst 2, 1) := by decide +kernel
theorem dX13_isBetter_39 : decode cX13_isBetter 39 = .ok (.invokevirtual 190, 3) := by decide +kernel
theorem dX13_isBetter_42 : decode cX13_isBetter 42 = .ok (.aload_n 0, 1) := by decide +kernel
theorem dX13_isBetter_43 : decode cX13_isBetter 43 = .ok (.iload_n 2, 1) := by decide +kernel
theorem dX13_isBetter_44 : decode cX13_isBetter 44 = .ok (.iconst 2, 1) := by decide +kernel
theorem dX13_isBetter_45 : decode cX13_isBetter 45 = .ok (.invokevirtual 190, 3) := by decide +kernel
theorem dX13_isBetter_48 : decode cX13_isBetter 48 = .ok (.if_icmp .ge 7, 3) := by decide +kernel
theorem dX13_isBetter_51 : decode cX13_isBetter 51 = .ok (.iconst 1, 1) := by decide +kernel
theorem dX13_isBetter_52 : decode cX13_isBetter 52 = .ok (.goto 4, 3) := by decide +kernel
theorem dX13_isBetter_55 : decode cX13_isBetter 55 = .ok (.iconst 0, 1) := by decide +kernel
theorem dX13_isBetter_56 : decode cX13_isBetter 56 = .ok (.ireturn, 1) := by decide +kernel
theorem dX13_bestValley_0 : decode cX13_bestValley 0 = .ok (.iconst (-1), 1) := by decide +kernel
theorem dX13_bestValley_1 : decode cX13_bestValley 1 = .ok (.istore_n 1, 1) := by decide +kernel
theorem dX13_bestValley_2 : decode cX13_bestValley 2 = .ok (.iconst 0, 1) := by decide +kernel
theorem dX13_bestValley_3 : decode cX13_bestValley 3 = .ok (.istore_n 2, 1) := by decide +kernel
theorem dX13_bestValley_4 : decode cX13_bestValley 4 = .ok (.iload_n 2, 1) := by decide +kernel
theorem dX13_bestValley_5 : decode cX13_bestValley 5 = .ok (.aload_n 0, 1) := by decide +kernel
theorem dX13_bestValley_6 : decode cX13_bestValley 6 = .ok (.getfield 20, 3) := by decide +kernel
theorem dX13_bestValley_9 : decode cX13_bestValley 9 = .ok (.iconst 0, 1) := by decide +kernel
theorem dX13_bestValley_10 : decode cX13_bestValley 10 = .ok (.iaload, 1) := by decide +kernel
theorem dX13_bestValley_11 : decode cX13_bestValley 11 = .ok (.if_icmp .ge 25, 3) := by decide +kernel
theorem dX13_bestValley_14 : decode cX13_bestValley 14 = .ok (.iload_n 1, 1) := by decide +kernel
theorem dX13_bestValley_15 : decode cX13_bestValley 15 = .ok (.iconst (-1), 1) := by decide +kernel
theorem dX13_bestValley_16 : decode cX13_bestValley 16 = .ok (.if_icmp .eq 12, 3) := by decide +kernel
theorem dX13_bestValley_19 : decode cX13_bestValley 19 = .ok (.aload_n 0, 1) := by decide +kernel
theorem dX13_bestValley_20 : decode cX13_bestValley 20 = .ok (.iload_n 2, 1) := by decide +kernel
theorem dX13_bestValley_21 : decode cX13_bestValley 21 = .ok (.iload_n 1, 1) := by decide +kernel
theorem dX13_bestValley_22 : decode cX13_bestValley 22 = .ok (.invokevirtual 445, 3) := by decide +kernel
theorem dX13_bestValley_25 : decode cX13_bestValley 25 = .ok (.ifCond .eq 5, 3) := by decide +kernel
theorem dX13_bestValley_28 : decode cX13_bestValley 28 = .ok (.iload_n 2, 1) := by decide +kernel
theorem dX13_bestValley_29 : decode cX13_bestValley 29 = .ok (.istore_n 1, 1) := by decide +kernel
theorem dX13_bestValley_30 : decode cX13_bestValley 30 = .ok (.iinc 2 1, 3) := by decide +kernel
theorem dX13_bestValley_33 : decode cX13_bestValley 33 = .ok (.goto (-29), 3) := by decide +kernel
theorem dX13_bestValley_36 : decode cX13_bestValley 36 = .ok (.aload_n 0, 1) := by decide +kernel
theorem dX13_bestValley_37 : decode cX13_bestValley 37 = .ok (.iload_n 1, 1) := by decide +kernel
theorem dX13_bestValley_38 : decode cX13_bestValley 38 = .ok (.invokevirtual 420, 3) := by decide +kernel
theorem dX13_bestValley_41 : decode cX13_bestValley 41 = .ok (.ireturn, 1) := by decide +kernel
theorem dX13_widened_0 : decode cX13_widened 0 = .ok (.aload_n 0, 1) := by decide +kernel
theorem dX13_widened_1 : decode cX13_widened 1 = .ok (.iconst 0, 1) := by decide +kernel
theorem dX13_widened_2 : decode cX13_widened 2 = .ok (.iload_n 1, 1) := by decide +kernel
theorem dX13_widened_3 : decode cX13_widened 3 = .ok (.invokestatic 174, 3) := by decide +kernel
theorem dX13_widened_6 : decode cX13_widened 6 = .ok (.invokevirtual 177, 3) := by decide +kernel
theorem dX13_widened_9 : decode cX13_widened 9 = .ok (.lstore_n 2, 1) := by decide +kernel
theorem dX13_widened_10 : decode cX13_widened 10 = .ok (.lload_n 2, 1) := by decide +kernel
theorem dX13_widened_11 : decode cX13_widened 11 = .ok (.iconst 5, 1) := by decide +kernel
theorem dX13_widened_12 : decode cX13_widened 12 = .ok (.bipush 8, 2) := by decide +kernel
theorem dX13_widened_14 : decode cX13_widened 14 = .ok (.lload_n 2, 1) := by decide +kernel
theorem dX13_widened_15 : decode cX13_widened 15 = .ok (.invokestatic 426, 3) := by decide +kernel
theorem dX13_widened_18 : decode cX13_widened 18 = .ok (.isub, 1) := by decide +kernel
theorem dX13_widened_19 : decode cX13_widened 19 = .ok (.imul, 1) := by decide +kernel
theorem dX13_widened_20 : decode cX13_widened 20 = .ok (.lshl, 1) := by decide +kernel
theorem dX13_widened_21 : decode cX13_widened 21 = .ok (.lreturn, 1) := by decide +kernel
theorem dX13_ahead_0 : decode cX13_ahead 0 = .ok (.iconst 0, 1) := by decide +kernel
theorem dX13_ahead_1 : decode cX13_ahead 1 = .ok (.istore_n 2, 1) := by decide +kernel
theorem dX13_ahead_2 : decode cX13_ahead 2 = .ok (.iconst 0, 1) := by decide +kernel
theorem dX13_ahead_3 : decode cX13_ahead 3 = .ok (.istore_n 3, 1) := by decide +kernel
theorem dX13_ahead_4 : decode cX13_ahead 4 = .ok (.iload_n 3, 1) := by decide +kernel
theorem dX13_ahead_5 : decode cX13_ahead 5 = .ok (.aload_n 0, 1) := by decide +kernel
theorem dX13_ahead_6 : decode cX13_ahead 6 = .ok (.getfield 20, 3) := by decide +kernel
theorem dX13_ahead_9 : decode cX13_ahead 9 = .ok (.iconst 0, 1) := by decide +kernel
theorem dX13_ahead_10 : decode cX13_ahead 10 = .ok (.iaload, 1) := by decide +kernel
theorem dX13_ahead_11 : decode cX13_ahead 11 = .ok (.if_icmp .ge 34, 3) := by decide +kernel
theorem dX13_ahead_14 : decode cX13_ahead 14 = .ok (.iload_n 2, 1) := by decide +kernel
theorem dX13_ahead_15 : decode cX13_ahead 15 = .ok (.aload_n 0, 1) := by decide +kernel
theorem dX13_ahead_16 : decode cX13_ahead 16 = .ok (.iload_n 3, 1) := by decide +kernel
theorem dX13_ahead_17 : decode cX13_ahead 17 = .ok (.invokevirtual 448, 3) := by decide +kernel
theorem dX13_ahead_20 : decode cX13_ahead 20 = .ok (.aload_n 0, 1) := by decide +kernel
theorem dX13_ahead_21 : decode cX13_ahead 21 = .ok (.iload_n 1, 1) := by decide +kernel
theorem dX13_ahead_22 : decode cX13_ahead 22 = .ok (.invokevirtual 448, 3) := by decide +kernel
theorem dX13_ahead_25 : decode cX13_ahead 25 = .ok (.lcmp, 1) := by decide +kernel
theorem dX13_ahead_26 : decode cX13_ahead 26 = .ok (.ifCond .ge 7, 3) := by decide +kernel
theorem dX13_ahead_29 : decode cX13_ahead 29 = .ok (.iconst 1, 1) := by decide +kernel
theorem dX13_ahead_30 : decode cX13_ahead 30 = .ok (.goto 4, 3) := by decide +kernel
theorem dX13_ahead_33 : decode cX13_ahead 33 = .ok (.iconst 0, 1) := by decide +kernel
theorem dX13_ahead_34 : decode cX13_ahead 34 = .ok (.invokestatic 65, 3) := by decide +kernel
theorem dX13_ahead_37 : decode cX13_ahead 37 = .ok (.iadd, 1) := by decide +kernel
theorem dX13_ahead_38 : decode cX13_ahead 38 = .ok (.istore_n 2, 1) := by decide +kernel
theorem dX13_ahead_39 : decode cX13_ahead 39 = .ok (.iinc 3 1, 3) := by decide +kernel
theorem dX13_ahead_42 : decode cX13_ahead 42 = .ok (.goto (-38), 3) := by decide +kernel
theorem dX13_ahead_45 : decode cX13_ahead 45 = .ok (.iload_n 2, 1) := by decide +kernel
theorem dX13_ahead_46 : decode cX13_ahead 46 = .ok (.ireturn, 1) := by decide +kernel
theorem dX13_valleyByName_0 : decode cX13_valleyByName 0 = .ok (.aload_n 0, 1) := by decide +kernel
theorem dX13_valleyByName_1 : decode cX13_valleyByName 1 = .ok (.iconst 0, 1) := by decide +kernel
theorem dX13_valleyByName_2 : decode cX13_valleyByName 2 = .ok (.putfield 62, 3) := by decide +kernel
theorem dX13_valleyByName_5 : decode cX13_valleyByName 5 = .ok (.iconst 0, 1) := by decide +kernel
theorem dX13_valleyByName_6 : decode cX13_valleyByName 6 = .ok (.istore_n 2, 1) := by decide +kernel
theorem dX13_valleyByName_7 : decode cX13_valleyByName 7 = .ok (.iload_n 2, 1) := by decide +kernel
theorem dX13_valleyByName_8 : decode cX13_valleyByName 8 = .ok (.aload_n 0, 1) := by decide +kernel
theorem dX13_valleyByName_9 : decode cX13_valleyByName 9 = .ok (.getfield 20, 3) := by decide +kernel
theorem dX13_valleyByName_12 : decode cX13_valleyByName 12 = .ok (.iconst 0, 1) := by decide +kernel
theorem dX13_valleyByName_13 : decode cX13_valleyByName 13 = .ok (.iaload, 1) := by decide +kernel
theorem dX13_valleyByName_14 : decode cX13_valleyByName 14 = .ok (.if_icmp .ge 20, 3) := by decide +kernel
theorem dX13_valleyByName_17 : decode cX13_valleyByName 17 = .ok (.aload_n 0, 1) := by decide +kernel
theorem dX13_valleyByName_18 : decode cX13_valleyByName 18 = .ok (.iload_n 2, 1) := by decide +kernel
theorem dX13_valleyByName_19 : decode cX13_valleyByName 19 = .ok (.invokevirtual 451, 3) := by decide +kernel
theorem dX13_valleyByName_22 : decode cX13_valleyByName 22 = .ok (.iload_n 1, 1) := by decide +kernel
theorem dX13_valleyByName_23 : decode cX13_valleyByName 23 = .ok (.if_icmp .ne 5, 3) := by decide +kernel
theorem dX13_valleyByName_26 : decode cX13_valleyByName 26 = .ok (.iload_n 2, 1) := by decide +kernel
theorem dX13_valleyByName_27 : decode cX13_valleyByName 27 = .ok (.ireturn, 1) := by decide +kernel
theorem dX13_valleyByName_28 : decode cX13_valleyByName 28 = .ok (.iinc 2 1, 3) := by decide +kernel
theorem dX13_valleyByName_31 : decode cX13_valleyByName 31 = .ok (.goto (-24), 3) := by decide +kernel
theorem dX13_valleyByName_34 : decode cX13_valleyByName 34 = .ok (.iconst (-1), 1) := by decide +kernel
theorem dX13_valleyByName_35 : decode cX13_valleyByName 35 = .ok (.ireturn, 1) := by decide +kernel
theorem dX13_findCustomer_0 : decode cX13_findCustomer 0 = .ok (.aload_n 0, 1) := by decide +kernel
theorem dX13_findCustomer_1 : decode cX13_findCustomer 1 = .ok (.aload_n 0, 1) := by decide +kernel
theorem dX13_findCustomer_2 : decode cX13_findCustomer 2 = .ok (.iconst 1, 1) := by decide +kernel
theorem dX13_findCustomer_3 : decode cX13_findCustomer 3 = .ok (.aload_n 0, 1) := by decide +kernel
theorem dX13_findCustomer_4 : decode cX13_findCustomer 4 = .ok (.invokevirtual 269, 3) := by decide +kernel
theorem dX13_findCustomer_7 : decode cX13_findCustomer 7 = .ok (.invokevirtual 265, 3) := by decide +kernel
theorem dX13_findCustomer_10 : decode cX13_findCustomer 10 = .ok (.invokevirtual 420, 3) := by decide +kernel
theorem dX13_findCustomer_13 : decode cX13_findCustomer 13 = .ok (.ireturn, 1) := by decide +kernel
theorem dX13_inCustomer_0 : decode cX13_inCustomer 0 = .ok (.aload_n 0, 1) := by decide +kernel
theorem dX13_inCustomer_1 : decode cX13_inCustomer 1 = .ok (.aload_n 0, 1) := by decide +kernel
theorem dX13_inCustomer_2 : decode cX13_inCustomer 2 = .ok (.iload_n 1, 1) := by decide +kernel
theorem dX13_inCustomer_3 : decode cX13_inCustomer 3 = .ok (.invokevirtual 310, 3) := by decide +kernel
theorem dX13_inCustomer_6 : decode cX13_inCustomer 6 = .ok (.invokevirtual 72, 3) := by decide +kernel
theorem dX13_inCustomer_9 : decode cX13_inCustomer 9 = .ok (.ifCond .eq 12, 3) := by decide +kernel
theorem dX13_inCustomer_12 : decode cX13_inCustomer 12 = .ok (.aload_n 0, 1) := by decide +kernel
theorem dX13_inCustomer_13 : decode cX13_inCustomer 13 = .ok (.iload_n 1, 1) := by decide +kernel
theorem dX13_inCustomer_14 : decode cX13_inCustomer 14 = .ok (.iload_n 2, 1) := by decide +kernel
theorem dX13_inCustomer_15 : decode cX13_inCustomer 15 = .ok (.invokevirtual 187, 3) := by decide +kernel
theorem dX13_inCustomer_18 : decode cX13_inCustomer 18 = .ok (.goto 4, 3) := by decide +kernel
theorem dX13_inCustomer_21 : decode cX13_inCustomer 21 = .ok (.iconst 0, 1) := by decide +kernel
theorem dX13_inCustomer_22 : decode cX13_inCustomer 22 = .ok (.ireturn, 1) := by decide +kernel
theorem dX13_money_0 : decode cX13_money 0 = .ok (.aload_n 0, 1) := by decide +kernel
theorem dX13_money_1 : decode cX13_money 1 = .ok (.iload_n 1, 1) := by decide +kernel
theorem dX13_money_2 : decode cX13_money 2 = .ok (.iconst 1, 1) := by decide +kernel
theorem dX13_money_3 : decode cX13_money 3 = .ok (.invokevirtual 454, 3) := by decide +kernel
theorem dX13_money_6 : decode cX13_money 6 = .ok (.ireturn, 1) := by decide +kernel
theorem dX13_patience_0 : decode cX13_patience 0 = .ok (.aload_n 0, 1) := by decide +kernel
theorem dX13_patience_1 : decode cX13_patience 1 = .ok (.iload_n 1, 1) := by decide +kernel
theorem dX13_patience_2 : decode cX13_patience 2 = .ok (.iconst 0, 1) := by decide +kernel
theorem dX13_patience_3 : decode cX13_patience 3 = .ok (.invokevirtual 454, 3) := by decide +kernel
theorem dX13_patience_6 : decode cX13_patience 6 = .ok (.ireturn, 1) := by decide +kernel
theorem dX13_suspicion_0 : decode cX13_suspicion 0 = .ok (.aload_n 0, 1) := by decide +kernel
theorem dX13_suspicion_1 : decode cX13_suspicion 1 = .ok (.iload_n 1, 1) := by decide +kernel
theorem dX13_suspicion_2 : decode cX13_suspicion 2 = .ok (.iconst 2, 1) := by decide +kernel
theorem dX13_suspicion_3 : decode cX13_suspicion 3 = .ok (.invokevirtual 454, 3) := by decide +kernel
theorem dX13_suspicion_6 : decode cX13_suspicion 6 = .ok (.ireturn, 1) := by decide +kernel
theorem dX13_isAngry_0 : decode cX13_isAngry 0 = .ok (.aload_n 0, 1) := by decide +kernel
theorem dX13_isAngry_1 : decode cX13_isAngry 1 = .ok (.aload_n 0, 1) := by decide +kernel
theorem dX13_isAngry_2 : decode cX13_isAngry 2 = .ok (.iload_n 1, 1) := by decide +kernel
theorem dX13_isAngry_3 : decode cX13_isAngry 3 = .ok (.invokevirtual 310, 3) := by decide +kernel
theorem dX13_isAngry_6 : decode cX13_isAngry 6 = .ok (.invokevirtual 72, 3) := by decide +kernel
theorem dX13_isAngry_9 : decode cX13_isAngry 9 = .ok (.ifCond .eq 15, 3) := by decide +kernel
theorem dX13_isAngry_12 : decode cX13_isAngry 12 = .ok (.aload_n 0, 1) := by decide +kernel
theorem dX13_isAngry_13 : decode cX13_isAngry 13 = .ok (.iload_n 1, 1) := by decide +kernel
theorem dX13_isAngry_14 : decode cX13_isAngry 14 = .ok (.invokevirtual 197, 3) := by decide +kernel
theorem dX13_isAngry_17 : decode cX13_isAngry 17 = .ok (.ifCond .eq 7, 3) := by decide +kernel
theorem dX13_isAngry_20 : decode cX13_isAngry 20 = .ok (.iconst 1, 1) := by decide +kernel
theorem dX13_isAngry_21 : decode cX13_isAngry 21 = .ok (.goto 4, 3) := by decide +kernel
theorem dX13_isAngry_24 : decode cX13_isAngry 24 = .ok (.iconst 0, 1) := by decide +kernel
theorem dX13_isAngry_25 : decode cX13_isAngry 25 = .ok (.ireturn, 1) := by decide +kernel
theorem dX13_echoesHeard_0 : decode cX13_echoesHeard 0 = .ok (.aload_n 0, 1) := by decide +kernel
theorem dX13_echoesHeard_1 : decode cX13_echoesHeard 1 = .ok (.iload_n 1, 1) := by decide +kernel
theorem dX13_echoesHeard_2 : decode cX13_echoesHeard 2 = .ok (.iconst 3, 1) := by decide +kernel
theorem dX13_echoesHeard_3 : decode cX13_echoesHeard 3 = .ok (.invokevirtual 454, 3) := by decide +kernel
theorem dX13_echoesHeard_6 : decode cX13_echoesHeard 6 = .ok (.ireturn, 1) := by decide +kernel
theorem dX13_angryCustomers_0 : decode cX13_angryCustomers 0 = .ok (.iconst 0, 1) := by decide +kernel
theorem dX13_angryCustomers_1 : decode cX13_angryCustomers 1 = .ok (.istore_n 1, 1) := by decide +kernel
theorem dX13_angryCustomers_2 : decode cX13_angryCustomers 2 = .ok (.iconst 0, 1) := by decide +kernel
theorem dX13_angryCustomers_3 : decode cX13_angryCustomers 3 = .ok (.istore_n 2, 1) := by decide +kernel
theorem dX13_angryCustomers_4 : decode cX13_angryCustomers 4 = .ok (.iload_n 2, 1) := by decide +kernel
theorem dX13_angryCustomers_5 : decode cX13_angryCustomers 5 = .ok (.aload_n 0, 1) := by decide +kernel
theorem dX13_angryCustomers_6 : decode cX13_angryCustomers 6 = .ok (.getfield 20, 3) := by decide +kernel
theorem dX13_angryCustomers_9 : decode cX13_angryCustomers 9 = .ok (.iconst 1, 1) := by decide +kernel
theorem dX13_angryCustomers_10 : decode cX13_angryCustomers 10 = .ok (.iaload, 1) := by decide +kernel
theorem dX13_angryCustomers_11 : decode cX13_angryCustomers 11 = .ok (.if_icmp .ge 22, 3) := by decide +kernel
theorem dX13_angryCustomers_14 : decode cX13_angryCustomers 14 = .ok (.iload_n 1, 1) := by decide +kernel
theorem dX13_angryCustomers_15 : decode cX13_angryCustomers 15 = .ok (.aload_n 0, 1) := by decide +kernel
theorem dX13_angryCustomers_16 : decode cX13_angryCustomers 16 = .ok (.iload_n 2, 1) := by decide +kernel
theorem dX13_angryCustomers_17 : decode cX13_angryCustomers 17 = .ok (.invokevirtual 197, 3) := by decide +kernel
theorem dX13_angryCustomers_20 : decode cX13_angryCustomers 20 = .ok (.invokestatic 65, 3) := by decide +kernel
theorem dX13_angryCustomers_23 : decode cX13_angryCustomers 23 = .ok (.iload_n 2, 1) := by decide +kernel
theorem dX13_angryCustomers_24 : decode cX13_angryCustomers 24 = .ok (.ishl, 1) := by decide +kernel
theorem dX13_angryCustomers_25 : decode cX13_angryCustomers 25 = .ok (.ior, 1) := by decide +kernel
theorem dX13_angryCustomers_26 : decode cX13_angryCustomers 26 = .ok (.istore_n 1, 1) := by decide +kernel
theorem dX13_angryCustomers_27 : decode cX13_angryCustomers 27 = .ok (.iinc 2 1, 3) := by decide +kernel
theorem dX13_angryCustomers_30 : decode cX13_angryCustomers 30 = .ok (.goto (-26), 3) := by decide +kernel
theorem dX13_angryCustomers_33 : decode cX13_angryCustomers 33 = .ok (.aload_n 0, 1) := by decide +kernel
theorem dX13_angryCustomers_34 : decode cX13_angryCustomers 34 = .ok (.iload_n 1, 1) := by decide +kernel
theorem dX13_angryCustomers_35 : decode cX13_angryCustomers 35 = .ok (.invokevirtual 420, 3) := by decide +kernel
theorem dX13_angryCustomers_38 : decode cX13_angryCustomers 38 = .ok (.ireturn, 1) := by decide +kernel
theorem dX13_bestCustomer_0 : decode cX13_bestCustomer 0 = .ok (.iconst (-1), 1) := by decide +kernel
theorem dX13_bestCustomer_1 : decode cX13_bestCustomer 1 = .ok (.istore_n 1, 1) := by decide +kernel
theorem dX13_bestCustomer_2 : decode cX13_bestCustomer 2 = .ok (.iconst 0, 1) := by decide +kernel
theorem dX13_bestCustomer_3 : decode cX13_bestCustomer 3 = .ok (.istore_n 2, 1) := by decide +kernel
theorem dX13_bestCustomer_4 : decode cX13_bestCustomer 4 = .ok (.iload_n 2, 1) := by decide +kernel
theorem dX13_bestCustomer_5 : decode cX13_bestCustomer 5 = .ok (.aload_n 0, 1) := by decide +kernel
theorem dX13_bestCustomer_6 : decode cX13_bestCustomer 6 = .ok (.getfield 20, 3) := by decide +kernel
theorem dX13_bestCustomer_9 : decode cX13_bestCustomer 9 = .ok (.iconst 1, 1) := by decide +kernel
theorem dX13_bestCustomer_10 : decode cX13_bestCustomer 10 = .ok (.iaload, 1) := by decide +kernel
theorem dX13_bestCustomer_11 : decode cX13_bestCustomer 11 = .ok (.if_icmp .ge 31, 3) := by decide +kernel
theorem dX13_bestCustomer_14 : decode cX13_bestCustomer 14 = .ok (.iload_n 1, 1) := by decide +kernel
theorem dX13_bestCustomer_15 : decode cX13_bestCustomer 15 = .ok (.iconst (-1), 1) := by decide +kernel
theorem dX13_bestCustomer_16 : decode cX13_bestCustomer 16 = .ok (.if_icmp .eq 18, 3) := by decide +kernel
theorem dX13_bestCustomer_19 : decode cX13_bestCustomer 19 = .ok (.aload_n 0, 1) := by decide +kernel
theorem dX13_bestCustomer_20 : decode cX13_bestCustomer 20 = .ok (.iload_n 2, 1) := by decide +kernel
theorem dX13_bestCustomer_21 : decode cX13_bestCustomer 21 = .ok (.iconst 3, 1) := by decide +kernel
theorem dX13_bestCustomer_22 : decode cX13_bestCustomer 22 = .ok (.invokevirtual 187, 3) := by decide +kernel
theorem dX13_bestCustomer_25 : decode cX13_bestCustomer 25 = .ok (.aload_n 0, 1) := by decide +kernel
theorem dX13_bestCustomer_26 : decode cX13_bestCustomer 26 = .ok (.iload_n 1, 1) := by decide +kernel
theorem dX13_bestCustomer_27 : decode cX13_bestCustomer 27 = .ok (.iconst 3, 1) := by decide +kernel
theorem dX13_bestCustomer_28 : decode cX13_bestCustomer 28 = .ok (.invokevirtual 187, 3) := by decide +kernel
theorem dX13_bestCustomer_31 : decode cX13_bestCustomer 31 = .ok (.if_icmp .le 5, 3) := by decide +kernel
theorem dX13_bestCustomer_34 : decode cX13_bestCustomer 34 = .ok (.iload_n 2, 1) := by decide +kernel
theorem dX13_bestCustomer_35 : decode cX13_bestCustomer 35 = .ok (.istore_n 1, 1) := by decide +kernel
theorem dX13_bestCustomer_36 : decode cX13_bestCustomer 36 = .ok (.iinc 2 1, 3) := by decide +kernel
theorem dX13_bestCustomer_39 : decode cX13_bestCustomer 39 = .ok (.goto (-35), 3) := by decide +kernel
theorem dX13_bestCustomer_42 : decode cX13_bestCustomer 42 = .ok (.aload_n 0, 1) := by decide +kernel
theorem dX13_bestCustomer_43 : decode cX13_bestCustomer 43 = .ok (.iload_n 1, 1) := by decide +kernel
theorem dX13_bestCustomer_44 : decode cX13_bestCustomer 44 = .ok (.invokevirtual 420, 3) := by decide +kernel
theorem dX13_bestCustomer_47 : decode cX13_bestCustomer 47 = .ok (.ireturn, 1) := by decide +kernel
theorem dX13_heldFor_0 : decode cX13_heldFor 0 = .ok (.aload_n 0, 1) := by decide +kernel
theorem dX13_heldFor_1 : decode cX13_heldFor 1 = .ok (.aload_n 0, 1) := by decide +kernel
theorem dX13_heldFor_2 : decode cX13_heldFor 2 = .ok (.iload_n 1, 1) := by decide +kernel
theorem dX13_heldFor_3 : decode cX13_heldFor 3 = .ok (.invokevirtual 310, 3) := by decide +kernel
theorem dX13_heldFor_6 : decode cX13_heldFor 6 = .ok (.invokevirtual 72, 3) := by decide +kernel
theorem dX13_heldFor_9 : decode cX13_heldFor 9 = .ok (.ifCond .eq 11, 3) := by decide +kernel
theorem dX13_heldFor_12 : decode cX13_heldFor 12 = .ok (.aload_n 0, 1) := by decide +kernel
theorem dX13_heldFor_13 : decode cX13_heldFor 13 = .ok (.iload_n 1, 1) := by decide +kernel
theorem dX13_heldFor_14 : decode cX13_heldFor 14 = .ok (.invokevirtual 457, 3) := by decide +kernel
theorem dX13_heldFor_17 : decode cX13_heldFor 17 = .ok (.goto 4, 3) := by decide +kernel
theorem dX13_heldFor_20 : decode cX13_heldFor 20 = .ok (.iconst 0, 1) := by decide +kernel
theorem dX13_heldFor_21 : decode cX13_heldFor 21 = .ok (.ireturn, 1) := by decide +kernel
theorem dX13_inShout_0 : decode cX13_inShout 0 = .ok (.aload_n 0, 1) := by decide +kernel
theorem dX13_inShout_1 : decode cX13_inShout 1 = .ok (.aload_n 0, 1) := by decide +kernel
theorem dX13_inShout_2 : decode cX13_inShout 2 = .ok (.iload_n 1, 1) := by decide +kernel
theorem dX13_inShout_3 : decode cX13_inShout 3 = .ok (.invokevirtual 166, 3) := by decide +kernel
theorem dX13_inShout_6 : decode cX13_inShout 6 = .ok (.invokevirtual 72, 3) := by decide +kernel
theorem dX13_inShout_9 : decode cX13_inShout 9 = .ok (.ifCond .eq 12, 3) := by decide +kernel
theorem dX13_inShout_12 : decode cX13_inShout 12 = .ok (.aload_n 0, 1) := by decide +kernel
theorem dX13_inShout_13 : decode cX13_inShout 13 = .ok (.iload_n 1, 1) := by decide +kernel
theorem dX13_inShout_14 : decode cX13_inShout 14 = .ok (.iload_n 2, 1) := by decide +kernel
theorem dX13_inShout_15 : decode cX13_inShout 15 = .ok (.invokevirtual 169, 3) := by decide +kernel
theorem dX13_inShout_18 : decode cX13_inShout 18 = .ok (.goto 4, 3) := by decide +kernel
theorem dX13_inShout_21 : decode cX13_inShout 21 = .ok (.iconst 0, 1) := by decide +kernel
theorem dX13_inShout_22 : decode cX13_inShout 22 = .ok (.ireturn, 1) := by decide +kernel
theorem dX13_shoutCustomer_0 : decode cX13_shoutCustomer 0 = .ok (.aload_n 0, 1) := by decide +kernel
theorem dX13_shoutCustomer_1 : decode cX13_shoutCustomer 1 = .ok (.iload_n 1, 1) := by decide +kernel
theorem dX13_shoutCustomer_2 : decode cX13_shoutCustomer 2 = .ok (.iconst 0, 1) := by decide +kernel
theorem dX13_shoutCustomer_3 : decode cX13_shoutCustomer 3 = .ok (.invokevirtual 460, 3) := by decide +kernel
theorem dX13_shoutCustomer_6 : decode cX13_shoutCustomer 6 = .ok (.ireturn, 1) := by decide +kernel
theorem dX13_shoutValley_0 : decode cX13_shoutValley 0 = .ok (.aload_n 0, 1) := by decide +kernel
theorem dX13_shoutValley_1 : decode cX13_shoutValley 1 = .ok (.iload_n 1, 1) := by decide +kernel
theorem dX13_shoutValley_2 : decode cX13_shoutValley 2 = .ok (.iconst 1, 1) := by decide +kernel
theorem dX13_shoutValley_3 : decode cX13_shoutValley 3 = .ok (.invokevirtual 460, 3) := by decide +kernel
theorem dX13_shoutValley_6 : decode cX13_shoutValley 6 = .ok (.ireturn, 1) := by decide +kernel
theorem dX13_shoutState_0 : decode cX13_shoutState 0 = .ok (.aload_n 0, 1) := by decide +kernel
theorem dX13_shoutState_1 : decode cX13_shoutState 1 = .ok (.iload_n 1, 1) := by decide +kernel
theorem dX13_shoutState_2 : decode cX13_shoutState 2 = .ok (.bipush 6, 2) := by decide +kernel
theorem dX13_shoutState_4 : decode cX13_shoutState 4 = .ok (.invokevirtual 460, 3) := by decide +kernel
theorem dX13_shoutState_7 : decode cX13_shoutState 7 = .ok (.ireturn, 1) := by decide +kernel
theorem dX13_returns_0 : decode cX13_returns 0 = .ok (.aload_n 0, 1) := by decide +kernel
theorem dX13_returns_1 : decode cX13_returns 1 = .ok (.iload_n 1, 1) := by decide +kernel
theorem dX13_returns_2 : decode cX13_returns 2 = .ok (.bipush 7, 2) := by decide +kernel
theorem dX13_returns_4 : decode cX13_returns 4 = .ok (.invokevirtual 460, 3) := by decide +kernel
theorem dX13_returns_7 : decode cX13_returns 7 = .ok (.ireturn, 1) := by decide +kernel
theorem dX13_receipt_0 : decode cX13_receipt 0 = .ok (.aload_n 0, 1) := by decide +kernel
theorem dX13_receipt_1 : decode cX13_receipt 1 = .ok (.aload_n 0, 1) := by decide +kernel
theorem dX13_receipt_2 : decode cX13_receipt 2 = .ok (.iload_n 1, 1) := by decide +kernel
theorem dX13_receipt_3 : decode cX13_receipt 3 = .ok (.invokevirtual 166, 3) := by decide +kernel
theorem dX13_receipt_6 : decode cX13_receipt 6 = .ok (.invokevirtual 72, 3) := by decide +kernel
theorem dX13_receipt_9 : decode cX13_receipt 9 = .ok (.ifCond .eq 11, 3) := by decide +kernel
theorem dX13_receipt_12 : decode cX13_receipt 12 = .ok (.aload_n 0, 1) := by decide +kernel
theorem dX13_receipt_13 : decode cX13_receipt 13 = .ok (.iload_n 1, 1) := by decide +kernel
theorem dX13_receipt_14 : decode cX13_receipt 14 = .ok (.invokevirtual 439, 3) := by decide +kernel
theorem dX13_receipt_17 : decode cX13_receipt 17 = .ok (.goto 4, 3) := by decide +kernel
theorem dX13_receipt_20 : decode cX13_receipt 20 = .ok (.iconst 0, 1) := by decide +kernel
theorem dX13_receipt_21 : decode cX13_receipt 21 = .ok (.ireturn, 1) := by decide +kernel
theorem dX13_nextReturn_0 : decode cX13_nextReturn 0 = .ok (.aload_n 0, 1) := by decide +kernel
theorem dX13_nextReturn_1 : decode cX13_nextReturn 1 = .ok (.aload_n 0, 1) := by decide +kernel
theorem dX13_nextReturn_2 : decode cX13_nextReturn 2 = .ok (.iload_n 1, 1) := by decide +kernel
theorem dX13_nextReturn_3 : decode cX13_nextReturn 3 = .ok (.invokevirtual 166, 3) := by decide +kernel
theorem dX13_nextReturn_6 : decode cX13_nextReturn 6 = .ok (.invokevirtual 72, 3) := by decide +kernel
theorem dX13_nextReturn_9 : decode cX13_nextReturn 9 = .ok (.ifCond .ne 5, 3) := by decide +kernel
theorem dX13_nextReturn_12 : decode cX13_nextReturn 12 = .ok (.iconst 0, 1) := by decide +kernel
theorem dX13_nextReturn_13 : decode cX13_nextReturn 13 = .ok (.ireturn, 1) := by decide +kernel
theorem dX13_nextReturn_14 : decode cX13_nextReturn 14 = .ok (.aload_n 0, 1) := by decide +kernel
theorem dX13_nextReturn_15 : decode cX13_nextReturn 15 = .ok (.iload_n 1, 1) := by decide +kernel
theorem dX13_nextReturn_16 : decode cX13_nextReturn 16 = .ok (.invokevirtual 210, 3) := by decide +kernel
theorem dX13_nextReturn_19 : decode cX13_nextReturn 19 = .ok (.ifCond .eq 11, 3) := by decide +kernel
theorem dX13_nextReturn_22 : decode cX13_nextReturn 22 = .ok (.aload_n 0, 1) := by decide +kernel
theorem dX13_nextReturn_23 : decode cX13_nextReturn 23 = .ok (.iload_n 1, 1) := by decide +kernel
theorem dX13_nextReturn_24 : decode cX13_nextReturn 24 = .ok (.invokevirtual 225, 3) := by decide +kernel
theorem dX13_nextReturn_27 : decode cX13_nextReturn 27 = .ok (.goto 4, 3) := by decide +kernel
theorem dX13_nextReturn_30 : decode cX13_nextReturn 30 = .ok (.iconst (-1), 1) := by decide +kernel
theorem dX13_nextReturn_31 : decode cX13_nextReturn 31 = .ok (.ireturn, 1) := by decide +kernel
theorem dX13_patienceEnds_0 : decode cX13_patienceEnds 0 = .ok (.aload_n 0, 1) := by decide +kernel
theorem dX13_patienceEnds_1 : decode cX13_patienceEnds 1 = .ok (.aload_n 0, 1) := by decide +kernel
theorem dX13_patienceEnds_2 : decode cX13_patienceEnds 2 = .ok (.iload_n 1, 1) := by decide +kernel
theorem dX13_patienceEnds_3 : decode cX13_patienceEnds 3 = .ok (.invokevirtual 166, 3) := by decide +kernel
theorem dX13_patienceEnds_6 : decode cX13_patienceEnds 6 = .ok (.invokevirtual 72, 3) := by decide +kernel
theorem dX13_patienceEnds_9 : decode cX13_patienceEnds 9 = .ok (.ifCond .eq 11, 3) := by decide +kernel
theorem dX13_patienceEnds_12 : decode cX13_patienceEnds 12 = .ok (.aload_n 0, 1) := by decide +kernel
theorem dX13_patienceEnds_13 : decode cX13_patienceEnds 13 = .ok (.iload_n 1, 1) := by decide +kernel
theorem dX13_patienceEnds_14 : decode cX13_patienceEnds 14 = .ok (.invokevirtual 234, 3) := by decide +kernel
theorem dX13_patienceEnds_17 : decode cX13_patienceEnds 17 = .ok (.goto 4, 3) := by decide +kernel
theorem dX13_patienceEnds_20 : decode cX13_patienceEnds 20 = .ok (.iconst 0, 1) := by decide +kernel
theorem dX13_patienceEnds_21 : decode cX13_patienceEnds 21 = .ok (.ireturn, 1) := by decide +kernel
theorem dX13_refusal_0 : decode cX13_refusal 0 = .ok (.aload_n 0, 1) := by decide +kernel
theorem dX13_refusal_1 : decode cX13_refusal 1 = .ok (.aload_n 0, 1) := by decide +kernel
theorem dX13_refusal_2 : decode cX13_refusal 2 = .ok (.iload_n 1, 1) := by decide +kernel
theorem dX13_refusal_3 : decode cX13_refusal 3 = .ok (.invokevirtual 310, 3) := by decide +kernel
theorem dX13_refusal_6 : decode cX13_refusal 6 = .ok (.ifCond .eq 15, 3) := by decide +kernel
theorem dX13_refusal_9 : decode cX13_refusal 9 = .ok (.aload_n 0, 1) := by decide +kernel
theorem dX13_refusal_10 : decode cX13_refusal 10 = .ok (.iload_n 2, 1) := by decide +kernel
theorem dX13_refusal_11 : decode cX13_refusal 11 = .ok (.invokevirtual 313, 3) := by decide +kernel
theorem dX13_refusal_14 : decode cX13_refusal 14 = .ok (.ifCond .eq 7, 3) := by decide +kernel
theorem dX13_refusal_17 : decode cX13_refusal 17 = .ok (.iconst 1, 1) := by decide +kernel
theorem dX13_refusal_18 : decode cX13_refusal 18 = .ok (.goto 4, 3) := by decide +kernel
theorem dX13_refusal_21 : decode cX13_refusal 21 = .ok (.iconst 0, 1) := by decide +kernel
theorem dX13_refusal_22 : decode cX13_refusal 22 = .ok (.iload_n 3, 1) := by decide +kernel
theorem dX13_refusal_23 : decode cX13_refusal 23 = .ok (.invokestatic 276, 3) := by decide +kernel
theorem dX13_refusal_26 : decode cX13_refusal 26 = .ok (.invokevirtual 286, 3) := by decide +kernel
theorem dX13_refusal_29 : decode cX13_refusal 29 = .ok (.ifCond .eq 13, 3) := by decide +kernel
theorem dX13_refusal_32 : decode cX13_refusal 32 = .ok (.aload_n 0, 1) := by decide +kernel
theorem dX13_refusal_33 : decode cX13_refusal 33 = .ok (.iload_n 1, 1) := by decide +kernel
theorem dX13_refusal_34 : decode cX13_refusal 34 = .ok (.iload_n 2, 1) := by decide +kernel
theorem dX13_refusal_35 : decode cX13_refusal 35 = .ok (.iload_n 3, 1) := by decide +kernel
theorem dX13_refusal_36 : decode cX13_refusal 36 = .ok (.invokevirtual 319, 3) := by decide +kernel
theorem dX13_refusal_39 : decode cX13_refusal 39 = .ok (.goto 4, 3) := by decide +kernel
theorem dX13_refusal_42 : decode cX13_refusal 42 = .ok (.iconst 0, 1) := by decide +kernel
theorem dX13_refusal_43 : decode cX13_refusal 43 = .ok (.ireturn, 1) := by decide +kernel
theorem dX13_neededLoudness_0 : decode cX13_neededLoudness 0 = .ok (.aload_n 0, 1) := by decide +kernel
theorem dX13_neededLoudness_1 : decode cX13_neededLoudness 1 = .ok (.aload_n 0, 1) := by decide +kernel
theorem dX13_neededLoudness_2 : decode cX13_neededLoudness 2 = .ok (.iload_n 1, 1) := by decide +kernel
theorem dX13_neededLoudness_3 : decode cX13_neededLoudness 3 = .ok (.invokevirtual 313, 3) := by decide +kernel
theorem dX13_neededLoudness_6 : decode cX13_neededLoudness 6 = .ok (.iload_n 2, 1) := by decide +kernel
theorem dX13_neededLoudness_7 : decode cX13_neededLoudness 7 = .ok (.invokestatic 276, 3) := by decide +kernel
theorem dX13_neededLoudness_10 : decode cX13_neededLoudness 10 = .ok (.invokevirtual 286, 3) := by decide +kernel
theorem dX13_neededLoudness_13 : decode cX13_neededLoudness 13 = .ok (.ifCond .ne 5, 3) := by decide +kernel
theorem dX13_neededLoudness_16 : decode cX13_neededLoudness 16 = .ok (.iconst 0, 1) := by decide +kernel
theorem dX13_neededLoudness_17 : decode cX13_neededLoudness 17 = .ok (.ireturn, 1) := by decide +kernel
theorem dX13_neededLoudness_18 : decode cX13_neededLoudness 18 = .ok (.iload_n 2, 1) := by decide +kernel
theorem dX13_neededLoudness_19 : decode cX13_neededLoudness 19 = .ok (.aload_n 0, 1) := by decide +kernel
theorem dX13_neededLoudness_20 : decode cX13_neededLoudness 20 = .ok (.iload_n 1, 1) := by decide +kernel
theorem dX13_neededLoudness_21 : decode cX13_neededLoudness 21 = .ok (.iconst 1, 1) := by decide +kernel
theorem dX13_neededLoudness_22 : decode cX13_neededLoudness 22 = .ok (.invokevirtual 190, 3) := by decide +kernel
theorem dX13_neededLoudness_25 : decode cX13_neededLoudness 25 = .ok (.if_icmp .le 7, 3) := by decide +kernel
theorem dX13_neededLoudness_28 : decode cX13_neededLoudness 28 = .ok (.iconst (-1), 1) := by decide +kernel
theorem dX13_neededLoudness_29 : decode cX13_neededLoudness 29 = .ok (.goto 15, 3) := by decide +kernel
theorem dX13_neededLoudness_32 : decode cX13_neededLoudness 32 = .ok (.iconst 2, 1) := by decide +kernel
theorem dX13_neededLoudness_33 : decode cX13_neededLoudness 33 = .ok (.iload_n 2, 1) := by decide +kernel
theorem dX13_neededLoudness_34 : decode cX13_neededLoudness 34 = .ok (.imul, 1) := by decide +kernel
theorem dX13_neededLoudness_35 : decode cX13_neededLoudness 35 = .ok (.aload_n 0, 1) := by decide +kernel
theorem dX13_neededLoudness_36 : decode cX13_neededLoudness 36 = .ok (.iload_n 1, 1) := by decide +kernel
theorem dX13_neededLoudness_37 : decode cX13_neededLoudness 37 = .ok (.iconst 3, 1) := by decide +kernel
theorem dX13_neededLoudness_38 : decode cX13_neededLoudness 38 = .ok (.invokevirtual 190, 3) := by decide +kernel
theorem dX13_neededLoudness_41 : decode cX13_neededLoudness 41 = .ok (.iadd, 1) := by decide +kernel
theorem dX13_neededLoudness_42 : decode cX13_neededLoudness 42 = .ok (.iconst 1, 1) := by decide +kernel
theorem dX13_neededLoudness_43 : decode cX13_neededLoudness 43 = .ok (.iadd, 1) := by decide +kernel
theorem dX13_neededLoudness_44 : decode cX13_neededLoudness 44 = .ok (.ireturn, 1) := by decide +kernel
theorem dX13_isOffer_0 : decode cX13_isOffer 0 = .ok (.aload_n 0, 1) := by decide +kernel
theorem dX13_isOffer_1 : decode cX13_isOffer 1 = .ok (.iload_n 1, 1) := by decide +kernel
theorem dX13_isOffer_2 : decode cX13_isOffer 2 = .ok (.iload_n 2, 1) := by decide +kernel
theorem dX13_isOffer_3 : decode cX13_isOffer 3 = .ok (.iload_n 3, 1) := by decide +kernel
theorem dX13_isOffer_4 : decode cX13_isOffer 4 = .ok (.invokevirtual 319, 3) := by decide +kernel
theorem dX13_isOffer_7 : decode cX13_isOffer 7 = .ok (.ifCond .ne 24, 3) := by decide +kernel
theorem dX13_isOffer_10 : decode cX13_isOffer 10 = .ok (.aload_n 0, 1) := by decide +kernel
theorem dX13_isOffer_11 : decode cX13_isOffer 11 = .ok (.iload_n 2, 1) := by decide +kernel
theorem dX13_isOffer_12 : decode cX13_isOffer 12 = .ok (.iconst 0, 1) := by decide +kernel
theorem dX13_isOffer_13 : decode cX13_isOffer 13 = .ok (.invokevirtual 190, 3) := by decide +kernel
theorem dX13_isOffer_16 : decode cX13_isOffer 16 = .ok (.iload_n 3, 1) := by decide +kernel
theorem dX13_isOffer_17 : decode cX13_isOffer 17 = .ok (.imul, 1) := by decide +kernel
theorem dX13_isOffer_18 : decode cX13_isOffer 18 = .ok (.aload_n 0, 1) := by decide +kernel
theorem dX13_isOffer_19 : decode cX13_isOffer 19 = .ok (.iload_n 1, 1) := by decide +kernel
theorem dX13_isOffer_20 : decode cX13_isOffer 20 = .ok (.iconst 0, 1) := by decide +kernel
theorem dX13_isOffer_21 : decode cX13_isOffer 21 = .ok (.invokevirtual 187, 3) := by decide +kernel
theorem dX13_isOffer_24 : decode cX13_isOffer 24 = .ok (.if_icmp .gt 7, 3) := by decide +kernel
theorem dX13_isOffer_27 : decode cX13_isOffer 27 = .ok (.iconst 1, 1) := by decide +kernel
theorem dX13_isOffer_28 : decode cX13_isOffer 28 = .ok (.goto 4, 3) := by decide +kernel
theorem dX13_isOffer_31 : decode cX13_isOffer 31 = .ok (.iconst 0, 1) := by decide +kernel
theorem dX13_isOffer_32 : decode cX13_isOffer 32 = .ok (.ireturn, 1) := by decide +kernel
theorem dX13_isCheaper_0 : decode cX13_isCheaper 0 = .ok (.aload_n 0, 1) := by decide +kernel
theorem dX13_isCheaper_1 : decode cX13_isCheaper 1 = .ok (.iload_n 1, 1) := by decide +kernel
theorem dX13_isCheaper_2 : decode cX13_isCheaper 2 = .ok (.iconst 2, 1) := by decide +kernel
theorem dX13_isCheaper_3 : decode cX13_isCheaper 3 = .ok (.invokevirtual 190, 3) := by decide +kernel
theorem dX13_isCheaper_6 : decode cX13_isCheaper 6 = .ok (.aload_n 0, 1) := by decide +kernel
theorem dX13_isCheaper_7 : decode cX13_isCheaper 7 = .ok (.iload_n 2, 1) := by decide +kernel
theorem dX13_isCheaper_8 : decode cX13_isCheaper 8 = .ok (.iconst 2, 1) := by decide +kernel
theorem dX13_isCheaper_9 : decode cX13_isCheaper 9 = .ok (.invokevirtual 190, 3) := by decide +kernel
theorem dX13_isCheaper_12 : decode cX13_isCheaper 12 = .ok (.if_icmp .eq 24, 3) := by decide +kernel
theorem dX13_isCheaper_15 : decode cX13_isCheaper 15 = .ok (.aload_n 0, 1) := by decide +kernel
theorem dX13_isCheaper_16 : decode cX13_isCheaper 16 = .ok (.iload_n 1, 1) := by decide +kernel
theorem dX13_isCheaper_17 : decode cX13_isCheaper 17 = .ok (.iconst 2, 1) := by decide +kernel
theorem dX13_isCheaper_18 : decode cX13_isCheaper 18 = .ok (.invokevirtual 190, 3) := by decide +kernel
theorem dX13_isCheaper_21 : decode cX13_isCheaper 21 = .ok (.aload_n 0, 1) := by decide +kernel
theorem dX13_isCheaper_22 : decode cX13_isCheaper 22 = .ok (.iload_n 2, 1) := by decide +kernel
theorem dX13_isCheaper_23 : decode cX13_isCheaper 23 = .ok (.iconst 2, 1) := by decide +kernel
theorem dX13_isCheaper_24 : decode cX13_isCheaper 24 = .ok (.invokevirtual 190, 3) := by decide +kernel
theorem dX13_isCheaper_27 : decode cX13_isCheaper 27 = .ok (.if_icmp .ge 7, 3) := by decide +kernel
theorem dX13_isCheaper_30 : decode cX13_isCheaper 30 = .ok (.iconst 1, 1) := by decide +kernel
theorem dX13_isCheaper_31 : decode cX13_isCheaper 31 = .ok (.goto 4, 3) := by decide +kernel
theorem dX13_isCheaper_34 : decode cX13_isCheaper 34 = .ok (.iconst 0, 1) := by decide +kernel
theorem dX13_isCheaper_35 : decode cX13_isCheaper 35 = .ok (.ireturn, 1) := by decide +kernel
theorem dX13_isCheaper_36 : decode cX13_isCheaper 36 = .ok (.aload_n 0, 1) := by decide +kernel
theorem dX13_isCheaper_37 : decode cX13_isCheaper 37 = .ok (.iload_n 1, 1) := by decide +kernel
theorem dX13_isCheaper_38 : decode cX13_isCheaper 38 = .ok (.iconst 4, 1) := by decide +kernel
theorem dX13_isCheaper_39 : decode cX13_isCheaper 39 = .ok (.invokevirtual 190, 3) := by decide +kernel
theorem dX13_isCheaper_42 : decode cX13_isCheaper 42 = .ok (.aload_n 0, 1) := by decide +kernel
theorem dX13_isCheaper_43 : decode cX13_isCheaper 43 = .ok (.iload_n 2, 1) := by decide +kernel
theorem dX13_isCheaper_44 : decode cX13_isCheaper 44 = .ok (.iconst 4, 1) := by decide +kernel
theorem dX13_isCheaper_45 : decode cX13_isCheaper 45 = .ok (.invokevirtual 190, 3) := by decide +kernel
theorem dX13_isCheaper_48 : decode cX13_isCheaper 48 = .ok (.if_icmp .le 7, 3) := by decide +kernel
theorem dX13_isCheaper_51 : decode cX13_isCheaper 51 = .ok (.iconst 1, 1) := by decide +kernel
theorem dX13_isCheaper_52 : decode cX13_isCheaper 52 = .ok (.goto 4, 3) := by decide +kernel
theorem dX13_isCheaper_55 : decode cX13_isCheaper 55 = .ok (.iconst 0, 1) := by decide +kernel
theorem dX13_isCheaper_56 : decode cX13_isCheaper 56 = .ok (.ireturn, 1) := by decide +kernel
theorem dX13_offer_0 : decode cX13_offer 0 = .ok (.iconst (-1), 1) := by decide +kernel
theorem dX13_offer_1 : decode cX13_offer 1 = .ok (.istore_n 3, 1) := by decide +kernel
theorem dX13_offer_2 : decode cX13_offer 2 = .ok (.iconst 0, 1) := by decide +kernel
theorem dX13_offer_3 : decode cX13_offer 3 = .ok (.istore 4, 2) := by decide +kernel
theorem dX13_offer_5 : decode cX13_offer 5 = .ok (.iload 4, 2) := by decide +kernel
theorem dX13_offer_7 : decode cX13_offer 7 = .ok (.aload_n 0, 1) := by decide +kernel
theorem dX13_offer_8 : decode cX13_offer 8 = .ok (.getfield 20, 3) := by decide +kernel
theorem dX13_offer_11 : decode cX13_offer 11 = .ok (.iconst 0, 1) := by decide +kernel
theorem dX13_offer_12 : decode cX13_offer 12 = .ok (.iaload, 1) := by decide +kernel
theorem dX13_offer_13 : decode cX13_offer 13 = .ok (.if_icmp .ge 38, 3) := by decide +kernel
theorem dX13_offer_16 : decode cX13_offer 16 = .ok (.aload_n 0, 1) := by decide +kernel
theorem dX13_offer_17 : decode cX13_offer 17 = .ok (.iload_n 1, 1) := by decide +kernel
theorem dX13_offer_18 : decode cX13_offer 18 = .ok (.iload 4, 2) := by decide +kernel
theorem dX13_offer_20 : decode cX13_offer 20 = .ok (.iload_n 2, 1) := by decide +kernel
theorem dX13_offer_21 : decode cX13_offer 21 = .ok (.invokevirtual 463, 3) := by decide +kernel
theorem dX13_offer_24 : decode cX13_offer 24 = .ok (.ifCond .eq 21, 3) := by decide +kernel
theorem dX13_offer_27 : decode cX13_offer 27 = .ok (.iload_n 3, 1) := by decide +kernel
theorem dX13_offer_28 : decode cX13_offer 28 = .ok (.iconst (-1), 1) := by decide +kernel
theorem dX13_offer_29 : decode cX13_offer 29 = .ok (.if_icmp .eq 13, 3) := by decide +kernel
theorem dX13_offer_32 : decode cX13_offer 32 = .ok (.aload_n 0, 1) := by decide +kernel
theorem dX13_offer_33 : decode cX13_offer 33 = .ok (.iload 4, 2) := by decide +kernel
theorem dX13_offer_35 : decode cX13_offer 35 = .ok (.iload_n 3, 1) := by decide +kernel
theorem dX13_offer_36 : decode cX13_offer 36 = .ok (.invokevirtual 467, 3) := by decide +kernel
theorem dX13_offer_39 : decode cX13_offer 39 = .ok (.ifCond .eq 6, 3) := by decide +kernel
theorem dX13_offer_42 : decode cX13_offer 42 = .ok (.iload 4, 2) := by decide +kernel
theorem dX13_offer_44 : decode cX13_offer 44 = .ok (.istore_n 3, 1) := by decide +kernel
theorem dX13_offer_45 : decode cX13_offer 45 = .ok (.iinc 4 1, 3) := by decide +kernel
theorem dX13_offer_48 : decode cX13_offer 48 = .ok (.goto (-43), 3) := by decide +kernel
theorem dX13_offer_51 : decode cX13_offer 51 = .ok (.iload_n 3, 1) := by decide +kernel
theorem dX13_offer_52 : decode cX13_offer 52 = .ok (.ireturn, 1) := by decide +kernel
theorem dX13_bestOffer_0 : decode cX13_bestOffer 0 = .ok (.aload_n 0, 1) := by decide +kernel
theorem dX13_bestOffer_1 : decode cX13_bestOffer 1 = .ok (.aload_n 0, 1) := by decide +kernel
theorem dX13_bestOffer_2 : decode cX13_bestOffer 2 = .ok (.iload_n 1, 1) := by decide +kernel
theorem dX13_bestOffer_3 : decode cX13_bestOffer 3 = .ok (.invokevirtual 310, 3) := by decide +kernel
theorem dX13_bestOffer_6 : decode cX13_bestOffer 6 = .ok (.iload_n 2, 1) := by decide +kernel
theorem dX13_bestOffer_7 : decode cX13_bestOffer 7 = .ok (.invokestatic 276, 3) := by decide +kernel
theorem dX13_bestOffer_10 : decode cX13_bestOffer 10 = .ok (.invokevirtual 286, 3) := by decide +kernel
theorem dX13_bestOffer_13 : decode cX13_bestOffer 13 = .ok (.ifCond .eq 12, 3) := by decide +kernel
theorem dX13_bestOffer_16 : decode cX13_bestOffer 16 = .ok (.aload_n 0, 1) := by decide +kernel
theorem dX13_bestOffer_17 : decode cX13_bestOffer 17 = .ok (.iload_n 1, 1) := by decide +kernel
theorem dX13_bestOffer_18 : decode cX13_bestOffer 18 = .ok (.iload_n 2, 1) := by decide +kernel
theorem dX13_bestOffer_19 : decode cX13_bestOffer 19 = .ok (.invokevirtual 470, 3) := by decide +kernel
theorem dX13_bestOffer_22 : decode cX13_bestOffer 22 = .ok (.goto 4, 3) := by decide +kernel
theorem dX13_bestOffer_25 : decode cX13_bestOffer 25 = .ok (.iconst 0, 1) := by decide +kernel
theorem dX13_bestOffer_26 : decode cX13_bestOffer 26 = .ok (.ireturn, 1) := by decide +kernel
theorem dX13_smaller_0 : decode cX13_smaller 0 = .ok (.iload_n 0, 1) := by decide +kernel
theorem dX13_smaller_1 : decode cX13_smaller 1 = .ok (.iload_n 1, 1) := by decide +kernel
theorem dX13_smaller_2 : decode cX13_smaller 2 = .ok (.if_icmp .ge 7, 3) := by decide +kernel
theorem dX13_smaller_5 : decode cX13_smaller 5 = .ok (.iload_n 0, 1) := by decide +kernel
theorem dX13_smaller_6 : decode cX13_smaller 6 = .ok (.goto 4, 3) := by decide +kernel
theorem dX13_smaller_9 : decode cX13_smaller 9 = .ok (.iload_n 1, 1) := by decide +kernel
theorem dX13_smaller_10 : decode cX13_smaller 10 = .ok (.ireturn, 1) := by decide +kernel
theorem dX13_nextEvent_0 : decode cX13_nextEvent 0 = .ok (.iconst (-1), 1) := by decide +kernel
theorem dX13_nextEvent_1 : decode cX13_nextEvent 1 = .ok (.istore_n 1, 1) := by decide +kernel
theorem dX13_nextEvent_2 : decode cX13_nextEvent 2 = .ok (.iconst 0, 1) := by decide +kernel
theorem dX13_nextEvent_3 : decode cX13_nextEvent 3 = .ok (.istore_n 2, 1) := by decide +kernel
theorem dX13_nextEvent_4 : decode cX13_nextEvent 4 = .ok (.iload_n 2, 1) := by decide +kernel
theorem dX13_nextEvent_5 : decode cX13_nextEvent 5 = .ok (.aload_n 0, 1) := by decide +kernel
theorem dX13_nextEvent_6 : decode cX13_nextEvent 6 = .ok (.getfield 20, 3) := by decide +kernel
theorem dX13_nextEvent_9 : decode cX13_nextEvent 9 = .ok (.iconst 2, 1) := by decide +kernel
theorem dX13_nextEvent_10 : decode cX13_nextEvent 10 = .ok (.iaload, 1) := by decide +kernel
theorem dX13_nextEvent_11 : decode cX13_nextEvent 11 = .ok (.if_icmp .ge 49, 3) := by decide +kernel
theorem dX13_nextEvent_14 : decode cX13_nextEvent 14 = .ok (.aload_n 0, 1) := by decide +kernel
theorem dX13_nextEvent_15 : decode cX13_nextEvent 15 = .ok (.iload_n 2, 1) := by decide +kernel
theorem dX13_nextEvent_16 : decode cX13_nextEvent 16 = .ok (.invokevirtual 210, 3) := by decide +kernel
theorem dX13_nextEvent_19 : decode cX13_nextEvent 19 = .ok (.ifCond .ne 6, 3) := by decide +kernel
theorem dX13_nextEvent_22 : decode cX13_nextEvent 22 = .ok (.goto 32, 3) := by decide +kernel
theorem dX13_nextEvent_25 : decode cX13_nextEvent 25 = .ok (.aload_n 0, 1) := by decide +kernel
theorem dX13_nextEvent_26 : decode cX13_nextEvent 26 = .ok (.iload_n 2, 1) := by decide +kernel
theorem dX13_nextEvent_27 : decode cX13_nextEvent 27 = .ok (.invokevirtual 225, 3) := by decide +kernel
theorem dX13_nextEvent_30 : decode cX13_nextEvent 30 = .ok (.aload_n 0, 1) := by decide +kernel
theorem dX13_nextEvent_31 : decode cX13_nextEvent 31 = .ok (.iload_n 2, 1) := by decide +kernel
theorem dX13_nextEvent_32 : decode cX13_nextEvent 32 = .ok (.invokevirtual 234, 3) := by decide +kernel
theorem dX13_nextEvent_35 : decode cX13_nextEvent 35 = .ok (.invokestatic 473, 3) := by decide +kernel
theorem dX13_nextEvent_38 : decode cX13_nextEvent 38 = .ok (.istore_n 3, 1) := by decide +kernel
theorem dX13_nextEvent_39 : decode cX13_nextEvent 39 = .ok (.iload_n 1, 1) := by decide +kernel
theorem dX13_nextEvent_40 : decode cX13_nextEvent 40 = .ok (.iconst (-1), 1) := by decide +kernel
theorem dX13_nextEvent_41 : decode cX13_nextEvent 41 = .ok (.if_icmp .ne 7, 3) := by decide +kernel
theorem dX13_nextEvent_44 : decode cX13_nextEvent 44 = .ok (.iload_n 3, 1) := by decide +kernel
theorem dX13_nextEvent_45 : decode cX13_nextEvent 45 = .ok (.goto 8, 3) := by decide +kernel
theorem dX13_nextEvent_48 : decode cX13_nextEvent 48 = .ok (.iload_n 3, 1) := by decide +kernel
theorem dX13_nextEvent_49 : decode cX13_nextEvent 49 = .ok (.iload_n 1, 1) := by decide +kernel
theorem dX13_nextEvent_50 : decode cX13_nextEvent 50 = .ok (.invokestatic 473, 3) := by decide +kernel
theorem dX13_nextEvent_53 : decode cX13_nextEvent 53 = .ok (.istore_n 1, 1) := by decide +kernel
theorem dX13_nextEvent_54 : decode cX13_nextEvent 54 = .ok (.iinc 2 1, 3) := by decide +kernel
theorem dX13_nextEvent_57 : decode cX13_nextEvent 57 = .ok (.goto (-53), 3) := by decide +kernel
theorem dX13_nextEvent_60 : decode cX13_nextEvent 60 = .ok (.aload_n 0, 1) := by decide +kernel
theorem dX13_nextEvent_61 : decode cX13_nextEvent 61 = .ok (.iload_n 1, 1) := by decide +kernel
theorem dX13_nextEvent_62 : decode cX13_nextEvent 62 = .ok (.invokevirtual 420, 3) := by decide +kernel
theorem dX13_nextEvent_65 : decode cX13_nextEvent 65 = .ok (.ireturn, 1) := by decide +kernel
theorem dX13_earnedBehind_0 : decode cX13_earnedBehind 0 = .ok (.aload_n 0, 1) := by decide +kernel
theorem dX13_earnedBehind_1 : decode cX13_earnedBehind 1 = .ok (.invokevirtual 476, 3) := by decide +kernel
theorem dX13_earnedBehind_4 : decode cX13_earnedBehind 4 = .ok (.aload_n 0, 1) := by decide +kernel
theorem dX13_earnedBehind_5 : decode cX13_earnedBehind 5 = .ok (.aload_n 0, 1) := by decide +kernel
theorem dX13_earnedBehind_6 : decode cX13_earnedBehind 6 = .ok (.iload_n 1, 1) := by decide +kernel
theorem dX13_earnedBehind_7 : decode cX13_earnedBehind 7 = .ok (.invokevirtual 346, 3) := by decide +kernel
theorem dX13_earnedBehind_10 : decode cX13_earnedBehind 10 = .ok (.putfield 216, 3) := by decide +kernel
theorem dX13_earnedBehind_13 : decode cX13_earnedBehind 13 = .ok (.aload_n 0, 1) := by decide +kernel
theorem dX13_earnedBehind_14 : decode cX13_earnedBehind 14 = .ok (.aload_n 0, 1) := by decide +kernel
theorem dX13_earnedBehind_15 : decode cX13_earnedBehind 15 = .ok (.getfield 20, 3) := by decide +kernel
theorem dX13_earnedBehind_18 : decode cX13_earnedBehind 18 = .ok (.iconst 4, 1) := by decide +kernel
theorem dX13_earnedBehind_19 : decode cX13_earnedBehind 19 = .ok (.iaload, 1) := by decide +kernel
theorem dX13_earnedBehind_20 : decode cX13_earnedBehind 20 = .ok (.invokevirtual 479, 3) := by decide +kernel
theorem dX13_earnedBehind_23 : decode cX13_earnedBehind 23 = .ok (.ireturn, 1) := by decide +kernel
theorem dX13_earnedAfter_0 : decode cX13_earnedAfter 0 = .ok (.aload_n 0, 1) := by decide +kernel
theorem dX13_earnedAfter_1 : decode cX13_earnedAfter 1 = .ok (.iload_n 1, 1) := by decide +kernel
theorem dX13_earnedAfter_2 : decode cX13_earnedAfter 2 = .ok (.i2l, 1) := by decide +kernel
theorem dX13_earnedAfter_3 : decode cX13_earnedAfter 3 = .ok (.lconst 0, 1) := by decide +kernel
theorem dX13_earnedAfter_4 : decode cX13_earnedAfter 4 = .ok (.ldc2_w 255, 3) := by decide +kernel
theorem dX13_earnedAfter_7 : decode cX13_earnedAfter 7 = .ok (.invokestatic 80, 3) := by decide +kernel
theorem dX13_earnedAfter_10 : decode cX13_earnedAfter 10 = .ok (.invokevirtual 72, 3) := by decide +kernel
theorem dX13_earnedAfter_13 : decode cX13_earnedAfter 13 = .ok (.ifCond .eq 11, 3) := by decide +kernel
theorem dX13_earnedAfter_16 : decode cX13_earnedAfter 16 = .ok (.aload_n 0, 1) := by decide +kernel
theorem dX13_earnedAfter_17 : decode cX13_earnedAfter 17 = .ok (.iload_n 1, 1) := by decide +kernel
theorem dX13_earnedAfter_18 : decode cX13_earnedAfter 18 = .ok (.invokevirtual 482, 3) := by decide +kernel
theorem dX13_earnedAfter_21 : decode cX13_earnedAfter 21 = .ok (.goto 4, 3) := by decide +kernel
theorem dX13_earnedAfter_24 : decode cX13_earnedAfter 24 = .ok (.iconst 0, 1) := by decide +kernel
theorem dX13_earnedAfter_25 : decode cX13_earnedAfter 25 = .ok (.ireturn, 1) := by decide +kernel
theorem dX13_endOf_0 : decode cX13_endOf 0 = .ok (.aload_n 0, 1) := by decide +kernel
theorem dX13_endOf_1 : decode cX13_endOf 1 = .ok (.iload_n 1, 1) := by decide +kernel
theorem dX13_endOf_2 : decode cX13_endOf 2 = .ok (.invokevirtual 210, 3) := by decide +kernel
theorem dX13_endOf_5 : decode cX13_endOf 5 = .ok (.ifCond .ne 11, 3) := by decide +kernel
theorem dX13_endOf_8 : decode cX13_endOf 8 = .ok (.aload_n 0, 1) := by decide +kernel
theorem dX13_endOf_9 : decode cX13_endOf 9 = .ok (.iload_n 1, 1) := by decide +kernel
theorem dX13_endOf_10 : decode cX13_endOf 10 = .ok (.bipush 6, 2) := by decide +kernel
theorem dX13_endOf_12 : decode cX13_endOf 12 = .ok (.invokevirtual 169, 3) := by decide +kernel
theorem dX13_endOf_15 : decode cX13_endOf 15 = .ok (.ireturn, 1) := by decide +kernel
theorem dX13_endOf_16 : decode cX13_endOf 16 = .ok (.aload_n 0, 1) := by decide +kernel
theorem dX13_endOf_17 : decode cX13_endOf 17 = .ok (.aload_n 0, 1) := by decide +kernel
theorem dX13_endOf_18 : decode cX13_endOf 18 = .ok (.iload_n 1, 1) := by decide +kernel
theorem dX13_endOf_19 : decode cX13_endOf 19 = .ok (.iconst 1, 1) := by decide +kernel
theorem dX13_endOf_20 : decode cX13_endOf 20 = .ok (.invokevirtual 169, 3) := by decide +kernel
theorem dX13_endOf_23 : decode cX13_endOf 23 = .ok (.iconst 0, 1) := by decide +kernel
theorem dX13_endOf_24 : decode cX13_endOf 24 = .ok (.invokevirtual 190, 3) := by decide +kernel
theorem dX13_endOf_27 : decode cX13_endOf 27 = .ok (.aload_n 0, 1) := by decide +kernel
theorem dX13_endOf_28 : decode cX13_endOf 28 = .ok (.iload_n 1, 1) := by decide +kernel
theorem dX13_endOf_29 : decode cX13_endOf 29 = .ok (.iconst 3, 1) := by decide +kernel
theorem dX13_endOf_30 : decode cX13_endOf 30 = .ok (.invokevirtual 169, 3) := by decide +kernel
theorem dX13_endOf_33 : decode cX13_endOf 33 = .ok (.imul, 1) := by decide +kernel
theorem dX13_endOf_34 : decode cX13_endOf 34 = .ok (.aload_n 0, 1) := by decide +kernel
theorem dX13_endOf_35 : decode cX13_endOf 35 = .ok (.aload_n 0, 1) := by decide +kernel
theorem dX13_endOf_36 : decode cX13_endOf 36 = .ok (.iload_n 1, 1) := by decide +kernel
theorem dX13_endOf_37 : decode cX13_endOf 37 = .ok (.iconst 0, 1) := by decide +kernel
theorem dX13_endOf_38 : decode cX13_endOf 38 = .ok (.invokevirtual 169, 3) := by decide +kernel
theorem dX13_endOf_41 : decode cX13_endOf 41 = .ok (.iconst 0, 1) := by decide +kernel
theorem dX13_endOf_42 : decode cX13_endOf 42 = .ok (.invokevirtual 187, 3) := by decide +kernel
theorem dX13_endOf_45 : decode cX13_endOf 45 = .ok (.if_icmp .gt 7, 3) := by decide +kernel
theorem dX13_endOf_48 : decode cX13_endOf 48 = .ok (.iconst 1, 1) := by decide +kernel
theorem dX13_endOf_49 : decode cX13_endOf 49 = .ok (.goto 4, 3) := by decide +kernel
theorem dX13_endOf_52 : decode cX13_endOf 52 = .ok (.iconst 2, 1) := by decide +kernel
theorem dX13_endOf_53 : decode cX13_endOf 53 = .ok (.ireturn, 1) := by decide +kernel
theorem dX13_finalState_0 : decode cX13_finalState 0 = .ok (.aload_n 0, 1) := by decide +kernel
theorem dX13_finalState_1 : decode cX13_finalState 1 = .ok (.aload_n 0, 1) := by decide +kernel
theorem dX13_finalState_2 : decode cX13_finalState 2 = .ok (.iload_n 1, 1) := by decide +kernel
theorem dX13_finalState_3 : decode cX13_finalState 3 = .ok (.invokevirtual 166, 3) := by decide +kernel
theorem dX13_finalState_6 : decode cX13_finalState 6 = .ok (.invokevirtual 72, 3) := by decide +kernel
theorem dX13_finalState_9 : decode cX13_finalState 9 = .ok (.ifCond .eq 11, 3) := by decide +kernel
theorem dX13_finalState_12 : decode cX13_finalState 12 = .ok (.aload_n 0, 1) := by decide +kernel
theorem dX13_finalState_13 : decode cX13_finalState 13 = .ok (.iload_n 1, 1) := by decide +kernel
theorem dX13_finalState_14 : decode cX13_finalState 14 = .ok (.invokevirtual 485, 3) := by decide +kernel
theorem dX13_finalState_17 : decode cX13_finalState 17 = .ok (.goto 4, 3) := by decide +kernel
theorem dX13_finalState_20 : decode cX13_finalState 20 = .ok (.iconst 0, 1) := by decide +kernel
theorem dX13_finalState_21 : decode cX13_finalState 21 = .ok (.ireturn, 1) := by decide +kernel
theorem dX13_without_0 : decode cX13_without 0 = .ok (.iload_n 0, 1) := by decide +kernel
theorem dX13_without_1 : decode cX13_without 1 = .ok (.ifCond .ge 8, 3) := by decide +kernel
theorem dX13_without_4 : decode cX13_without 4 = .ok (.iload_n 0, 1) := by decide +kernel
theorem dX13_without_5 : decode cX13_without 5 = .ok (.ineg, 1) := by decide +kernel
theorem dX13_without_6 : decode cX13_without 6 = .ok (.goto 4, 3) := by decide +kernel
theorem dX13_without_9 : decode cX13_without 9 = .ok (.iload_n 0, 1) := by decide +kernel
theorem dX13_without_10 : decode cX13_without 10 = .ok (.ireturn, 1) := by decide +kernel
theorem dX13_costGap_0 : decode cX13_costGap 0 = .ok (.iconst 0, 1) := by decide +kernel
theorem dX13_costGap_1 : decode cX13_costGap 1 = .ok (.istore_n 1, 1) := by decide +kernel
theorem dX13_costGap_2 : decode cX13_costGap 2 = .ok (.iconst 0, 1) := by decide +kernel
theorem dX13_costGap_3 : decode cX13_costGap 3 = .ok (.istore_n 2, 1) := by decide +kernel
theorem dX13_costGap_4 : decode cX13_costGap 4 = .ok (.iload_n 2, 1) := by decide +kernel
theorem dX13_costGap_5 : decode cX13_costGap 5 = .ok (.aload_n 0, 1) := by decide +kernel
theorem dX13_costGap_6 : decode cX13_costGap 6 = .ok (.getfield 20, 3) := by decide +kernel
theorem dX13_costGap_9 : decode cX13_costGap 9 = .ok (.iconst 2, 1) := by decide +kernel
theorem dX13_costGap_10 : decode cX13_costGap 10 = .ok (.iaload, 1) := by decide +kernel
theorem dX13_costGap_11 : decode cX13_costGap 11 = .ok (.if_icmp .ge 25, 3) := by decide +kernel
theorem dX13_costGap_14 : decode cX13_costGap 14 = .ok (.iload_n 1, 1) := by decide +kernel
theorem dX13_costGap_15 : decode cX13_costGap 15 = .ok (.aload_n 0, 1) := by decide +kernel
theorem dX13_costGap_16 : decode cX13_costGap 16 = .ok (.iload_n 2, 1) := by decide +kernel
theorem dX13_costGap_17 : decode cX13_costGap 17 = .ok (.iconst 4, 1) := by decide +kernel
theorem dX13_costGap_18 : decode cX13_costGap 18 = .ok (.invokevirtual 169, 3) := by decide +kernel
theorem dX13_costGap_21 : decode cX13_costGap 21 = .ok (.aload_n 0, 1) := by decide +kernel
theorem dX13_costGap_22 : decode cX13_costGap 22 = .ok (.iload_n 2, 1) := by decide +kernel
theorem dX13_costGap_23 : decode cX13_costGap 23 = .ok (.iconst 3, 1) := by decide +kernel
theorem dX13_costGap_24 : decode cX13_costGap 24 = .ok (.invokevirtual 169, 3) := by decide +kernel
theorem dX13_costGap_27 : decode cX13_costGap 27 = .ok (.imul, 1) := by decide +kernel
theorem dX13_costGap_28 : decode cX13_costGap 28 = .ok (.iadd, 1) := by decide +kernel
theorem dX13_costGap_29 : decode cX13_costGap 29 = .ok (.istore_n 1, 1) := by decide +kernel
theorem dX13_costGap_30 : decode cX13_costGap 30 = .ok (.iinc 2 1, 3) := by decide +kernel
theorem dX13_costGap_33 : decode cX13_costGap 33 = .ok (.goto (-29), 3) := by decide +kernel
theorem dX13_costGap_36 : decode cX13_costGap 36 = .ok (.iload_n 1, 1) := by decide +kernel
theorem dX13_costGap_37 : decode cX13_costGap 37 = .ok (.aload_n 0, 1) := by decide +kernel
theorem dX13_costGap_38 : decode cX13_costGap 38 = .ok (.getfield 20, 3) := by decide +kernel
theorem dX13_costGap_41 : decode cX13_costGap 41 = .ok (.iconst 4, 1) := by decide +kernel
theorem dX13_costGap_42 : decode cX13_costGap 42 = .ok (.iaload, 1) := by decide +kernel
theorem dX13_costGap_43 : decode cX13_costGap 43 = .ok (.isub, 1) := by decide +kernel
theorem dX13_costGap_44 : decode cX13_costGap 44 = .ok (.aload_n 0, 1) := by decide +kernel
theorem dX13_costGap_45 : decode cX13_costGap 45 = .ok (.getfield 20, 3) := by decide +kernel
theorem dX13_costGap_48 : decode cX13_costGap 48 = .ok (.iconst 5, 1) := by decide +kernel
theorem dX13_costGap_49 : decode cX13_costGap 49 = .ok (.iaload, 1) := by decide +kernel
theorem dX13_costGap_50 : decode cX13_costGap 50 = .ok (.isub, 1) := by decide +kernel
theorem dX13_costGap_51 : decode cX13_costGap 51 = .ok (.aload_n 0, 1) := by decide +kernel
theorem dX13_costGap_52 : decode cX13_costGap 52 = .ok (.invokevirtual 423, 3) := by decide +kernel
theorem dX13_costGap_55 : decode cX13_costGap 55 = .ok (.isub, 1) := by decide +kernel
theorem dX13_costGap_56 : decode cX13_costGap 56 = .ok (.invokestatic 488, 3) := by decide +kernel
theorem dX13_costGap_59 : decode cX13_costGap 59 = .ok (.ireturn, 1) := by decide +kernel
theorem dX13_moneyGap_0 : decode cX13_moneyGap 0 = .ok (.iconst 0, 1) := by decide +kernel
theorem dX13_moneyGap_1 : decode cX13_moneyGap 1 = .ok (.istore_n 1, 1) := by decide +kernel
theorem dX13_moneyGap_2 : decode cX13_moneyGap 2 = .ok (.iconst 0, 1) := by decide +kernel
theorem dX13_moneyGap_3 : decode cX13_moneyGap 3 = .ok (.istore_n 2, 1) := by decide +kernel
theorem dX13_moneyGap_4 : decode cX13_moneyGap 4 = .ok (.iload_n 2, 1) := by decide +kernel
theorem dX13_moneyGap_5 : decode cX13_moneyGap 5 = .ok (.aload_n 0, 1) := by decide +kernel
theorem dX13_moneyGap_6 : decode cX13_moneyGap 6 = .ok (.getfield 20, 3) := by decide +kernel
theorem dX13_moneyGap_9 : decode cX13_moneyGap 9 = .ok (.iconst 1, 1) := by decide +kernel
theorem dX13_moneyGap_10 : decode cX13_moneyGap 10 = .ok (.iaload, 1) := by decide +kernel
theorem dX13_moneyGap_11 : decode cX13_moneyGap 11 = .ok (.if_icmp .ge 18, 3) := by decide +kernel
theorem dX13_moneyGap_14 : decode cX13_moneyGap 14 = .ok (.iload_n 1, 1) := by decide +kernel
theorem dX13_moneyGap_15 : decode cX13_moneyGap 15 = .ok (.aload_n 0, 1) := by decide +kernel
theorem dX13_moneyGap_16 : decode cX13_moneyGap 16 = .ok (.iload_n 2, 1) := by decide +kernel
theorem dX13_moneyGap_17 : decode cX13_moneyGap 17 = .ok (.iconst 1, 1) := by decide +kernel
theorem dX13_moneyGap_18 : decode cX13_moneyGap 18 = .ok (.invokevirtual 187, 3) := by decide +kernel
theorem dX13_moneyGap_21 : decode cX13_moneyGap 21 = .ok (.iadd, 1) := by decide +kernel
theorem dX13_moneyGap_22 : decode cX13_moneyGap 22 = .ok (.istore_n 1, 1) := by decide +kernel
theorem dX13_moneyGap_23 : decode cX13_moneyGap 23 = .ok (.iinc 2 1, 3) := by decide +kernel
theorem dX13_moneyGap_26 : decode cX13_moneyGap 26 = .ok (.goto (-22), 3) := by decide +kernel
theorem dX13_moneyGap_29 : decode cX13_moneyGap 29 = .ok (.aload_n 0, 1) := by decide +kernel
theorem dX13_moneyGap_30 : decode cX13_moneyGap 30 = .ok (.getfield 20, 3) := by decide +kernel
theorem dX13_moneyGap_33 : decode cX13_moneyGap 33 = .ok (.bipush 7, 2) := by decide +kernel
theorem dX13_moneyGap_35 : decode cX13_moneyGap 35 = .ok (.iaload, 1) := by decide +kernel
theorem dX13_moneyGap_36 : decode cX13_moneyGap 36 = .ok (.iload_n 1, 1) := by decide +kernel
theorem dX13_moneyGap_37 : decode cX13_moneyGap 37 = .ok (.isub, 1) := by decide +kernel
theorem dX13_moneyGap_38 : decode cX13_moneyGap 38 = .ok (.aload_n 0, 1) := by decide +kernel
theorem dX13_moneyGap_39 : decode cX13_moneyGap 39 = .ok (.getfield 20, 3) := by decide +kernel
theorem dX13_moneyGap_42 : decode cX13_moneyGap 42 = .ok (.iconst 4, 1) := by decide +kernel
theorem dX13_moneyGap_43 : decode cX13_moneyGap 43 = .ok (.iaload, 1) := by decide +kernel
theorem dX13_moneyGap_44 : decode cX13_moneyGap 44 = .ok (.isub, 1) := by decide +kernel
theorem dX13_moneyGap_45 : decode cX13_moneyGap 45 = .ok (.aload_n 0, 1) := by decide +kernel
theorem dX13_moneyGap_46 : decode cX13_moneyGap 46 = .ok (.invokevirtual 423, 3) := by decide +kernel
theorem dX13_moneyGap_49 : decode cX13_moneyGap 49 = .ok (.isub, 1) := by decide +kernel
theorem dX13_moneyGap_50 : decode cX13_moneyGap 50 = .ok (.invokestatic 488, 3) := by decide +kernel
theorem dX13_moneyGap_53 : decode cX13_moneyGap 53 = .ok (.ireturn, 1) := by decide +kernel
theorem dX13_unfinished_0 : decode cX13_unfinished 0 = .ok (.iconst 0, 1) := by decide +kernel
theorem dX13_unfinished_1 : decode cX13_unfinished 1 = .ok (.istore_n 1, 1) := by decide +kernel
theorem dX13_unfinished_2 : decode cX13_unfinished 2 = .ok (.iconst 0, 1) := by decide +kernel
theorem dX13_unfinished_3 : decode cX13_unfinished 3 = .ok (.istore_n 2, 1) := by decide +kernel
theorem dX13_unfinished_4 : decode cX13_unfinished 4 = .ok (.iload_n 2, 1) := by decide +kernel
theorem dX13_unfinished_5 : decode cX13_unfinished 5 = .ok (.aload_n 0, 1) := by decide +kernel
theorem dX13_unfinished_6 : decode cX13_unfinished 6 = .ok (.getfield 20, 3) := by decide +kernel
theorem dX13_unfinished_9 : decode cX13_unfinished 9 = .ok (.iconst 2, 1) := by decide +kernel
theorem dX13_unfinished_10 : decode cX13_unfinished 10 = .ok (.iaload, 1) := by decide +kernel
theorem dX13_unfinished_11 : decode cX13_unfinished 11 = .ok (.if_icmp .ge 47, 3) := by decide +kernel
theorem dX13_unfinished_14 : decode cX13_unfinished 14 = .ok (.iload_n 1, 1) := by decide +kernel
theorem dX13_unfinished_15 : decode cX13_unfinished 15 = .ok (.aload_n 0, 1) := by decide +kernel
theorem dX13_unfinished_16 : decode cX13_unfinished 16 = .ok (.iload_n 2, 1) := by decide +kernel
theorem dX13_unfinished_17 : decode cX13_unfinished 17 = .ok (.bipush 6, 2) := by decide +kernel
theorem dX13_unfinished_19 : decode cX13_unfinished 19 = .ok (.invokevirtual 169, 3) := by decide +kernel
theorem dX13_unfinished_22 : decode cX13_unfinished 22 = .ok (.iconst 1, 1) := by decide +kernel
theorem dX13_unfinished_23 : decode cX13_unfinished 23 = .ok (.if_icmp .ne 23, 3) := by decide +kernel
theorem dX13_unfinished_26 : decode cX13_unfinished 26 = .ok (.aload_n 0, 1) := by decide +kernel
theorem dX13_unfinished_27 : decode cX13_unfinished 27 = .ok (.iload_n 2, 1) := by decide +kernel
theorem dX13_unfinished_28 : decode cX13_unfinished 28 = .ok (.bipush 7, 2) := by decide +kernel
theorem dX13_unfinished_30 : decode cX13_unfinished 30 = .ok (.invokevirtual 169, 3) := by decide +kernel
theorem dX13_unfinished_33 : decode cX13_unfinished 33 = .ok (.aload_n 0, 1) := by decide +kernel
theorem dX13_unfinished_34 : decode cX13_unfinished 34 = .ok (.iload_n 2, 1) := by decide +kernel
theorem dX13_unfinished_35 : decode cX13_unfinished 35 = .ok (.iconst 3, 1) := by decide +kernel
theorem dX13_unfinished_36 : decode cX13_unfinished 36 = .ok (.invokevirtual 169, 3) := by decide +kernel
theorem dX13_unfinished_39 : decode cX13_unfinished 39 = .ok (.if_icmp .ge 7, 3) := by decide +kernel
theorem dX13_unfinished_42 : decode cX13_unfinished 42 = .ok (.iconst 1, 1) := by decide +kernel
theorem dX13_unfinished_43 : decode cX13_unfinished 43 = .ok (.goto 4, 3) := by decide +kernel
theorem dX13_unfinished_46 : decode cX13_unfinished 46 = .ok (.iconst 0, 1) := by decide +kernel
theorem dX13_unfinished_47 : decode cX13_unfinished 47 = .ok (.invokestatic 65, 3) := by decide +kernel
theorem dX13_unfinished_50 : decode cX13_unfinished 50 = .ok (.iadd, 1) := by decide +kernel
theorem dX13_unfinished_51 : decode cX13_unfinished 51 = .ok (.istore_n 1, 1) := by decide +kernel
theorem dX13_unfinished_52 : decode cX13_unfinished 52 = .ok (.iinc 2 1, 3) := by decide +kernel
theorem dX13_unfinished_55 : decode cX13_unfinished 55 = .ok (.goto (-51), 3) := by decide +kernel
theorem dX13_unfinished_58 : decode cX13_unfinished 58 = .ok (.iload_n 1, 1) := by decide +kernel
theorem dX13_unfinished_59 : decode cX13_unfinished 59 = .ok (.ireturn, 1) := by decide +kernel
theorem dX13_violations_0 : decode cX13_violations 0 = .ok (.aload_n 0, 1) := by decide +kernel
theorem dX13_violations_1 : decode cX13_violations 1 = .ok (.aload_n 0, 1) := by decide +kernel
theorem dX13_violations_2 : decode cX13_violations 2 = .ok (.invokevirtual 491, 3) := by decide +kernel
theorem dX13_violations_5 : decode cX13_violations 5 = .ok (.aload_n 0, 1) := by decide +kernel
theorem dX13_violations_6 : decode cX13_violations 6 = .ok (.invokevirtual 494, 3) := by decide +kernel
theorem dX13_violations_9 : decode cX13_violations 9 = .ok (.iadd, 1) := by decide +kernel
theorem dX13_violations_10 : decode cX13_violations 10 = .ok (.aload_n 0, 1) := by decide +kernel
theorem dX13_violations_11 : decode cX13_violations 11 = .ok (.invokevirtual 497, 3) := by decide +kernel
theorem dX13_violations_14 : decode cX13_violations 14 = .ok (.iadd, 1) := by decide +kernel
theorem dX13_violations_15 : decode cX13_violations 15 = .ok (.invokevirtual 420, 3) := by decide +kernel
theorem dX13_violations_18 : decode cX13_violations 18 = .ok (.ireturn, 1) := by decide +kernel
theorem dX13_meanRating_0 : decode cX13_meanRating 0 = .ok (.aload_n 0, 1) := by decide +kernel
theorem dX13_meanRating_1 : decode cX13_meanRating 1 = .ok (.iconst 0, 1) := by decide +kernel
theorem dX13_meanRating_2 : decode cX13_meanRating 2 = .ok (.putfield 62, 3) := by decide +kernel
theorem dX13_meanRating_5 : decode cX13_meanRating 5 = .ok (.iconst 0, 1) := by decide +kernel
theorem dX13_meanRating_6 : decode cX13_meanRating 6 = .ok (.istore_n 1, 1) := by decide +kernel
theorem dX13_meanRating_7 : decode cX13_meanRating 7 = .ok (.iconst 0, 1) := by decide +kernel
theorem dX13_meanRating_8 : decode cX13_meanRating 8 = .ok (.istore_n 2, 1) := by decide +kernel
theorem dX13_meanRating_9 : decode cX13_meanRating 9 = .ok (.iload_n 2, 1) := by decide +kernel
theorem dX13_meanRating_10 : decode cX13_meanRating 10 = .ok (.aload_n 0, 1) := by decide +kernel
theorem dX13_meanRating_11 : decode cX13_meanRating 11 = .ok (.getfield 20, 3) := by decide +kernel
theorem dX13_meanRating_14 : decode cX13_meanRating 14 = .ok (.iconst 0, 1) := by decide +kernel
theorem dX13_meanRating_15 : decode cX13_meanRating 15 = .ok (.iaload, 1) := by decide +kernel
theorem dX13_meanRating_16 : decode cX13_meanRating 16 = .ok (.if_icmp .ge 18, 3) := by decide +kernel
theorem dX13_meanRating_19 : decode cX13_meanRating 19 = .ok (.iload_n 1, 1) := by decide +kernel
theorem dX13_meanRating_20 : decode cX13_meanRating 20 = .ok (.aload_n 0, 1) := by decide +kernel
theorem dX13_meanRating_21 : decode cX13_meanRating 21 = .ok (.iload_n 2, 1) := by decide +kernel
theorem dX13_meanRating_22 : decode cX13_meanRating 22 = .ok (.iconst 4, 1) := by decide +kernel
theorem dX13_meanRating_23 : decode cX13_meanRating 23 = .ok (.invokevirtual 190, 3) := by decide +kernel
theorem dX13_meanRating_26 : decode cX13_meanRating 26 = .ok (.iadd, 1) := by decide +kernel
theorem dX13_meanRating_27 : decode cX13_meanRating 27 = .ok (.istore_n 1, 1) := by decide +kernel
theorem dX13_meanRating_28 : decode cX13_meanRating 28 = .ok (.iinc 2 1, 3) := by decide +kernel
theorem dX13_meanRating_31 : decode cX13_meanRating 31 = .ok (.goto (-22), 3) := by decide +kernel
theorem dX13_meanRating_34 : decode cX13_meanRating 34 = .ok (.aload_n 0, 1) := by decide +kernel
theorem dX13_meanRating_35 : decode cX13_meanRating 35 = .ok (.getfield 20, 3) := by decide +kernel
theorem dX13_meanRating_38 : decode cX13_meanRating 38 = .ok (.iconst 0, 1) := by decide +kernel
theorem dX13_meanRating_39 : decode cX13_meanRating 39 = .ok (.iaload, 1) := by decide +kernel
theorem dX13_meanRating_40 : decode cX13_meanRating 40 = .ok (.ifCond .ne 7, 3) := by decide +kernel
theorem dX13_meanRating_43 : decode cX13_meanRating 43 = .ok (.dconst 0, 1) := by decide +kernel
theorem dX13_meanRating_44 : decode cX13_meanRating 44 = .ok (.goto 13, 3) := by decide +kernel
theorem dX13_meanRating_47 : decode cX13_meanRating 47 = .ok (.iload_n 1, 1) := by decide +kernel
theorem dX13_meanRating_48 : decode cX13_meanRating 48 = .ok (.i2d, 1) := by decide +kernel
theorem dX13_meanRating_49 : decode cX13_meanRating 49 = .ok (.aload_n 0, 1) := by decide +kernel
theorem dX13_meanRating_50 : decode cX13_meanRating 50 = .ok (.getfield 20, 3) := by decide +kernel
theorem dX13_meanRating_53 : decode cX13_meanRating 53 = .ok (.iconst 0, 1) := by decide +kernel
theorem dX13_meanRating_54 : decode cX13_meanRating 54 = .ok (.iaload, 1) := by decide +kernel
theorem dX13_meanRating_55 : decode cX13_meanRating 55 = .ok (.i2d, 1) := by decide +kernel
theorem dX13_meanRating_56 : decode cX13_meanRating 56 = .ok (.ddiv, 1) := by decide +kernel
theorem dX13_meanRating_57 : decode cX13_meanRating 57 = .ok (.dreturn, 1) := by decide +kernel
theorem dX13_returnsAll_0 : decode cX13_returnsAll 0 = .ok (.iconst 0, 1) := by decide +kernel
theorem dX13_returnsAll_1 : decode cX13_returnsAll 1 = .ok (.istore_n 1, 1) := by decide +kernel
theorem dX13_returnsAll_2 : decode cX13_returnsAll 2 = .ok (.iconst 0, 1) := by decide +kernel
theorem dX13_returnsAll_3 : decode cX13_returnsAll 3 = .ok (.istore_n 2, 1) := by decide +kernel
theorem dX13_returnsAll_4 : decode cX13_returnsAll 4 = .ok (.iload_n 2, 1) := by decide +kernel
theorem dX13_returnsAll_5 : decode cX13_returnsAll 5 = .ok (.aload_n 0, 1) := by decide +kernel
theorem dX13_returnsAll_6 : decode cX13_returnsAll 6 = .ok (.getfield 20, 3) := by decide +kernel
theorem dX13_returnsAll_9 : decode cX13_returnsAll 9 = .ok (.iconst 2, 1) := by decide +kernel
theorem dX13_returnsAll_10 : decode cX13_returnsAll 10 = .ok (.iaload, 1) := by decide +kernel
theorem dX13_returnsAll_11 : decode cX13_returnsAll 11 = .ok (.if_icmp .ge 19, 3) := by decide +kernel
theorem dX13_returnsAll_14 : decode cX13_returnsAll 14 = .ok (.iload_n 1, 1) := by decide +kernel
theorem dX13_returnsAll_15 : decode cX13_returnsAll 15 = .ok (.aload_n 0, 1) := by decide +kernel
theorem dX13_returnsAll_16 : decode cX13_returnsAll 16 = .ok (.iload_n 2, 1) := by decide +kernel
theorem dX13_returnsAll_17 : decode cX13_returnsAll 17 = .ok (.bipush 7, 2) := by decide +kernel
theorem dX13_returnsAll_19 : decode cX13_returnsAll 19 = .ok (.invokevirtual 169, 3) := by decide +kernel
theorem dX13_returnsAll_22 : decode cX13_returnsAll 22 = .ok (.iadd, 1) := by decide +kernel
theorem dX13_returnsAll_23 : decode cX13_returnsAll 23 = .ok (.istore_n 1, 1) := by decide +kernel
theorem dX13_returnsAll_24 : decode cX13_returnsAll 24 = .ok (.iinc 2 1, 3) := by decide +kernel
theorem dX13_returnsAll_27 : decode cX13_returnsAll 27 = .ok (.goto (-23), 3) := by decide +kernel
theorem dX13_returnsAll_30 : decode cX13_returnsAll 30 = .ok (.iload_n 1, 1) := by decide +kernel
theorem dX13_returnsAll_31 : decode cX13_returnsAll 31 = .ok (.ireturn, 1) := by decide +kernel
theorem dX13_heardAll_0 : decode cX13_heardAll 0 = .ok (.iconst 0, 1) := by decide +kernel
theorem dX13_heardAll_1 : decode cX13_heardAll 1 = .ok (.istore_n 1, 1) := by decide +kernel
theorem dX13_heardAll_2 : decode cX13_heardAll 2 = .ok (.iconst 0, 1) := by decide +kernel
theorem dX13_heardAll_3 : decode cX13_heardAll 3 = .ok (.istore_n 2, 1) := by decide +kernel
theorem dX13_heardAll_4 : decode cX13_heardAll 4 = .ok (.iload_n 2, 1) := by decide +kernel
theorem dX13_heardAll_5 : decode cX13_heardAll 5 = .ok (.aload_n 0, 1) := by decide +kernel
theorem dX13_heardAll_6 : decode cX13_heardAll 6 = .ok (.getfield 20, 3) := by decide +kernel
theorem dX13_heardAll_9 : decode cX13_heardAll 9 = .ok (.iconst 2, 1) := by decide +kernel
theorem dX13_heardAll_10 : decode cX13_heardAll 10 = .ok (.iaload, 1) := by decide +kernel
theorem dX13_heardAll_11 : decode cX13_heardAll 11 = .ok (.if_icmp .ge 22, 3) := by decide +kernel
theorem dX13_heardAll_14 : decode cX13_heardAll 14 = .ok (.iload_n 1, 1) := by decide +kernel
theorem dX13_heardAll_15 : decode cX13_heardAll 15 = .ok (.aload_n 0, 1) := by decide +kernel
theorem dX13_heardAll_16 : decode cX13_heardAll 16 = .ok (.iload_n 2, 1) := by decide +kernel
theorem dX13_heardAll_17 : decode cX13_heardAll 17 = .ok (.bipush 8, 2) := by decide +kernel
theorem dX13_heardAll_19 : decode cX13_heardAll 19 = .ok (.invokevirtual 169, 3) := by decide +kernel
theorem dX13_heardAll_22 : decode cX13_heardAll 22 = .ok (.invokestatic 184, 3) := by decide +kernel
theorem dX13_heardAll_25 : decode cX13_heardAll 25 = .ok (.iadd, 1) := by decide +kernel
theorem dX13_heardAll_26 : decode cX13_heardAll 26 = .ok (.istore_n 1, 1) := by decide +kernel
theorem dX13_heardAll_27 : decode cX13_heardAll 27 = .ok (.iinc 2 1, 3) := by decide +kernel
theorem dX13_heardAll_30 : decode cX13_heardAll 30 = .ok (.goto (-26), 3) := by decide +kernel
theorem dX13_heardAll_33 : decode cX13_heardAll 33 = .ok (.iload_n 1, 1) := by decide +kernel
theorem dX13_heardAll_34 : decode cX13_heardAll 34 = .ok (.ireturn, 1) := by decide +kernel
theorem dX13_heardFraction_0 : decode cX13_heardFraction 0 = .ok (.aload_n 0, 1) := by decide +kernel
theorem dX13_heardFraction_1 : decode cX13_heardFraction 1 = .ok (.iconst 0, 1) := by decide +kernel
theorem dX13_heardFraction_2 : decode cX13_heardFraction 2 = .ok (.putfield 62, 3) := by decide +kernel
theorem dX13_heardFraction_5 : decode cX13_heardFraction 5 = .ok (.aload_n 0, 1) := by decide +kernel
theorem dX13_heardFraction_6 : decode cX13_heardFraction 6 = .ok (.invokevirtual 500, 3) := by decide +kernel
theorem dX13_heardFraction_9 : decode cX13_heardFraction 9 = .ok (.istore_n 1, 1) := by decide +kernel
theorem dX13_heardFraction_10 : decode cX13_heardFraction 10 = .ok (.iload_n 1, 1) := by decide +kernel
theorem dX13_heardFraction_11 : decode cX13_heardFraction 11 = .ok (.ifCond .ne 7, 3) := by decide +kernel
theorem dX13_heardFraction_14 : decode cX13_heardFraction 14 = .ok (.fconst 0, 1) := by decide +kernel
theorem dX13_heardFraction_15 : decode cX13_heardFraction 15 = .ok (.goto 11, 3) := by decide +kernel
theorem dX13_heardFraction_18 : decode cX13_heardFraction 18 = .ok (.aload_n 0, 1) := by decide +kernel
theorem dX13_heardFraction_19 : decode cX13_heardFraction 19 = .ok (.invokevirtual 503, 3) := by decide +kernel
theorem dX13_heardFraction_22 : decode cX13_heardFraction 22 = .ok (.i2f, 1) := by decide +kernel
theorem dX13_heardFraction_23 : decode cX13_heardFraction 23 = .ok (.iload_n 1, 1) := by decide +kernel
theorem dX13_heardFraction_24 : decode cX13_heardFraction 24 = .ok (.i2f, 1) := by decide +kernel
theorem dX13_heardFraction_25 : decode cX13_heardFraction 25 = .ok (.fdiv, 1) := by decide +kernel
theorem dX13_heardFraction_26 : decode cX13_heardFraction 26 = .ok (.freturn, 1) := by decide +kernel
theorem dX13_commandHere_0 : decode cX13_commandHere 0 = .ok (.aload_n 0, 1) := by decide +kernel
theorem dX13_commandHere_1 : decode cX13_commandHere 1 = .ok (.ldc2_w 372, 3) := by decide +kernel
theorem dX13_commandHere_4 : decode cX13_commandHere 4 = .ok (.invokevirtual 130, 3) := by decide +kernel
theorem dX13_commandHere_7 : decode cX13_commandHere 7 = .ok (.ifCond .eq 5, 3) := by decide +kernel
theorem dX13_commandHere_10 : decode cX13_commandHere 10 = .ok (.iconst 0, 1) := by decide +kernel
theorem dX13_commandHere_11 : decode cX13_commandHere 11 = .ok (.ireturn, 1) := by decide +kernel
theorem dX13_commandHere_12 : decode cX13_commandHere 12 = .ok (.aload_n 0, 1) := by decide +kernel
theorem dX13_commandHere_13 : decode cX13_commandHere 13 = .ok (.ldc2_w 377, 3) := by decide +kernel
theorem dX13_commandHere_16 : decode cX13_commandHere 16 = .ok (.invokevirtual 130, 3) := by decide +kernel
theorem dX13_commandHere_19 : decode cX13_commandHere 19 = .ok (.ifCond .eq 5, 3) := by decide +kernel
theorem dX13_commandHere_22 : decode cX13_commandHere 22 = .ok (.iconst 1, 1) := by decide +kernel
theorem dX13_commandHere_23 : decode cX13_commandHere 23 = .ok (.ireturn, 1) := by decide +kernel
theorem dX13_commandHere_24 : decode cX13_commandHere 24 = .ok (.aload_n 0, 1) := by decide +kernel
theorem dX13_commandHere_25 : decode cX13_commandHere 25 = .ok (.ldc2_w 383, 3) := by decide +kernel
theorem dX13_commandHere_28 : decode cX13_commandHere 28 = .ok (.invokevirtual 130, 3) := by decide +kernel
theorem dX13_commandHere_31 : decode cX13_commandHere 31 = .ok (.ifCond .eq 5, 3) := by decide +kernel
theorem dX13_commandHere_34 : decode cX13_commandHere 34 = .ok (.iconst 2, 1) := by decide +kernel
theorem dX13_commandHere_35 : decode cX13_commandHere 35 = .ok (.ireturn, 1) := by decide +kernel
theorem dX13_commandHere_36 : decode cX13_commandHere 36 = .ok (.aload_n 0, 1) := by decide +kernel
theorem dX13_commandHere_37 : decode cX13_commandHere 37 = .ok (.ldc2_w 385, 3) := by decide +kernel
theorem dX13_commandHere_40 : decode cX13_commandHere 40 = .ok (.invokevirtual 130, 3) := by decide +kernel
theorem dX13_commandHere_43 : decode cX13_commandHere 43 = .ok (.ifCond .eq 5, 3) := by decide +kernel
theorem dX13_commandHere_46 : decode cX13_commandHere 46 = .ok (.iconst 3, 1) := by decide +kernel
theorem dX13_commandHere_47 : decode cX13_commandHere 47 = .ok (.ireturn, 1) := by decide +kernel
theorem dX13_commandHere_48 : decode cX13_commandHere 48 = .ok (.aload_n 0, 1) := by decide +kernel
theorem dX13_commandHere_49 : decode cX13_commandHere 49 = .ok (.ldc2_w 390, 3) := by decide +kernel
theorem dX13_commandHere_52 : decode cX13_commandHere 52 = .ok (.invokevirtual 130, 3) := by decide +kernel
theorem dX13_commandHere_55 : decode cX13_commandHere 55 = .ok (.ifCond .eq 5, 3) := by decide +kernel
theorem dX13_commandHere_58 : decode cX13_commandHere 58 = .ok (.iconst 4, 1) := by decide +kernel
theorem dX13_commandHere_59 : decode cX13_commandHere 59 = .ok (.ireturn, 1) := by decide +kernel
theorem dX13_commandHere_60 : decode cX13_commandHere 60 = .ok (.aload_n 0, 1) := by decide +kernel
theorem dX13_commandHere_61 : decode cX13_commandHere 61 = .ok (.ldc2_w 395, 3) := by decide +kernel
theorem dX13_commandHere_64 : decode cX13_commandHere 64 = .ok (.invokevirtual 130, 3) := by decide +kernel
theorem dX13_commandHere_67 : decode cX13_commandHere 67 = .ok (.ifCond .eq 5, 3) := by decide +kernel
theorem dX13_commandHere_70 : decode cX13_commandHere 70 = .ok (.iconst 5, 1) := by decide +kernel
theorem dX13_commandHere_71 : decode cX13_commandHere 71 = .ok (.ireturn, 1) := by decide +kernel
theorem dX13_commandHere_72 : decode cX13_commandHere 72 = .ok (.aload_n 0, 1) := by decide +kernel
theorem dX13_commandHere_73 : decode cX13_commandHere 73 = .ok (.ldc2_w 506, 3) := by decide +kernel
theorem dX13_commandHere_76 : decode cX13_commandHere 76 = .ok (.invokevirtual 130, 3) := by decide +kernel
theorem dX13_commandHere_79 : decode cX13_commandHere 79 = .ok (.ifCond .eq 6, 3) := by decide +kernel
theorem dX13_commandHere_82 : decode cX13_commandHere 82 = .ok (.bipush 6, 2) := by decide +kernel
theorem dX13_commandHere_84 : decode cX13_commandHere 84 = .ok (.ireturn, 1) := by decide +kernel
theorem dX13_commandHere_85 : decode cX13_commandHere 85 = .ok (.aload_n 0, 1) := by decide +kernel
theorem dX13_commandHere_86 : decode cX13_commandHere 86 = .ok (.ldc2_w 508, 3) := by decide +kernel
theorem dX13_commandHere_89 : decode cX13_commandHere 89 = .ok (.invokevirtual 130, 3) := by decide +kernel
theorem dX13_commandHere_92 : decode cX13_commandHere 92 = .ok (.ifCond .eq 8, 3) := by decide +kernel
theorem dX13_commandHere_95 : decode cX13_commandHere 95 = .ok (.bipush 7, 2) := by decide +kernel
theorem dX13_commandHere_97 : decode cX13_commandHere 97 = .ok (.goto 4, 3) := by decide +kernel
theorem dX13_commandHere_100 : decode cX13_commandHere 100 = .ok (.iconst (-1), 1) := by decide +kernel
theorem dX13_commandHere_101 : decode cX13_commandHere 101 = .ok (.ireturn, 1) := by decide +kernel
theorem dX13_readsRest_0 : decode cX13_readsRest 0 = .ok (.iload_n 2, 1) := by decide +kernel
theorem dX13_readsRest_1 : decode cX13_readsRest 1 = .ok (.tableswitch 150 0 7 #[47, 100, 100, 150, 150, 150, 150, 128], 47) := by decide +kernel
theorem dX13_readsRest_48 : decode cX13_readsRest 48 = .ok (.aload_n 0, 1) := by decide +kernel
theorem dX13_readsRest_49 : decode cX13_readsRest 49 = .ok (.getfield 38, 3) := by decide +kernel
theorem dX13_readsRest_52 : decode cX13_readsRest 52 = .ok (.iload_n 1, 1) := by decide +kernel
theorem dX13_readsRest_53 : decode cX13_readsRest 53 = .ok (.aload_n 0, 1) := by decide +kernel
theorem dX13_readsRest_54 : decode cX13_readsRest 54 = .ok (.iconst 1, 1) := by decide +kernel
theorem dX13_readsRest_55 : decode cX13_readsRest 55 = .ok (.invokevirtual 362, 3) := by decide +kernel
theorem dX13_readsRest_58 : decode cX13_readsRest 58 = .ok (.iastore, 1) := by decide +kernel
theorem dX13_readsRest_59 : decode cX13_readsRest 59 = .ok (.aload_n 0, 1) := by decide +kernel
theorem dX13_readsRest_60 : decode cX13_readsRest 60 = .ok (.getfield 41, 3) := by decide +kernel
theorem dX13_readsRest_63 : decode cX13_readsRest 63 = .ok (.iload_n 1, 1) := by decide +kernel
theorem dX13_readsRest_64 : decode cX13_readsRest 64 = .ok (.aload_n 0, 1) := by decide +kernel
theorem dX13_readsRest_65 : decode cX13_readsRest 65 = .ok (.iconst 0, 1) := by decide +kernel
theorem dX13_readsRest_66 : decode cX13_readsRest 66 = .ok (.invokevirtual 362, 3) := by decide +kernel
theorem dX13_readsRest_69 : decode cX13_readsRest 69 = .ok (.iastore, 1) := by decide +kernel
theorem dX13_readsRest_70 : decode cX13_readsRest 70 = .ok (.aload_n 0, 1) := by decide +kernel
theorem dX13_readsRest_71 : decode cX13_readsRest 71 = .ok (.getfield 44, 3) := by decide +kernel
theorem dX13_readsRest_74 : decode cX13_readsRest 74 = .ok (.iload_n 1, 1) := by decide +kernel
theorem dX13_readsRest_75 : decode cX13_readsRest 75 = .ok (.aload_n 0, 1) := by decide +kernel
theorem dX13_readsRest_76 : decode cX13_readsRest 76 = .ok (.iconst 0, 1) := by decide +kernel
theorem dX13_readsRest_77 : decode cX13_readsRest 77 = .ok (.sipush 9999, 3) := by decide +kernel
theorem dX13_readsRest_80 : decode cX13_readsRest 80 = .ok (.invokevirtual 356, 3) := by decide +kernel
theorem dX13_readsRest_83 : decode cX13_readsRest 83 = .ok (.iastore, 1) := by decide +kernel
theorem dX13_readsRest_84 : decode cX13_readsRest 84 = .ok (.aload_n 0, 1) := by decide +kernel
theorem dX13_readsRest_85 : decode cX13_readsRest 85 = .ok (.getfield 47, 3) := by decide +kernel
theorem dX13_readsRest_88 : decode cX13_readsRest 88 = .ok (.iload_n 1, 1) := by decide +kernel
theorem dX13_readsRest_89 : decode cX13_readsRest 89 = .ok (.aload_n 0, 1) := by decide +kernel
theorem dX13_readsRest_90 : decode cX13_readsRest 90 = .ok (.iconst 0, 1) := by decide +kernel
theorem dX13_readsRest_91 : decode cX13_readsRest 91 = .ok (.sipush 9999, 3) := by decide +kernel
theorem dX13_readsRest_94 : decode cX13_readsRest 94 = .ok (.invokevirtual 356, 3) := by decide +kernel
theorem dX13_readsRest_97 : decode cX13_readsRest 97 = .ok (.iastore, 1) := by decide +kernel
theorem dX13_readsRest_98 : decode cX13_readsRest 98 = .ok (.goto 67, 3) := by decide +kernel
theorem dX13_readsRest_101 : decode cX13_readsRest 101 = .ok (.aload_n 0, 1) := by decide +kernel
theorem dX13_readsRest_102 : decode cX13_readsRest 102 = .ok (.getfield 38, 3) := by decide +kernel
theorem dX13_readsRest_105 : decode cX13_readsRest 105 = .ok (.iload_n 1, 1) := by decide +kernel
theorem dX13_readsRest_106 : decode cX13_readsRest 106 = .ok (.aload_n 0, 1) := by decide +kernel
theorem dX13_readsRest_107 : decode cX13_readsRest 107 = .ok (.iconst 0, 1) := by decide +kernel
theorem dX13_readsRest_108 : decode cX13_readsRest 108 = .ok (.invokevirtual 362, 3) := by decide +kernel
theorem dX13_readsRest_111 : decode cX13_readsRest 111 = .ok (.iastore, 1) := by decide +kernel
theorem dX13_readsRest_112 : decode cX13_readsRest 112 = .ok (.aload_n 0, 1) := by decide +kernel
theorem dX13_readsRest_113 : decode cX13_readsRest 113 = .ok (.getfield 41, 3) := by decide +kernel
theorem dX13_readsRest_116 : decode cX13_readsRest 116 = .ok (.iload_n 1, 1) := by decide +kernel
theorem dX13_readsRest_117 : decode cX13_readsRest 117 = .ok (.aload_n 0, 1) := by decide +kernel
theorem dX13_readsRest_118 : decode cX13_readsRest 118 = .ok (.iconst 0, 1) := by decide +kernel
theorem dX13_readsRest_119 : decode cX13_readsRest 119 = .ok (.sipush 9999, 3) := by decide +kernel
theorem dX13_readsRest_122 : decode cX13_readsRest 122 = .ok (.invokevirtual 356, 3) := by decide +kernel
theorem dX13_readsRest_125 : decode cX13_readsRest 125 = .ok (.iastore, 1) := by decide +kernel
theorem dX13_readsRest_126 : decode cX13_readsRest 126 = .ok (.goto 39, 3) := by decide +kernel
theorem dX13_readsRest_129 : decode cX13_readsRest 129 = .ok (.aload_n 0, 1) := by decide +kernel
theorem dX13_readsRest_130 : decode cX13_readsRest 130 = .ok (.getfield 38, 3) := by decide +kernel
theorem dX13_readsRest_133 : decode cX13_readsRest 133 = .ok (.iload_n 1, 1) := by decide +kernel
theorem dX13_readsRest_134 : decode cX13_readsRest 134 = .ok (.aload_n 0, 1) := by decide +kernel
theorem dX13_readsRest_135 : decode cX13_readsRest 135 = .ok (.iconst 1, 1) := by decide +kernel
theorem dX13_readsRest_136 : decode cX13_readsRest 136 = .ok (.bipush 20, 2) := by decide +kernel
theorem dX13_readsRest_138 : decode cX13_readsRest 138 = .ok (.invokevirtual 359, 3) := by decide +kernel
theorem dX13_readsRest_141 : decode cX13_readsRest 141 = .ok (.iastore, 1) := by decide +kernel
theorem dX13_readsRest_142 : decode cX13_readsRest 142 = .ok (.aload_n 0, 1) := by decide +kernel
theorem dX13_readsRest_143 : decode cX13_readsRest 143 = .ok (.bipush 40, 2) := by decide +kernel
theorem dX13_readsRest_145 : decode cX13_readsRest 145 = .ok (.invokevirtual 408, 3) := by decide +kernel
theorem dX13_readsRest_148 : decode cX13_readsRest 148 = .ok (.goto 17, 3) := by decide +kernel
theorem dX13_readsRest_151 : decode cX13_readsRest 151 = .ok (.aload_n 0, 1) := by decide +kernel
theorem dX13_readsRest_152 : decode cX13_readsRest 152 = .ok (.getfield 38, 3) := by decide +kernel
theorem dX13_readsRest_155 : decode cX13_readsRest 155 = .ok (.iload_n 1, 1) := by decide +kernel
theorem dX13_readsRest_156 : decode cX13_readsRest 156 = .ok (.aload_n 0, 1) := by decide +kernel
theorem dX13_readsRest_157 : decode cX13_readsRest 157 = .ok (.iconst 0, 1) := by decide +kernel
theorem dX13_readsRest_158 : decode cX13_readsRest 158 = .ok (.sipush 9999, 3) := by decide +kernel
theorem dX13_readsRest_161 : decode cX13_readsRest 161 = .ok (.invokevirtual 356, 3) := by decide +kernel
theorem dX13_readsRest_164 : decode cX13_readsRest 164 = .ok (.iastore, 1) := by decide +kernel
theorem dX13_readsRest_165 : decode cX13_readsRest 165 = .ok (.return_, 1) := by decide +kernel
theorem dX13_command_0 : decode cX13_command 0 = .ok (.aload_n 0, 1) := by decide +kernel
theorem dX13_command_1 : decode cX13_command 1 = .ok (.invokevirtual 510, 3) := by decide +kernel
theorem dX13_command_4 : decode cX13_command 4 = .ok (.istore_n 1, 1) := by decide +kernel
theorem dX13_command_5 : decode cX13_command 5 = .ok (.iload_n 1, 1) := by decide +kernel
theorem dX13_command_6 : decode cX13_command 6 = .ok (.iconst (-1), 1) := by decide +kernel
theorem dX13_command_7 : decode cX13_command 7 = .ok (.if_icmp .ne 8, 3) := by decide +kernel
theorem dX13_command_10 : decode cX13_command 10 = .ok (.aload_n 0, 1) := by decide +kernel
theorem dX13_command_11 : decode cX13_command 11 = .ok (.iconst 1, 1) := by decide +kernel
theorem dX13_command_12 : decode cX13_command 12 = .ok (.invokevirtual 124, 3) := by decide +kernel
theorem dX13_command_15 : decode cX13_command 15 = .ok (.iload_n 1, 1) := by decide +kernel
theorem dX13_command_16 : decode cX13_command 16 = .ok (.bipush 7, 2) := by decide +kernel
theorem dX13_command_18 : decode cX13_command 18 = .ok (.if_icmp .ne 16, 3) := by decide +kernel
theorem dX13_command_21 : decode cX13_command 21 = .ok (.aload_n 0, 1) := by decide +kernel
theorem dX13_command_22 : decode cX13_command 22 = .ok (.getfield 513, 3) := by decide +kernel
theorem dX13_command_25 : decode cX13_command 25 = .ok (.iconst 2, 1) := by decide +kernel
theorem dX13_command_26 : decode cX13_command 26 = .ok (.if_icmp .ne 8, 3) := by decide +kernel
theorem dX13_command_29 : decode cX13_command 29 = .ok (.aload_n 0, 1) := by decide +kernel
theorem dX13_command_30 : decode cX13_command 30 = .ok (.iconst 3, 1) := by decide +kernel
theorem dX13_command_31 : decode cX13_command 31 = .ok (.invokevirtual 124, 3) := by decide +kernel
theorem dX13_command_34 : decode cX13_command 34 = .ok (.aload_n 0, 1) := by decide +kernel
theorem dX13_command_35 : decode cX13_command 35 = .ok (.getfield 516, 3) := by decide +kernel
theorem dX13_command_38 : decode cX13_command 38 = .ok (.bipush 30, 2) := by decide +kernel
theorem dX13_command_40 : decode cX13_command 40 = .ok (.if_icmp .ne 8, 3) := by decide +kernel
theorem dX13_command_43 : decode cX13_command 43 = .ok (.aload_n 0, 1) := by decide +kernel
theorem dX13_command_44 : decode cX13_command 44 = .ok (.iconst 5, 1) := by decide +kernel
theorem dX13_command_45 : decode cX13_command 45 = .ok (.invokevirtual 124, 3) := by decide +kernel
theorem dX13_command_48 : decode cX13_command 48 = .ok (.aload_n 0, 1) := by decide +kernel
theorem dX13_command_49 : decode cX13_command 49 = .ok (.invokevirtual 117, 3) := by decide +kernel
theorem dX13_command_52 : decode cX13_command 52 = .ok (.ifCond .ne 4, 3) := by decide +kernel
theorem dX13_command_55 : decode cX13_command 55 = .ok (.return_, 1) := by decide +kernel
theorem dX13_command_56 : decode cX13_command 56 = .ok (.aload_n 0, 1) := by decide +kernel
theorem dX13_command_57 : decode cX13_command 57 = .ok (.dup, 1) := by decide +kernel
theorem dX13_command_58 : decode cX13_command 58 = .ok (.getfield 516, 3) := by decide +kernel
theorem dX13_command_61 : decode cX13_command 61 = .ok (.iconst 1, 1) := by decide +kernel
theorem dX13_command_62 : decode cX13_command 62 = .ok (.iadd, 1) := by decide +kernel
theorem dX13_command_63 : decode cX13_command 63 = .ok (.putfield 516, 3) := by decide +kernel
theorem dX13_command_66 : decode cX13_command 66 = .ok (.aload_n 0, 1) := by decide +kernel
theorem dX13_command_67 : decode cX13_command 67 = .ok (.invokevirtual 127, 3) := by decide +kernel
theorem dX13_command_70 : decode cX13_command 70 = .ok (.aload_n 0, 1) := by decide +kernel
theorem dX13_command_71 : decode cX13_command 71 = .ok (.getfield 519, 3) := by decide +kernel
theorem dX13_command_74 : decode cX13_command 74 = .ok (.istore_n 2, 1) := by decide +kernel
theorem dX13_command_75 : decode cX13_command 75 = .ok (.aload_n 0, 1) := by decide +kernel
theorem dX13_command_76 : decode cX13_command 76 = .ok (.getfield 35, 3) := by decide +kernel
theorem dX13_command_79 : decode cX13_command 79 = .ok (.iload_n 2, 1) := by decide +kernel
theorem dX13_command_80 : decode cX13_command 80 = .ok (.iload_n 1, 1) := by decide +kernel
theorem dX13_command_81 : decode cX13_command 81 = .ok (.iastore, 1) := by decide +kernel
theorem dX13_command_82 : decode cX13_command 82 = .ok (.aload_n 0, 1) := by decide +kernel
theorem dX13_command_83 : decode cX13_command 83 = .ok (.iload_n 2, 1) := by decide +kernel
theorem dX13_command_84 : decode cX13_command 84 = .ok (.iload_n 1, 1) := by decide +kernel
theorem dX13_command_85 : decode cX13_command 85 = .ok (.invokevirtual 522, 3) := by decide +kernel
theorem dX13_command_88 : decode cX13_command 88 = .ok (.aload_n 0, 1) := by decide +kernel
theorem dX13_command_89 : decode cX13_command 89 = .ok (.invokevirtual 117, 3) := by decide +kernel
theorem dX13_command_92 : decode cX13_command 92 = .ok (.ifCond .ne 4, 3) := by decide +kernel
theorem dX13_command_95 : decode cX13_command 95 = .ok (.return_, 1) := by decide +kernel
theorem dX13_command_96 : decode cX13_command 96 = .ok (.aload_n 0, 1) := by decide +kernel
theorem dX13_command_97 : decode cX13_command 97 = .ok (.dup, 1) := by decide +kernel
theorem dX13_command_98 : decode cX13_command 98 = .ok (.getfield 519, 3) := by decide +kernel
theorem dX13_command_101 : decode cX13_command 101 = .ok (.iconst 1, 1) := by decide +kernel
theorem dX13_command_102 : decode cX13_command 102 = .ok (.iadd, 1) := by decide +kernel
theorem dX13_command_103 : decode cX13_command 103 = .ok (.putfield 519, 3) := by decide +kernel
theorem dX13_command_106 : decode cX13_command 106 = .ok (.aload_n 0, 1) := by decide +kernel
theorem dX13_command_107 : decode cX13_command 107 = .ok (.dup, 1) := by decide +kernel
theorem dX13_command_108 : decode cX13_command 108 = .ok (.getfield 513, 3) := by decide +kernel
theorem dX13_command_111 : decode cX13_command 111 = .ok (.iload_n 1, 1) := by decide +kernel
theorem dX13_command_112 : decode cX13_command 112 = .ok (.bipush 7, 2) := by decide +kernel
theorem dX13_command_114 : decode cX13_command 114 = .ok (.if_icmp .ne 7, 3) := by decide +kernel
theorem dX13_command_117 : decode cX13_command 117 = .ok (.iconst 1, 1) := by decide +kernel
theorem dX13_command_118 : decode cX13_command 118 = .ok (.goto 4, 3) := by decide +kernel
theorem dX13_command_121 : decode cX13_command 121 = .ok (.iconst 0, 1) := by decide +kernel
theorem dX13_command_122 : decode cX13_command 122 = .ok (.invokestatic 65, 3) := by decide +kernel
theorem dX13_command_125 : decode cX13_command 125 = .ok (.iadd, 1) := by decide +kernel
theorem dX13_command_126 : decode cX13_command 126 = .ok (.putfield 513, 3) := by decide +kernel
theorem dX13_command_129 : decode cX13_command 129 = .ok (.return_, 1) := by decide +kernel
theorem dX13_closes_0 : decode cX13_closes 0 = .ok (.aload_n 0, 1) := by decide +kernel
theorem dX13_closes_1 : decode cX13_closes 1 = .ok (.getfield 513, 3) := by decide +kernel
theorem dX13_closes_4 : decode cX13_closes 4 = .ok (.ifCond .le 56, 3) := by decide +kernel
theorem dX13_closes_7 : decode cX13_closes 7 = .ok (.aload_n 0, 1) := by decide +kernel
theorem dX13_closes_8 : decode cX13_closes 8 = .ok (.bipush 41, 2) := by decide +kernel
theorem dX13_closes_10 : decode cX13_closes 10 = .ok (.invokevirtual 121, 3) := by decide +kernel
theorem dX13_closes_13 : decode cX13_closes 13 = .ok (.ifCond .eq 47, 3) := by decide +kernel
theorem dX13_closes_16 : decode cX13_closes 16 = .ok (.aload_n 0, 1) := by decide +kernel
theorem dX13_closes_17 : decode cX13_closes 17 = .ok (.dup, 1) := by decide +kernel
theorem dX13_closes_18 : decode cX13_closes 18 = .ok (.getfield 513, 3) := by decide +kernel
theorem dX13_closes_21 : decode cX13_closes 21 = .ok (.iconst 1, 1) := by decide +kernel
theorem dX13_closes_22 : decode cX13_closes 22 = .ok (.isub, 1) := by decide +kernel
theorem dX13_closes_23 : decode cX13_closes 23 = .ok (.putfield 513, 3) := by decide +kernel
theorem dX13_closes_26 : decode cX13_closes 26 = .ok (.aload_n 0, 1) := by decide +kernel
theorem dX13_closes_27 : decode cX13_closes 27 = .ok (.getfield 35, 3) := by decide +kernel
theorem dX13_closes_30 : decode cX13_closes 30 = .ok (.aload_n 0, 1) := by decide +kernel
theorem dX13_closes_31 : decode cX13_closes 31 = .ok (.getfield 519, 3) := by decide +kernel
theorem dX13_closes_34 : decode cX13_closes 34 = .ok (.bipush 8, 2) := by decide +kernel
theorem dX13_closes_36 : decode cX13_closes 36 = .ok (.iastore, 1) := by decide +kernel
theorem dX13_closes_37 : decode cX13_closes 37 = .ok (.aload_n 0, 1) := by decide +kernel
theorem dX13_closes_38 : decode cX13_closes 38 = .ok (.dup, 1) := by decide +kernel
theorem dX13_closes_39 : decode cX13_closes 39 = .ok (.getfield 519, 3) := by decide +kernel
theorem dX13_closes_42 : decode cX13_closes 42 = .ok (.iconst 1, 1) := by decide +kernel
theorem dX13_closes_43 : decode cX13_closes 43 = .ok (.iadd, 1) := by decide +kernel
theorem dX13_closes_44 : decode cX13_closes 44 = .ok (.putfield 519, 3) := by decide +kernel
theorem dX13_closes_47 : decode cX13_closes 47 = .ok (.aload_n 0, 1) := by decide +kernel
theorem dX13_closes_48 : decode cX13_closes 48 = .ok (.invokevirtual 127, 3) := by decide +kernel
theorem dX13_closes_51 : decode cX13_closes 51 = .ok (.aload_n 0, 1) := by decide +kernel
theorem dX13_closes_52 : decode cX13_closes 52 = .ok (.bipush 59, 2) := by decide +kernel
theorem dX13_closes_54 : decode cX13_closes 54 = .ok (.invokevirtual 408, 3) := by decide +kernel
theorem dX13_closes_57 : decode cX13_closes 57 = .ok (.goto (-57), 3) := by decide +kernel
theorem dX13_closes_60 : decode cX13_closes 60 = .ok (.return_, 1) := by decide +kernel
theorem dX13_may_0 : decode cX13_may 0 = .ok (.aload_n 0, 1) := by decide +kernel
theorem dX13_may_1 : decode cX13_may 1 = .ok (.getfield 38, 3) := by decide +kernel
theorem dX13_may_4 : decode cX13_may 4 = .ok (.iload_n 1, 1) := by decide +kernel
theorem dX13_may_5 : decode cX13_may 5 = .ok (.iaload, 1) := by decide +kernel
theorem dX13_may_6 : decode cX13_may 6 = .ok (.istore_n 2, 1) := by decide +kernel
theorem dX13_may_7 : decode cX13_may 7 = .ok (.aload_n 0, 1) := by decide +kernel
theorem dX13_may_8 : decode cX13_may 8 = .ok (.getfield 35, 3) := by decide +kernel
theorem dX13_may_11 : decode cX13_may 11 = .ok (.iload_n 1, 1) := by decide +kernel
theorem dX13_may_12 : decode cX13_may 12 = .ok (.iaload, 1) := by decide +kernel
theorem dX13_may_13 : decode cX13_may 13 = .ok (.tableswitch 131 0 4 #[35, 85, 95, 105, 110], 35) := by decide +kernel
theorem dX13_may_48 : decode cX13_may 48 = .ok (.aload_n 0, 1) := by decide +kernel
theorem dX13_may_49 : decode cX13_may 49 = .ok (.getfield 44, 3) := by decide +kernel
theorem dX13_may_52 : decode cX13_may 52 = .ok (.iload_n 1, 1) := by decide +kernel
theorem dX13_may_53 : decode cX13_may 53 = .ok (.iaload, 1) := by decide +kernel
theorem dX13_may_54 : decode cX13_may 54 = .ok (.invokestatic 316, 3) := by decide +kernel
theorem dX13_may_57 : decode cX13_may 57 = .ok (.ifCond .eq 39, 3) := by decide +kernel
theorem dX13_may_60 : decode cX13_may 60 = .ok (.aload_n 0, 1) := by decide +kernel
theorem dX13_may_61 : decode cX13_may 61 = .ok (.getfield 47, 3) := by decide +kernel
theorem dX13_may_64 : decode cX13_may 64 = .ok (.iload_n 1, 1) := by decide +kernel
theorem dX13_may_65 : decode cX13_may 65 = .ok (.iaload, 1) := by decide +kernel
theorem dX13_may_66 : decode cX13_may 66 = .ok (.invokestatic 276, 3) := by decide +kernel
theorem dX13_may_69 : decode cX13_may 69 = .ok (.ifCond .eq 27, 3) := by decide +kernel
theorem dX13_may_72 : decode cX13_may 72 = .ok (.aload_n 0, 1) := by decide +kernel
theorem dX13_may_73 : decode cX13_may 73 = .ok (.iload_n 2, 1) := by decide +kernel
theorem dX13_may_74 : decode cX13_may 74 = .ok (.aload_n 0, 1) := by decide +kernel
theorem dX13_may_75 : decode cX13_may 75 = .ok (.getfield 41, 3) := by decide +kernel
theorem dX13_may_78 : decode cX13_may 78 = .ok (.iload_n 1, 1) := by decide +kernel
theorem dX13_may_79 : decode cX13_may 79 = .ok (.iaload, 1) := by decide +kernel
theorem dX13_may_80 : decode cX13_may 80 = .ok (.aload_n 0, 1) := by decide +kernel
theorem dX13_may_81 : decode cX13_may 81 = .ok (.getfield 47, 3) := by decide +kernel
theorem dX13_may_84 : decode cX13_may 84 = .ok (.iload_n 1, 1) := by decide +kernel
theorem dX13_may_85 : decode cX13_may 85 = .ok (.iaload, 1) := by decide +kernel
theorem dX13_may_86 : decode cX13_may 86 = .ok (.invokevirtual 319, 3) := by decide +kernel
theorem dX13_may_89 : decode cX13_may 89 = .ok (.ifCond .ne 7, 3) := by decide +kernel
theorem dX13_may_92 : decode cX13_may 92 = .ok (.iconst 1, 1) := by decide +kernel
theorem dX13_may_93 : decode cX13_may 93 = .ok (.goto 4, 3) := by decide +kernel
theorem dX13_may_96 : decode cX13_may 96 = .ok (.iconst 0, 1) := by decide +kernel
theorem dX13_may_97 : decode cX13_may 97 = .ok (.ireturn, 1) := by decide +kernel
theorem dX13_may_98 : decode cX13_may 98 = .ok (.aload_n 0, 1) := by decide +kernel
theorem dX13_may_99 : decode cX13_may 99 = .ok (.getfield 41, 3) := by decide +kernel
theorem dX13_may_102 : decode cX13_may 102 = .ok (.iload_n 1, 1) := by decide +kernel
theorem dX13_may_103 : decode cX13_may 103 = .ok (.iaload, 1) := by decide +kernel
theorem dX13_may_104 : decode cX13_may 104 = .ok (.invokestatic 334, 3) := by decide +kernel
theorem dX13_may_107 : decode cX13_may 107 = .ok (.ireturn, 1) := by decide +kernel
theorem dX13_may_108 : decode cX13_may 108 = .ok (.aload_n 0, 1) := by decide +kernel
theorem dX13_may_109 : decode cX13_may 109 = .ok (.getfield 41, 3) := by decide +kernel
theorem dX13_may_112 : decode cX13_may 112 = .ok (.iload_n 1, 1) := by decide +kernel
theorem dX13_may_113 : decode cX13_may 113 = .ok (.iaload, 1) := by decide +kernel
theorem dX13_may_114 : decode cX13_may 114 = .ok (.invokestatic 279, 3) := by decide +kernel
theorem dX13_may_117 : decode cX13_may 117 = .ok (.ireturn, 1) := by decide +kernel
theorem dX13_may_118 : decode cX13_may 118 = .ok (.iload_n 2, 1) := by decide +kernel
theorem dX13_may_119 : decode cX13_may 119 = .ok (.invokestatic 340, 3) := by decide +kernel
theorem dX13_may_122 : decode cX13_may 122 = .ok (.ireturn, 1) := by decide +kernel
theorem dX13_may_123 : decode cX13_may 123 = .ok (.iload_n 2, 1) := by decide +kernel
theorem dX13_may_124 : decode cX13_may 124 = .ok (.invokestatic 300, 3) := by decide +kernel
theorem dX13_may_127 : decode cX13_may 127 = .ok (.ifCond .eq 15, 3) := by decide +kernel
theorem dX13_may_130 : decode cX13_may 130 = .ok (.aload_n 0, 1) := by decide +kernel
theorem dX13_may_131 : decode cX13_may 131 = .ok (.iload_n 2, 1) := by decide +kernel
theorem dX13_may_132 : decode cX13_may 132 = .ok (.invokevirtual 343, 3) := by decide +kernel
theorem dX13_may_135 : decode cX13_may 135 = .ok (.ifCond .eq 7, 3) := by decide +kernel
theorem dX13_may_138 : decode cX13_may 138 = .ok (.iconst 1, 1) := by decide +kernel
theorem dX13_may_139 : decode cX13_may 139 = .ok (.goto 4, 3) := by decide +kernel
theorem dX13_may_142 : decode cX13_may 142 = .ok (.iconst 0, 1) := by decide +kernel
theorem dX13_may_143 : decode cX13_may 143 = .ok (.ireturn, 1) := by decide +kernel
theorem dX13_may_144 : decode cX13_may 144 = .ok (.aload_n 0, 1) := by decide +kernel
theorem dX13_may_145 : decode cX13_may 145 = .ok (.iload_n 2, 1) := by decide +kernel
theorem dX13_may_146 : decode cX13_may 146 = .ok (.invokevirtual 210, 3) := by decide +kernel
theorem dX13_may_149 : decode cX13_may 149 = .ok (.ireturn, 1) := by decide +kernel
theorem dX13_does_0 : decode cX13_does 0 = .ok (.aload_n 0, 1) := by decide +kernel
theorem dX13_does_1 : decode cX13_does 1 = .ok (.getfield 38, 3) := by decide +kernel
theorem dX13_does_4 : decode cX13_does 4 = .ok (.iload_n 1, 1) := by decide +kernel
theorem dX13_does_5 : decode cX13_does 5 = .ok (.iaload, 1) := by decide +kernel
theorem dX13_does_6 : decode cX13_does 6 = .ok (.istore_n 2, 1) := by decide +kernel
theorem dX13_does_7 : decode cX13_does 7 = .ok (.aload_n 0, 1) := by decide +kernel
theorem dX13_does_8 : decode cX13_does 8 = .ok (.getfield 35, 3) := by decide +kernel
theorem dX13_does_11 : decode cX13_does 11 = .ok (.iload_n 1, 1) := by decide +kernel
theorem dX13_does_12 : decode cX13_does 12 = .ok (.iaload, 1) := by decide +kernel
theorem dX13_does_13 : decode cX13_does 13 = .ok (.tableswitch 117 0 5 #[39, 63, 80, 97, 105, 111], 39) := by decide +kernel
theorem dX13_does_52 : decode cX13_does 52 = .ok (.aload_n 0, 1) := by decide +kernel
theorem dX13_does_53 : decode cX13_does 53 = .ok (.iload_n 2, 1) := by decide +kernel
theorem dX13_does_54 : decode cX13_does 54 = .ok (.aload_n 0, 1) := by decide +kernel
theorem dX13_does_55 : decode cX13_does 55 = .ok (.getfield 41, 3) := by decide +kernel
theorem dX13_does_58 : decode cX13_does 58 = .ok (.iload_n 1, 1) := by decide +kernel
theorem dX13_does_59 : decode cX13_does 59 = .ok (.iaload, 1) := by decide +kernel
theorem dX13_does_60 : decode cX13_does 60 = .ok (.aload_n 0, 1) := by decide +kernel
theorem dX13_does_61 : decode cX13_does 61 = .ok (.getfield 44, 3) := by decide +kernel
theorem dX13_does_64 : decode cX13_does 64 = .ok (.iload_n 1, 1) := by decide +kernel
theorem dX13_does_65 : decode cX13_does 65 = .ok (.iaload, 1) := by decide +kernel
theorem dX13_does_66 : decode cX13_does 66 = .ok (.aload_n 0, 1) := by decide +kernel
theorem dX13_does_67 : decode cX13_does 67 = .ok (.getfield 47, 3) := by decide +kernel
theorem dX13_does_70 : decode cX13_does 70 = .ok (.iload_n 1, 1) := by decide +kernel
theorem dX13_does_71 : decode cX13_does 71 = .ok (.iaload, 1) := by decide +kernel
theorem dX13_does_72 : decode cX13_does 72 = .ok (.invokevirtual 327, 3) := by decide +kernel
theorem dX13_does_75 : decode cX13_does 75 = .ok (.ireturn, 1) := by decide +kernel
theorem dX13_does_76 : decode cX13_does 76 = .ok (.aload_n 0, 1) := by decide +kernel
theorem dX13_does_77 : decode cX13_does 77 = .ok (.iload_n 2, 1) := by decide +kernel
theorem dX13_does_78 : decode cX13_does 78 = .ok (.invokestatic 157, 3) := by decide +kernel
theorem dX13_does_81 : decode cX13_does 81 = .ok (.iconst 3, 1) := by decide +kernel
theorem dX13_does_82 : decode cX13_does 82 = .ok (.iadd, 1) := by decide +kernel
theorem dX13_does_83 : decode cX13_does 83 = .ok (.aload_n 0, 1) := by decide +kernel
theorem dX13_does_84 : decode cX13_does 84 = .ok (.getfield 41, 3) := by decide +kernel
theorem dX13_does_87 : decode cX13_does 87 = .ok (.iload_n 1, 1) := by decide +kernel
theorem dX13_does_88 : decode cX13_does 88 = .ok (.iaload, 1) := by decide +kernel
theorem dX13_does_89 : decode cX13_does 89 = .ok (.invokevirtual 337, 3) := by decide +kernel
theorem dX13_does_92 : decode cX13_does 92 = .ok (.ireturn, 1) := by decide +kernel
theorem dX13_does_93 : decode cX13_does 93 = .ok (.aload_n 0, 1) := by decide +kernel
theorem dX13_does_94 : decode cX13_does 94 = .ok (.iload_n 2, 1) := by decide +kernel
theorem dX13_does_95 : decode cX13_does 95 = .ok (.invokestatic 157, 3) := by decide +kernel
theorem dX13_does_98 : decode cX13_does 98 = .ok (.iconst 2, 1) := by decide +kernel
theorem dX13_does_99 : decode cX13_does 99 = .ok (.iadd, 1) := by decide +kernel
theorem dX13_does_100 : decode cX13_does 100 = .ok (.aload_n 0, 1) := by decide +kernel
theorem dX13_does_101 : decode cX13_does 101 = .ok (.getfield 41, 3) := by decide +kernel
theorem dX13_does_104 : decode cX13_does 104 = .ok (.iload_n 1, 1) := by decide +kernel
theorem dX13_does_105 : decode cX13_does 105 = .ok (.iaload, 1) := by decide +kernel
theorem dX13_does_106 : decode cX13_does 106 = .ok (.invokevirtual 337, 3) := by decide +kernel
theorem dX13_does_109 : decode cX13_does 109 = .ok (.ireturn, 1) := by decide +kernel
theorem dX13_does_110 : decode cX13_does 110 = .ok (.aload_n 0, 1) := by decide +kernel
theorem dX13_does_111 : decode cX13_does 111 = .ok (.bipush 6, 2) := by decide +kernel
theorem dX13_does_113 : decode cX13_does 113 = .ok (.iload_n 2, 1) := by decide +kernel
theorem dX13_does_114 : decode cX13_does 114 = .ok (.invokevirtual 337, 3) := by decide +kernel
theorem dX13_does_117 : decode cX13_does 117 = .ok (.ireturn, 1) := by decide +kernel
theorem dX13_does_118 : decode cX13_does 118 = .ok (.aload_n 0, 1) := by decide +kernel
theorem dX13_does_119 : decode cX13_does 119 = .ok (.iload_n 2, 1) := by decide +kernel
theorem dX13_does_120 : decode cX13_does 120 = .ok (.invokevirtual 346, 3) := by decide +kernel
theorem dX13_does_123 : decode cX13_does 123 = .ok (.ireturn, 1) := by decide +kernel
theorem dX13_does_124 : decode cX13_does 124 = .ok (.aload_n 0, 1) := by decide +kernel
theorem dX13_does_125 : decode cX13_does 125 = .ok (.iload_n 2, 1) := by decide +kernel
theorem dX13_does_126 : decode cX13_does 126 = .ok (.invokevirtual 331, 3) := by decide +kernel
theorem dX13_does_129 : decode cX13_does 129 = .ok (.ireturn, 1) := by decide +kernel
theorem dX13_does_130 : decode cX13_does 130 = .ok (.aload_n 0, 1) := by decide +kernel
theorem dX13_does_131 : decode cX13_does 131 = .ok (.iload_n 2, 1) := by decide +kernel
theorem dX13_does_132 : decode cX13_does 132 = .ok (.invokevirtual 213, 3) := by decide +kernel
theorem dX13_does_135 : decode cX13_does 135 = .ok (.ireturn, 1) := by decide +kernel
theorem dX13_isDone_0 : decode cX13_isDone 0 = .ok (.aload_n 0, 1) := by decide +kernel
theorem dX13_isDone_1 : decode cX13_isDone 1 = .ok (.iload_n 1, 1) := by decide +kernel
theorem dX13_isDone_2 : decode cX13_isDone 2 = .ok (.invokevirtual 525, 3) := by decide +kernel
theorem dX13_isDone_5 : decode cX13_isDone 5 = .ok (.ifCond .ne 5, 3) := by decide +kernel
theorem dX13_isDone_8 : decode cX13_isDone 8 = .ok (.iconst 0, 1) := by decide +kernel
theorem dX13_isDone_9 : decode cX13_isDone 9 = .ok (.ireturn, 1) := by decide +kernel
theorem dX13_isDone_10 : decode cX13_isDone 10 = .ok (.aload_n 0, 1) := by decide +kernel
theorem dX13_isDone_11 : decode cX13_isDone 11 = .ok (.aload_n 0, 1) := by decide +kernel
theorem dX13_isDone_12 : decode cX13_isDone 12 = .ok (.iload_n 1, 1) := by decide +kernel
theorem dX13_isDone_13 : decode cX13_isDone 13 = .ok (.invokevirtual 528, 3) := by decide +kernel
theorem dX13_isDone_16 : decode cX13_isDone 16 = .ok (.putfield 216, 3) := by decide +kernel
theorem dX13_isDone_19 : decode cX13_isDone 19 = .ok (.iconst 1, 1) := by decide +kernel
theorem dX13_isDone_20 : decode cX13_isDone 20 = .ok (.ireturn, 1) := by decide +kernel
theorem dX13_runScript_0 : decode cX13_runScript 0 = .ok (.aload_n 0, 1) := by decide +kernel
theorem dX13_runScript_1 : decode cX13_runScript 1 = .ok (.invokevirtual 400, 3) := by decide +kernel
theorem dX13_runScript_4 : decode cX13_runScript 4 = .ok (.aload_n 0, 1) := by decide +kernel
theorem dX13_runScript_5 : decode cX13_runScript 5 = .ok (.iconst 0, 1) := by decide +kernel
theorem dX13_runScript_6 : decode cX13_runScript 6 = .ok (.putfield 519, 3) := by decide +kernel
theorem dX13_runScript_9 : decode cX13_runScript 9 = .ok (.aload_n 0, 1) := by decide +kernel
theorem dX13_runScript_10 : decode cX13_runScript 10 = .ok (.iconst 0, 1) := by decide +kernel
theorem dX13_runScript_11 : decode cX13_runScript 11 = .ok (.putfield 516, 3) := by decide +kernel
theorem dX13_runScript_14 : decode cX13_runScript 14 = .ok (.aload_n 0, 1) := by decide +kernel
theorem dX13_runScript_15 : decode cX13_runScript 15 = .ok (.iconst 0, 1) := by decide +kernel
theorem dX13_runScript_16 : decode cX13_runScript 16 = .ok (.putfield 513, 3) := by decide +kernel
theorem dX13_runScript_19 : decode cX13_runScript 19 = .ok (.aload_n 0, 1) := by decide +kernel
theorem dX13_runScript_20 : decode cX13_runScript 20 = .ok (.invokevirtual 117, 3) := by decide +kernel
theorem dX13_runScript_23 : decode cX13_runScript 23 = .ok (.ifCond .eq 40, 3) := by decide +kernel
theorem dX13_runScript_26 : decode cX13_runScript 26 = .ok (.aload_n 0, 1) := by decide +kernel
theorem dX13_runScript_27 : decode cX13_runScript 27 = .ok (.getfield 104, 3) := by decide +kernel
theorem dX13_runScript_30 : decode cX13_runScript 30 = .ok (.ifCond .eq 33, 3) := by decide +kernel
theorem dX13_runScript_33 : decode cX13_runScript 33 = .ok (.aload_n 0, 1) := by decide +kernel
theorem dX13_runScript_34 : decode cX13_runScript 34 = .ok (.getfield 513, 3) := by decide +kernel
theorem dX13_runScript_37 : decode cX13_runScript 37 = .ok (.istore_n 1, 1) := by decide +kernel
theorem dX13_runScript_38 : decode cX13_runScript 38 = .ok (.aload_n 0, 1) := by decide +kernel
theorem dX13_runScript_39 : decode cX13_runScript 39 = .ok (.invokevirtual 531, 3) := by decide +kernel
theorem dX13_runScript_42 : decode cX13_runScript 42 = .ok (.aload_n 0, 1) := by decide +kernel
theorem dX13_runScript_43 : decode cX13_runScript 43 = .ok (.getfield 513, 3) := by decide +kernel
theorem dX13_runScript_46 : decode cX13_runScript 46 = .ok (.iload_n 1, 1) := by decide +kernel
theorem dX13_runScript_47 : decode cX13_runScript 47 = .ok (.if_icmp .ne 9, 3) := by decide +kernel
theorem dX13_runScript_50 : decode cX13_runScript 50 = .ok (.aload_n 0, 1) := by decide +kernel
theorem dX13_runScript_51 : decode cX13_runScript 51 = .ok (.bipush 59, 2) := by decide +kernel
theorem dX13_runScript_53 : decode cX13_runScript 53 = .ok (.invokevirtual 408, 3) := by decide +kernel
theorem dX13_runScript_56 : decode cX13_runScript 56 = .ok (.aload_n 0, 1) := by decide +kernel
theorem dX13_runScript_57 : decode cX13_runScript 57 = .ok (.invokevirtual 534, 3) := by decide +kernel
theorem dX13_runScript_60 : decode cX13_runScript 60 = .ok (.goto (-41), 3) := by decide +kernel
theorem dX13_runScript_63 : decode cX13_runScript 63 = .ok (.aload_n 0, 1) := by decide +kernel
theorem dX13_runScript_64 : decode cX13_runScript 64 = .ok (.invokevirtual 117, 3) := by decide +kernel
theorem dX13_runScript_67 : decode cX13_runScript 67 = .ok (.ifCond .eq 15, 3) := by decide +kernel
theorem dX13_runScript_70 : decode cX13_runScript 70 = .ok (.aload_n 0, 1) := by decide +kernel
theorem dX13_runScript_71 : decode cX13_runScript 71 = .ok (.getfield 513, 3) := by decide +kernel
theorem dX13_runScript_74 : decode cX13_runScript 74 = .ok (.ifCond .le 8, 3) := by decide +kernel
theorem dX13_runScript_77 : decode cX13_runScript 77 = .ok (.aload_n 0, 1) := by decide +kernel
theorem dX13_runScript_78 : decode cX13_runScript 78 = .ok (.iconst 1, 1) := by decide +kernel
theorem dX13_runScript_79 : decode cX13_runScript 79 = .ok (.invokevirtual 124, 3) := by decide +kernel
theorem dX13_runScript_82 : decode cX13_runScript 82 = .ok (.aload_n 0, 1) := by decide +kernel
theorem dX13_runScript_83 : decode cX13_runScript 83 = .ok (.invokevirtual 414, 3) := by decide +kernel
theorem dX13_runScript_86 : decode cX13_runScript 86 = .ok (.ifCond .ne 5, 3) := by decide +kernel
theorem dX13_runScript_89 : decode cX13_runScript 89 = .ok (.iconst 0, 1) := by decide +kernel
theorem dX13_runScript_90 : decode cX13_runScript 90 = .ok (.ireturn, 1) := by decide +kernel
theorem dX13_runScript_91 : decode cX13_runScript 91 = .ok (.aload_n 0, 1) := by decide +kernel
theorem dX13_runScript_92 : decode cX13_runScript 92 = .ok (.invokevirtual 290, 3) := by decide +kernel
theorem dX13_runScript_95 : decode cX13_runScript 95 = .ok (.aload_n 0, 1) := by decide +kernel
theorem dX13_runScript_96 : decode cX13_runScript 96 = .ok (.invokevirtual 537, 3) := by decide +kernel
theorem dX13_runScript_99 : decode cX13_runScript 99 = .ok (.istore_n 1, 1) := by decide +kernel
theorem dX13_runScript_100 : decode cX13_runScript 100 = .ok (.aload_n 0, 1) := by decide +kernel
theorem dX13_runScript_101 : decode cX13_runScript 101 = .ok (.invokevirtual 150, 3) := by decide +kernel
theorem dX13_runScript_104 : decode cX13_runScript 104 = .ok (.iload_n 1, 1) := by decide +kernel
theorem dX13_runScript_105 : decode cX13_runScript 105 = .ok (.ireturn, 1) := by decide +kernel
theorem dX13_doesAll_0 : decode cX13_doesAll 0 = .ok (.iconst 0, 1) := by decide +kernel
theorem dX13_doesAll_1 : decode cX13_doesAll 1 = .ok (.istore_n 1, 1) := by decide +kernel
theorem dX13_doesAll_2 : decode cX13_doesAll 2 = .ok (.iconst 0, 1) := by decide +kernel
theorem dX13_doesAll_3 : decode cX13_doesAll 3 = .ok (.istore_n 2, 1) := by decide +kernel
theorem dX13_doesAll_4 : decode cX13_doesAll 4 = .ok (.iconst 0, 1) := by decide +kernel
theorem dX13_doesAll_5 : decode cX13_doesAll 5 = .ok (.istore_n 3, 1) := by decide +kernel
theorem dX13_doesAll_6 : decode cX13_doesAll 6 = .ok (.iconst 1, 1) := by decide +kernel
theorem dX13_doesAll_7 : decode cX13_doesAll 7 = .ok (.istore 4, 2) := by decide +kernel
theorem dX13_doesAll_9 : decode cX13_doesAll 9 = .ok (.iload 4, 2) := by decide +kernel
theorem dX13_doesAll_11 : decode cX13_doesAll 11 = .ok (.ifCond .eq 159, 3) := by decide +kernel
theorem dX13_doesAll_14 : decode cX13_doesAll 14 = .ok (.iload_n 3, 1) := by decide +kernel
theorem dX13_doesAll_15 : decode cX13_doesAll 15 = .ok (.aload_n 0, 1) := by decide +kernel
theorem dX13_doesAll_16 : decode cX13_doesAll 16 = .ok (.getfield 519, 3) := by decide +kernel
theorem dX13_doesAll_19 : decode cX13_doesAll 19 = .ok (.if_icmp .ge 151, 3) := by decide +kernel
theorem dX13_doesAll_22 : decode cX13_doesAll 22 = .ok (.iload_n 1, 1) := by decide +kernel
theorem dX13_doesAll_23 : decode cX13_doesAll 23 = .ok (.bipush 40, 2) := by decide +kernel
theorem dX13_doesAll_25 : decode cX13_doesAll 25 = .ok (.if_icmp .ge 145, 3) := by decide +kernel
theorem dX13_doesAll_28 : decode cX13_doesAll 28 = .ok (.aload_n 0, 1) := by decide +kernel
theorem dX13_doesAll_29 : decode cX13_doesAll 29 = .ok (.getfield 35, 3) := by decide +kernel
theorem dX13_doesAll_32 : decode cX13_doesAll 32 = .ok (.iload_n 3, 1) := by decide +kernel
theorem dX13_doesAll_33 : decode cX13_doesAll 33 = .ok (.iaload, 1) := by decide +kernel
theorem dX13_doesAll_34 : decode cX13_doesAll 34 = .ok (.bipush 7, 2) := by decide +kernel
theorem dX13_doesAll_36 : decode cX13_doesAll 36 = .ok (.if_icmp .ne 31, 3) := by decide +kernel
theorem dX13_doesAll_39 : decode cX13_doesAll 39 = .ok (.aload_n 0, 1) := by decide +kernel
theorem dX13_doesAll_40 : decode cX13_doesAll 40 = .ok (.getfield 50, 3) := by decide +kernel
theorem dX13_doesAll_43 : decode cX13_doesAll 43 = .ok (.iload_n 2, 1) := by decide +kernel
theorem dX13_doesAll_44 : decode cX13_doesAll 44 = .ok (.iload_n 3, 1) := by decide +kernel
theorem dX13_doesAll_45 : decode cX13_doesAll 45 = .ok (.iastore, 1) := by decide +kernel
theorem dX13_doesAll_46 : decode cX13_doesAll 46 = .ok (.aload_n 0, 1) := by decide +kernel
theorem dX13_doesAll_47 : decode cX13_doesAll 47 = .ok (.getfield 53, 3) := by decide +kernel
theorem dX13_doesAll_50 : decode cX13_doesAll 50 = .ok (.iload_n 2, 1) := by decide +kernel
theorem dX13_doesAll_51 : decode cX13_doesAll 51 = .ok (.aload_n 0, 1) := by decide +kernel
theorem dX13_doesAll_52 : decode cX13_doesAll 52 = .ok (.getfield 38, 3) := by decide +kernel
theorem dX13_doesAll_55 : decode cX13_doesAll 55 = .ok (.iload_n 3, 1) := by decide +kernel
theorem dX13_doesAll_56 : decode cX13_doesAll 56 = .ok (.iaload, 1) := by decide +kernel
theorem dX13_doesAll_57 : decode cX13_doesAll 57 = .ok (.iastore, 1) := by decide +kernel
theorem dX13_doesAll_58 : decode cX13_doesAll 58 = .ok (.iinc 2 1, 3) := by decide +kernel
theorem dX13_doesAll_61 : decode cX13_doesAll 61 = .ok (.iinc 3 1, 3) := by decide +kernel
theorem dX13_doesAll_64 : decode cX13_doesAll 64 = .ok (.goto (-55), 3) := by decide +kernel
theorem dX13_doesAll_67 : decode cX13_doesAll 67 = .ok (.aload_n 0, 1) := by decide +kernel
theorem dX13_doesAll_68 : decode cX13_doesAll 68 = .ok (.getfield 35, 3) := by decide +kernel
theorem dX13_doesAll_71 : decode cX13_doesAll 71 = .ok (.iload_n 3, 1) := by decide +kernel
theorem dX13_doesAll_72 : decode cX13_doesAll 72 = .ok (.iaload, 1) := by decide +kernel
theorem dX13_doesAll_73 : decode cX13_doesAll 73 = .ok (.bipush 8, 2) := by decide +kernel
theorem dX13_doesAll_75 : decode cX13_doesAll 75 = .ok (.if_icmp .ne 74, 3) := by decide +kernel
theorem dX13_doesAll_78 : decode cX13_doesAll 78 = .ok (.aload_n 0, 1) := by decide +kernel
theorem dX13_doesAll_79 : decode cX13_doesAll 79 = .ok (.getfield 53, 3) := by decide +kernel
theorem dX13_doesAll_82 : decode cX13_doesAll 82 = .ok (.iload_n 2, 1) := by decide +kernel
theorem dX13_doesAll_83 : decode cX13_doesAll 83 = .ok (.iconst 1, 1) := by decide +kernel
theorem dX13_doesAll_84 : decode cX13_doesAll 84 = .ok (.isub, 1) := by decide +kernel
theorem dX13_doesAll_85 : decode cX13_doesAll 85 = .ok (.dup2, 1) := by decide +kernel
theorem dX13_doesAll_86 : decode cX13_doesAll 86 = .ok (.iaload, 1) := by decide +kernel
theorem dX13_doesAll_87 : decode cX13_doesAll 87 = .ok (.iconst 1, 1) := by decide +kernel
theorem dX13_doesAll_88 : decode cX13_doesAll 88 = .ok (.isub, 1) := by decide +kernel
theorem dX13_doesAll_89 : decode cX13_doesAll 89 = .ok (.iastore, 1) := by decide +kernel
theorem dX13_doesAll_90 : decode cX13_doesAll 90 = .ok (.aload_n 0, 1) := by decide +kernel
theorem dX13_doesAll_91 : decode cX13_doesAll 91 = .ok (.getfield 53, 3) := by decide +kernel
theorem dX13_doesAll_94 : decode cX13_doesAll 94 = .ok (.iload_n 2, 1) := by decide +kernel
theorem dX13_doesAll_95 : decode cX13_doesAll 95 = .ok (.iconst 1, 1) := by decide +kernel
theorem dX13_doesAll_96 : decode cX13_doesAll 96 = .ok (.isub, 1) := by decide +kernel
theorem dX13_doesAll_97 : decode cX13_doesAll 97 = .ok (.iaload, 1) := by decide +kernel
theorem dX13_doesAll_98 : decode cX13_doesAll 98 = .ok (.ifCond .le 7, 3) := by decide +kernel
theorem dX13_doesAll_101 : decode cX13_doesAll 101 = .ok (.iconst 1, 1) := by decide +kernel
theorem dX13_doesAll_102 : decode cX13_doesAll 102 = .ok (.goto 4, 3) := by decide +kernel
theorem dX13_doesAll_105 : decode cX13_doesAll 105 = .ok (.iconst 0, 1) := by decide +kernel
theorem dX13_doesAll_106 : decode cX13_doesAll 106 = .ok (.istore 5, 2) := by decide +kernel
theorem dX13_doesAll_108 : decode cX13_doesAll 108 = .ok (.iload 5, 2) := by decide +kernel
theorem dX13_doesAll_110 : decode cX13_doesAll 110 = .ok (.ifCond .eq 16, 3) := by decide +kernel
theorem dX13_doesAll_113 : decode cX13_doesAll 113 = .ok (.aload_n 0, 1) := by decide +kernel
theorem dX13_doesAll_114 : decode cX13_doesAll 114 = .ok (.getfield 50, 3) := by decide +kernel
theorem dX13_doesAll_117 : decode cX13_doesAll 117 = .ok (.iload_n 2, 1) := by decide +kernel
theorem dX13_doesAll_118 : decode cX13_doesAll 118 = .ok (.iconst 1, 1) := by decide +kernel
theorem dX13_doesAll_119 : decode cX13_doesAll 119 = .ok (.isub, 1) := by decide +kernel
theorem dX13_doesAll_120 : decode cX13_doesAll 120 = .ok (.iaload, 1) := by decide +kernel
theorem dX13_doesAll_121 : decode cX13_doesAll 121 = .ok (.iconst 1, 1) := by decide +kernel
theorem dX13_doesAll_122 : decode cX13_doesAll 122 = .ok (.iadd, 1) := by decide +kernel
theorem dX13_doesAll_123 : decode cX13_doesAll 123 = .ok (.goto 6, 3) := by decide +kernel
theorem dX13_doesAll_126 : decode cX13_doesAll 126 = .ok (.iload_n 3, 1) := by decide +kernel
theorem dX13_doesAll_127 : decode cX13_doesAll 127 = .ok (.iconst 1, 1) := by decide +kernel
theorem dX13_doesAll_128 : decode cX13_doesAll 128 = .ok (.iadd, 1) := by decide +kernel
theorem dX13_doesAll_129 : decode cX13_doesAll 129 = .ok (.istore_n 3, 1) := by decide +kernel
theorem dX13_doesAll_130 : decode cX13_doesAll 130 = .ok (.iload_n 2, 1) := by decide +kernel
theorem dX13_doesAll_131 : decode cX13_doesAll 131 = .ok (.iload 5, 2) := by decide +kernel
theorem dX13_doesAll_133 : decode cX13_doesAll 133 = .ok (.ifCond .ne 7, 3) := by decide +kernel
theorem dX13_doesAll_136 : decode cX13_doesAll 136 = .ok (.iconst 1, 1) := by decide +kernel
theorem dX13_doesAll_137 : decode cX13_doesAll 137 = .ok (.goto 4, 3) := by decide +kernel
theorem dX13_doesAll_140 : decode cX13_doesAll 140 = .ok (.iconst 0, 1) := by decide +kernel
theorem dX13_doesAll_141 : decode cX13_doesAll 141 = .ok (.invokestatic 65, 3) := by decide +kernel
theorem dX13_doesAll_144 : decode cX13_doesAll 144 = .ok (.isub, 1) := by decide +kernel
theorem dX13_doesAll_145 : decode cX13_doesAll 145 = .ok (.istore_n 2, 1) := by decide +kernel
theorem dX13_doesAll_146 : decode cX13_doesAll 146 = .ok (.goto (-137), 3) := by decide +kernel
theorem dX13_doesAll_149 : decode cX13_doesAll 149 = .ok (.aload_n 0, 1) := by decide +kernel
theorem dX13_doesAll_150 : decode cX13_doesAll 150 = .ok (.iload_n 3, 1) := by decide +kernel
theorem dX13_doesAll_151 : decode cX13_doesAll 151 = .ok (.invokevirtual 540, 3) := by decide +kernel
theorem dX13_doesAll_154 : decode cX13_doesAll 154 = .ok (.istore 4, 2) := by decide +kernel
theorem dX13_doesAll_156 : decode cX13_doesAll 156 = .ok (.iload_n 1, 1) := by decide +kernel
theorem dX13_doesAll_157 : decode cX13_doesAll 157 = .ok (.iload 4, 2) := by decide +kernel
theorem dX13_doesAll_159 : decode cX13_doesAll 159 = .ok (.invokestatic 65, 3) := by decide +kernel
theorem dX13_doesAll_162 : decode cX13_doesAll 162 = .ok (.iadd, 1) := by decide +kernel
theorem dX13_doesAll_163 : decode cX13_doesAll 163 = .ok (.istore_n 1, 1) := by decide +kernel
theorem dX13_doesAll_164 : decode cX13_doesAll 164 = .ok (.iinc 3 1, 3) := by decide +kernel
theorem dX13_doesAll_167 : decode cX13_doesAll 167 = .ok (.goto (-158), 3) := by decide +kernel
theorem dX13_doesAll_170 : decode cX13_doesAll 170 = .ok (.iload_n 1, 1) := by decide +kernel
theorem dX13_doesAll_171 : decode cX13_doesAll 171 = .ok (.ireturn, 1) := by decide +kernel
theorem dX13_tell_0 : decode cX13_tell 0 = .ok (.aload_n 0, 1) := by decide +kernel
theorem dX13_tell_1 : decode cX13_tell 1 = .ok (.getfield 56, 3) := by decide +kernel
theorem dX13_tell_4 : decode cX13_tell 4 = .ok (.aload_n 0, 1) := by decide +kernel
theorem dX13_tell_5 : decode cX13_tell 5 = .ok (.getfield 543, 3) := by decide +kernel
theorem dX13_tell_8 : decode cX13_tell 8 = .ok (.iload_n 1, 1) := by decide +kernel
theorem dX13_tell_9 : decode cX13_tell 9 = .ok (.iastore, 1) := by decide +kernel
theorem dX13_tell_10 : decode cX13_tell 10 = .ok (.aload_n 0, 1) := by decide +kernel
theorem dX13_tell_11 : decode cX13_tell 11 = .ok (.dup, 1) := by decide +kernel
theorem dX13_tell_12 : decode cX13_tell 12 = .ok (.getfield 543, 3) := by decide +kernel
theorem dX13_tell_15 : decode cX13_tell 15 = .ok (.iconst 1, 1) := by decide +kernel
theorem dX13_tell_16 : decode cX13_tell 16 = .ok (.iadd, 1) := by decide +kernel
theorem dX13_tell_17 : decode cX13_tell 17 = .ok (.putfield 543, 3) := by decide +kernel
theorem dX13_tell_20 : decode cX13_tell 20 = .ok (.return_, 1) := by decide +kernel
theorem dX13_tellName_0 : decode cX13_tellName 0 = .ok (.iconst 0, 1) := by decide +kernel
theorem dX13_tellName_1 : decode cX13_tellName 1 = .ok (.istore_n 3, 1) := by decide +kernel
theorem dX13_tellName_2 : decode cX13_tellName 2 = .ok (.iload_n 3, 1) := by decide +kernel
theorem dX13_tellName_3 : decode cX13_tellName 3 = .ok (.lload_n 1, 1) := by decide +kernel
theorem dX13_tellName_4 : decode cX13_tellName 4 = .ok (.invokestatic 426, 3) := by decide +kernel
theorem dX13_tellName_7 : decode cX13_tellName 7 = .ok (.if_icmp .ge 18, 3) := by decide +kernel
theorem dX13_tellName_10 : decode cX13_tellName 10 = .ok (.aload_n 0, 1) := by decide +kernel
theorem dX13_tellName_11 : decode cX13_tellName 11 = .ok (.lload_n 1, 1) := by decide +kernel
theorem dX13_tellName_12 : decode cX13_tellName 12 = .ok (.iload_n 3, 1) := by decide +kernel
theorem dX13_tellName_13 : decode cX13_tellName 13 = .ok (.invokestatic 432, 3) := by decide +kernel
theorem dX13_tellName_16 : decode cX13_tellName 16 = .ok (.invokevirtual 546, 3) := by decide +kernel
theorem dX13_tellName_19 : decode cX13_tellName 19 = .ok (.iinc 3 1, 3) := by decide +kernel
theorem dX13_tellName_22 : decode cX13_tellName 22 = .ok (.goto (-20), 3) := by decide +kernel
theorem dX13_tellName_25 : decode cX13_tellName 25 = .ok (.return_, 1) := by decide +kernel
theorem dX13_tellNumber_0 : decode cX13_tellNumber 0 = .ok (.iload_n 1, 1) := by decide +kernel
theorem dX13_tellNumber_1 : decode cX13_tellNumber 1 = .ok (.bipush 99, 2) := by decide +kernel
theorem dX13_tellNumber_3 : decode cX13_tellNumber 3 = .ok (.if_icmp .le 14, 3) := by decide +kernel
theorem dX13_tellNumber_6 : decode cX13_tellNumber 6 = .ok (.aload_n 0, 1) := by decide +kernel
theorem dX13_tellNumber_7 : decode cX13_tellNumber 7 = .ok (.bipush 48, 2) := by decide +kernel
theorem dX13_tellNumber_9 : decode cX13_tellNumber 9 = .ok (.iload_n 1, 1) := by decide +kernel
theorem dX13_tellNumber_10 : decode cX13_tellNumber 10 = .ok (.bipush 100, 2) := by decide +kernel
theorem dX13_tellNumber_12 : decode cX13_tellNumber 12 = .ok (.idiv, 1) := by decide +kernel
theorem dX13_tellNumber_13 : decode cX13_tellNumber 13 = .ok (.iadd, 1) := by decide +kernel
theorem dX13_tellNumber_14 : decode cX13_tellNumber 14 = .ok (.invokevirtual 546, 3) := by decide +kernel
theorem dX13_tellNumber_17 : decode cX13_tellNumber 17 = .ok (.iload_n 1, 1) := by decide +kernel
theorem dX13_tellNumber_18 : decode cX13_tellNumber 18 = .ok (.bipush 9, 2) := by decide +kernel
theorem dX13_tellNumber_20 : decode cX13_tellNumber 20 = .ok (.if_icmp .le 17, 3) := by decide +kernel
theorem dX13_tellNumber_23 : decode cX13_tellNumber 23 = .ok (.aload_n 0, 1) := by decide +kernel
theorem dX13_tellNumber_24 : decode cX13_tellNumber 24 = .ok (.bipush 48, 2) := by decide +kernel
theorem dX13_tellNumber_26 : decode cX13_tellNumber 26 = .ok (.iload_n 1, 1) := by decide +kernel
theorem dX13_tellNumber_27 : decode cX13_tellNumber 27 = .ok (.bipush 10, 2) := by decide +kernel
theorem dX13_tellNumber_29 : decode cX13_tellNumber 29 = .ok (.idiv, 1) := by decide +kernel
theorem dX13_tellNumber_30 : decode cX13_tellNumber 30 = .ok (.bipush 10, 2) := by decide +kernel
theorem dX13_tellNumber_32 : decode cX13_tellNumber 32 = .ok (.irem, 1) := by decide +kernel
theorem dX13_tellNumber_33 : decode cX13_tellNumber 33 = .ok (.iadd, 1) := by decide +kernel
theorem dX13_tellNumber_34 : decode cX13_tellNumber 34 = .ok (.invokevirtual 546, 3) := by decide +kernel
theorem dX13_tellNumber_37 : decode cX13_tellNumber 37 = .ok (.aload_n 0, 1) := by decide +kernel
theorem dX13_tellNumber_38 : decode cX13_tellNumber 38 = .ok (.bipush 48, 2) := by decide +kernel
theorem dX13_tellNumber_40 : decode cX13_tellNumber 40 = .ok (.iload_n 1, 1) := by decide +kernel
theorem dX13_tellNumber_41 : decode cX13_tellNumber 41 = .ok (.bipush 10, 2) := by decide +kernel
theorem dX13_tellNumber_43 : decode cX13_tellNumber 43 = .ok (.irem, 1) := by decide +kernel
theorem dX13_tellNumber_44 : decode cX13_tellNumber 44 = .ok (.iadd, 1) := by decide +kernel
theorem dX13_tellNumber_45 : decode cX13_tellNumber 45 = .ok (.invokevirtual 546, 3) := by decide +kernel
theorem dX13_tellNumber_48 : decode cX13_tellNumber 48 = .ok (.return_, 1) := by decide +kernel
theorem dX13_markOf_0 : decode cX13_markOf 0 = .ok (.iload_n 2, 1) := by decide +kernel
theorem dX13_markOf_1 : decode cX13_markOf 1 = .ok (.aload_n 0, 1) := by decide +kernel
theorem dX13_markOf_2 : decode cX13_markOf 2 = .ok (.iload_n 1, 1) := by decide +kernel
theorem dX13_markOf_3 : decode cX13_markOf 3 = .ok (.bipush 7, 2) := by decide +kernel
theorem dX13_markOf_5 : decode cX13_markOf 5 = .ok (.invokevirtual 169, 3) := by decide +kernel
theorem dX13_markOf_8 : decode cX13_markOf 8 = .ok (.if_icmp .lt 6, 3) := by decide +kernel
theorem dX13_markOf_11 : decode cX13_markOf 11 = .ok (.bipush 46, 2) := by decide +kernel
theorem dX13_markOf_13 : decode cX13_markOf 13 = .ok (.ireturn, 1) := by decide +kernel
theorem dX13_markOf_14 : decode cX13_markOf 14 = .ok (.aload_n 0, 1) := by decide +kernel
theorem dX13_markOf_15 : decode cX13_markOf 15 = .ok (.iload_n 1, 1) := by decide +kernel
theorem dX13_markOf_16 : decode cX13_markOf 16 = .ok (.bipush 8, 2) := by decide +kernel
theorem dX13_markOf_18 : decode cX13_markOf 18 = .ok (.invokevirtual 169, 3) := by decide +kernel
theorem dX13_markOf_21 : decode cX13_markOf 21 = .ok (.iload_n 2, 1) := by decide +kernel
theorem dX13_markOf_22 : decode cX13_markOf 22 = .ok (.invokestatic 549, 3) := by decide +kernel
theorem dX13_markOf_25 : decode cX13_markOf 25 = .ok (.ifCond .eq 8, 3) := by decide +kernel
theorem dX13_markOf_28 : decode cX13_markOf 28 = .ok (.bipush 104, 2) := by decide +kernel
theorem dX13_markOf_30 : decode cX13_markOf 30 = .ok (.goto 5, 3) := by decide +kernel
theorem dX13_markOf_33 : decode cX13_markOf 33 = .ok (.bipush 108, 2) := by decide +kernel
theorem dX13_markOf_35 : decode cX13_markOf 35 = .ok (.ireturn, 1) := by decide +kernel
theorem dX13_tellReceipt_0 : decode cX13_tellReceipt 0 = .ok (.aload_n 0, 1) := by decide +kernel
theorem dX13_tellReceipt_1 : decode cX13_tellReceipt 1 = .ok (.iconst 0, 1) := by decide +kernel
theorem dX13_tellReceipt_2 : decode cX13_tellReceipt 2 = .ok (.putfield 543, 3) := by decide +kernel
theorem dX13_tellReceipt_5 : decode cX13_tellReceipt 5 = .ok (.aload_n 0, 1) := by decide +kernel
theorem dX13_tellReceipt_6 : decode cX13_tellReceipt 6 = .ok (.aload_n 0, 1) := by decide +kernel
theorem dX13_tellReceipt_7 : decode cX13_tellReceipt 7 = .ok (.iconst 1, 1) := by decide +kernel
theorem dX13_tellReceipt_8 : decode cX13_tellReceipt 8 = .ok (.aload_n 0, 1) := by decide +kernel
theorem dX13_tellReceipt_9 : decode cX13_tellReceipt 9 = .ok (.iload_n 1, 1) := by decide +kernel
theorem dX13_tellReceipt_10 : decode cX13_tellReceipt 10 = .ok (.iconst 0, 1) := by decide +kernel
theorem dX13_tellReceipt_11 : decode cX13_tellReceipt 11 = .ok (.invokevirtual 169, 3) := by decide +kernel
theorem dX13_tellReceipt_14 : decode cX13_tellReceipt 14 = .ok (.invokestatic 174, 3) := by decide +kernel
theorem dX13_tellReceipt_17 : decode cX13_tellReceipt 17 = .ok (.invokevirtual 177, 3) := by decide +kernel
theorem dX13_tellReceipt_20 : decode cX13_tellReceipt 20 = .ok (.invokevirtual 552, 3) := by decide +kernel
theorem dX13_tellReceipt_23 : decode cX13_tellReceipt 23 = .ok (.aload_n 0, 1) := by decide +kernel
theorem dX13_tellReceipt_24 : decode cX13_tellReceipt 24 = .ok (.bipush 64, 2) := by decide +kernel
theorem dX13_tellReceipt_26 : decode cX13_tellReceipt 26 = .ok (.invokevirtual 546, 3) := by decide +kernel
theorem dX13_tellReceipt_29 : decode cX13_tellReceipt 29 = .ok (.aload_n 0, 1) := by decide +kernel
theorem dX13_tellReceipt_30 : decode cX13_tellReceipt 30 = .ok (.aload_n 0, 1) := by decide +kernel
theorem dX13_tellReceipt_31 : decode cX13_tellReceipt 31 = .ok (.iconst 0, 1) := by decide +kernel
theorem dX13_tellReceipt_32 : decode cX13_tellReceipt 32 = .ok (.aload_n 0, 1) := by decide +kernel
theorem dX13_tellReceipt_33 : decode cX13_tellReceipt 33 = .ok (.iload_n 1, 1) := by decide +kernel
theorem dX13_tellReceipt_34 : decode cX13_tellReceipt 34 = .ok (.iconst 1, 1) := by decide +kernel
theorem dX13_tellReceipt_35 : decode cX13_tellReceipt 35 = .ok (.invokevirtual 169, 3) := by decide +kernel
theorem dX13_tellReceipt_38 : decode cX13_tellReceipt 38 = .ok (.invokestatic 174, 3) := by decide +kernel
theorem dX13_tellReceipt_41 : decode cX13_tellReceipt 41 = .ok (.invokevirtual 177, 3) := by decide +kernel
theorem dX13_tellReceipt_44 : decode cX13_tellReceipt 44 = .ok (.invokevirtual 552, 3) := by decide +kernel
theorem dX13_tellReceipt_47 : decode cX13_tellReceipt 47 = .ok (.aload_n 0, 1) := by decide +kernel
theorem dX13_tellReceipt_48 : decode cX13_tellReceipt 48 = .ok (.bipush 32, 2) := by decide +kernel
theorem dX13_tellReceipt_50 : decode cX13_tellReceipt 50 = .ok (.invokevirtual 546, 3) := by decide +kernel
theorem dX13_tellReceipt_53 : decode cX13_tellReceipt 53 = .ok (.iconst 0, 1) := by decide +kernel
theorem dX13_tellReceipt_54 : decode cX13_tellReceipt 54 = .ok (.istore_n 2, 1) := by decide +kernel
theorem dX13_tellReceipt_55 : decode cX13_tellReceipt 55 = .ok (.iload_n 2, 1) := by decide +kernel
theorem dX13_tellReceipt_56 : decode cX13_tellReceipt 56 = .ok (.aload_n 0, 1) := by decide +kernel
theorem dX13_tellReceipt_57 : decode cX13_tellReceipt 57 = .ok (.iload_n 1, 1) := by decide +kernel
theorem dX13_tellReceipt_58 : decode cX13_tellReceipt 58 = .ok (.iconst 3, 1) := by decide +kernel
theorem dX13_tellReceipt_59 : decode cX13_tellReceipt 59 = .ok (.invokevirtual 169, 3) := by decide +kernel
theorem dX13_tellReceipt_62 : decode cX13_tellReceipt 62 = .ok (.if_icmp .ge 19, 3) := by decide +kernel
theorem dX13_tellReceipt_65 : decode cX13_tellReceipt 65 = .ok (.aload_n 0, 1) := by decide +kernel
theorem dX13_tellReceipt_66 : decode cX13_tellReceipt 66 = .ok (.aload_n 0, 1) := by decide +kernel
theorem dX13_tellReceipt_67 : decode cX13_tellReceipt 67 = .ok (.iload_n 1, 1) := by decide +kernel
theorem dX13_tellReceipt_68 : decode cX13_tellReceipt 68 = .ok (.iload_n 2, 1) := by decide +kernel
theorem dX13_tellReceipt_69 : decode cX13_tellReceipt 69 = .ok (.invokevirtual 555, 3) := by decide +kernel
theorem dX13_tellReceipt_72 : decode cX13_tellReceipt 72 = .ok (.invokevirtual 546, 3) := by decide +kernel
theorem dX13_tellReceipt_75 : decode cX13_tellReceipt 75 = .ok (.iinc 2 1, 3) := by decide +kernel
theorem dX13_tellReceipt_78 : decode cX13_tellReceipt 78 = .ok (.goto (-23), 3) := by decide +kernel
theorem dX13_tellReceipt_81 : decode cX13_tellReceipt 81 = .ok (.aload_n 0, 1) := by decide +kernel
theorem dX13_tellReceipt_82 : decode cX13_tellReceipt 82 = .ok (.bipush 32, 2) := by decide +kernel
theorem dX13_tellReceipt_84 : decode cX13_tellReceipt 84 = .ok (.invokevirtual 546, 3) := by decide +kernel
theorem dX13_tellReceipt_87 : decode cX13_tellReceipt 87 = .ok (.aload_n 0, 1) := by decide +kernel
theorem dX13_tellReceipt_88 : decode cX13_tellReceipt 88 = .ok (.aload_n 0, 1) := by decide +kernel
theorem dX13_tellReceipt_89 : decode cX13_tellReceipt 89 = .ok (.iload_n 1, 1) := by decide +kernel
theorem dX13_tellReceipt_90 : decode cX13_tellReceipt 90 = .ok (.invokevirtual 439, 3) := by decide +kernel
theorem dX13_tellReceipt_93 : decode cX13_tellReceipt 93 = .ok (.invokevirtual 558, 3) := by decide +kernel
theorem dX13_tellReceipt_96 : decode cX13_tellReceipt 96 = .ok (.aload_n 0, 1) := by decide +kernel
theorem dX13_tellReceipt_97 : decode cX13_tellReceipt 97 = .ok (.bipush 10, 2) := by decide +kernel
theorem dX13_tellReceipt_99 : decode cX13_tellReceipt 99 = .ok (.invokevirtual 546, 3) := by decide +kernel
theorem dX13_tellReceipt_102 : decode cX13_tellReceipt 102 = .ok (.return_, 1) := by decide +kernel
theorem dX13_printReceipt_0 : decode cX13_printReceipt 0 = .ok (.aload_n 0, 1) := by decide +kernel
theorem dX13_printReceipt_1 : decode cX13_printReceipt 1 = .ok (.aload_n 0, 1) := by decide +kernel
theorem dX13_printReceipt_2 : decode cX13_printReceipt 2 = .ok (.iload_n 1, 1) := by decide +kernel
theorem dX13_printReceipt_3 : decode cX13_printReceipt 3 = .ok (.invokevirtual 166, 3) := by decide +kernel
theorem dX13_printReceipt_6 : decode cX13_printReceipt 6 = .ok (.invokevirtual 72, 3) := by decide +kernel
theorem dX13_printReceipt_9 : decode cX13_printReceipt 9 = .ok (.ifCond .ne 5, 3) := by decide +kernel
theorem dX13_printReceipt_12 : decode cX13_printReceipt 12 = .ok (.iconst 0, 1) := by decide +kernel
theorem dX13_printReceipt_13 : decode cX13_printReceipt 13 = .ok (.ireturn, 1) := by decide +kernel
theorem dX13_printReceipt_14 : decode cX13_printReceipt 14 = .ok (.aload_n 0, 1) := by decide +kernel
theorem dX13_printReceipt_15 : decode cX13_printReceipt 15 = .ok (.iload_n 1, 1) := by decide +kernel
theorem dX13_printReceipt_16 : decode cX13_printReceipt 16 = .ok (.invokevirtual 561, 3) := by decide +kernel
theorem dX13_printReceipt_19 : decode cX13_printReceipt 19 = .ok (.aload_n 0, 1) := by decide +kernel
theorem dX13_printReceipt_20 : decode cX13_printReceipt 20 = .ok (.getfield 543, 3) := by decide +kernel
theorem dX13_printReceipt_23 : decode cX13_printReceipt 23 = .ok (.ireturn, 1) := by decide +kernel
theorem dX13_outputByte_0 : decode cX13_outputByte 0 = .ok (.aload_n 0, 1) := by decide +kernel
theorem dX13_outputByte_1 : decode cX13_outputByte 1 = .ok (.iload_n 1, 1) := by decide +kernel
theorem dX13_outputByte_2 : decode cX13_outputByte 2 = .ok (.i2l, 1) := by decide +kernel
theorem dX13_outputByte_3 : decode cX13_outputByte 3 = .ok (.lconst 0, 1) := by decide +kernel
theorem dX13_outputByte_4 : decode cX13_outputByte 4 = .ok (.aload_n 0, 1) := by decide +kernel
theorem dX13_outputByte_5 : decode cX13_outputByte 5 = .ok (.getfield 543, 3) := by decide +kernel
theorem dX13_outputByte_8 : decode cX13_outputByte 8 = .ok (.iconst 1, 1) := by decide +kernel
theorem dX13_outputByte_9 : decode cX13_outputByte 9 = .ok (.isub, 1) := by decide +kernel
theorem dX13_outputByte_10 : decode cX13_outputByte 10 = .ok (.i2l, 1) := by decide +kernel
theorem dX13_outputByte_11 : decode cX13_outputByte 11 = .ok (.invokestatic 80, 3) := by decide +kernel
theorem dX13_outputByte_14 : decode cX13_outputByte 14 = .ok (.invokevirtual 72, 3) := by decide +kernel
theorem dX13_outputByte_17 : decode cX13_outputByte 17 = .ok (.ifCond .eq 12, 3) := by decide +kernel
theorem dX13_outputByte_20 : decode cX13_outputByte 20 = .ok (.aload_n 0, 1) := by decide +kernel
theorem dX13_outputByte_21 : decode cX13_outputByte 21 = .ok (.getfield 56, 3) := by decide +kernel
theorem dX13_outputByte_24 : decode cX13_outputByte 24 = .ok (.iload_n 1, 1) := by decide +kernel
theorem dX13_outputByte_25 : decode cX13_outputByte 25 = .ok (.iaload, 1) := by decide +kernel
theorem dX13_outputByte_26 : decode cX13_outputByte 26 = .ok (.goto 4, 3) := by decide +kernel
theorem dX13_outputByte_29 : decode cX13_outputByte 29 = .ok (.iconst 0, 1) := by decide +kernel
theorem dX13_outputByte_30 : decode cX13_outputByte 30 = .ok (.ireturn, 1) := by decide +kernel
