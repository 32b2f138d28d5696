theorem dX1_init_0 : decode cX1_init 0 = .ok (.aload_n 0, 1) := by decide +kernel
theorem dX1_init_1 : decode cX1_init 1 = .ok (.invokespecial 1, 3) := by decide +kernel
theorem dX1_init_4 : decode cX1_init 4 = .ok (.aload_n 0, 1) := by decide +kernel
theorem dX1_init_5 : decode cX1_init 5 = .ok (.getstatic 7, 3) := by decide +kernel
theorem dX1_init_8 : decode cX1_init 8 = .ok (.putfield 13, 3) := by decide +kernel
theorem dX1_init_11 : decode cX1_init 11 = .ok (.return_, 1) := by decide +kernel
theorem dX1_applyTo_0 : decode cX1_applyTo 0 = .ok (.getstatic 18, 3) := by decide +kernel
theorem dX1_applyTo_3 : decode cX1_applyTo 3 = .ok (.aload_n 0, 1) := by decide +kernel
theorem dX1_applyTo_4 : decode cX1_applyTo 4 = .ok (.getfield 13, 3) := by decide +kernel
theorem dX1_applyTo_7 : decode cX1_applyTo 7 = .ok (.invokevirtual 24, 3) := by decide +kernel
theorem dX1_applyTo_10 : decode cX1_applyTo 10 = .ok (.iaload, 1) := by decide +kernel
theorem dX1_applyTo_11 : decode cX1_applyTo 11 = .ok (.tableswitch 181 1 8 #[89, 113, 129, 145, 157, 45, 69, 169], 45) := by decide +kernel
theorem dX1_applyTo_56 : decode cX1_applyTo 56 = .ok (.aload_n 1, 1) := by decide +kernel
theorem dX1_applyTo_57 : decode cX1_applyTo 57 = .ok (.aload_n 0, 1) := by decide +kernel
theorem dX1_applyTo_58 : decode cX1_applyTo 58 = .ok (.getfield 64, 3) := by decide +kernel
theorem dX1_applyTo_61 : decode cX1_applyTo 61 = .ok (.aload_n 0, 1) := by decide +kernel
theorem dX1_applyTo_62 : decode cX1_applyTo 62 = .ok (.getfield 35, 3) := by decide +kernel
theorem dX1_applyTo_65 : decode cX1_applyTo 65 = .ok (.aload_n 0, 1) := by decide +kernel
theorem dX1_applyTo_66 : decode cX1_applyTo 66 = .ok (.getfield 38, 3) := by decide +kernel
theorem dX1_applyTo_69 : decode cX1_applyTo 69 = .ok (.aload_n 0, 1) := by decide +kernel
theorem dX1_applyTo_70 : decode cX1_applyTo 70 = .ok (.getfield 68, 3) := by decide +kernel
theorem dX1_applyTo_73 : decode cX1_applyTo 73 = .ok (.invokevirtual 71, 3) := by decide +kernel
theorem dX1_applyTo_76 : decode cX1_applyTo 76 = .ok (.pop, 1) := by decide +kernel
theorem dX1_applyTo_77 : decode cX1_applyTo 77 = .ok (.goto 124, 3) := by decide +kernel
theorem dX1_applyTo_80 : decode cX1_applyTo 80 = .ok (.aload_n 1, 1) := by decide +kernel
theorem dX1_applyTo_81 : decode cX1_applyTo 81 = .ok (.aload_n 0, 1) := by decide +kernel
theorem dX1_applyTo_82 : decode cX1_applyTo 82 = .ok (.getfield 64, 3) := by decide +kernel
theorem dX1_applyTo_85 : decode cX1_applyTo 85 = .ok (.aload_n 0, 1) := by decide +kernel
theorem dX1_applyTo_86 : decode cX1_applyTo 86 = .ok (.getfield 35, 3) := by decide +kernel
theorem dX1_applyTo_89 : decode cX1_applyTo 89 = .ok (.aload_n 0, 1) := by decide +kernel
theorem dX1_applyTo_90 : decode cX1_applyTo 90 = .ok (.getfield 38, 3) := by decide +kernel
theorem dX1_applyTo_93 : decode cX1_applyTo 93 = .ok (.invokevirtual 75, 3) := by decide +kernel
theorem dX1_applyTo_96 : decode cX1_applyTo 96 = .ok (.pop, 1) := by decide +kernel
theorem dX1_applyTo_97 : decode cX1_applyTo 97 = .ok (.goto 104, 3) := by decide +kernel
theorem dX1_applyTo_100 : decode cX1_applyTo 100 = .ok (.aload_n 1, 1) := by decide +kernel
theorem dX1_applyTo_101 : decode cX1_applyTo 101 = .ok (.aload_n 0, 1) := by decide +kernel
theorem dX1_applyTo_102 : decode cX1_applyTo 102 = .ok (.getfield 28, 3) := by decide +kernel
theorem dX1_applyTo_105 : decode cX1_applyTo 105 = .ok (.aload_n 0, 1) := by decide +kernel
theorem dX1_applyTo_106 : decode cX1_applyTo 106 = .ok (.getfield 32, 3) := by decide +kernel
theorem dX1_applyTo_109 : decode cX1_applyTo 109 = .ok (.aload_n 0, 1) := by decide +kernel
theorem dX1_applyTo_110 : decode cX1_applyTo 110 = .ok (.getfield 35, 3) := by decide +kernel
theorem dX1_applyTo_113 : decode cX1_applyTo 113 = .ok (.aload_n 0, 1) := by decide +kernel
theorem dX1_applyTo_114 : decode cX1_applyTo 114 = .ok (.getfield 38, 3) := by decide +kernel
theorem dX1_applyTo_117 : decode cX1_applyTo 117 = .ok (.invokevirtual 79, 3) := by decide +kernel
theorem dX1_applyTo_120 : decode cX1_applyTo 120 = .ok (.pop, 1) := by decide +kernel
theorem dX1_applyTo_121 : decode cX1_applyTo 121 = .ok (.goto 80, 3) := by decide +kernel
theorem dX1_applyTo_124 : decode cX1_applyTo 124 = .ok (.aload_n 1, 1) := by decide +kernel
theorem dX1_applyTo_125 : decode cX1_applyTo 125 = .ok (.aload_n 0, 1) := by decide +kernel
theorem dX1_applyTo_126 : decode cX1_applyTo 126 = .ok (.getfield 32, 3) := by decide +kernel
theorem dX1_applyTo_129 : decode cX1_applyTo 129 = .ok (.aload_n 0, 1) := by decide +kernel
theorem dX1_applyTo_130 : decode cX1_applyTo 130 = .ok (.getfield 35, 3) := by decide +kernel
theorem dX1_applyTo_133 : decode cX1_applyTo 133 = .ok (.invokevirtual 83, 3) := by decide +kernel
theorem dX1_applyTo_136 : decode cX1_applyTo 136 = .ok (.pop, 1) := by decide +kernel
theorem dX1_applyTo_137 : decode cX1_applyTo 137 = .ok (.goto 64, 3) := by decide +kernel
theorem dX1_applyTo_140 : decode cX1_applyTo 140 = .ok (.aload_n 1, 1) := by decide +kernel
theorem dX1_applyTo_141 : decode cX1_applyTo 141 = .ok (.aload_n 0, 1) := by decide +kernel
theorem dX1_applyTo_142 : decode cX1_applyTo 142 = .ok (.getfield 32, 3) := by decide +kernel
theorem dX1_applyTo_145 : decode cX1_applyTo 145 = .ok (.aload_n 0, 1) := by decide +kernel
theorem dX1_applyTo_146 : decode cX1_applyTo 146 = .ok (.getfield 35, 3) := by decide +kernel
theorem dX1_applyTo_149 : decode cX1_applyTo 149 = .ok (.invokevirtual 87, 3) := by decide +kernel
theorem dX1_applyTo_152 : decode cX1_applyTo 152 = .ok (.pop, 1) := by decide +kernel
theorem dX1_applyTo_153 : decode cX1_applyTo 153 = .ok (.goto 48, 3) := by decide +kernel
theorem dX1_applyTo_156 : decode cX1_applyTo 156 = .ok (.aload_n 1, 1) := by decide +kernel
theorem dX1_applyTo_157 : decode cX1_applyTo 157 = .ok (.aload_n 0, 1) := by decide +kernel
theorem dX1_applyTo_158 : decode cX1_applyTo 158 = .ok (.getfield 35, 3) := by decide +kernel
theorem dX1_applyTo_161 : decode cX1_applyTo 161 = .ok (.invokevirtual 90, 3) := by decide +kernel
theorem dX1_applyTo_164 : decode cX1_applyTo 164 = .ok (.pop, 1) := by decide +kernel
theorem dX1_applyTo_165 : decode cX1_applyTo 165 = .ok (.goto 36, 3) := by decide +kernel
theorem dX1_applyTo_168 : decode cX1_applyTo 168 = .ok (.aload_n 1, 1) := by decide +kernel
theorem dX1_applyTo_169 : decode cX1_applyTo 169 = .ok (.aload_n 0, 1) := by decide +kernel
theorem dX1_applyTo_170 : decode cX1_applyTo 170 = .ok (.getfield 35, 3) := by decide +kernel
theorem dX1_applyTo_173 : decode cX1_applyTo 173 = .ok (.invokevirtual 94, 3) := by decide +kernel
theorem dX1_applyTo_176 : decode cX1_applyTo 176 = .ok (.pop, 1) := by decide +kernel
theorem dX1_applyTo_177 : decode cX1_applyTo 177 = .ok (.goto 24, 3) := by decide +kernel
theorem dX1_applyTo_180 : decode cX1_applyTo 180 = .ok (.aload_n 1, 1) := by decide +kernel
theorem dX1_applyTo_181 : decode cX1_applyTo 181 = .ok (.aload_n 0, 1) := by decide +kernel
theorem dX1_applyTo_182 : decode cX1_applyTo 182 = .ok (.getfield 35, 3) := by decide +kernel
theorem dX1_applyTo_185 : decode cX1_applyTo 185 = .ok (.invokevirtual 97, 3) := by decide +kernel
theorem dX1_applyTo_188 : decode cX1_applyTo 188 = .ok (.pop, 1) := by decide +kernel
theorem dX1_applyTo_189 : decode cX1_applyTo 189 = .ok (.goto 12, 3) := by decide +kernel
theorem dX1_applyTo_192 : decode cX1_applyTo 192 = .ok (.aload_n 1, 1) := by decide +kernel
theorem dX1_applyTo_193 : decode cX1_applyTo 193 = .ok (.aload_n 0, 1) := by decide +kernel
theorem dX1_applyTo_194 : decode cX1_applyTo 194 = .ok (.getfield 35, 3) := by decide +kernel
theorem dX1_applyTo_197 : decode cX1_applyTo 197 = .ok (.invokevirtual 100, 3) := by decide +kernel
theorem dX1_applyTo_200 : decode cX1_applyTo 200 = .ok (.pop, 1) := by decide +kernel
theorem dX1_applyTo_201 : decode cX1_applyTo 201 = .ok (.return_, 1) := by decide +kernel
theorem dX2_init_0 : decode cX2_init 0 = .ok (.aload_n 0, 1) := by decide +kernel
theorem dX2_init_1 : decode cX2_init 1 = .ok (.invokespecial 3, 3) := by decide +kernel
theorem dX2_init_4 : decode cX2_init 4 = .ok (.return_, 1) := by decide +kernel
theorem dX2_copyFrom_0 : decode cX2_copyFrom 0 = .ok (.aload_n 0, 1) := by decide +kernel
theorem dX2_copyFrom_1 : decode cX2_copyFrom 1 = .ok (.aload_n 1, 1) := by decide +kernel
theorem dX2_copyFrom_2 : decode cX2_copyFrom 2 = .ok (.getfield 9, 3) := by decide +kernel
theorem dX2_copyFrom_5 : decode cX2_copyFrom 5 = .ok (.putfield 9, 3) := by decide +kernel
theorem dX2_copyFrom_8 : decode cX2_copyFrom 8 = .ok (.aload_n 0, 1) := by decide +kernel
theorem dX2_copyFrom_9 : decode cX2_copyFrom 9 = .ok (.aload_n 1, 1) := by decide +kernel
theorem dX2_copyFrom_10 : decode cX2_copyFrom 10 = .ok (.getfield 15, 3) := by decide +kernel
theorem dX2_copyFrom_13 : decode cX2_copyFrom 13 = .ok (.putfield 15, 3) := by decide +kernel
theorem dX2_copyFrom_16 : decode cX2_copyFrom 16 = .ok (.aload_n 0, 1) := by decide +kernel
theorem dX2_copyFrom_17 : decode cX2_copyFrom 17 = .ok (.aload_n 1, 1) := by decide +kernel
theorem dX2_copyFrom_18 : decode cX2_copyFrom 18 = .ok (.getfield 19, 3) := by decide +kernel
theorem dX2_copyFrom_21 : decode cX2_copyFrom 21 = .ok (.putfield 19, 3) := by decide +kernel
theorem dX2_copyFrom_24 : decode cX2_copyFrom 24 = .ok (.aload_n 0, 1) := by decide +kernel
theorem dX2_copyFrom_25 : decode cX2_copyFrom 25 = .ok (.aload_n 1, 1) := by decide +kernel
theorem dX2_copyFrom_26 : decode cX2_copyFrom 26 = .ok (.getfield 22, 3) := by decide +kernel
theorem dX2_copyFrom_29 : decode cX2_copyFrom 29 = .ok (.putfield 22, 3) := by decide +kernel
theorem dX2_copyFrom_32 : decode cX2_copyFrom 32 = .ok (.aload_n 0, 1) := by decide +kernel
theorem dX2_copyFrom_33 : decode cX2_copyFrom 33 = .ok (.aload_n 1, 1) := by decide +kernel
theorem dX2_copyFrom_34 : decode cX2_copyFrom 34 = .ok (.getfield 25, 3) := by decide +kernel
theorem dX2_copyFrom_37 : decode cX2_copyFrom 37 = .ok (.putfield 25, 3) := by decide +kernel
theorem dX2_copyFrom_40 : decode cX2_copyFrom 40 = .ok (.aload_n 0, 1) := by decide +kernel
theorem dX2_copyFrom_41 : decode cX2_copyFrom 41 = .ok (.aload_n 1, 1) := by decide +kernel
theorem dX2_copyFrom_42 : decode cX2_copyFrom 42 = .ok (.getfield 28, 3) := by decide +kernel
theorem dX2_copyFrom_45 : decode cX2_copyFrom 45 = .ok (.putfield 28, 3) := by decide +kernel
theorem dX2_copyFrom_48 : decode cX2_copyFrom 48 = .ok (.aload_n 0, 1) := by decide +kernel
theorem dX2_copyFrom_49 : decode cX2_copyFrom 49 = .ok (.aload_n 1, 1) := by decide +kernel
theorem dX2_copyFrom_50 : decode cX2_copyFrom 50 = .ok (.getfield 31, 3) := by decide +kernel
theorem dX2_copyFrom_53 : decode cX2_copyFrom 53 = .ok (.putfield 31, 3) := by decide +kernel
theorem dX2_copyFrom_56 : decode cX2_copyFrom 56 = .ok (.return_, 1) := by decide +kernel
theorem dX2_hasAnger_0 : decode cX2_hasAnger 0 = .ok (.aload_n 0, 1) := by decide +kernel
theorem dX2_hasAnger_1 : decode cX2_hasAnger 1 = .ok (.getfield 25, 3) := by decide +kernel
theorem dX2_hasAnger_4 : decode cX2_hasAnger 4 = .ok (.iconst 3, 1) := by decide +kernel
theorem dX2_hasAnger_5 : decode cX2_hasAnger 5 = .ok (.if_icmp .lt 7, 3) := by decide +kernel
theorem dX2_hasAnger_8 : decode cX2_hasAnger 8 = .ok (.iconst 1, 1) := by decide +kernel
theorem dX2_hasAnger_9 : decode cX2_hasAnger 9 = .ok (.goto 4, 3) := by decide +kernel
theorem dX2_hasAnger_12 : decode cX2_hasAnger 12 = .ok (.iconst 0, 1) := by decide +kernel
theorem dX2_hasAnger_13 : decode cX2_hasAnger 13 = .ok (.ireturn, 1) := by decide +kernel
theorem dX3_init_0 : decode cX3_init 0 = .ok (.aload_n 0, 1) := by decide +kernel
theorem dX3_init_1 : decode cX3_init 1 = .ok (.invokespecial 3, 3) := by decide +kernel
theorem dX3_init_4 : decode cX3_init 4 = .ok (.aload_n 0, 1) := by decide +kernel
theorem dX3_init_5 : decode cX3_init 5 = .ok (.new 9, 3) := by decide +kernel
theorem dX3_init_8 : decode cX3_init 8 = .ok (.dup, 1) := by decide +kernel
theorem dX3_init_9 : decode cX3_init 9 = .ok (.invokespecial 11, 3) := by decide +kernel
theorem dX3_init_12 : decode cX3_init 12 = .ok (.putfield 12, 3) := by decide +kernel
theorem dX3_init_15 : decode cX3_init 15 = .ok (.return_, 1) := by decide +kernel
theorem dX3_read_0 : decode cX3_read 0 = .ok (.aload_n 2, 1) := by decide +kernel
theorem dX3_read_1 : decode cX3_read 1 = .ok (.invokevirtual 18, 3) := by decide +kernel
theorem dX3_read_4 : decode cX3_read 4 = .ok (.aload_n 1, 1) := by decide +kernel
theorem dX3_read_5 : decode cX3_read 5 = .ok (.invokevirtual 23, 3) := by decide +kernel
theorem dX3_read_8 : decode cX3_read 8 = .ok (.aload_n 1, 1) := by decide +kernel
theorem dX3_read_9 : decode cX3_read 9 = .ok (.aload_n 1, 1) := by decide +kernel
theorem dX3_read_10 : decode cX3_read 10 = .ok (.invokevirtual 28, 3) := by decide +kernel
theorem dX3_read_13 : decode cX3_read 13 = .ok (.getstatic 32, 3) := by decide +kernel
theorem dX3_read_16 : decode cX3_read 16 = .ok (.if_acmp .eq 7, 3) := by decide +kernel
theorem dX3_read_19 : decode cX3_read 19 = .ok (.iconst 1, 1) := by decide +kernel
theorem dX3_read_20 : decode cX3_read 20 = .ok (.goto 4, 3) := by decide +kernel
theorem dX3_read_23 : decode cX3_read 23 = .ok (.iconst 0, 1) := by decide +kernel
theorem dX3_read_24 : decode cX3_read 24 = .ok (.iconst 1, 1) := by decide +kernel
theorem dX3_read_25 : decode cX3_read 25 = .ok (.invokevirtual 38, 3) := by decide +kernel
theorem dX3_read_28 : decode cX3_read 28 = .ok (.aload_n 1, 1) := by decide +kernel
theorem dX3_read_29 : decode cX3_read 29 = .ok (.invokevirtual 42, 3) := by decide +kernel
theorem dX3_read_32 : decode cX3_read 32 = .ok (.aload_n 1, 1) := by decide +kernel
theorem dX3_read_33 : decode cX3_read 33 = .ok (.bipush 59, 2) := by decide +kernel
theorem dX3_read_35 : decode cX3_read 35 = .ok (.invokevirtual 45, 3) := by decide +kernel
theorem dX3_read_38 : decode cX3_read 38 = .ok (.iconst 0, 1) := by decide +kernel
theorem dX3_read_39 : decode cX3_read 39 = .ok (.istore_n 3, 1) := by decide +kernel
theorem dX3_read_40 : decode cX3_read 40 = .ok (.iload_n 3, 1) := by decide +kernel
theorem dX3_read_41 : decode cX3_read 41 = .ok (.sipush 600, 3) := by decide +kernel
theorem dX3_read_44 : decode cX3_read 44 = .ok (.if_icmp .ge 43, 3) := by decide +kernel
theorem dX3_read_47 : decode cX3_read 47 = .ok (.aload_n 1, 1) := by decide +kernel
theorem dX3_read_48 : decode cX3_read 48 = .ok (.invokevirtual 49, 3) := by decide +kernel
theorem dX3_read_51 : decode cX3_read 51 = .ok (.ifCond .eq 36, 3) := by decide +kernel
theorem dX3_read_54 : decode cX3_read 54 = .ok (.aload_n 0, 1) := by decide +kernel
theorem dX3_read_55 : decode cX3_read 55 = .ok (.aload_n 1, 1) := by decide +kernel
theorem dX3_read_56 : decode cX3_read 56 = .ok (.aload_n 2, 1) := by decide +kernel
theorem dX3_read_57 : decode cX3_read 57 = .ok (.invokevirtual 53, 3) := by decide +kernel
theorem dX3_read_60 : decode cX3_read 60 = .ok (.aload_n 1, 1) := by decide +kernel
theorem dX3_read_61 : decode cX3_read 61 = .ok (.bipush 59, 2) := by decide +kernel
theorem dX3_read_63 : decode cX3_read 63 = .ok (.invokevirtual 45, 3) := by decide +kernel
theorem dX3_read_66 : decode cX3_read 66 = .ok (.aload_n 1, 1) := by decide +kernel
theorem dX3_read_67 : decode cX3_read 67 = .ok (.invokevirtual 57, 3) := by decide +kernel
theorem dX3_read_70 : decode cX3_read 70 = .ok (.ifCond .ne 11, 3) := by decide +kernel
theorem dX3_read_73 : decode cX3_read 73 = .ok (.aload_n 0, 1) := by decide +kernel
theorem dX3_read_74 : decode cX3_read 74 = .ok (.getfield 12, 3) := by decide +kernel
theorem dX3_read_77 : decode cX3_read 77 = .ok (.aload_n 2, 1) := by decide +kernel
theorem dX3_read_78 : decode cX3_read 78 = .ok (.invokevirtual 60, 3) := by decide +kernel
theorem dX3_read_81 : decode cX3_read 81 = .ok (.iinc 3 1, 3) := by decide +kernel
theorem dX3_read_84 : decode cX3_read 84 = .ok (.goto (-44), 3) := by decide +kernel
theorem dX3_read_87 : decode cX3_read 87 = .ok (.aload_n 1, 1) := by decide +kernel
theorem dX3_read_88 : decode cX3_read 88 = .ok (.invokevirtual 57, 3) := by decide +kernel
theorem dX3_read_91 : decode cX3_read 91 = .ok (.ifCond .ne 7, 3) := by decide +kernel
theorem dX3_read_94 : decode cX3_read 94 = .ok (.iconst 1, 1) := by decide +kernel
theorem dX3_read_95 : decode cX3_read 95 = .ok (.goto 4, 3) := by decide +kernel
theorem dX3_read_98 : decode cX3_read 98 = .ok (.iconst 0, 1) := by decide +kernel
theorem dX3_read_99 : decode cX3_read 99 = .ok (.ireturn, 1) := by decide +kernel
theorem dX3_readStatement_0 : decode cX3_readStatement 0 = .ok (.aload_n 0, 1) := by decide +kernel
theorem dX3_readStatement_1 : decode cX3_readStatement 1 = .ok (.getfield 12, 3) := by decide +kernel
theorem dX3_readStatement_4 : decode cX3_readStatement 4 = .ok (.aload_n 1, 1) := by decide +kernel
theorem dX3_readStatement_5 : decode cX3_readStatement 5 = .ok (.invokevirtual 28, 3) := by decide +kernel
theorem dX3_readStatement_8 : decode cX3_readStatement 8 = .ok (.putfield 64, 3) := by decide +kernel
theorem dX3_readStatement_11 : decode cX3_readStatement 11 = .ok (.aload_n 1, 1) := by decide +kernel
theorem dX3_readStatement_12 : decode cX3_readStatement 12 = .ok (.aload_n 0, 1) := by decide +kernel
theorem dX3_readStatement_13 : decode cX3_readStatement 13 = .ok (.getfield 12, 3) := by decide +kernel
theorem dX3_readStatement_16 : decode cX3_readStatement 16 = .ok (.getfield 64, 3) := by decide +kernel
theorem dX3_readStatement_19 : decode cX3_readStatement 19 = .ok (.getfield 66, 3) := by decide +kernel
theorem dX3_readStatement_22 : decode cX3_readStatement 22 = .ok (.ifCond .ne 7, 3) := by decide +kernel
theorem dX3_readStatement_25 : decode cX3_readStatement 25 = .ok (.iconst 1, 1) := by decide +kernel
theorem dX3_readStatement_26 : decode cX3_readStatement 26 = .ok (.goto 4, 3) := by decide +kernel
theorem dX3_readStatement_29 : decode cX3_readStatement 29 = .ok (.iconst 0, 1) := by decide +kernel
theorem dX3_readStatement_30 : decode cX3_readStatement 30 = .ok (.iconst 1, 1) := by decide +kernel
theorem dX3_readStatement_31 : decode cX3_readStatement 31 = .ok (.invokevirtual 38, 3) := by decide +kernel
theorem dX3_readStatement_34 : decode cX3_readStatement 34 = .ok (.aload_n 1, 1) := by decide +kernel
theorem dX3_readStatement_35 : decode cX3_readStatement 35 = .ok (.aload_n 0, 1) := by decide +kernel
theorem dX3_readStatement_36 : decode cX3_readStatement 36 = .ok (.getfield 12, 3) := by decide +kernel
theorem dX3_readStatement_39 : decode cX3_readStatement 39 = .ok (.getfield 64, 3) := by decide +kernel
theorem dX3_readStatement_42 : decode cX3_readStatement 42 = .ok (.getstatic 70, 3) := by decide +kernel
theorem dX3_readStatement_45 : decode cX3_readStatement 45 = .ok (.if_acmp .ne 16, 3) := by decide +kernel
theorem dX3_readStatement_48 : decode cX3_readStatement 48 = .ok (.aload_n 2, 1) := by decide +kernel
theorem dX3_readStatement_49 : decode cX3_readStatement 49 = .ok (.getfield 73, 3) := by decide +kernel
theorem dX3_readStatement_52 : decode cX3_readStatement 52 = .ok (.bipush 8, 2) := by decide +kernel
theorem dX3_readStatement_54 : decode cX3_readStatement 54 = .ok (.if_icmp .lt 7, 3) := by decide +kernel
theorem dX3_readStatement_57 : decode cX3_readStatement 57 = .ok (.iconst 1, 1) := by decide +kernel
theorem dX3_readStatement_58 : decode cX3_readStatement 58 = .ok (.goto 4, 3) := by decide +kernel
theorem dX3_readStatement_61 : decode cX3_readStatement 61 = .ok (.iconst 0, 1) := by decide +kernel
theorem dX3_readStatement_62 : decode cX3_readStatement 62 = .ok (.iconst 5, 1) := by decide +kernel
theorem dX3_readStatement_63 : decode cX3_readStatement 63 = .ok (.invokevirtual 38, 3) := by decide +kernel
theorem dX3_readStatement_66 : decode cX3_readStatement 66 = .ok (.aload_n 1, 1) := by decide +kernel
theorem dX3_readStatement_67 : decode cX3_readStatement 67 = .ok (.aload_n 0, 1) := by decide +kernel
theorem dX3_readStatement_68 : decode cX3_readStatement 68 = .ok (.getfield 12, 3) := by decide +kernel
theorem dX3_readStatement_71 : decode cX3_readStatement 71 = .ok (.getfield 64, 3) := by decide +kernel
theorem dX3_readStatement_74 : decode cX3_readStatement 74 = .ok (.getstatic 77, 3) := by decide +kernel
theorem dX3_readStatement_77 : decode cX3_readStatement 77 = .ok (.if_acmp .ne 16, 3) := by decide +kernel
theorem dX3_readStatement_80 : decode cX3_readStatement 80 = .ok (.aload_n 2, 1) := by decide +kernel
theorem dX3_readStatement_81 : decode cX3_readStatement 81 = .ok (.getfield 80, 3) := by decide +kernel
theorem dX3_readStatement_84 : decode cX3_readStatement 84 = .ok (.bipush 8, 2) := by decide +kernel
theorem dX3_readStatement_86 : decode cX3_readStatement 86 = .ok (.if_icmp .lt 7, 3) := by decide +kernel
theorem dX3_readStatement_89 : decode cX3_readStatement 89 = .ok (.iconst 1, 1) := by decide +kernel
theorem dX3_readStatement_90 : decode cX3_readStatement 90 = .ok (.goto 4, 3) := by decide +kernel
theorem dX3_readStatement_93 : decode cX3_readStatement 93 = .ok (.iconst 0, 1) := by decide +kernel
theorem dX3_readStatement_94 : decode cX3_readStatement 94 = .ok (.iconst 5, 1) := by decide +kernel
theorem dX3_readStatement_95 : decode cX3_readStatement 95 = .ok (.invokevirtual 38, 3) := by decide +kernel
theorem dX3_readStatement_98 : decode cX3_readStatement 98 = .ok (.aload_n 1, 1) := by decide +kernel
theorem dX3_readStatement_99 : decode cX3_readStatement 99 = .ok (.invokevirtual 42, 3) := by decide +kernel
theorem dX3_readStatement_102 : decode cX3_readStatement 102 = .ok (.getstatic 83, 3) := by decide +kernel
theorem dX3_readStatement_105 : decode cX3_readStatement 105 = .ok (.aload_n 0, 1) := by decide +kernel
theorem dX3_readStatement_106 : decode cX3_readStatement 106 = .ok (.getfield 12, 3) := by decide +kernel
theorem dX3_readStatement_109 : decode cX3_readStatement 109 = .ok (.getfield 64, 3) := by decide +kernel
theorem dX3_readStatement_112 : decode cX3_readStatement 112 = .ok (.invokevirtual 89, 3) := by decide +kernel
theorem dX3_readStatement_115 : decode cX3_readStatement 115 = .ok (.iaload, 1) := by decide +kernel
theorem dX3_readStatement_116 : decode cX3_readStatement 116 = .ok (.tableswitch 168 1 8 #[66, 75, 104, 133, 150, 48, 57, 159], 48) := by decide +kernel
theorem dX3_readStatement_164 : decode cX3_readStatement 164 = .ok (.aload_n 0, 1) := by decide +kernel
theorem dX3_readStatement_165 : decode cX3_readStatement 165 = .ok (.aload_n 1, 1) := by decide +kernel
theorem dX3_readStatement_166 : decode cX3_readStatement 166 = .ok (.aload_n 2, 1) := by decide +kernel
theorem dX3_readStatement_167 : decode cX3_readStatement 167 = .ok (.invokevirtual 93, 3) := by decide +kernel
theorem dX3_readStatement_170 : decode cX3_readStatement 170 = .ok (.goto 114, 3) := by decide +kernel
theorem dX3_readStatement_173 : decode cX3_readStatement 173 = .ok (.aload_n 0, 1) := by decide +kernel
theorem dX3_readStatement_174 : decode cX3_readStatement 174 = .ok (.aload_n 1, 1) := by decide +kernel
theorem dX3_readStatement_175 : decode cX3_readStatement 175 = .ok (.aload_n 2, 1) := by decide +kernel
theorem dX3_readStatement_176 : decode cX3_readStatement 176 = .ok (.invokevirtual 96, 3) := by decide +kernel
theorem dX3_readStatement_179 : decode cX3_readStatement 179 = .ok (.goto 105, 3) := by decide +kernel
theorem dX3_readStatement_182 : decode cX3_readStatement 182 = .ok (.aload_n 0, 1) := by decide +kernel
theorem dX3_readStatement_183 : decode cX3_readStatement 183 = .ok (.aload_n 1, 1) := by decide +kernel
theorem dX3_readStatement_184 : decode cX3_readStatement 184 = .ok (.aload_n 2, 1) := by decide +kernel
theorem dX3_readStatement_185 : decode cX3_readStatement 185 = .ok (.invokevirtual 99, 3) := by decide +kernel
theorem dX3_readStatement_188 : decode cX3_readStatement 188 = .ok (.goto 96, 3) := by decide +kernel
theorem dX3_readStatement_191 : decode cX3_readStatement 191 = .ok (.aload_n 0, 1) := by decide +kernel
theorem dX3_readStatement_192 : decode cX3_readStatement 192 = .ok (.getfield 12, 3) := by decide +kernel
theorem dX3_readStatement_195 : decode cX3_readStatement 195 = .ok (.aload_n 1, 1) := by decide +kernel
theorem dX3_readStatement_196 : decode cX3_readStatement 196 = .ok (.aload_n 2, 1) := by decide +kernel
theorem dX3_readStatement_197 : decode cX3_readStatement 197 = .ok (.invokevirtual 102, 3) := by decide +kernel
theorem dX3_readStatement_200 : decode cX3_readStatement 200 = .ok (.putfield 106, 3) := by decide +kernel
theorem dX3_readStatement_203 : decode cX3_readStatement 203 = .ok (.aload_n 0, 1) := by decide +kernel
theorem dX3_readStatement_204 : decode cX3_readStatement 204 = .ok (.getfield 12, 3) := by decide +kernel
theorem dX3_readStatement_207 : decode cX3_readStatement 207 = .ok (.aload_n 1, 1) := by decide +kernel
theorem dX3_readStatement_208 : decode cX3_readStatement 208 = .ok (.iconst 0, 1) := by decide +kernel
theorem dX3_readStatement_209 : decode cX3_readStatement 209 = .ok (.bipush 9, 2) := by decide +kernel
theorem dX3_readStatement_211 : decode cX3_readStatement 211 = .ok (.invokevirtual 109, 3) := by decide +kernel
theorem dX3_readStatement_214 : decode cX3_readStatement 214 = .ok (.putfield 113, 3) := by decide +kernel
theorem dX3_readStatement_217 : decode cX3_readStatement 217 = .ok (.goto 67, 3) := by decide +kernel
theorem dX3_readStatement_220 : decode cX3_readStatement 220 = .ok (.aload_n 0, 1) := by decide +kernel
theorem dX3_readStatement_221 : decode cX3_readStatement 221 = .ok (.getfield 12, 3) := by decide +kernel
theorem dX3_readStatement_224 : decode cX3_readStatement 224 = .ok (.aload_n 1, 1) := by decide +kernel
theorem dX3_readStatement_225 : decode cX3_readStatement 225 = .ok (.aload_n 2, 1) := by decide +kernel
theorem dX3_readStatement_226 : decode cX3_readStatement 226 = .ok (.invokevirtual 102, 3) := by decide +kernel
theorem dX3_readStatement_229 : decode cX3_readStatement 229 = .ok (.putfield 106, 3) := by decide +kernel
theorem dX3_readStatement_232 : decode cX3_readStatement 232 = .ok (.aload_n 0, 1) := by decide +kernel
theorem dX3_readStatement_233 : decode cX3_readStatement 233 = .ok (.getfield 12, 3) := by decide +kernel
theorem dX3_readStatement_236 : decode cX3_readStatement 236 = .ok (.aload_n 1, 1) := by decide +kernel
theorem dX3_readStatement_237 : decode cX3_readStatement 237 = .ok (.iconst 1, 1) := by decide +kernel
theorem dX3_readStatement_238 : decode cX3_readStatement 238 = .ok (.bipush 99, 2) := by decide +kernel
theorem dX3_readStatement_240 : decode cX3_readStatement 240 = .ok (.invokevirtual 109, 3) := by decide +kernel
theorem dX3_readStatement_243 : decode cX3_readStatement 243 = .ok (.putfield 113, 3) := by decide +kernel
theorem dX3_readStatement_246 : decode cX3_readStatement 246 = .ok (.goto 38, 3) := by decide +kernel
theorem dX3_readStatement_249 : decode cX3_readStatement 249 = .ok (.aload_n 0, 1) := by decide +kernel
theorem dX3_readStatement_250 : decode cX3_readStatement 250 = .ok (.getfield 12, 3) := by decide +kernel
theorem dX3_readStatement_253 : decode cX3_readStatement 253 = .ok (.aload_n 1, 1) := by decide +kernel
theorem dX3_readStatement_254 : decode cX3_readStatement 254 = .ok (.iconst 0, 1) := by decide +kernel
theorem dX3_readStatement_255 : decode cX3_readStatement 255 = .ok (.bipush 20, 2) := by decide +kernel
theorem dX3_readStatement_257 : decode cX3_readStatement 257 = .ok (.invokevirtual 109, 3) := by decide +kernel
theorem dX3_readStatement_260 : decode cX3_readStatement 260 = .ok (.putfield 113, 3) := by decide +kernel
theorem dX3_readStatement_263 : decode cX3_readStatement 263 = .ok (.goto 21, 3) := by decide +kernel
theorem dX3_readStatement_266 : decode cX3_readStatement 266 = .ok (.aload_n 0, 1) := by decide +kernel
theorem dX3_readStatement_267 : decode cX3_readStatement 267 = .ok (.aload_n 1, 1) := by decide +kernel
theorem dX3_readStatement_268 : decode cX3_readStatement 268 = .ok (.aload_n 2, 1) := by decide +kernel
theorem dX3_readStatement_269 : decode cX3_readStatement 269 = .ok (.invokevirtual 116, 3) := by decide +kernel
theorem dX3_readStatement_272 : decode cX3_readStatement 272 = .ok (.goto 12, 3) := by decide +kernel
theorem dX3_readStatement_275 : decode cX3_readStatement 275 = .ok (.aload_n 0, 1) := by decide +kernel
theorem dX3_readStatement_276 : decode cX3_readStatement 276 = .ok (.aload_n 1, 1) := by decide +kernel
theorem dX3_readStatement_277 : decode cX3_readStatement 277 = .ok (.aload_n 2, 1) := by decide +kernel
theorem dX3_readStatement_278 : decode cX3_readStatement 278 = .ok (.invokevirtual 119, 3) := by decide +kernel
theorem dX3_readStatement_281 : decode cX3_readStatement 281 = .ok (.goto 3, 3) := by decide +kernel
theorem dX3_readStatement_284 : decode cX3_readStatement 284 = .ok (.return_, 1) := by decide +kernel
theorem dX3_readValley_0 : decode cX3_readValley 0 = .ok (.aload_n 0, 1) := by decide +kernel
theorem dX3_readValley_1 : decode cX3_readValley 1 = .ok (.getfield 12, 3) := by decide +kernel
theorem dX3_readValley_4 : decode cX3_readValley 4 = .ok (.aload_n 1, 1) := by decide +kernel
theorem dX3_readValley_5 : decode cX3_readValley 5 = .ok (.aload_n 2, 1) := by decide +kernel
theorem dX3_readValley_6 : decode cX3_readValley 6 = .ok (.aload_n 1, 1) := by decide +kernel
theorem dX3_readValley_7 : decode cX3_readValley 7 = .ok (.invokevirtual 122, 3) := by decide +kernel
theorem dX3_readValley_10 : decode cX3_readValley 10 = .ok (.invokevirtual 126, 3) := by decide +kernel
theorem dX3_readValley_13 : decode cX3_readValley 13 = .ok (.invokevirtual 130, 3) := by decide +kernel
theorem dX3_readValley_16 : decode cX3_readValley 16 = .ok (.putfield 134, 3) := by decide +kernel
theorem dX3_readValley_19 : decode cX3_readValley 19 = .ok (.aload_n 0, 1) := by decide +kernel
theorem dX3_readValley_20 : decode cX3_readValley 20 = .ok (.getfield 12, 3) := by decide +kernel
theorem dX3_readValley_23 : decode cX3_readValley 23 = .ok (.aload_n 1, 1) := by decide +kernel
theorem dX3_readValley_24 : decode cX3_readValley 24 = .ok (.iconst 1, 1) := by decide +kernel
theorem dX3_readValley_25 : decode cX3_readValley 25 = .ok (.bipush 60, 2) := by decide +kernel
theorem dX3_readValley_27 : decode cX3_readValley 27 = .ok (.invokevirtual 109, 3) := by decide +kernel
theorem dX3_readValley_30 : decode cX3_readValley 30 = .ok (.putfield 113, 3) := by decide +kernel
theorem dX3_readValley_33 : decode cX3_readValley 33 = .ok (.aload_n 0, 1) := by decide +kernel
theorem dX3_readValley_34 : decode cX3_readValley 34 = .ok (.getfield 12, 3) := by decide +kernel
theorem dX3_readValley_37 : decode cX3_readValley 37 = .ok (.aload_n 1, 1) := by decide +kernel
theorem dX3_readValley_38 : decode cX3_readValley 38 = .ok (.iconst 1, 1) := by decide +kernel
theorem dX3_readValley_39 : decode cX3_readValley 39 = .ok (.iconst 4, 1) := by decide +kernel
theorem dX3_readValley_40 : decode cX3_readValley 40 = .ok (.invokevirtual 109, 3) := by decide +kernel
theorem dX3_readValley_43 : decode cX3_readValley 43 = .ok (.putfield 138, 3) := by decide +kernel
theorem dX3_readValley_46 : decode cX3_readValley 46 = .ok (.aload_n 0, 1) := by decide +kernel
theorem dX3_readValley_47 : decode cX3_readValley 47 = .ok (.getfield 12, 3) := by decide +kernel
theorem dX3_readValley_50 : decode cX3_readValley 50 = .ok (.aload_n 1, 1) := by decide +kernel
theorem dX3_readValley_51 : decode cX3_readValley 51 = .ok (.iconst 1, 1) := by decide +kernel
theorem dX3_readValley_52 : decode cX3_readValley 52 = .ok (.bipush 99, 2) := by decide +kernel
theorem dX3_readValley_54 : decode cX3_readValley 54 = .ok (.invokevirtual 109, 3) := by decide +kernel
theorem dX3_readValley_57 : decode cX3_readValley 57 = .ok (.putfield 141, 3) := by decide +kernel
theorem dX3_readValley_60 : decode cX3_readValley 60 = .ok (.return_, 1) := by decide +kernel
theorem dX3_readCustomer_0 : decode cX3_readCustomer 0 = .ok (.aload_n 0, 1) := by decide +kernel
theorem dX3_readCustomer_1 : decode cX3_readCustomer 1 = .ok (.getfield 12, 3) := by decide +kernel
theorem dX3_readCustomer_4 : decode cX3_readCustomer 4 = .ok (.aload_n 1, 1) := by decide +kernel
theorem dX3_readCustomer_5 : decode cX3_readCustomer 5 = .ok (.aload_n 2, 1) := by decide +kernel
theorem dX3_readCustomer_6 : decode cX3_readCustomer 6 = .ok (.aload_n 1, 1) := by decide +kernel
theorem dX3_readCustomer_7 : decode cX3_readCustomer 7 = .ok (.invokevirtual 122, 3) := by decide +kernel
theorem dX3_readCustomer_10 : decode cX3_readCustomer 10 = .ok (.invokevirtual 144, 3) := by decide +kernel
theorem dX3_readCustomer_13 : decode cX3_readCustomer 13 = .ok (.invokevirtual 130, 3) := by decide +kernel
theorem dX3_readCustomer_16 : decode cX3_readCustomer 16 = .ok (.putfield 134, 3) := by decide +kernel
theorem dX3_readCustomer_19 : decode cX3_readCustomer 19 = .ok (.aload_n 0, 1) := by decide +kernel
theorem dX3_readCustomer_20 : decode cX3_readCustomer 20 = .ok (.getfield 12, 3) := by decide +kernel
theorem dX3_readCustomer_23 : decode cX3_readCustomer 23 = .ok (.aload_n 1, 1) := by decide +kernel
theorem dX3_readCustomer_24 : decode cX3_readCustomer 24 = .ok (.iconst 1, 1) := by decide +kernel
theorem dX3_readCustomer_25 : decode cX3_readCustomer 25 = .ok (.sipush 240, 3) := by decide +kernel
theorem dX3_readCustomer_28 : decode cX3_readCustomer 28 = .ok (.invokevirtual 109, 3) := by decide +kernel
theorem dX3_readCustomer_31 : decode cX3_readCustomer 31 = .ok (.putfield 113, 3) := by decide +kernel
theorem dX3_readCustomer_34 : decode cX3_readCustomer 34 = .ok (.aload_n 0, 1) := by decide +kernel
theorem dX3_readCustomer_35 : decode cX3_readCustomer 35 = .ok (.getfield 12, 3) := by decide +kernel
theorem dX3_readCustomer_38 : decode cX3_readCustomer 38 = .ok (.aload_n 1, 1) := by decide +kernel
theorem dX3_readCustomer_39 : decode cX3_readCustomer 39 = .ok (.iconst 0, 1) := by decide +kernel
theorem dX3_readCustomer_40 : decode cX3_readCustomer 40 = .ok (.sipush 9999, 3) := by decide +kernel
theorem dX3_readCustomer_43 : decode cX3_readCustomer 43 = .ok (.invokevirtual 109, 3) := by decide +kernel
theorem dX3_readCustomer_46 : decode cX3_readCustomer 46 = .ok (.putfield 138, 3) := by decide +kernel
theorem dX3_readCustomer_49 : decode cX3_readCustomer 49 = .ok (.return_, 1) := by decide +kernel
theorem dX3_readShout_0 : decode cX3_readShout 0 = .ok (.aload_n 0, 1) := by decide +kernel
theorem dX3_readShout_1 : decode cX3_readShout 1 = .ok (.getfield 12, 3) := by decide +kernel
theorem dX3_readShout_4 : decode cX3_readShout 4 = .ok (.aload_n 1, 1) := by decide +kernel
theorem dX3_readShout_5 : decode cX3_readShout 5 = .ok (.aload_n 2, 1) := by decide +kernel
theorem dX3_readShout_6 : decode cX3_readShout 6 = .ok (.invokevirtual 147, 3) := by decide +kernel
theorem dX3_readShout_9 : decode cX3_readShout 9 = .ok (.putfield 150, 3) := by decide +kernel
theorem dX3_readShout_12 : decode cX3_readShout 12 = .ok (.aload_n 0, 1) := by decide +kernel
theorem dX3_readShout_13 : decode cX3_readShout 13 = .ok (.getfield 12, 3) := by decide +kernel
theorem dX3_readShout_16 : decode cX3_readShout 16 = .ok (.aload_n 1, 1) := by decide +kernel
theorem dX3_readShout_17 : decode cX3_readShout 17 = .ok (.aload_n 2, 1) := by decide +kernel
theorem dX3_readShout_18 : decode cX3_readShout 18 = .ok (.invokevirtual 102, 3) := by decide +kernel
theorem dX3_readShout_21 : decode cX3_readShout 21 = .ok (.putfield 106, 3) := by decide +kernel
theorem dX3_readShout_24 : decode cX3_readShout 24 = .ok (.aload_n 0, 1) := by decide +kernel
theorem dX3_readShout_25 : decode cX3_readShout 25 = .ok (.getfield 12, 3) := by decide +kernel
theorem dX3_readShout_28 : decode cX3_readShout 28 = .ok (.aload_n 1, 1) := by decide +kernel
theorem dX3_readShout_29 : decode cX3_readShout 29 = .ok (.iconst 1, 1) := by decide +kernel
theorem dX3_readShout_30 : decode cX3_readShout 30 = .ok (.bipush 20, 2) := by decide +kernel
theorem dX3_readShout_32 : decode cX3_readShout 32 = .ok (.invokevirtual 109, 3) := by decide +kernel
theorem dX3_readShout_35 : decode cX3_readShout 35 = .ok (.putfield 113, 3) := by decide +kernel
theorem dX3_readShout_38 : decode cX3_readShout 38 = .ok (.aload_n 0, 1) := by decide +kernel
theorem dX3_readShout_39 : decode cX3_readShout 39 = .ok (.getfield 12, 3) := by decide +kernel
theorem dX3_readShout_42 : decode cX3_readShout 42 = .ok (.aload_n 1, 1) := by decide +kernel
theorem dX3_readShout_43 : decode cX3_readShout 43 = .ok (.iconst 1, 1) := by decide +kernel
theorem dX3_readShout_44 : decode cX3_readShout 44 = .ok (.iconst 4, 1) := by decide +kernel
theorem dX3_readShout_45 : decode cX3_readShout 45 = .ok (.invokevirtual 109, 3) := by decide +kernel
theorem dX3_readShout_48 : decode cX3_readShout 48 = .ok (.putfield 138, 3) := by decide +kernel
theorem dX3_readShout_51 : decode cX3_readShout 51 = .ok (.aload_n 1, 1) := by decide +kernel
theorem dX3_readShout_52 : decode cX3_readShout 52 = .ok (.bipush 59, 2) := by decide +kernel
theorem dX3_readShout_54 : decode cX3_readShout 54 = .ok (.invokevirtual 153, 3) := by decide +kernel
theorem dX3_readShout_57 : decode cX3_readShout 57 = .ok (.aload_n 1, 1) := by decide +kernel
theorem dX3_readShout_58 : decode cX3_readShout 58 = .ok (.invokevirtual 57, 3) := by decide +kernel
theorem dX3_readShout_61 : decode cX3_readShout 61 = .ok (.ifCond .ne 42, 3) := by decide +kernel
theorem dX3_readShout_64 : decode cX3_readShout 64 = .ok (.aload_n 1, 1) := by decide +kernel
theorem dX3_readShout_65 : decode cX3_readShout 65 = .ok (.aload_n 2, 1) := by decide +kernel
theorem dX3_readShout_66 : decode cX3_readShout 66 = .ok (.aload_n 0, 1) := by decide +kernel
theorem dX3_readShout_67 : decode cX3_readShout 67 = .ok (.getfield 12, 3) := by decide +kernel
theorem dX3_readShout_70 : decode cX3_readShout 70 = .ok (.getfield 150, 3) := by decide +kernel
theorem dX3_readShout_73 : decode cX3_readShout 73 = .ok (.aload_n 0, 1) := by decide +kernel
theorem dX3_readShout_74 : decode cX3_readShout 74 = .ok (.getfield 12, 3) := by decide +kernel
theorem dX3_readShout_77 : decode cX3_readShout 77 = .ok (.getfield 106, 3) := by decide +kernel
theorem dX3_readShout_80 : decode cX3_readShout 80 = .ok (.aload_n 0, 1) := by decide +kernel
theorem dX3_readShout_81 : decode cX3_readShout 81 = .ok (.getfield 12, 3) := by decide +kernel
theorem dX3_readShout_84 : decode cX3_readShout 84 = .ok (.getfield 138, 3) := by decide +kernel
theorem dX3_readShout_87 : decode cX3_readShout 87 = .ok (.invokevirtual 156, 3) := by decide +kernel
theorem dX3_readShout_90 : decode cX3_readShout 90 = .ok (.ifCond .eq 7, 3) := by decide +kernel
theorem dX3_readShout_93 : decode cX3_readShout 93 = .ok (.iconst 1, 1) := by decide +kernel
theorem dX3_readShout_94 : decode cX3_readShout 94 = .ok (.goto 4, 3) := by decide +kernel
theorem dX3_readShout_97 : decode cX3_readShout 97 = .ok (.iconst 0, 1) := by decide +kernel
theorem dX3_readShout_98 : decode cX3_readShout 98 = .ok (.bipush 6, 2) := by decide +kernel
theorem dX3_readShout_100 : decode cX3_readShout 100 = .ok (.invokevirtual 38, 3) := by decide +kernel
theorem dX3_readShout_103 : decode cX3_readShout 103 = .ok (.return_, 1) := by decide +kernel
theorem dX3_readPass_0 : decode cX3_readPass 0 = .ok (.aload_n 0, 1) := by decide +kernel
theorem dX3_readPass_1 : decode cX3_readPass 1 = .ok (.getfield 12, 3) := by decide +kernel
theorem dX3_readPass_4 : decode cX3_readPass 4 = .ok (.aload_n 1, 1) := by decide +kernel
theorem dX3_readPass_5 : decode cX3_readPass 5 = .ok (.invokevirtual 160, 3) := by decide +kernel
theorem dX3_readPass_8 : decode cX3_readPass 8 = .ok (.putfield 113, 3) := by decide +kernel
theorem dX3_readPass_11 : decode cX3_readPass 11 = .ok (.aload_n 1, 1) := by decide +kernel
theorem dX3_readPass_12 : decode cX3_readPass 12 = .ok (.iconst 1, 1) := by decide +kernel
theorem dX3_readPass_13 : decode cX3_readPass 13 = .ok (.sipush 240, 3) := by decide +kernel
theorem dX3_readPass_16 : decode cX3_readPass 16 = .ok (.invokevirtual 163, 3) := by decide +kernel
theorem dX3_readPass_19 : decode cX3_readPass 19 = .ok (.aload_n 1, 1) := by decide +kernel
theorem dX3_readPass_20 : decode cX3_readPass 20 = .ok (.aload_n 2, 1) := by decide +kernel
theorem dX3_readPass_21 : decode cX3_readPass 21 = .ok (.aload_n 0, 1) := by decide +kernel
theorem dX3_readPass_22 : decode cX3_readPass 22 = .ok (.getfield 12, 3) := by decide +kernel
theorem dX3_readPass_25 : decode cX3_readPass 25 = .ok (.getfield 113, 3) := by decide +kernel
theorem dX3_readPass_28 : decode cX3_readPass 28 = .ok (.invokevirtual 167, 3) := by decide +kernel
theorem dX3_readPass_31 : decode cX3_readPass 31 = .ok (.getstatic 171, 3) := by decide +kernel
theorem dX3_readPass_34 : decode cX3_readPass 34 = .ok (.if_acmp .eq 7, 3) := by decide +kernel
theorem dX3_readPass_37 : decode cX3_readPass 37 = .ok (.iconst 1, 1) := by decide +kernel
theorem dX3_readPass_38 : decode cX3_readPass 38 = .ok (.goto 4, 3) := by decide +kernel
theorem dX3_readPass_41 : decode cX3_readPass 41 = .ok (.iconst 0, 1) := by decide +kernel
theorem dX3_readPass_42 : decode cX3_readPass 42 = .ok (.bipush 6, 2) := by decide +kernel
theorem dX3_readPass_44 : decode cX3_readPass 44 = .ok (.invokevirtual 38, 3) := by decide +kernel
theorem dX3_readPass_47 : decode cX3_readPass 47 = .ok (.aload_n 1, 1) := by decide +kernel
theorem dX3_readPass_48 : decode cX3_readPass 48 = .ok (.invokevirtual 42, 3) := by decide +kernel
theorem dX3_readPass_51 : decode cX3_readPass 51 = .ok (.return_, 1) := by decide +kernel
theorem dX3_readFake_0 : decode cX3_readFake 0 = .ok (.aload_n 0, 1) := by decide +kernel
theorem dX3_readFake_1 : decode cX3_readFake 1 = .ok (.getfield 12, 3) := by decide +kernel
theorem dX3_readFake_4 : decode cX3_readFake 4 = .ok (.aload_n 1, 1) := by decide +kernel
theorem dX3_readFake_5 : decode cX3_readFake 5 = .ok (.invokevirtual 160, 3) := by decide +kernel
theorem dX3_readFake_8 : decode cX3_readFake 8 = .ok (.putfield 113, 3) := by decide +kernel
theorem dX3_readFake_11 : decode cX3_readFake 11 = .ok (.aload_n 1, 1) := by decide +kernel
theorem dX3_readFake_12 : decode cX3_readFake 12 = .ok (.iconst 0, 1) := by decide +kernel
theorem dX3_readFake_13 : decode cX3_readFake 13 = .ok (.aload_n 2, 1) := by decide +kernel
theorem dX3_readFake_14 : decode cX3_readFake 14 = .ok (.getfield 177, 3) := by decide +kernel
theorem dX3_readFake_17 : decode cX3_readFake 17 = .ok (.iconst 1, 1) := by decide +kernel
theorem dX3_readFake_18 : decode cX3_readFake 18 = .ok (.isub, 1) := by decide +kernel
theorem dX3_readFake_19 : decode cX3_readFake 19 = .ok (.invokevirtual 163, 3) := by decide +kernel
theorem dX3_readFake_22 : decode cX3_readFake 22 = .ok (.aload_n 1, 1) := by decide +kernel
theorem dX3_readFake_23 : decode cX3_readFake 23 = .ok (.aload_n 2, 1) := by decide +kernel
theorem dX3_readFake_24 : decode cX3_readFake 24 = .ok (.aload_n 0, 1) := by decide +kernel
theorem dX3_readFake_25 : decode cX3_readFake 25 = .ok (.getfield 12, 3) := by decide +kernel
theorem dX3_readFake_28 : decode cX3_readFake 28 = .ok (.getfield 113, 3) := by decide +kernel
theorem dX3_readFake_31 : decode cX3_readFake 31 = .ok (.invokevirtual 180, 3) := by decide +kernel
theorem dX3_readFake_34 : decode cX3_readFake 34 = .ok (.getstatic 171, 3) := by decide +kernel
theorem dX3_readFake_37 : decode cX3_readFake 37 = .ok (.if_acmp .eq 7, 3) := by decide +kernel
theorem dX3_readFake_40 : decode cX3_readFake 40 = .ok (.iconst 1, 1) := by decide +kernel
theorem dX3_readFake_41 : decode cX3_readFake 41 = .ok (.goto 4, 3) := by decide +kernel
theorem dX3_readFake_44 : decode cX3_readFake 44 = .ok (.iconst 0, 1) := by decide +kernel
theorem dX3_readFake_45 : decode cX3_readFake 45 = .ok (.bipush 6, 2) := by decide +kernel
theorem dX3_readFake_47 : decode cX3_readFake 47 = .ok (.invokevirtual 38, 3) := by decide +kernel
theorem dX3_readFake_50 : decode cX3_readFake 50 = .ok (.aload_n 1, 1) := by decide +kernel
theorem dX3_readFake_51 : decode cX3_readFake 51 = .ok (.invokevirtual 42, 3) := by decide +kernel
theorem dX3_readFake_54 : decode cX3_readFake 54 = .ok (.return_, 1) := by decide +kernel
theorem dX5_init_0 : decode cX5_init 0 = .ok (.aload_n 0, 1) := by decide +kernel
theorem dX5_init_1 : decode cX5_init 1 = .ok (.invokespecial 3, 3) := by decide +kernel
theorem dX5_init_4 : decode cX5_init 4 = .ok (.aload_n 0, 1) := by decide +kernel
theorem dX5_init_5 : decode cX5_init 5 = .ok (.bipush 6, 2) := by decide +kernel
theorem dX5_init_7 : decode cX5_init 7 = .ok (.anewarray 9, 3) := by decide +kernel
theorem dX5_init_10 : decode cX5_init 10 = .ok (.putfield 11, 3) := by decide +kernel
theorem dX5_init_13 : decode cX5_init 13 = .ok (.iconst 0, 1) := by decide +kernel
theorem dX5_init_14 : decode cX5_init 14 = .ok (.istore_n 1, 1) := by decide +kernel
theorem dX5_init_15 : decode cX5_init 15 = .ok (.iload_n 1, 1) := by decide +kernel
theorem dX5_init_16 : decode cX5_init 16 = .ok (.bipush 6, 2) := by decide +kernel
theorem dX5_init_18 : decode cX5_init 18 = .ok (.if_icmp .ge 22, 3) := by decide +kernel
theorem dX5_init_21 : decode cX5_init 21 = .ok (.aload_n 0, 1) := by decide +kernel
theorem dX5_init_22 : decode cX5_init 22 = .ok (.getfield 11, 3) := by decide +kernel
theorem dX5_init_25 : decode cX5_init 25 = .ok (.iload_n 1, 1) := by decide +kernel
theorem dX5_init_26 : decode cX5_init 26 = .ok (.new 9, 3) := by decide +kernel
theorem dX5_init_29 : decode cX5_init 29 = .ok (.dup, 1) := by decide +kernel
theorem dX5_init_30 : decode cX5_init 30 = .ok (.invokespecial 17, 3) := by decide +kernel
theorem dX5_init_33 : decode cX5_init 33 = .ok (.aastore, 1) := by decide +kernel
theorem dX5_init_34 : decode cX5_init 34 = .ok (.iinc 1 1, 3) := by decide +kernel
theorem dX5_init_37 : decode cX5_init 37 = .ok (.goto (-22), 3) := by decide +kernel
theorem dX5_init_40 : decode cX5_init 40 = .ok (.return_, 1) := by decide +kernel
theorem dX5_remember_0 : decode cX5_remember 0 = .ok (.aload_n 0, 1) := by decide +kernel
theorem dX5_remember_1 : decode cX5_remember 1 = .ok (.getfield 11, 3) := by decide +kernel
theorem dX5_remember_4 : decode cX5_remember 4 = .ok (.aload_n 0, 1) := by decide +kernel
theorem dX5_remember_5 : decode cX5_remember 5 = .ok (.getfield 18, 3) := by decide +kernel
theorem dX5_remember_8 : decode cX5_remember 8 = .ok (.aaload, 1) := by decide +kernel
theorem dX5_remember_9 : decode cX5_remember 9 = .ok (.aload_n 1, 1) := by decide +kernel
theorem dX5_remember_10 : decode cX5_remember 10 = .ok (.invokevirtual 22, 3) := by decide +kernel
theorem dX5_remember_13 : decode cX5_remember 13 = .ok (.aload_n 0, 1) := by decide +kernel
theorem dX5_remember_14 : decode cX5_remember 14 = .ok (.aload_n 0, 1) := by decide +kernel
theorem dX5_remember_15 : decode cX5_remember 15 = .ok (.getfield 18, 3) := by decide +kernel
theorem dX5_remember_18 : decode cX5_remember 18 = .ok (.iconst 1, 1) := by decide +kernel
theorem dX5_remember_19 : decode cX5_remember 19 = .ok (.iadd, 1) := by decide +kernel
theorem dX5_remember_20 : decode cX5_remember 20 = .ok (.bipush 6, 2) := by decide +kernel
theorem dX5_remember_22 : decode cX5_remember 22 = .ok (.irem, 1) := by decide +kernel
theorem dX5_remember_23 : decode cX5_remember 23 = .ok (.putfield 18, 3) := by decide +kernel
theorem dX5_remember_26 : decode cX5_remember 26 = .ok (.aload_n 0, 1) := by decide +kernel
theorem dX5_remember_27 : decode cX5_remember 27 = .ok (.aload_n 0, 1) := by decide +kernel
theorem dX5_remember_28 : decode cX5_remember 28 = .ok (.getfield 26, 3) := by decide +kernel
theorem dX5_remember_31 : decode cX5_remember 31 = .ok (.iconst 1, 1) := by decide +kernel
theorem dX5_remember_32 : decode cX5_remember 32 = .ok (.iadd, 1) := by decide +kernel
theorem dX5_remember_33 : decode cX5_remember 33 = .ok (.bipush 6, 2) := by decide +kernel
theorem dX5_remember_35 : decode cX5_remember 35 = .ok (.invokestatic 29, 3) := by decide +kernel
theorem dX5_remember_38 : decode cX5_remember 38 = .ok (.putfield 26, 3) := by decide +kernel
theorem dX5_remember_41 : decode cX5_remember 41 = .ok (.return_, 1) := by decide +kernel
theorem dX5_forget_0 : decode cX5_forget 0 = .ok (.aload_n 0, 1) := by decide +kernel
theorem dX5_forget_1 : decode cX5_forget 1 = .ok (.iconst 0, 1) := by decide +kernel
theorem dX5_forget_2 : decode cX5_forget 2 = .ok (.putfield 26, 3) := by decide +kernel
theorem dX5_forget_5 : decode cX5_forget 5 = .ok (.return_, 1) := by decide +kernel
theorem dX6_init_0 : decode cX6_init 0 = .ok (.aload_n 0, 1) := by decide +kernel
theorem dX6_init_1 : decode cX6_init 1 = .ok (.invokespecial 3, 3) := by decide +kernel
theorem dX6_init_4 : decode cX6_init 4 = .ok (.aload_n 0, 1) := by decide +kernel
theorem dX6_init_5 : decode cX6_init 5 = .ok (.bipush 8, 2) := by decide +kernel
theorem dX6_init_7 : decode cX6_init 7 = .ok (.anewarray 9, 3) := by decide +kernel
theorem dX6_init_10 : decode cX6_init 10 = .ok (.putfield 11, 3) := by decide +kernel
theorem dX6_init_13 : decode cX6_init 13 = .ok (.aload_n 0, 1) := by decide +kernel
theorem dX6_init_14 : decode cX6_init 14 = .ok (.bipush 8, 2) := by decide +kernel
theorem dX6_init_16 : decode cX6_init 16 = .ok (.anewarray 17, 3) := by decide +kernel
theorem dX6_init_19 : decode cX6_init 19 = .ok (.putfield 19, 3) := by decide +kernel
theorem dX6_init_22 : decode cX6_init 22 = .ok (.aload_n 0, 1) := by decide +kernel
theorem dX6_init_23 : decode cX6_init 23 = .ok (.bipush 30, 2) := by decide +kernel
theorem dX6_init_25 : decode cX6_init 25 = .ok (.anewarray 23, 3) := by decide +kernel
theorem dX6_init_28 : decode cX6_init 28 = .ok (.putfield 25, 3) := by decide +kernel
theorem dX6_init_31 : decode cX6_init 31 = .ok (.iconst 0, 1) := by decide +kernel
theorem dX6_init_32 : decode cX6_init 32 = .ok (.istore_n 1, 1) := by decide +kernel
theorem dX6_init_33 : decode cX6_init 33 = .ok (.iload_n 1, 1) := by decide +kernel
theorem dX6_init_34 : decode cX6_init 34 = .ok (.bipush 8, 2) := by decide +kernel
theorem dX6_init_36 : decode cX6_init 36 = .ok (.if_icmp .ge 22, 3) := by decide +kernel
theorem dX6_init_39 : decode cX6_init 39 = .ok (.aload_n 0, 1) := by decide +kernel
theorem dX6_init_40 : decode cX6_init 40 = .ok (.getfield 11, 3) := by decide +kernel
theorem dX6_init_43 : decode cX6_init 43 = .ok (.iload_n 1, 1) := by decide +kernel
theorem dX6_init_44 : decode cX6_init 44 = .ok (.new 9, 3) := by decide +kernel
theorem dX6_init_47 : decode cX6_init 47 = .ok (.dup, 1) := by decide +kernel
theorem dX6_init_48 : decode cX6_init 48 = .ok (.invokespecial 29, 3) := by decide +kernel
theorem dX6_init_51 : decode cX6_init 51 = .ok (.aastore, 1) := by decide +kernel
theorem dX6_init_52 : decode cX6_init 52 = .ok (.iinc 1 1, 3) := by decide +kernel
theorem dX6_init_55 : decode cX6_init 55 = .ok (.goto (-22), 3) := by decide +kernel
theorem dX6_init_58 : decode cX6_init 58 = .ok (.iconst 0, 1) := by decide +kernel
theorem dX6_init_59 : decode cX6_init 59 = .ok (.istore_n 1, 1) := by decide +kernel
theorem dX6_init_60 : decode cX6_init 60 = .ok (.iload_n 1, 1) := by decide +kernel
theorem dX6_init_61 : decode cX6_init 61 = .ok (.bipush 8, 2) := by decide +kernel
theorem dX6_init_63 : decode cX6_init 63 = .ok (.if_icmp .ge 22, 3) := by decide +kernel
theorem dX6_init_66 : decode cX6_init 66 = .ok (.aload_n 0, 1) := by decide +kernel
theorem dX6_init_67 : decode cX6_init 67 = .ok (.getfield 19, 3) := by decide +kernel
theorem dX6_init_70 : decode cX6_init 70 = .ok (.iload_n 1, 1) := by decide +kernel
theorem dX6_init_71 : decode cX6_init 71 = .ok (.new 17, 3) := by decide +kernel
theorem dX6_init_74 : decode cX6_init 74 = .ok (.dup, 1) := by decide +kernel
theorem dX6_init_75 : decode cX6_init 75 = .ok (.invokespecial 30, 3) := by decide +kernel
theorem dX6_init_78 : decode cX6_init 78 = .ok (.aastore, 1) := by decide +kernel
theorem dX6_init_79 : decode cX6_init 79 = .ok (.iinc 1 1, 3) := by decide +kernel
theorem dX6_init_82 : decode cX6_init 82 = .ok (.goto (-22), 3) := by decide +kernel
theorem dX6_init_85 : decode cX6_init 85 = .ok (.iconst 0, 1) := by decide +kernel
theorem dX6_init_86 : decode cX6_init 86 = .ok (.istore_n 1, 1) := by decide +kernel
theorem dX6_init_87 : decode cX6_init 87 = .ok (.iload_n 1, 1) := by decide +kernel
theorem dX6_init_88 : decode cX6_init 88 = .ok (.bipush 30, 2) := by decide +kernel
theorem dX6_init_90 : decode cX6_init 90 = .ok (.if_icmp .ge 22, 3) := by decide +kernel
theorem dX6_init_93 : decode cX6_init 93 = .ok (.aload_n 0, 1) := by decide +kernel
theorem dX6_init_94 : decode cX6_init 94 = .ok (.getfield 25, 3) := by decide +kernel
theorem dX6_init_97 : decode cX6_init 97 = .ok (.iload_n 1, 1) := by decide +kernel
theorem dX6_init_98 : decode cX6_init 98 = .ok (.new 23, 3) := by decide +kernel
theorem dX6_init_101 : decode cX6_init 101 = .ok (.dup, 1) := by decide +kernel
theorem dX6_init_102 : decode cX6_init 102 = .ok (.invokespecial 31, 3) := by decide +kernel
theorem dX6_init_105 : decode cX6_init 105 = .ok (.aastore, 1) := by decide +kernel
theorem dX6_init_106 : decode cX6_init 106 = .ok (.iinc 1 1, 3) := by decide +kernel
theorem dX6_init_109 : decode cX6_init 109 = .ok (.goto (-22), 3) := by decide +kernel
theorem dX6_init_112 : decode cX6_init 112 = .ok (.return_, 1) := by decide +kernel
theorem dX6_clear_0 : decode cX6_clear 0 = .ok (.aload_n 0, 1) := by decide +kernel
theorem dX6_clear_1 : decode cX6_clear 1 = .ok (.iconst 0, 1) := by decide +kernel
theorem dX6_clear_2 : decode cX6_clear 2 = .ok (.putfield 32, 3) := by decide +kernel
theorem dX6_clear_5 : decode cX6_clear 5 = .ok (.aload_n 0, 1) := by decide +kernel
theorem dX6_clear_6 : decode cX6_clear 6 = .ok (.iconst 0, 1) := by decide +kernel
theorem dX6_clear_7 : decode cX6_clear 7 = .ok (.putfield 36, 3) := by decide +kernel
theorem dX6_clear_10 : decode cX6_clear 10 = .ok (.aload_n 0, 1) := by decide +kernel
theorem dX6_clear_11 : decode cX6_clear 11 = .ok (.iconst 0, 1) := by decide +kernel
theorem dX6_clear_12 : decode cX6_clear 12 = .ok (.putfield 39, 3) := by decide +kernel
theorem dX6_clear_15 : decode cX6_clear 15 = .ok (.aload_n 0, 1) := by decide +kernel
theorem dX6_clear_16 : decode cX6_clear 16 = .ok (.iconst 0, 1) := by decide +kernel
theorem dX6_clear_17 : decode cX6_clear 17 = .ok (.putfield 42, 3) := by decide +kernel
theorem dX6_clear_20 : decode cX6_clear 20 = .ok (.aload_n 0, 1) := by decide +kernel
theorem dX6_clear_21 : decode cX6_clear 21 = .ok (.iconst 0, 1) := by decide +kernel
theorem dX6_clear_22 : decode cX6_clear 22 = .ok (.putfield 45, 3) := by decide +kernel
theorem dX6_clear_25 : decode cX6_clear 25 = .ok (.aload_n 0, 1) := by decide +kernel
theorem dX6_clear_26 : decode cX6_clear 26 = .ok (.iconst 0, 1) := by decide +kernel
theorem dX6_clear_27 : decode cX6_clear 27 = .ok (.putfield 48, 3) := by decide +kernel
theorem dX6_clear_30 : decode cX6_clear 30 = .ok (.aload_n 0, 1) := by decide +kernel
theorem dX6_clear_31 : decode cX6_clear 31 = .ok (.iconst 0, 1) := by decide +kernel
theorem dX6_clear_32 : decode cX6_clear 32 = .ok (.putfield 51, 3) := by decide +kernel
theorem dX6_clear_35 : decode cX6_clear 35 = .ok (.aload_n 0, 1) := by decide +kernel
theorem dX6_clear_36 : decode cX6_clear 36 = .ok (.iconst 0, 1) := by decide +kernel
theorem dX6_clear_37 : decode cX6_clear 37 = .ok (.putfield 54, 3) := by decide +kernel
theorem dX6_clear_40 : decode cX6_clear 40 = .ok (.aload_n 0, 1) := by decide +kernel
theorem dX6_clear_41 : decode cX6_clear 41 = .ok (.iconst 0, 1) := by decide +kernel
theorem dX6_clear_42 : decode cX6_clear 42 = .ok (.putfield 57, 3) := by decide +kernel
theorem dX6_clear_45 : decode cX6_clear 45 = .ok (.aload_n 0, 1) := by decide +kernel
theorem dX6_clear_46 : decode cX6_clear 46 = .ok (.iconst 0, 1) := by decide +kernel
theorem dX6_clear_47 : decode cX6_clear 47 = .ok (.putfield 60, 3) := by decide +kernel
theorem dX6_clear_50 : decode cX6_clear 50 = .ok (.return_, 1) := by decide +kernel
theorem dX6_copyFrom_0 : decode cX6_copyFrom 0 = .ok (.aload_n 0, 1) := by decide +kernel
theorem dX6_copyFrom_1 : decode cX6_copyFrom 1 = .ok (.aload_n 1, 1) := by decide +kernel
theorem dX6_copyFrom_2 : decode cX6_copyFrom 2 = .ok (.getfield 32, 3) := by decide +kernel
theorem dX6_copyFrom_5 : decode cX6_copyFrom 5 = .ok (.putfield 32, 3) := by decide +kernel
theorem dX6_copyFrom_8 : decode cX6_copyFrom 8 = .ok (.aload_n 0, 1) := by decide +kernel
theorem dX6_copyFrom_9 : decode cX6_copyFrom 9 = .ok (.aload_n 1, 1) := by decide +kernel
theorem dX6_copyFrom_10 : decode cX6_copyFrom 10 = .ok (.getfield 36, 3) := by decide +kernel
theorem dX6_copyFrom_13 : decode cX6_copyFrom 13 = .ok (.putfield 36, 3) := by decide +kernel
theorem dX6_copyFrom_16 : decode cX6_copyFrom 16 = .ok (.aload_n 0, 1) := by decide +kernel
theorem dX6_copyFrom_17 : decode cX6_copyFrom 17 = .ok (.aload_n 1, 1) := by decide +kernel
theorem dX6_copyFrom_18 : decode cX6_copyFrom 18 = .ok (.getfield 39, 3) := by decide +kernel
theorem dX6_copyFrom_21 : decode cX6_copyFrom 21 = .ok (.putfield 39, 3) := by decide +kernel
theorem dX6_copyFrom_24 : decode cX6_copyFrom 24 = .ok (.aload_n 0, 1) := by decide +kernel
theorem dX6_copyFrom_25 : decode cX6_copyFrom 25 = .ok (.aload_n 1, 1) := by decide +kernel
theorem dX6_copyFrom_26 : decode cX6_copyFrom 26 = .ok (.getfield 42, 3) := by decide +kernel
theorem dX6_copyFrom_29 : decode cX6_copyFrom 29 = .ok (.putfield 42, 3) := by decide +kernel
theorem dX6_copyFrom_32 : decode cX6_copyFrom 32 = .ok (.aload_n 0, 1) := by decide +kernel
theorem dX6_copyFrom_33 : decode cX6_copyFrom 33 = .ok (.aload_n 1, 1) := by decide +kernel
theorem dX6_copyFrom_34 : decode cX6_copyFrom 34 = .ok (.getfield 45, 3) := by decide +kernel
theorem dX6_copyFrom_37 : decode cX6_copyFrom 37 = .ok (.putfield 45, 3) := by decide +kernel
theorem dX6_copyFrom_40 : decode cX6_copyFrom 40 = .ok (.aload_n 0, 1) := by decide +kernel
theorem dX6_copyFrom_41 : decode cX6_copyFrom 41 = .ok (.aload_n 1, 1) := by decide +kernel
theorem dX6_copyFrom_42 : decode cX6_copyFrom 42 = .ok (.getfield 48, 3) := by decide +kernel
theorem dX6_copyFrom_45 : decode cX6_copyFrom 45 = .ok (.putfield 48, 3) := by decide +kernel
theorem dX6_copyFrom_48 : decode cX6_copyFrom 48 = .ok (.aload_n 0, 1) := by decide +kernel
theorem dX6_copyFrom_49 : decode cX6_copyFrom 49 = .ok (.aload_n 1, 1) := by decide +kernel
theorem dX6_copyFrom_50 : decode cX6_copyFrom 50 = .ok (.getfield 51, 3) := by decide +kernel
theorem dX6_copyFrom_53 : decode cX6_copyFrom 53 = .ok (.putfield 51, 3) := by decide +kernel
theorem dX6_copyFrom_56 : decode cX6_copyFrom 56 = .ok (.aload_n 0, 1) := by decide +kernel
theorem dX6_copyFrom_57 : decode cX6_copyFrom 57 = .ok (.aload_n 1, 1) := by decide +kernel
theorem dX6_copyFrom_58 : decode cX6_copyFrom 58 = .ok (.getfield 54, 3) := by decide +kernel
theorem dX6_copyFrom_61 : decode cX6_copyFrom 61 = .ok (.putfield 54, 3) := by decide +kernel
theorem dX6_copyFrom_64 : decode cX6_copyFrom 64 = .ok (.aload_n 0, 1) := by decide +kernel
theorem dX6_copyFrom_65 : decode cX6_copyFrom 65 = .ok (.aload_n 1, 1) := by decide +kernel
theorem dX6_copyFrom_66 : decode cX6_copyFrom 66 = .ok (.getfield 57, 3) := by decide +kernel
theorem dX6_copyFrom_69 : decode cX6_copyFrom 69 = .ok (.putfield 57, 3) := by decide +kernel
theorem dX6_copyFrom_72 : decode cX6_copyFrom 72 = .ok (.aload_n 0, 1) := by decide +kernel
theorem dX6_copyFrom_73 : decode cX6_copyFrom 73 = .ok (.aload_n 1, 1) := by decide +kernel
theorem dX6_copyFrom_74 : decode cX6_copyFrom 74 = .ok (.getfield 60, 3) := by decide +kernel
theorem dX6_copyFrom_77 : decode cX6_copyFrom 77 = .ok (.putfield 60, 3) := by decide +kernel
theorem dX6_copyFrom_80 : decode cX6_copyFrom 80 = .ok (.iconst 0, 1) := by decide +kernel
theorem dX6_copyFrom_81 : decode cX6_copyFrom 81 = .ok (.istore_n 2, 1) := by decide +kernel
theorem dX6_copyFrom_82 : decode cX6_copyFrom 82 = .ok (.iload_n 2, 1) := by decide +kernel
theorem dX6_copyFrom_83 : decode cX6_copyFrom 83 = .ok (.aload_n 0, 1) := by decide +kernel
theorem dX6_copyFrom_84 : decode cX6_copyFrom 84 = .ok (.getfield 32, 3) := by decide +kernel
theorem dX6_copyFrom_87 : decode cX6_copyFrom 87 = .ok (.if_icmp .ge 24, 3) := by decide +kernel
theorem dX6_copyFrom_90 : decode cX6_copyFrom 90 = .ok (.aload_n 0, 1) := by decide +kernel
theorem dX6_copyFrom_91 : decode cX6_copyFrom 91 = .ok (.getfield 11, 3) := by decide +kernel
theorem dX6_copyFrom_94 : decode cX6_copyFrom 94 = .ok (.iload_n 2, 1) := by decide +kernel
theorem dX6_copyFrom_95 : decode cX6_copyFrom 95 = .ok (.aaload, 1) := by decide +kernel
theorem dX6_copyFrom_96 : decode cX6_copyFrom 96 = .ok (.aload_n 1, 1) := by decide +kernel
theorem dX6_copyFrom_97 : decode cX6_copyFrom 97 = .ok (.getfield 11, 3) := by decide +kernel
theorem dX6_copyFrom_100 : decode cX6_copyFrom 100 = .ok (.iload_n 2, 1) := by decide +kernel
theorem dX6_copyFrom_101 : decode cX6_copyFrom 101 = .ok (.aaload, 1) := by decide +kernel
theorem dX6_copyFrom_102 : decode cX6_copyFrom 102 = .ok (.invokevirtual 63, 3) := by decide +kernel
theorem dX6_copyFrom_105 : decode cX6_copyFrom 105 = .ok (.iinc 2 1, 3) := by decide +kernel
theorem dX6_copyFrom_108 : decode cX6_copyFrom 108 = .ok (.goto (-26), 3) := by decide +kernel
theorem dX6_copyFrom_111 : decode cX6_copyFrom 111 = .ok (.iconst 0, 1) := by decide +kernel
theorem dX6_copyFrom_112 : decode cX6_copyFrom 112 = .ok (.istore_n 2, 1) := by decide +kernel
theorem dX6_copyFrom_113 : decode cX6_copyFrom 113 = .ok (.iload_n 2, 1) := by decide +kernel
theorem dX6_copyFrom_114 : decode cX6_copyFrom 114 = .ok (.aload_n 0, 1) := by decide +kernel
theorem dX6_copyFrom_115 : decode cX6_copyFrom 115 = .ok (.getfield 36, 3) := by decide +kernel
theorem dX6_copyFrom_118 : decode cX6_copyFrom 118 = .ok (.if_icmp .ge 24, 3) := by decide +kernel
theorem dX6_copyFrom_121 : decode cX6_copyFrom 121 = .ok (.aload_n 0, 1) := by decide +kernel
theorem dX6_copyFrom_122 : decode cX6_copyFrom 122 = .ok (.getfield 19, 3) := by decide +kernel
theorem dX6_copyFrom_125 : decode cX6_copyFrom 125 = .ok (.iload_n 2, 1) := by decide +kernel
theorem dX6_copyFrom_126 : decode cX6_copyFrom 126 = .ok (.aaload, 1) := by decide +kernel
theorem dX6_copyFrom_127 : decode cX6_copyFrom 127 = .ok (.aload_n 1, 1) := by decide +kernel
theorem dX6_copyFrom_128 : decode cX6_copyFrom 128 = .ok (.getfield 19, 3) := by decide +kernel
theorem dX6_copyFrom_131 : decode cX6_copyFrom 131 = .ok (.iload_n 2, 1) := by decide +kernel
theorem dX6_copyFrom_132 : decode cX6_copyFrom 132 = .ok (.aaload, 1) := by decide +kernel
theorem dX6_copyFrom_133 : decode cX6_copyFrom 133 = .ok (.invokevirtual 67, 3) := by decide +kernel
theorem dX6_copyFrom_136 : decode cX6_copyFrom 136 = .ok (.iinc 2 1, 3) := by decide +kernel
theorem dX6_copyFrom_139 : decode cX6_copyFrom 139 = .ok (.goto (-26), 3) := by decide +kernel
theorem dX6_copyFrom_142 : decode cX6_copyFrom 142 = .ok (.iconst 0, 1) := by decide +kernel
theorem dX6_copyFrom_143 : decode cX6_copyFrom 143 = .ok (.istore_n 2, 1) := by decide +kernel
theorem dX6_copyFrom_144 : decode cX6_copyFrom 144 = .ok (.iload_n 2, 1) := by decide +kernel
theorem dX6_copyFrom_145 : decode cX6_copyFrom 145 = .ok (.aload_n 0, 1) := by decide +kernel
theorem dX6_copyFrom_146 : decode cX6_copyFrom 146 = .ok (.getfield 39, 3) := by decide +kernel
theorem dX6_copyFrom_149 : decode cX6_copyFrom 149 = .ok (.if_icmp .ge 24, 3) := by decide +kernel
theorem dX6_copyFrom_152 : decode cX6_copyFrom 152 = .ok (.aload_n 0, 1) := by decide +kernel
theorem dX6_copyFrom_153 : decode cX6_copyFrom 153 = .ok (.getfield 25, 3) := by decide +kernel
theorem dX6_copyFrom_156 : decode cX6_copyFrom 156 = .ok (.iload_n 2, 1) := by decide +kernel
theorem dX6_copyFrom_157 : decode cX6_copyFrom 157 = .ok (.aaload, 1) := by decide +kernel
theorem dX6_copyFrom_158 : decode cX6_copyFrom 158 = .ok (.aload_n 1, 1) := by decide +kernel
theorem dX6_copyFrom_159 : decode cX6_copyFrom 159 = .ok (.getfield 25, 3) := by decide +kernel
theorem dX6_copyFrom_162 : decode cX6_copyFrom 162 = .ok (.iload_n 2, 1) := by decide +kernel
theorem dX6_copyFrom_163 : decode cX6_copyFrom 163 = .ok (.aaload, 1) := by decide +kernel
theorem dX6_copyFrom_164 : decode cX6_copyFrom 164 = .ok (.invokevirtual 70, 3) := by decide +kernel
theorem dX6_copyFrom_167 : decode cX6_copyFrom 167 = .ok (.iinc 2 1, 3) := by decide +kernel
theorem dX6_copyFrom_170 : decode cX6_copyFrom 170 = .ok (.goto (-26), 3) := by decide +kernel
theorem dX6_copyFrom_173 : decode cX6_copyFrom 173 = .ok (.return_, 1) := by decide +kernel
theorem dX6_hasValley_0 : decode cX6_hasValley 0 = .ok (.iload_n 1, 1) := by decide +kernel
theorem dX6_hasValley_1 : decode cX6_hasValley 1 = .ok (.iconst 0, 1) := by decide +kernel
theorem dX6_hasValley_2 : decode cX6_hasValley 2 = .ok (.aload_n 0, 1) := by decide +kernel
theorem dX6_hasValley_3 : decode cX6_hasValley 3 = .ok (.getfield 32, 3) := by decide +kernel
theorem dX6_hasValley_6 : decode cX6_hasValley 6 = .ok (.iconst 1, 1) := by decide +kernel
theorem dX6_hasValley_7 : decode cX6_hasValley 7 = .ok (.isub, 1) := by decide +kernel
theorem dX6_hasValley_8 : decode cX6_hasValley 8 = .ok (.invokestatic 73, 3) := by decide +kernel
theorem dX6_hasValley_11 : decode cX6_hasValley 11 = .ok (.ireturn, 1) := by decide +kernel
theorem dX6_hasCustomer_0 : decode cX6_hasCustomer 0 = .ok (.iload_n 1, 1) := by decide +kernel
theorem dX6_hasCustomer_1 : decode cX6_hasCustomer 1 = .ok (.iconst 0, 1) := by decide +kernel
theorem dX6_hasCustomer_2 : decode cX6_hasCustomer 2 = .ok (.aload_n 0, 1) := by decide +kernel
theorem dX6_hasCustomer_3 : decode cX6_hasCustomer 3 = .ok (.getfield 36, 3) := by decide +kernel
theorem dX6_hasCustomer_6 : decode cX6_hasCustomer 6 = .ok (.iconst 1, 1) := by decide +kernel
theorem dX6_hasCustomer_7 : decode cX6_hasCustomer 7 = .ok (.isub, 1) := by decide +kernel
theorem dX6_hasCustomer_8 : decode cX6_hasCustomer 8 = .ok (.invokestatic 73, 3) := by decide +kernel
theorem dX6_hasCustomer_11 : decode cX6_hasCustomer 11 = .ok (.ireturn, 1) := by decide +kernel
theorem dX6_hasShout_0 : decode cX6_hasShout 0 = .ok (.iload_n 1, 1) := by decide +kernel
theorem dX6_hasShout_1 : decode cX6_hasShout 1 = .ok (.iconst 0, 1) := by decide +kernel
theorem dX6_hasShout_2 : decode cX6_hasShout 2 = .ok (.aload_n 0, 1) := by decide +kernel
theorem dX6_hasShout_3 : decode cX6_hasShout 3 = .ok (.getfield 39, 3) := by decide +kernel
theorem dX6_hasShout_6 : decode cX6_hasShout 6 = .ok (.iconst 1, 1) := by decide +kernel
theorem dX6_hasShout_7 : decode cX6_hasShout 7 = .ok (.isub, 1) := by decide +kernel
theorem dX6_hasShout_8 : decode cX6_hasShout 8 = .ok (.invokestatic 73, 3) := by decide +kernel
theorem dX6_hasShout_11 : decode cX6_hasShout 11 = .ok (.ireturn, 1) := by decide +kernel
theorem dX6_openInAll_0 : decode cX6_openInAll 0 = .ok (.iconst 0, 1) := by decide +kernel
theorem dX6_openInAll_1 : decode cX6_openInAll 1 = .ok (.istore_n 1, 1) := by decide +kernel
theorem dX6_openInAll_2 : decode cX6_openInAll 2 = .ok (.iconst 0, 1) := by decide +kernel
theorem dX6_openInAll_3 : decode cX6_openInAll 3 = .ok (.istore_n 2, 1) := by decide +kernel
theorem dX6_openInAll_4 : decode cX6_openInAll 4 = .ok (.iload_n 2, 1) := by decide +kernel
theorem dX6_openInAll_5 : decode cX6_openInAll 5 = .ok (.aload_n 0, 1) := by decide +kernel
theorem dX6_openInAll_6 : decode cX6_openInAll 6 = .ok (.getfield 39, 3) := by decide +kernel
theorem dX6_openInAll_9 : decode cX6_openInAll 9 = .ok (.if_icmp .ge 29, 3) := by decide +kernel
theorem dX6_openInAll_12 : decode cX6_openInAll 12 = .ok (.iload_n 1, 1) := by decide +kernel
theorem dX6_openInAll_13 : decode cX6_openInAll 13 = .ok (.aload_n 0, 1) := by decide +kernel
theorem dX6_openInAll_14 : decode cX6_openInAll 14 = .ok (.getfield 25, 3) := by decide +kernel
theorem dX6_openInAll_17 : decode cX6_openInAll 17 = .ok (.iload_n 2, 1) := by decide +kernel
theorem dX6_openInAll_18 : decode cX6_openInAll 18 = .ok (.aaload, 1) := by decide +kernel
theorem dX6_openInAll_19 : decode cX6_openInAll 19 = .ok (.invokevirtual 77, 3) := by decide +kernel
theorem dX6_openInAll_22 : decode cX6_openInAll 22 = .ok (.ifCond .eq 7, 3) := by decide +kernel
theorem dX6_openInAll_25 : decode cX6_openInAll 25 = .ok (.iconst 1, 1) := by decide +kernel
theorem dX6_openInAll_26 : decode cX6_openInAll 26 = .ok (.goto 4, 3) := by decide +kernel
theorem dX6_openInAll_29 : decode cX6_openInAll 29 = .ok (.iconst 0, 1) := by decide +kernel
theorem dX6_openInAll_30 : decode cX6_openInAll 30 = .ok (.iadd, 1) := by decide +kernel
theorem dX6_openInAll_31 : decode cX6_openInAll 31 = .ok (.istore_n 1, 1) := by decide +kernel
theorem dX6_openInAll_32 : decode cX6_openInAll 32 = .ok (.iinc 2 1, 3) := by decide +kernel
theorem dX6_openInAll_35 : decode cX6_openInAll 35 = .ok (.goto (-31), 3) := by decide +kernel
theorem dX6_openInAll_38 : decode cX6_openInAll 38 = .ok (.iload_n 1, 1) := by decide +kernel
theorem dX6_openInAll_39 : decode cX6_openInAll 39 = .ok (.ireturn, 1) := by decide +kernel
theorem dX6_brokenInvariants_0 : decode cX6_brokenInvariants 0 = .ok (.iconst 0, 1) := by decide +kernel
theorem dX6_brokenInvariants_1 : decode cX6_brokenInvariants 1 = .ok (.istore_n 1, 1) := by decide +kernel
theorem dX6_brokenInvariants_2 : decode cX6_brokenInvariants 2 = .ok (.iconst 0, 1) := by decide +kernel
theorem dX6_brokenInvariants_3 : decode cX6_brokenInvariants 3 = .ok (.istore_n 2, 1) := by decide +kernel
theorem dX6_brokenInvariants_4 : decode cX6_brokenInvariants 4 = .ok (.iconst 0, 1) := by decide +kernel
theorem dX6_brokenInvariants_5 : decode cX6_brokenInvariants 5 = .ok (.istore_n 3, 1) := by decide +kernel
theorem dX6_brokenInvariants_6 : decode cX6_brokenInvariants 6 = .ok (.iload_n 3, 1) := by decide +kernel
theorem dX6_brokenInvariants_7 : decode cX6_brokenInvariants 7 = .ok (.aload_n 0, 1) := by decide +kernel
theorem dX6_brokenInvariants_8 : decode cX6_brokenInvariants 8 = .ok (.getfield 39, 3) := by decide +kernel
theorem dX6_brokenInvariants_11 : decode cX6_brokenInvariants 11 = .ok (.if_icmp .ge 55, 3) := by decide +kernel
theorem dX6_brokenInvariants_14 : decode cX6_brokenInvariants 14 = .ok (.aload_n 0, 1) := by decide +kernel
theorem dX6_brokenInvariants_15 : decode cX6_brokenInvariants 15 = .ok (.getfield 25, 3) := by decide +kernel
theorem dX6_brokenInvariants_18 : decode cX6_brokenInvariants 18 = .ok (.iload_n 3, 1) := by decide +kernel
theorem dX6_brokenInvariants_19 : decode cX6_brokenInvariants 19 = .ok (.aaload, 1) := by decide +kernel
theorem dX6_brokenInvariants_20 : decode cX6_brokenInvariants 20 = .ok (.astore 4, 2) := by decide +kernel
theorem dX6_brokenInvariants_22 : decode cX6_brokenInvariants 22 = .ok (.iload_n 1, 1) := by decide +kernel
theorem dX6_brokenInvariants_23 : decode cX6_brokenInvariants 23 = .ok (.aload 4, 2) := by decide +kernel
theorem dX6_brokenInvariants_25 : decode cX6_brokenInvariants 25 = .ok (.invokevirtual 87, 3) := by decide +kernel
theorem dX6_brokenInvariants_28 : decode cX6_brokenInvariants 28 = .ok (.iadd, 1) := by decide +kernel
theorem dX6_brokenInvariants_29 : decode cX6_brokenInvariants 29 = .ok (.istore_n 1, 1) := by decide +kernel
theorem dX6_brokenInvariants_30 : decode cX6_brokenInvariants 30 = .ok (.iload_n 2, 1) := by decide +kernel
theorem dX6_brokenInvariants_31 : decode cX6_brokenInvariants 31 = .ok (.aload 4, 2) := by decide +kernel
theorem dX6_brokenInvariants_33 : decode cX6_brokenInvariants 33 = .ok (.getfield 91, 3) := by decide +kernel
theorem dX6_brokenInvariants_36 : decode cX6_brokenInvariants 36 = .ok (.iconst 1, 1) := by decide +kernel
theorem dX6_brokenInvariants_37 : decode cX6_brokenInvariants 37 = .ok (.if_icmp .ne 20, 3) := by decide +kernel
theorem dX6_brokenInvariants_40 : decode cX6_brokenInvariants 40 = .ok (.aload 4, 2) := by decide +kernel
theorem dX6_brokenInvariants_42 : decode cX6_brokenInvariants 42 = .ok (.getfield 94, 3) := by decide +kernel
theorem dX6_brokenInvariants_45 : decode cX6_brokenInvariants 45 = .ok (.aload 4, 2) := by decide +kernel
theorem dX6_brokenInvariants_47 : decode cX6_brokenInvariants 47 = .ok (.getfield 97, 3) := by decide +kernel
theorem dX6_brokenInvariants_50 : decode cX6_brokenInvariants 50 = .ok (.if_icmp .ge 7, 3) := by decide +kernel
theorem dX6_brokenInvariants_53 : decode cX6_brokenInvariants 53 = .ok (.iconst 1, 1) := by decide +kernel
theorem dX6_brokenInvariants_54 : decode cX6_brokenInvariants 54 = .ok (.goto 4, 3) := by decide +kernel
theorem dX6_brokenInvariants_57 : decode cX6_brokenInvariants 57 = .ok (.iconst 0, 1) := by decide +kernel
theorem dX6_brokenInvariants_58 : decode cX6_brokenInvariants 58 = .ok (.iadd, 1) := by decide +kernel
theorem dX6_brokenInvariants_59 : decode cX6_brokenInvariants 59 = .ok (.istore_n 2, 1) := by decide +kernel
theorem dX6_brokenInvariants_60 : decode cX6_brokenInvariants 60 = .ok (.iinc 3 1, 3) := by decide +kernel
theorem dX6_brokenInvariants_63 : decode cX6_brokenInvariants 63 = .ok (.goto (-57), 3) := by decide +kernel
theorem dX6_brokenInvariants_66 : decode cX6_brokenInvariants 66 = .ok (.iconst 0, 1) := by decide +kernel
theorem dX6_brokenInvariants_67 : decode cX6_brokenInvariants 67 = .ok (.istore_n 3, 1) := by decide +kernel
theorem dX6_brokenInvariants_68 : decode cX6_brokenInvariants 68 = .ok (.iconst 0, 1) := by decide +kernel
theorem dX6_brokenInvariants_69 : decode cX6_brokenInvariants 69 = .ok (.istore 4, 2) := by decide +kernel
theorem dX6_brokenInvariants_71 : decode cX6_brokenInvariants 71 = .ok (.iconst 0, 1) := by decide +kernel
theorem dX6_brokenInvariants_72 : decode cX6_brokenInvariants 72 = .ok (.istore 5, 2) := by decide +kernel
theorem dX6_brokenInvariants_74 : decode cX6_brokenInvariants 74 = .ok (.iload 5, 2) := by decide +kernel
theorem dX6_brokenInvariants_76 : decode cX6_brokenInvariants 76 = .ok (.aload_n 0, 1) := by decide +kernel
theorem dX6_brokenInvariants_77 : decode cX6_brokenInvariants 77 = .ok (.getfield 36, 3) := by decide +kernel
theorem dX6_brokenInvariants_80 : decode cX6_brokenInvariants 80 = .ok (.if_icmp .ge 37, 3) := by decide +kernel
theorem dX6_brokenInvariants_83 : decode cX6_brokenInvariants 83 = .ok (.iload_n 3, 1) := by decide +kernel
theorem dX6_brokenInvariants_84 : decode cX6_brokenInvariants 84 = .ok (.aload_n 0, 1) := by decide +kernel
theorem dX6_brokenInvariants_85 : decode cX6_brokenInvariants 85 = .ok (.getfield 19, 3) := by decide +kernel
theorem dX6_brokenInvariants_88 : decode cX6_brokenInvariants 88 = .ok (.iload 5, 2) := by decide +kernel
theorem dX6_brokenInvariants_90 : decode cX6_brokenInvariants 90 = .ok (.aaload, 1) := by decide +kernel
theorem dX6_brokenInvariants_91 : decode cX6_brokenInvariants 91 = .ok (.getfield 100, 3) := by decide +kernel
theorem dX6_brokenInvariants_94 : decode cX6_brokenInvariants 94 = .ok (.iadd, 1) := by decide +kernel
theorem dX6_brokenInvariants_95 : decode cX6_brokenInvariants 95 = .ok (.istore_n 3, 1) := by decide +kernel
theorem dX6_brokenInvariants_96 : decode cX6_brokenInvariants 96 = .ok (.iload 4, 2) := by decide +kernel
theorem dX6_brokenInvariants_98 : decode cX6_brokenInvariants 98 = .ok (.aload_n 0, 1) := by decide +kernel
theorem dX6_brokenInvariants_99 : decode cX6_brokenInvariants 99 = .ok (.getfield 19, 3) := by decide +kernel
theorem dX6_brokenInvariants_102 : decode cX6_brokenInvariants 102 = .ok (.iload 5, 2) := by decide +kernel
theorem dX6_brokenInvariants_104 : decode cX6_brokenInvariants 104 = .ok (.aaload, 1) := by decide +kernel
theorem dX6_brokenInvariants_105 : decode cX6_brokenInvariants 105 = .ok (.getfield 103, 3) := by decide +kernel
theorem dX6_brokenInvariants_108 : decode cX6_brokenInvariants 108 = .ok (.iadd, 1) := by decide +kernel
theorem dX6_brokenInvariants_109 : decode cX6_brokenInvariants 109 = .ok (.istore 4, 2) := by decide +kernel
theorem dX6_brokenInvariants_111 : decode cX6_brokenInvariants 111 = .ok (.iinc 5 1, 3) := by decide +kernel
theorem dX6_brokenInvariants_114 : decode cX6_brokenInvariants 114 = .ok (.goto (-40), 3) := by decide +kernel
theorem dX6_brokenInvariants_117 : decode cX6_brokenInvariants 117 = .ok (.aload_n 0, 1) := by decide +kernel
theorem dX6_brokenInvariants_118 : decode cX6_brokenInvariants 118 = .ok (.getfield 48, 3) := by decide +kernel
theorem dX6_brokenInvariants_121 : decode cX6_brokenInvariants 121 = .ok (.aload_n 0, 1) := by decide +kernel
theorem dX6_brokenInvariants_122 : decode cX6_brokenInvariants 122 = .ok (.getfield 54, 3) := by decide +kernel
theorem dX6_brokenInvariants_125 : decode cX6_brokenInvariants 125 = .ok (.iadd, 1) := by decide +kernel
theorem dX6_brokenInvariants_126 : decode cX6_brokenInvariants 126 = .ok (.istore 5, 2) := by decide +kernel
theorem dX6_brokenInvariants_128 : decode cX6_brokenInvariants 128 = .ok (.iload_n 1, 1) := by decide +kernel
theorem dX6_brokenInvariants_129 : decode cX6_brokenInvariants 129 = .ok (.iload 5, 2) := by decide +kernel
theorem dX6_brokenInvariants_131 : decode cX6_brokenInvariants 131 = .ok (.isub, 1) := by decide +kernel
theorem dX6_brokenInvariants_132 : decode cX6_brokenInvariants 132 = .ok (.aload_n 0, 1) := by decide +kernel
theorem dX6_brokenInvariants_133 : decode cX6_brokenInvariants 133 = .ok (.getfield 51, 3) := by decide +kernel
theorem dX6_brokenInvariants_136 : decode cX6_brokenInvariants 136 = .ok (.isub, 1) := by decide +kernel
theorem dX6_brokenInvariants_137 : decode cX6_brokenInvariants 137 = .ok (.invokestatic 106, 3) := by decide +kernel
theorem dX6_brokenInvariants_140 : decode cX6_brokenInvariants 140 = .ok (.iload_n 3, 1) := by decide +kernel
theorem dX6_brokenInvariants_141 : decode cX6_brokenInvariants 141 = .ok (.iload 4, 2) := by decide +kernel
theorem dX6_brokenInvariants_143 : decode cX6_brokenInvariants 143 = .ok (.isub, 1) := by decide +kernel
theorem dX6_brokenInvariants_144 : decode cX6_brokenInvariants 144 = .ok (.iload 5, 2) := by decide +kernel
theorem dX6_brokenInvariants_146 : decode cX6_brokenInvariants 146 = .ok (.isub, 1) := by decide +kernel
theorem dX6_brokenInvariants_147 : decode cX6_brokenInvariants 147 = .ok (.invokestatic 106, 3) := by decide +kernel
theorem dX6_brokenInvariants_150 : decode cX6_brokenInvariants 150 = .ok (.iadd, 1) := by decide +kernel
theorem dX6_brokenInvariants_151 : decode cX6_brokenInvariants 151 = .ok (.iload_n 2, 1) := by decide +kernel
theorem dX6_brokenInvariants_152 : decode cX6_brokenInvariants 152 = .ok (.iadd, 1) := by decide +kernel
theorem dX6_brokenInvariants_153 : decode cX6_brokenInvariants 153 = .ok (.ireturn, 1) := by decide +kernel
theorem dX6_valleyNamed_0 : decode cX6_valleyNamed 0 = .ok (.iconst 0, 1) := by decide +kernel
theorem dX6_valleyNamed_1 : decode cX6_valleyNamed 1 = .ok (.istore_n 3, 1) := by decide +kernel
theorem dX6_valleyNamed_2 : decode cX6_valleyNamed 2 = .ok (.iload_n 3, 1) := by decide +kernel
theorem dX6_valleyNamed_3 : decode cX6_valleyNamed 3 = .ok (.aload_n 0, 1) := by decide +kernel
theorem dX6_valleyNamed_4 : decode cX6_valleyNamed 4 = .ok (.getfield 32, 3) := by decide +kernel
theorem dX6_valleyNamed_7 : decode cX6_valleyNamed 7 = .ok (.if_icmp .ge 25, 3) := by decide +kernel
theorem dX6_valleyNamed_10 : decode cX6_valleyNamed 10 = .ok (.aload_n 0, 1) := by decide +kernel
theorem dX6_valleyNamed_11 : decode cX6_valleyNamed 11 = .ok (.getfield 11, 3) := by decide +kernel
theorem dX6_valleyNamed_14 : decode cX6_valleyNamed 14 = .ok (.iload_n 3, 1) := by decide +kernel
theorem dX6_valleyNamed_15 : decode cX6_valleyNamed 15 = .ok (.aaload, 1) := by decide +kernel
theorem dX6_valleyNamed_16 : decode cX6_valleyNamed 16 = .ok (.getfield 112, 3) := by decide +kernel
theorem dX6_valleyNamed_19 : decode cX6_valleyNamed 19 = .ok (.lload_n 1, 1) := by decide +kernel
theorem dX6_valleyNamed_20 : decode cX6_valleyNamed 20 = .ok (.lcmp, 1) := by decide +kernel
theorem dX6_valleyNamed_21 : decode cX6_valleyNamed 21 = .ok (.ifCond .ne 5, 3) := by decide +kernel
theorem dX6_valleyNamed_24 : decode cX6_valleyNamed 24 = .ok (.iload_n 3, 1) := by decide +kernel
theorem dX6_valleyNamed_25 : decode cX6_valleyNamed 25 = .ok (.ireturn, 1) := by decide +kernel
theorem dX6_valleyNamed_26 : decode cX6_valleyNamed 26 = .ok (.iinc 3 1, 3) := by decide +kernel
theorem dX6_valleyNamed_29 : decode cX6_valleyNamed 29 = .ok (.goto (-27), 3) := by decide +kernel
theorem dX6_valleyNamed_32 : decode cX6_valleyNamed 32 = .ok (.iconst (-1), 1) := by decide +kernel
theorem dX6_valleyNamed_33 : decode cX6_valleyNamed 33 = .ok (.ireturn, 1) := by decide +kernel
theorem dX6_customerNamed_0 : decode cX6_customerNamed 0 = .ok (.iconst 0, 1) := by decide +kernel
theorem dX6_customerNamed_1 : decode cX6_customerNamed 1 = .ok (.istore_n 3, 1) := by decide +kernel
theorem dX6_customerNamed_2 : decode cX6_customerNamed 2 = .ok (.iload_n 3, 1) := by decide +kernel
theorem dX6_customerNamed_3 : decode cX6_customerNamed 3 = .ok (.aload_n 0, 1) := by decide +kernel
theorem dX6_customerNamed_4 : decode cX6_customerNamed 4 = .ok (.getfield 36, 3) := by decide +kernel
theorem dX6_customerNamed_7 : decode cX6_customerNamed 7 = .ok (.if_icmp .ge 25, 3) := by decide +kernel
theorem dX6_customerNamed_10 : decode cX6_customerNamed 10 = .ok (.aload_n 0, 1) := by decide +kernel
theorem dX6_customerNamed_11 : decode cX6_customerNamed 11 = .ok (.getfield 19, 3) := by decide +kernel
theorem dX6_customerNamed_14 : decode cX6_customerNamed 14 = .ok (.iload_n 3, 1) := by decide +kernel
theorem dX6_customerNamed_15 : decode cX6_customerNamed 15 = .ok (.aaload, 1) := by decide +kernel
theorem dX6_customerNamed_16 : decode cX6_customerNamed 16 = .ok (.getfield 116, 3) := by decide +kernel
theorem dX6_customerNamed_19 : decode cX6_customerNamed 19 = .ok (.lload_n 1, 1) := by decide +kernel
theorem dX6_customerNamed_20 : decode cX6_customerNamed 20 = .ok (.lcmp, 1) := by decide +kernel
theorem dX6_customerNamed_21 : decode cX6_customerNamed 21 = .ok (.ifCond .ne 5, 3) := by decide +kernel
theorem dX6_customerNamed_24 : decode cX6_customerNamed 24 = .ok (.iload_n 3, 1) := by decide +kernel
theorem dX6_customerNamed_25 : decode cX6_customerNamed 25 = .ok (.ireturn, 1) := by decide +kernel
theorem dX6_customerNamed_26 : decode cX6_customerNamed 26 = .ok (.iinc 3 1, 3) := by decide +kernel
theorem dX6_customerNamed_29 : decode cX6_customerNamed 29 = .ok (.goto (-27), 3) := by decide +kernel
theorem dX6_customerNamed_32 : decode cX6_customerNamed 32 = .ok (.iconst (-1), 1) := by decide +kernel
theorem dX6_customerNamed_33 : decode cX6_customerNamed 33 = .ok (.ireturn, 1) := by decide +kernel
theorem dX6_secondOfNextEvent_0 : decode cX6_secondOfNextEvent 0 = .ok (.iconst (-1), 1) := by decide +kernel
theorem dX6_secondOfNextEvent_1 : decode cX6_secondOfNextEvent 1 = .ok (.istore_n 1, 1) := by decide +kernel
theorem dX6_secondOfNextEvent_2 : decode cX6_secondOfNextEvent 2 = .ok (.iconst 0, 1) := by decide +kernel
theorem dX6_secondOfNextEvent_3 : decode cX6_secondOfNextEvent 3 = .ok (.istore_n 2, 1) := by decide +kernel
theorem dX6_secondOfNextEvent_4 : decode cX6_secondOfNextEvent 4 = .ok (.iload_n 2, 1) := by decide +kernel
theorem dX6_secondOfNextEvent_5 : decode cX6_secondOfNextEvent 5 = .ok (.aload_n 0, 1) := by decide +kernel
theorem dX6_secondOfNextEvent_6 : decode cX6_secondOfNextEvent 6 = .ok (.getfield 39, 3) := by decide +kernel
theorem dX6_secondOfNextEvent_9 : decode cX6_secondOfNextEvent 9 = .ok (.if_icmp .ge 50, 3) := by decide +kernel
theorem dX6_secondOfNextEvent_12 : decode cX6_secondOfNextEvent 12 = .ok (.aload_n 0, 1) := by decide +kernel
theorem dX6_secondOfNextEvent_13 : decode cX6_secondOfNextEvent 13 = .ok (.getfield 25, 3) := by decide +kernel
theorem dX6_secondOfNextEvent_16 : decode cX6_secondOfNextEvent 16 = .ok (.iload_n 2, 1) := by decide +kernel
theorem dX6_secondOfNextEvent_17 : decode cX6_secondOfNextEvent 17 = .ok (.aaload, 1) := by decide +kernel
theorem dX6_secondOfNextEvent_18 : decode cX6_secondOfNextEvent 18 = .ok (.astore_n 3, 1) := by decide +kernel
theorem dX6_secondOfNextEvent_19 : decode cX6_secondOfNextEvent 19 = .ok (.aload_n 3, 1) := by decide +kernel
theorem dX6_secondOfNextEvent_20 : decode cX6_secondOfNextEvent 20 = .ok (.invokevirtual 142, 3) := by decide +kernel
theorem dX6_secondOfNextEvent_23 : decode cX6_secondOfNextEvent 23 = .ok (.aload_n 3, 1) := by decide +kernel
theorem dX6_secondOfNextEvent_24 : decode cX6_secondOfNextEvent 24 = .ok (.getfield 145, 3) := by decide +kernel
theorem dX6_secondOfNextEvent_27 : decode cX6_secondOfNextEvent 27 = .ok (.invokestatic 148, 3) := by decide +kernel
theorem dX6_secondOfNextEvent_30 : decode cX6_secondOfNextEvent 30 = .ok (.istore 4, 2) := by decide +kernel
theorem dX6_secondOfNextEvent_32 : decode cX6_secondOfNextEvent 32 = .ok (.aload_n 3, 1) := by decide +kernel
theorem dX6_secondOfNextEvent_33 : decode cX6_secondOfNextEvent 33 = .ok (.invokevirtual 77, 3) := by decide +kernel
theorem dX6_secondOfNextEvent_36 : decode cX6_secondOfNextEvent 36 = .ok (.ifCond .eq 17, 3) := by decide +kernel
theorem dX6_secondOfNextEvent_39 : decode cX6_secondOfNextEvent 39 = .ok (.iload_n 1, 1) := by decide +kernel
theorem dX6_secondOfNextEvent_40 : decode cX6_secondOfNextEvent 40 = .ok (.iconst (-1), 1) := by decide +kernel
theorem dX6_secondOfNextEvent_41 : decode cX6_secondOfNextEvent 41 = .ok (.if_icmp .eq 9, 3) := by decide +kernel
theorem dX6_secondOfNextEvent_44 : decode cX6_secondOfNextEvent 44 = .ok (.iload 4, 2) := by decide +kernel
theorem dX6_secondOfNextEvent_46 : decode cX6_secondOfNextEvent 46 = .ok (.iload_n 1, 1) := by decide +kernel
theorem dX6_secondOfNextEvent_47 : decode cX6_secondOfNextEvent 47 = .ok (.if_icmp .ge 6, 3) := by decide +kernel
theorem dX6_secondOfNextEvent_50 : decode cX6_secondOfNextEvent 50 = .ok (.iload 4, 2) := by decide +kernel
theorem dX6_secondOfNextEvent_52 : decode cX6_secondOfNextEvent 52 = .ok (.istore_n 1, 1) := by decide +kernel
theorem dX6_secondOfNextEvent_53 : decode cX6_secondOfNextEvent 53 = .ok (.iinc 2 1, 3) := by decide +kernel
theorem dX6_secondOfNextEvent_56 : decode cX6_secondOfNextEvent 56 = .ok (.goto (-52), 3) := by decide +kernel
theorem dX6_secondOfNextEvent_59 : decode cX6_secondOfNextEvent 59 = .ok (.iload_n 1, 1) := by decide +kernel
theorem dX6_secondOfNextEvent_60 : decode cX6_secondOfNextEvent 60 = .ok (.ireturn, 1) := by decide +kernel
theorem dX6_isHeardFrom_0 : decode cX6_isHeardFrom 0 = .ok (.aload_n 1, 1) := by decide +kernel
theorem dX6_isHeardFrom_1 : decode cX6_isHeardFrom 1 = .ok (.getfield 164, 3) := by decide +kernel
theorem dX6_isHeardFrom_4 : decode cX6_isHeardFrom 4 = .ok (.aload_n 0, 1) := by decide +kernel
theorem dX6_isHeardFrom_5 : decode cX6_isHeardFrom 5 = .ok (.getfield 11, 3) := by decide +kernel
theorem dX6_isHeardFrom_8 : decode cX6_isHeardFrom 8 = .ok (.aload_n 1, 1) := by decide +kernel
theorem dX6_isHeardFrom_9 : decode cX6_isHeardFrom 9 = .ok (.getfield 167, 3) := by decide +kernel
theorem dX6_isHeardFrom_12 : decode cX6_isHeardFrom 12 = .ok (.aaload, 1) := by decide +kernel
theorem dX6_isHeardFrom_13 : decode cX6_isHeardFrom 13 = .ok (.iload_n 2, 1) := by decide +kernel
theorem dX6_isHeardFrom_14 : decode cX6_isHeardFrom 14 = .ok (.invokevirtual 170, 3) := by decide +kernel
theorem dX6_isHeardFrom_17 : decode cX6_isHeardFrom 17 = .ok (.if_icmp .lt 7, 3) := by decide +kernel
theorem dX6_isHeardFrom_20 : decode cX6_isHeardFrom 20 = .ok (.iconst 1, 1) := by decide +kernel
theorem dX6_isHeardFrom_21 : decode cX6_isHeardFrom 21 = .ok (.goto 4, 3) := by decide +kernel
theorem dX6_isHeardFrom_24 : decode cX6_isHeardFrom 24 = .ok (.iconst 0, 1) := by decide +kernel
theorem dX6_isHeardFrom_25 : decode cX6_isHeardFrom 25 = .ok (.ireturn, 1) := by decide +kernel
theorem dX6_letPass_0 : decode cX6_letPass 0 = .ok (.aload_n 0, 1) := by decide +kernel
theorem dX6_letPass_1 : decode cX6_letPass 1 = .ok (.getfield 42, 3) := by decide +kernel
theorem dX6_letPass_4 : decode cX6_letPass 4 = .ok (.iload_n 1, 1) := by decide +kernel
theorem dX6_letPass_5 : decode cX6_letPass 5 = .ok (.iadd, 1) := by decide +kernel
theorem dX6_letPass_6 : decode cX6_letPass 6 = .ok (.istore_n 2, 1) := by decide +kernel
theorem dX6_letPass_7 : decode cX6_letPass 7 = .ok (.iconst 0, 1) := by decide +kernel
theorem dX6_letPass_8 : decode cX6_letPass 8 = .ok (.istore_n 3, 1) := by decide +kernel
theorem dX6_letPass_9 : decode cX6_letPass 9 = .ok (.iconst 0, 1) := by decide +kernel
theorem dX6_letPass_10 : decode cX6_letPass 10 = .ok (.istore 4, 2) := by decide +kernel
theorem dX6_letPass_12 : decode cX6_letPass 12 = .ok (.iload 4, 2) := by decide +kernel
theorem dX6_letPass_14 : decode cX6_letPass 14 = .ok (.iload_n 1, 1) := by decide +kernel
theorem dX6_letPass_15 : decode cX6_letPass 15 = .ok (.if_icmp .ge 60, 3) := by decide +kernel
theorem dX6_letPass_18 : decode cX6_letPass 18 = .ok (.aload_n 0, 1) := by decide +kernel
theorem dX6_letPass_19 : decode cX6_letPass 19 = .ok (.getfield 42, 3) := by decide +kernel
theorem dX6_letPass_22 : decode cX6_letPass 22 = .ok (.iload_n 2, 1) := by decide +kernel
theorem dX6_letPass_23 : decode cX6_letPass 23 = .ok (.if_icmp .ge 52, 3) := by decide +kernel
theorem dX6_letPass_26 : decode cX6_letPass 26 = .ok (.aload_n 0, 1) := by decide +kernel
theorem dX6_letPass_27 : decode cX6_letPass 27 = .ok (.invokevirtual 173, 3) := by decide +kernel
theorem dX6_letPass_30 : decode cX6_letPass 30 = .ok (.istore 5, 2) := by decide +kernel
theorem dX6_letPass_32 : decode cX6_letPass 32 = .ok (.iload 5, 2) := by decide +kernel
theorem dX6_letPass_34 : decode cX6_letPass 34 = .ok (.iconst (-1), 1) := by decide +kernel
theorem dX6_letPass_35 : decode cX6_letPass 35 = .ok (.if_icmp .eq 9, 3) := by decide +kernel
theorem dX6_letPass_38 : decode cX6_letPass 38 = .ok (.iload 5, 2) := by decide +kernel
theorem dX6_letPass_40 : decode cX6_letPass 40 = .ok (.iload_n 2, 1) := by decide +kernel
theorem dX6_letPass_41 : decode cX6_letPass 41 = .ok (.if_icmp .le 11, 3) := by decide +kernel
theorem dX6_letPass_44 : decode cX6_letPass 44 = .ok (.aload_n 0, 1) := by decide +kernel
theorem dX6_letPass_45 : decode cX6_letPass 45 = .ok (.iload_n 2, 1) := by decide +kernel
theorem dX6_letPass_46 : decode cX6_letPass 46 = .ok (.putfield 42, 3) := by decide +kernel
theorem dX6_letPass_49 : decode cX6_letPass 49 = .ok (.goto 20, 3) := by decide +kernel
theorem dX6_letPass_52 : decode cX6_letPass 52 = .ok (.aload_n 0, 1) := by decide +kernel
theorem dX6_letPass_53 : decode cX6_letPass 53 = .ok (.iload 5, 2) := by decide +kernel
theorem dX6_letPass_55 : decode cX6_letPass 55 = .ok (.putfield 42, 3) := by decide +kernel
theorem dX6_letPass_58 : decode cX6_letPass 58 = .ok (.iload_n 3, 1) := by decide +kernel
theorem dX6_letPass_59 : decode cX6_letPass 59 = .ok (.aload_n 0, 1) := by decide +kernel
theorem dX6_letPass_60 : decode cX6_letPass 60 = .ok (.invokevirtual 176, 3) := by decide +kernel
theorem dX6_letPass_63 : decode cX6_letPass 63 = .ok (.iadd, 1) := by decide +kernel
theorem dX6_letPass_64 : decode cX6_letPass 64 = .ok (.istore_n 3, 1) := by decide +kernel
theorem dX6_letPass_65 : decode cX6_letPass 65 = .ok (.aload_n 0, 1) := by decide +kernel
theorem dX6_letPass_66 : decode cX6_letPass 66 = .ok (.invokevirtual 179, 3) := by decide +kernel
theorem dX6_letPass_69 : decode cX6_letPass 69 = .ok (.iinc 4 1, 3) := by decide +kernel
theorem dX6_letPass_72 : decode cX6_letPass 72 = .ok (.goto (-60), 3) := by decide +kernel
theorem dX6_letPass_75 : decode cX6_letPass 75 = .ok (.iload_n 3, 1) := by decide +kernel
theorem dX6_letPass_76 : decode cX6_letPass 76 = .ok (.ireturn, 1) := by decide +kernel
theorem dX6_returnDueEchoes_0 : decode cX6_returnDueEchoes 0 = .ok (.iconst 0, 1) := by decide +kernel
theorem dX6_returnDueEchoes_1 : decode cX6_returnDueEchoes 1 = .ok (.istore_n 1, 1) := by decide +kernel
theorem dX6_returnDueEchoes_2 : decode cX6_returnDueEchoes 2 = .ok (.iconst 0, 1) := by decide +kernel
theorem dX6_returnDueEchoes_3 : decode cX6_returnDueEchoes 3 = .ok (.istore_n 2, 1) := by decide +kernel
theorem dX6_returnDueEchoes_4 : decode cX6_returnDueEchoes 4 = .ok (.iload_n 2, 1) := by decide +kernel
theorem dX6_returnDueEchoes_5 : decode cX6_returnDueEchoes 5 = .ok (.aload_n 0, 1) := by decide +kernel
theorem dX6_returnDueEchoes_6 : decode cX6_returnDueEchoes 6 = .ok (.getfield 39, 3) := by decide +kernel
theorem dX6_returnDueEchoes_9 : decode cX6_returnDueEchoes 9 = .ok (.if_icmp .ge 53, 3) := by decide +kernel
theorem dX6_returnDueEchoes_12 : decode cX6_returnDueEchoes 12 = .ok (.aload_n 0, 1) := by decide +kernel
theorem dX6_returnDueEchoes_13 : decode cX6_returnDueEchoes 13 = .ok (.getfield 25, 3) := by decide +kernel
theorem dX6_returnDueEchoes_16 : decode cX6_returnDueEchoes 16 = .ok (.iload_n 2, 1) := by decide +kernel
theorem dX6_returnDueEchoes_17 : decode cX6_returnDueEchoes 17 = .ok (.aaload, 1) := by decide +kernel
theorem dX6_returnDueEchoes_18 : decode cX6_returnDueEchoes 18 = .ok (.astore_n 3, 1) := by decide +kernel
theorem dX6_returnDueEchoes_19 : decode cX6_returnDueEchoes 19 = .ok (.aload_n 3, 1) := by decide +kernel
theorem dX6_returnDueEchoes_20 : decode cX6_returnDueEchoes 20 = .ok (.invokevirtual 77, 3) := by decide +kernel
theorem dX6_returnDueEchoes_23 : decode cX6_returnDueEchoes 23 = .ok (.ifCond .eq 33, 3) := by decide +kernel
theorem dX6_returnDueEchoes_26 : decode cX6_returnDueEchoes 26 = .ok (.aload_n 3, 1) := by decide +kernel
theorem dX6_returnDueEchoes_27 : decode cX6_returnDueEchoes 27 = .ok (.invokevirtual 142, 3) := by decide +kernel
theorem dX6_returnDueEchoes_30 : decode cX6_returnDueEchoes 30 = .ok (.aload_n 0, 1) := by decide +kernel
theorem dX6_returnDueEchoes_31 : decode cX6_returnDueEchoes 31 = .ok (.getfield 42, 3) := by decide +kernel
theorem dX6_returnDueEchoes_34 : decode cX6_returnDueEchoes 34 = .ok (.if_icmp .ne 22, 3) := by decide +kernel
theorem dX6_returnDueEchoes_37 : decode cX6_returnDueEchoes 37 = .ok (.aload_n 0, 1) := by decide +kernel
theorem dX6_returnDueEchoes_38 : decode cX6_returnDueEchoes 38 = .ok (.aload_n 3, 1) := by decide +kernel
theorem dX6_returnDueEchoes_39 : decode cX6_returnDueEchoes 39 = .ok (.aload_n 0, 1) := by decide +kernel
theorem dX6_returnDueEchoes_40 : decode cX6_returnDueEchoes 40 = .ok (.aload_n 3, 1) := by decide +kernel
theorem dX6_returnDueEchoes_41 : decode cX6_returnDueEchoes 41 = .ok (.aload_n 3, 1) := by decide +kernel
theorem dX6_returnDueEchoes_42 : decode cX6_returnDueEchoes 42 = .ok (.getfield 94, 3) := by decide +kernel
theorem dX6_returnDueEchoes_45 : decode cX6_returnDueEchoes 45 = .ok (.iconst 1, 1) := by decide +kernel
theorem dX6_returnDueEchoes_46 : decode cX6_returnDueEchoes 46 = .ok (.iadd, 1) := by decide +kernel
theorem dX6_returnDueEchoes_47 : decode cX6_returnDueEchoes 47 = .ok (.invokevirtual 159, 3) := by decide +kernel
theorem dX6_returnDueEchoes_50 : decode cX6_returnDueEchoes 50 = .ok (.invokevirtual 182, 3) := by decide +kernel
theorem dX6_returnDueEchoes_53 : decode cX6_returnDueEchoes 53 = .ok (.iinc 1 1, 3) := by decide +kernel
theorem dX6_returnDueEchoes_56 : decode cX6_returnDueEchoes 56 = .ok (.iinc 2 1, 3) := by decide +kernel
theorem dX6_returnDueEchoes_59 : decode cX6_returnDueEchoes 59 = .ok (.goto (-55), 3) := by decide +kernel
theorem dX6_returnDueEchoes_62 : decode cX6_returnDueEchoes 62 = .ok (.iload_n 1, 1) := by decide +kernel
theorem dX6_returnDueEchoes_63 : decode cX6_returnDueEchoes 63 = .ok (.ireturn, 1) := by decide +kernel
theorem dX6_losePatience_0 : decode cX6_losePatience 0 = .ok (.iconst 0, 1) := by decide +kernel
theorem dX6_losePatience_1 : decode cX6_losePatience 1 = .ok (.istore_n 1, 1) := by decide +kernel
theorem dX6_losePatience_2 : decode cX6_losePatience 2 = .ok (.iload_n 1, 1) := by decide +kernel
theorem dX6_losePatience_3 : decode cX6_losePatience 3 = .ok (.aload_n 0, 1) := by decide +kernel
theorem dX6_losePatience_4 : decode cX6_losePatience 4 = .ok (.getfield 39, 3) := by decide +kernel
theorem dX6_losePatience_7 : decode cX6_losePatience 7 = .ok (.if_icmp .ge 43, 3) := by decide +kernel
theorem dX6_losePatience_10 : decode cX6_losePatience 10 = .ok (.aload_n 0, 1) := by decide +kernel
theorem dX6_losePatience_11 : decode cX6_losePatience 11 = .ok (.getfield 25, 3) := by decide +kernel
theorem dX6_losePatience_14 : decode cX6_losePatience 14 = .ok (.iload_n 1, 1) := by decide +kernel
theorem dX6_losePatience_15 : decode cX6_losePatience 15 = .ok (.aaload, 1) := by decide +kernel
theorem dX6_losePatience_16 : decode cX6_losePatience 16 = .ok (.invokevirtual 77, 3) := by decide +kernel
theorem dX6_losePatience_19 : decode cX6_losePatience 19 = .ok (.ifCond .eq 25, 3) := by decide +kernel
theorem dX6_losePatience_22 : decode cX6_losePatience 22 = .ok (.aload_n 0, 1) := by decide +kernel
theorem dX6_losePatience_23 : decode cX6_losePatience 23 = .ok (.getfield 25, 3) := by decide +kernel
theorem dX6_losePatience_26 : decode cX6_losePatience 26 = .ok (.iload_n 1, 1) := by decide +kernel
theorem dX6_losePatience_27 : decode cX6_losePatience 27 = .ok (.aaload, 1) := by decide +kernel
theorem dX6_losePatience_28 : decode cX6_losePatience 28 = .ok (.getfield 145, 3) := by decide +kernel
theorem dX6_losePatience_31 : decode cX6_losePatience 31 = .ok (.aload_n 0, 1) := by decide +kernel
theorem dX6_losePatience_32 : decode cX6_losePatience 32 = .ok (.getfield 42, 3) := by decide +kernel
theorem dX6_losePatience_35 : decode cX6_losePatience 35 = .ok (.if_icmp .ne 9, 3) := by decide +kernel
theorem dX6_losePatience_38 : decode cX6_losePatience 38 = .ok (.aload_n 0, 1) := by decide +kernel
theorem dX6_losePatience_39 : decode cX6_losePatience 39 = .ok (.iload_n 1, 1) := by decide +kernel
theorem dX6_losePatience_40 : decode cX6_losePatience 40 = .ok (.invokevirtual 186, 3) := by decide +kernel
theorem dX6_losePatience_43 : decode cX6_losePatience 43 = .ok (.pop, 1) := by decide +kernel
theorem dX6_losePatience_44 : decode cX6_losePatience 44 = .ok (.iinc 1 1, 3) := by decide +kernel
theorem dX6_losePatience_47 : decode cX6_losePatience 47 = .ok (.goto (-45), 3) := by decide +kernel
theorem dX6_losePatience_50 : decode cX6_losePatience 50 = .ok (.return_, 1) := by decide +kernel
theorem dX6_echo_0 : decode cX6_echo 0 = .ok (.iload_n 2, 1) := by decide +kernel
theorem dX6_echo_1 : decode cX6_echo 1 = .ok (.ifCond .eq 11, 3) := by decide +kernel
theorem dX6_echo_4 : decode cX6_echo 4 = .ok (.aload_n 0, 1) := by decide +kernel
theorem dX6_echo_5 : decode cX6_echo 5 = .ok (.aload_n 1, 1) := by decide +kernel
theorem dX6_echo_6 : decode cX6_echo 6 = .ok (.invokevirtual 189, 3) := by decide +kernel
theorem dX6_echo_9 : decode cX6_echo 9 = .ok (.goto 56, 3) := by decide +kernel
theorem dX6_echo_12 : decode cX6_echo 12 = .ok (.aload_n 0, 1) := by decide +kernel
theorem dX6_echo_13 : decode cX6_echo 13 = .ok (.aload_n 1, 1) := by decide +kernel
theorem dX6_echo_14 : decode cX6_echo 14 = .ok (.aload_n 1, 1) := by decide +kernel
theorem dX6_echo_15 : decode cX6_echo 15 = .ok (.getfield 163, 3) := by decide +kernel
theorem dX6_echo_18 : decode cX6_echo 18 = .ok (.invokevirtual 192, 3) := by decide +kernel
theorem dX6_echo_21 : decode cX6_echo 21 = .ok (.aload_n 0, 1) := by decide +kernel
theorem dX6_echo_22 : decode cX6_echo 22 = .ok (.getfield 11, 3) := by decide +kernel
theorem dX6_echo_25 : decode cX6_echo 25 = .ok (.aload_n 1, 1) := by decide +kernel
theorem dX6_echo_26 : decode cX6_echo 26 = .ok (.getfield 167, 3) := by decide +kernel
theorem dX6_echo_29 : decode cX6_echo 29 = .ok (.aaload, 1) := by decide +kernel
theorem dX6_echo_30 : decode cX6_echo 30 = .ok (.astore_n 3, 1) := by decide +kernel
theorem dX6_echo_31 : decode cX6_echo 31 = .ok (.aload_n 3, 1) := by decide +kernel
theorem dX6_echo_32 : decode cX6_echo 32 = .ok (.iconst 0, 1) := by decide +kernel
theorem dX6_echo_33 : decode cX6_echo 33 = .ok (.aload_n 3, 1) := by decide +kernel
theorem dX6_echo_34 : decode cX6_echo 34 = .ok (.getfield 81, 3) := by decide +kernel
theorem dX6_echo_37 : decode cX6_echo 37 = .ok (.iconst 2, 1) := by decide +kernel
theorem dX6_echo_38 : decode cX6_echo 38 = .ok (.isub, 1) := by decide +kernel
theorem dX6_echo_39 : decode cX6_echo 39 = .ok (.invokestatic 196, 3) := by decide +kernel
theorem dX6_echo_42 : decode cX6_echo 42 = .ok (.putfield 81, 3) := by decide +kernel
theorem dX6_echo_45 : decode cX6_echo 45 = .ok (.aload_n 3, 1) := by decide +kernel
theorem dX6_echo_46 : decode cX6_echo 46 = .ok (.dup, 1) := by decide +kernel
theorem dX6_echo_47 : decode cX6_echo 47 = .ok (.getfield 199, 3) := by decide +kernel
theorem dX6_echo_50 : decode cX6_echo 50 = .ok (.iconst 1, 1) := by decide +kernel
theorem dX6_echo_51 : decode cX6_echo 51 = .ok (.iadd, 1) := by decide +kernel
theorem dX6_echo_52 : decode cX6_echo 52 = .ok (.putfield 199, 3) := by decide +kernel
theorem dX6_echo_55 : decode cX6_echo 55 = .ok (.aload_n 0, 1) := by decide +kernel
theorem dX6_echo_56 : decode cX6_echo 56 = .ok (.dup, 1) := by decide +kernel
theorem dX6_echo_57 : decode cX6_echo 57 = .ok (.getfield 60, 3) := by decide +kernel
theorem dX6_echo_60 : decode cX6_echo 60 = .ok (.iconst 1, 1) := by decide +kernel
theorem dX6_echo_61 : decode cX6_echo 61 = .ok (.iadd, 1) := by decide +kernel
theorem dX6_echo_62 : decode cX6_echo 62 = .ok (.putfield 60, 3) := by decide +kernel
theorem dX6_echo_65 : decode cX6_echo 65 = .ok (.aload_n 1, 1) := by decide +kernel
theorem dX6_echo_66 : decode cX6_echo 66 = .ok (.dup, 1) := by decide +kernel
theorem dX6_echo_67 : decode cX6_echo 67 = .ok (.getfield 94, 3) := by decide +kernel
theorem dX6_echo_70 : decode cX6_echo 70 = .ok (.iconst 1, 1) := by decide +kernel
theorem dX6_echo_71 : decode cX6_echo 71 = .ok (.iadd, 1) := by decide +kernel
theorem dX6_echo_72 : decode cX6_echo 72 = .ok (.putfield 94, 3) := by decide +kernel
theorem dX6_echo_75 : decode cX6_echo 75 = .ok (.aload_n 1, 1) := by decide +kernel
theorem dX6_echo_76 : decode cX6_echo 76 = .ok (.getfield 94, 3) := by decide +kernel
theorem dX6_echo_79 : decode cX6_echo 79 = .ok (.aload_n 1, 1) := by decide +kernel
theorem dX6_echo_80 : decode cX6_echo 80 = .ok (.getfield 97, 3) := by decide +kernel
theorem dX6_echo_83 : decode cX6_echo 83 = .ok (.if_icmp .ne 8, 3) := by decide +kernel
theorem dX6_echo_86 : decode cX6_echo 86 = .ok (.aload_n 1, 1) := by decide +kernel
theorem dX6_echo_87 : decode cX6_echo 87 = .ok (.iconst 1, 1) := by decide +kernel
theorem dX6_echo_88 : decode cX6_echo 88 = .ok (.putfield 91, 3) := by decide +kernel
theorem dX6_echo_91 : decode cX6_echo 91 = .ok (.return_, 1) := by decide +kernel
theorem dX6_earn_0 : decode cX6_earn 0 = .ok (.aload_n 0, 1) := by decide +kernel
theorem dX6_earn_1 : decode cX6_earn 1 = .ok (.getfield 11, 3) := by decide +kernel
theorem dX6_earn_4 : decode cX6_earn 4 = .ok (.aload_n 1, 1) := by decide +kernel
theorem dX6_earn_5 : decode cX6_earn 5 = .ok (.getfield 167, 3) := by decide +kernel
theorem dX6_earn_8 : decode cX6_earn 8 = .ok (.aaload, 1) := by decide +kernel
theorem dX6_earn_9 : decode cX6_earn 9 = .ok (.astore_n 2, 1) := by decide +kernel
theorem dX6_earn_10 : decode cX6_earn 10 = .ok (.aload_n 0, 1) := by decide +kernel
theorem dX6_earn_11 : decode cX6_earn 11 = .ok (.getfield 19, 3) := by decide +kernel
theorem dX6_earn_14 : decode cX6_earn 14 = .ok (.aload_n 1, 1) := by decide +kernel
theorem dX6_earn_15 : decode cX6_earn 15 = .ok (.getfield 200, 3) := by decide +kernel
theorem dX6_earn_18 : decode cX6_earn 18 = .ok (.aaload, 1) := by decide +kernel
theorem dX6_earn_19 : decode cX6_earn 19 = .ok (.astore_n 3, 1) := by decide +kernel
theorem dX6_earn_20 : decode cX6_earn 20 = .ok (.aload_n 1, 1) := by decide +kernel
theorem dX6_earn_21 : decode cX6_earn 21 = .ok (.dup, 1) := by decide +kernel
theorem dX6_earn_22 : decode cX6_earn 22 = .ok (.getfield 203, 3) := by decide +kernel
theorem dX6_earn_25 : decode cX6_earn 25 = .ok (.iconst 1, 1) := by decide +kernel
theorem dX6_earn_26 : decode cX6_earn 26 = .ok (.aload_n 1, 1) := by decide +kernel
theorem dX6_earn_27 : decode cX6_earn 27 = .ok (.getfield 94, 3) := by decide +kernel
theorem dX6_earn_30 : decode cX6_earn 30 = .ok (.ishl, 1) := by decide +kernel
theorem dX6_earn_31 : decode cX6_earn 31 = .ok (.ior, 1) := by decide +kernel
theorem dX6_earn_32 : decode cX6_earn 32 = .ok (.putfield 203, 3) := by decide +kernel
theorem dX6_earn_35 : decode cX6_earn 35 = .ok (.aload_n 2, 1) := by decide +kernel
theorem dX6_earn_36 : decode cX6_earn 36 = .ok (.dup, 1) := by decide +kernel
theorem dX6_earn_37 : decode cX6_earn 37 = .ok (.getfield 81, 3) := by decide +kernel
theorem dX6_earn_40 : decode cX6_earn 40 = .ok (.iconst 1, 1) := by decide +kernel
theorem dX6_earn_41 : decode cX6_earn 41 = .ok (.iadd, 1) := by decide +kernel
theorem dX6_earn_42 : decode cX6_earn 42 = .ok (.putfield 81, 3) := by decide +kernel
theorem dX6_earn_45 : decode cX6_earn 45 = .ok (.aload_n 2, 1) := by decide +kernel
theorem dX6_earn_46 : decode cX6_earn 46 = .ok (.dup, 1) := by decide +kernel
theorem dX6_earn_47 : decode cX6_earn 47 = .ok (.getfield 206, 3) := by decide +kernel
theorem dX6_earn_50 : decode cX6_earn 50 = .ok (.aload_n 1, 1) := by decide +kernel
theorem dX6_earn_51 : decode cX6_earn 51 = .ok (.getfield 163, 3) := by decide +kernel
theorem dX6_earn_54 : decode cX6_earn 54 = .ok (.iadd, 1) := by decide +kernel
theorem dX6_earn_55 : decode cX6_earn 55 = .ok (.putfield 206, 3) := by decide +kernel
theorem dX6_earn_58 : decode cX6_earn 58 = .ok (.aload_n 0, 1) := by decide +kernel
theorem dX6_earn_59 : decode cX6_earn 59 = .ok (.dup, 1) := by decide +kernel
theorem dX6_earn_60 : decode cX6_earn 60 = .ok (.getfield 48, 3) := by decide +kernel
theorem dX6_earn_63 : decode cX6_earn 63 = .ok (.aload_n 1, 1) := by decide +kernel
theorem dX6_earn_64 : decode cX6_earn 64 = .ok (.getfield 163, 3) := by decide +kernel
theorem dX6_earn_67 : decode cX6_earn 67 = .ok (.iadd, 1) := by decide +kernel
theorem dX6_earn_68 : decode cX6_earn 68 = .ok (.putfield 48, 3) := by decide +kernel
theorem dX6_earn_71 : decode cX6_earn 71 = .ok (.aload_n 3, 1) := by decide +kernel
theorem dX6_earn_72 : decode cX6_earn 72 = .ok (.dup, 1) := by decide +kernel
theorem dX6_earn_73 : decode cX6_earn 73 = .ok (.getfield 207, 3) := by decide +kernel
theorem dX6_earn_76 : decode cX6_earn 76 = .ok (.aload_n 1, 1) := by decide +kernel
theorem dX6_earn_77 : decode cX6_earn 77 = .ok (.getfield 163, 3) := by decide +kernel
theorem dX6_earn_80 : decode cX6_earn 80 = .ok (.isub, 1) := by decide +kernel
theorem dX6_earn_81 : decode cX6_earn 81 = .ok (.putfield 207, 3) := by decide +kernel
theorem dX6_earn_84 : decode cX6_earn 84 = .ok (.aload_n 0, 1) := by decide +kernel
theorem dX6_earn_85 : decode cX6_earn 85 = .ok (.dup, 1) := by decide +kernel
theorem dX6_earn_86 : decode cX6_earn 86 = .ok (.getfield 54, 3) := by decide +kernel
theorem dX6_earn_89 : decode cX6_earn 89 = .ok (.aload_n 1, 1) := by decide +kernel
theorem dX6_earn_90 : decode cX6_earn 90 = .ok (.getfield 163, 3) := by decide +kernel
theorem dX6_earn_93 : decode cX6_earn 93 = .ok (.isub, 1) := by decide +kernel
theorem dX6_earn_94 : decode cX6_earn 94 = .ok (.putfield 54, 3) := by decide +kernel
theorem dX6_earn_97 : decode cX6_earn 97 = .ok (.aload_n 3, 1) := by decide +kernel
theorem dX6_earn_98 : decode cX6_earn 98 = .ok (.dup, 1) := by decide +kernel
theorem dX6_earn_99 : decode cX6_earn 99 = .ok (.getfield 141, 3) := by decide +kernel
theorem dX6_earn_102 : decode cX6_earn 102 = .ok (.iconst 1, 1) := by decide +kernel
theorem dX6_earn_103 : decode cX6_earn 103 = .ok (.iadd, 1) := by decide +kernel
theorem dX6_earn_104 : decode cX6_earn 104 = .ok (.putfield 141, 3) := by decide +kernel
theorem dX6_earn_107 : decode cX6_earn 107 = .ok (.aload_n 0, 1) := by decide +kernel
theorem dX6_earn_108 : decode cX6_earn 108 = .ok (.dup, 1) := by decide +kernel
theorem dX6_earn_109 : decode cX6_earn 109 = .ok (.getfield 57, 3) := by decide +kernel
theorem dX6_earn_112 : decode cX6_earn 112 = .ok (.iconst 1, 1) := by decide +kernel
theorem dX6_earn_113 : decode cX6_earn 113 = .ok (.iadd, 1) := by decide +kernel
theorem dX6_earn_114 : decode cX6_earn 114 = .ok (.putfield 57, 3) := by decide +kernel
theorem dX6_earn_117 : decode cX6_earn 117 = .ok (.return_, 1) := by decide +kernel
theorem dX6_refund_0 : decode cX6_refund 0 = .ok (.aload_n 0, 1) := by decide +kernel
theorem dX6_refund_1 : decode cX6_refund 1 = .ok (.getfield 19, 3) := by decide +kernel
theorem dX6_refund_4 : decode cX6_refund 4 = .ok (.aload_n 1, 1) := by decide +kernel
theorem dX6_refund_5 : decode cX6_refund 5 = .ok (.getfield 200, 3) := by decide +kernel
theorem dX6_refund_8 : decode cX6_refund 8 = .ok (.aaload, 1) := by decide +kernel
theorem dX6_refund_9 : decode cX6_refund 9 = .ok (.astore_n 3, 1) := by decide +kernel
theorem dX6_refund_10 : decode cX6_refund 10 = .ok (.aload_n 3, 1) := by decide +kernel
theorem dX6_refund_11 : decode cX6_refund 11 = .ok (.dup, 1) := by decide +kernel
theorem dX6_refund_12 : decode cX6_refund 12 = .ok (.getfield 207, 3) := by decide +kernel
theorem dX6_refund_15 : decode cX6_refund 15 = .ok (.iload_n 2, 1) := by decide +kernel
theorem dX6_refund_16 : decode cX6_refund 16 = .ok (.isub, 1) := by decide +kernel
theorem dX6_refund_17 : decode cX6_refund 17 = .ok (.putfield 207, 3) := by decide +kernel
theorem dX6_refund_20 : decode cX6_refund 20 = .ok (.aload_n 0, 1) := by decide +kernel
theorem dX6_refund_21 : decode cX6_refund 21 = .ok (.dup, 1) := by decide +kernel
theorem dX6_refund_22 : decode cX6_refund 22 = .ok (.getfield 54, 3) := by decide +kernel
theorem dX6_refund_25 : decode cX6_refund 25 = .ok (.iload_n 2, 1) := by decide +kernel
theorem dX6_refund_26 : decode cX6_refund 26 = .ok (.isub, 1) := by decide +kernel
theorem dX6_refund_27 : decode cX6_refund 27 = .ok (.putfield 54, 3) := by decide +kernel
theorem dX6_refund_30 : decode cX6_refund 30 = .ok (.aload_n 3, 1) := by decide +kernel
theorem dX6_refund_31 : decode cX6_refund 31 = .ok (.dup, 1) := by decide +kernel
theorem dX6_refund_32 : decode cX6_refund 32 = .ok (.getfield 103, 3) := by decide +kernel
theorem dX6_refund_35 : decode cX6_refund 35 = .ok (.iload_n 2, 1) := by decide +kernel
theorem dX6_refund_36 : decode cX6_refund 36 = .ok (.iadd, 1) := by decide +kernel
theorem dX6_refund_37 : decode cX6_refund 37 = .ok (.putfield 103, 3) := by decide +kernel
theorem dX6_refund_40 : decode cX6_refund 40 = .ok (.aload_n 0, 1) := by decide +kernel
theorem dX6_refund_41 : decode cX6_refund 41 = .ok (.dup, 1) := by decide +kernel
theorem dX6_refund_42 : decode cX6_refund 42 = .ok (.getfield 51, 3) := by decide +kernel
theorem dX6_refund_45 : decode cX6_refund 45 = .ok (.iload_n 2, 1) := by decide +kernel
theorem dX6_refund_46 : decode cX6_refund 46 = .ok (.iadd, 1) := by decide +kernel
theorem dX6_refund_47 : decode cX6_refund 47 = .ok (.putfield 51, 3) := by decide +kernel
theorem dX6_refund_50 : decode cX6_refund 50 = .ok (.return_, 1) := by decide +kernel
theorem dX6_whyRefused_0 : decode cX6_whyRefused 0 = .ok (.aload_n 0, 1) := by decide +kernel
theorem dX6_whyRefused_1 : decode cX6_whyRefused 1 = .ok (.getfield 39, 3) := by decide +kernel
theorem dX6_whyRefused_4 : decode cX6_whyRefused 4 = .ok (.bipush 30, 2) := by decide +kernel
theorem dX6_whyRefused_6 : decode cX6_whyRefused 6 = .ok (.if_icmp .lt 5, 3) := by decide +kernel
theorem dX6_whyRefused_9 : decode cX6_whyRefused 9 = .ok (.iconst 1, 1) := by decide +kernel
theorem dX6_whyRefused_10 : decode cX6_whyRefused 10 = .ok (.ireturn, 1) := by decide +kernel
theorem dX6_whyRefused_11 : decode cX6_whyRefused 11 = .ok (.iload_n 3, 1) := by decide +kernel
theorem dX6_whyRefused_12 : decode cX6_whyRefused 12 = .ok (.aload_n 0, 1) := by decide +kernel
theorem dX6_whyRefused_13 : decode cX6_whyRefused 13 = .ok (.getfield 11, 3) := by decide +kernel
theorem dX6_whyRefused_16 : decode cX6_whyRefused 16 = .ok (.iload_n 2, 1) := by decide +kernel
theorem dX6_whyRefused_17 : decode cX6_whyRefused 17 = .ok (.aaload, 1) := by decide +kernel
theorem dX6_whyRefused_18 : decode cX6_whyRefused 18 = .ok (.getfield 208, 3) := by decide +kernel
theorem dX6_whyRefused_21 : decode cX6_whyRefused 21 = .ok (.if_icmp .le 5, 3) := by decide +kernel
theorem dX6_whyRefused_24 : decode cX6_whyRefused 24 = .ok (.iconst 2, 1) := by decide +kernel
theorem dX6_whyRefused_25 : decode cX6_whyRefused 25 = .ok (.ireturn, 1) := by decide +kernel
theorem dX6_whyRefused_26 : decode cX6_whyRefused 26 = .ok (.aload_n 0, 1) := by decide +kernel
theorem dX6_whyRefused_27 : decode cX6_whyRefused 27 = .ok (.getfield 19, 3) := by decide +kernel
theorem dX6_whyRefused_30 : decode cX6_whyRefused 30 = .ok (.iload_n 1, 1) := by decide +kernel
theorem dX6_whyRefused_31 : decode cX6_whyRefused 31 = .ok (.aaload, 1) := by decide +kernel
theorem dX6_whyRefused_32 : decode cX6_whyRefused 32 = .ok (.getfield 103, 3) := by decide +kernel
theorem dX6_whyRefused_35 : decode cX6_whyRefused 35 = .ok (.aload_n 0, 1) := by decide +kernel
theorem dX6_whyRefused_36 : decode cX6_whyRefused 36 = .ok (.getfield 11, 3) := by decide +kernel
theorem dX6_whyRefused_39 : decode cX6_whyRefused 39 = .ok (.iload_n 2, 1) := by decide +kernel
theorem dX6_whyRefused_40 : decode cX6_whyRefused 40 = .ok (.aaload, 1) := by decide +kernel
theorem dX6_whyRefused_41 : decode cX6_whyRefused 41 = .ok (.getfield 125, 3) := by decide +kernel
theorem dX6_whyRefused_44 : decode cX6_whyRefused 44 = .ok (.iload_n 3, 1) := by decide +kernel
theorem dX6_whyRefused_45 : decode cX6_whyRefused 45 = .ok (.imul, 1) := by decide +kernel
theorem dX6_whyRefused_46 : decode cX6_whyRefused 46 = .ok (.if_icmp .ge 5, 3) := by decide +kernel
theorem dX6_whyRefused_49 : decode cX6_whyRefused 49 = .ok (.iconst 3, 1) := by decide +kernel
theorem dX6_whyRefused_50 : decode cX6_whyRefused 50 = .ok (.ireturn, 1) := by decide +kernel
theorem dX6_whyRefused_51 : decode cX6_whyRefused 51 = .ok (.aload_n 0, 1) := by decide +kernel
theorem dX6_whyRefused_52 : decode cX6_whyRefused 52 = .ok (.iload_n 1, 1) := by decide +kernel
theorem dX6_whyRefused_53 : decode cX6_whyRefused 53 = .ok (.iload_n 2, 1) := by decide +kernel
theorem dX6_whyRefused_54 : decode cX6_whyRefused 54 = .ok (.invokevirtual 211, 3) := by decide +kernel
theorem dX6_whyRefused_57 : decode cX6_whyRefused 57 = .ok (.ifCond .eq 5, 3) := by decide +kernel
theorem dX6_whyRefused_60 : decode cX6_whyRefused 60 = .ok (.iconst 4, 1) := by decide +kernel
theorem dX6_whyRefused_61 : decode cX6_whyRefused 61 = .ok (.ireturn, 1) := by decide +kernel
theorem dX6_whyRefused_62 : decode cX6_whyRefused 62 = .ok (.aload_n 0, 1) := by decide +kernel
theorem dX6_whyRefused_63 : decode cX6_whyRefused 63 = .ok (.getfield 19, 3) := by decide +kernel
theorem dX6_whyRefused_66 : decode cX6_whyRefused 66 = .ok (.iload_n 1, 1) := by decide +kernel
theorem dX6_whyRefused_67 : decode cX6_whyRefused 67 = .ok (.aaload, 1) := by decide +kernel
theorem dX6_whyRefused_68 : decode cX6_whyRefused 68 = .ok (.invokevirtual 84, 3) := by decide +kernel
theorem dX6_whyRefused_71 : decode cX6_whyRefused 71 = .ok (.ifCond .eq 7, 3) := by decide +kernel
theorem dX6_whyRefused_74 : decode cX6_whyRefused 74 = .ok (.iconst 5, 1) := by decide +kernel
theorem dX6_whyRefused_75 : decode cX6_whyRefused 75 = .ok (.goto 4, 3) := by decide +kernel
theorem dX6_whyRefused_78 : decode cX6_whyRefused 78 = .ok (.iconst 0, 1) := by decide +kernel
theorem dX6_whyRefused_79 : decode cX6_whyRefused 79 = .ok (.ireturn, 1) := by decide +kernel
theorem dX6_hasOpenShout_0 : decode cX6_hasOpenShout 0 = .ok (.iconst 0, 1) := by decide +kernel
theorem dX6_hasOpenShout_1 : decode cX6_hasOpenShout 1 = .ok (.istore_n 3, 1) := by decide +kernel
theorem dX6_hasOpenShout_2 : decode cX6_hasOpenShout 2 = .ok (.iconst 0, 1) := by decide +kernel
theorem dX6_hasOpenShout_3 : decode cX6_hasOpenShout 3 = .ok (.istore 4, 2) := by decide +kernel
theorem dX6_hasOpenShout_5 : decode cX6_hasOpenShout 5 = .ok (.iload 4, 2) := by decide +kernel
theorem dX6_hasOpenShout_7 : decode cX6_hasOpenShout 7 = .ok (.aload_n 0, 1) := by decide +kernel
theorem dX6_hasOpenShout_8 : decode cX6_hasOpenShout 8 = .ok (.getfield 39, 3) := by decide +kernel
theorem dX6_hasOpenShout_11 : decode cX6_hasOpenShout 11 = .ok (.if_icmp .ge 54, 3) := by decide +kernel
theorem dX6_hasOpenShout_14 : decode cX6_hasOpenShout 14 = .ok (.aload_n 0, 1) := by decide +kernel
theorem dX6_hasOpenShout_15 : decode cX6_hasOpenShout 15 = .ok (.getfield 25, 3) := by decide +kernel
theorem dX6_hasOpenShout_18 : decode cX6_hasOpenShout 18 = .ok (.iload 4, 2) := by decide +kernel
theorem dX6_hasOpenShout_20 : decode cX6_hasOpenShout 20 = .ok (.aaload, 1) := by decide +kernel
theorem dX6_hasOpenShout_21 : decode cX6_hasOpenShout 21 = .ok (.astore 5, 2) := by decide +kernel
theorem dX6_hasOpenShout_23 : decode cX6_hasOpenShout 23 = .ok (.iload_n 3, 1) := by decide +kernel
theorem dX6_hasOpenShout_24 : decode cX6_hasOpenShout 24 = .ok (.ifCond .ne 29, 3) := by decide +kernel
theorem dX6_hasOpenShout_27 : decode cX6_hasOpenShout 27 = .ok (.aload 5, 2) := by decide +kernel
theorem dX6_hasOpenShout_29 : decode cX6_hasOpenShout 29 = .ok (.invokevirtual 77, 3) := by decide +kernel
theorem dX6_hasOpenShout_32 : decode cX6_hasOpenShout 32 = .ok (.ifCond .eq 25, 3) := by decide +kernel
theorem dX6_hasOpenShout_35 : decode cX6_hasOpenShout 35 = .ok (.aload 5, 2) := by decide +kernel
theorem dX6_hasOpenShout_37 : decode cX6_hasOpenShout 37 = .ok (.getfield 200, 3) := by decide +kernel
theorem dX6_hasOpenShout_40 : decode cX6_hasOpenShout 40 = .ok (.iload_n 1, 1) := by decide +kernel
theorem dX6_hasOpenShout_41 : decode cX6_hasOpenShout 41 = .ok (.if_icmp .ne 16, 3) := by decide +kernel
theorem dX6_hasOpenShout_44 : decode cX6_hasOpenShout 44 = .ok (.aload 5, 2) := by decide +kernel
theorem dX6_hasOpenShout_46 : decode cX6_hasOpenShout 46 = .ok (.getfield 167, 3) := by decide +kernel
theorem dX6_hasOpenShout_49 : decode cX6_hasOpenShout 49 = .ok (.iload_n 2, 1) := by decide +kernel
theorem dX6_hasOpenShout_50 : decode cX6_hasOpenShout 50 = .ok (.if_icmp .ne 7, 3) := by decide +kernel
theorem dX6_hasOpenShout_53 : decode cX6_hasOpenShout 53 = .ok (.iconst 1, 1) := by decide +kernel
theorem dX6_hasOpenShout_54 : decode cX6_hasOpenShout 54 = .ok (.goto 4, 3) := by decide +kernel
theorem dX6_hasOpenShout_57 : decode cX6_hasOpenShout 57 = .ok (.iconst 0, 1) := by decide +kernel
theorem dX6_hasOpenShout_58 : decode cX6_hasOpenShout 58 = .ok (.istore_n 3, 1) := by decide +kernel
theorem dX6_hasOpenShout_59 : decode cX6_hasOpenShout 59 = .ok (.iinc 4 1, 3) := by decide +kernel
theorem dX6_hasOpenShout_62 : decode cX6_hasOpenShout 62 = .ok (.goto (-57), 3) := by decide +kernel
theorem dX6_hasOpenShout_65 : decode cX6_hasOpenShout 65 = .ok (.iload_n 3, 1) := by decide +kernel
theorem dX6_hasOpenShout_66 : decode cX6_hasOpenShout 66 = .ok (.ireturn, 1) := by decide +kernel
theorem dX6_faultOfSale_0 : decode cX6_faultOfSale 0 = .ok (.aload_n 0, 1) := by decide +kernel
theorem dX6_faultOfSale_1 : decode cX6_faultOfSale 1 = .ok (.iload_n 1, 1) := by decide +kernel
theorem dX6_faultOfSale_2 : decode cX6_faultOfSale 2 = .ok (.invokevirtual 215, 3) := by decide +kernel
theorem dX6_faultOfSale_5 : decode cX6_faultOfSale 5 = .ok (.ifCond .eq 11, 3) := by decide +kernel
theorem dX6_faultOfSale_8 : decode cX6_faultOfSale 8 = .ok (.aload_n 0, 1) := by decide +kernel
theorem dX6_faultOfSale_9 : decode cX6_faultOfSale 9 = .ok (.iload_n 2, 1) := by decide +kernel
theorem dX6_faultOfSale_10 : decode cX6_faultOfSale 10 = .ok (.invokevirtual 219, 3) := by decide +kernel
theorem dX6_faultOfSale_13 : decode cX6_faultOfSale 13 = .ok (.ifCond .ne 7, 3) := by decide +kernel
theorem dX6_faultOfSale_16 : decode cX6_faultOfSale 16 = .ok (.getstatic 222, 3) := by decide +kernel
theorem dX6_faultOfSale_19 : decode cX6_faultOfSale 19 = .ok (.areturn, 1) := by decide +kernel
theorem dX6_faultOfSale_20 : decode cX6_faultOfSale 20 = .ok (.iload_n 3, 1) := by decide +kernel
theorem dX6_faultOfSale_21 : decode cX6_faultOfSale 21 = .ok (.iconst 1, 1) := by decide +kernel
theorem dX6_faultOfSale_22 : decode cX6_faultOfSale 22 = .ok (.bipush 20, 2) := by decide +kernel
theorem dX6_faultOfSale_24 : decode cX6_faultOfSale 24 = .ok (.invokestatic 73, 3) := by decide +kernel
theorem dX6_faultOfSale_27 : decode cX6_faultOfSale 27 = .ok (.ifCond .eq 13, 3) := by decide +kernel
theorem dX6_faultOfSale_30 : decode cX6_faultOfSale 30 = .ok (.iload 4, 2) := by decide +kernel
theorem dX6_faultOfSale_32 : decode cX6_faultOfSale 32 = .ok (.iconst 1, 1) := by decide +kernel
theorem dX6_faultOfSale_33 : decode cX6_faultOfSale 33 = .ok (.iconst 4, 1) := by decide +kernel
theorem dX6_faultOfSale_34 : decode cX6_faultOfSale 34 = .ok (.invokestatic 73, 3) := by decide +kernel
theorem dX6_faultOfSale_37 : decode cX6_faultOfSale 37 = .ok (.ifCond .ne 7, 3) := by decide +kernel
theorem dX6_faultOfSale_40 : decode cX6_faultOfSale 40 = .ok (.getstatic 228, 3) := by decide +kernel
theorem dX6_faultOfSale_43 : decode cX6_faultOfSale 43 = .ok (.areturn, 1) := by decide +kernel
theorem dX6_faultOfSale_44 : decode cX6_faultOfSale 44 = .ok (.aload_n 0, 1) := by decide +kernel
theorem dX6_faultOfSale_45 : decode cX6_faultOfSale 45 = .ok (.iload_n 1, 1) := by decide +kernel
theorem dX6_faultOfSale_46 : decode cX6_faultOfSale 46 = .ok (.iload_n 2, 1) := by decide +kernel
theorem dX6_faultOfSale_47 : decode cX6_faultOfSale 47 = .ok (.iload 4, 2) := by decide +kernel
theorem dX6_faultOfSale_49 : decode cX6_faultOfSale 49 = .ok (.invokevirtual 134, 3) := by decide +kernel
theorem dX6_faultOfSale_52 : decode cX6_faultOfSale 52 = .ok (.ifCond .ne 9, 3) := by decide +kernel
theorem dX6_faultOfSale_55 : decode cX6_faultOfSale 55 = .ok (.getstatic 231, 3) := by decide +kernel
theorem dX6_faultOfSale_58 : decode cX6_faultOfSale 58 = .ok (.goto 6, 3) := by decide +kernel
theorem dX6_faultOfSale_61 : decode cX6_faultOfSale 61 = .ok (.getstatic 234, 3) := by decide +kernel
theorem dX6_faultOfSale_64 : decode cX6_faultOfSale 64 = .ok (.areturn, 1) := by decide +kernel
theorem dX6_faultOfOpen_0 : decode cX6_faultOfOpen 0 = .ok (.aload_n 0, 1) := by decide +kernel
theorem dX6_faultOfOpen_1 : decode cX6_faultOfOpen 1 = .ok (.iload_n 1, 1) := by decide +kernel
theorem dX6_faultOfOpen_2 : decode cX6_faultOfOpen 2 = .ok (.invokevirtual 237, 3) := by decide +kernel
theorem dX6_faultOfOpen_5 : decode cX6_faultOfOpen 5 = .ok (.ifCond .ne 7, 3) := by decide +kernel
theorem dX6_faultOfOpen_8 : decode cX6_faultOfOpen 8 = .ok (.getstatic 222, 3) := by decide +kernel
theorem dX6_faultOfOpen_11 : decode cX6_faultOfOpen 11 = .ok (.areturn, 1) := by decide +kernel
theorem dX6_faultOfOpen_12 : decode cX6_faultOfOpen 12 = .ok (.aload_n 0, 1) := by decide +kernel
theorem dX6_faultOfOpen_13 : decode cX6_faultOfOpen 13 = .ok (.getfield 25, 3) := by decide +kernel
theorem dX6_faultOfOpen_16 : decode cX6_faultOfOpen 16 = .ok (.iload_n 1, 1) := by decide +kernel
theorem dX6_faultOfOpen_17 : decode cX6_faultOfOpen 17 = .ok (.aaload, 1) := by decide +kernel
theorem dX6_faultOfOpen_18 : decode cX6_faultOfOpen 18 = .ok (.invokevirtual 77, 3) := by decide +kernel
theorem dX6_faultOfOpen_21 : decode cX6_faultOfOpen 21 = .ok (.ifCond .eq 9, 3) := by decide +kernel
theorem dX6_faultOfOpen_24 : decode cX6_faultOfOpen 24 = .ok (.getstatic 231, 3) := by decide +kernel
theorem dX6_faultOfOpen_27 : decode cX6_faultOfOpen 27 = .ok (.goto 6, 3) := by decide +kernel
theorem dX6_faultOfOpen_30 : decode cX6_faultOfOpen 30 = .ok (.getstatic 234, 3) := by decide +kernel
theorem dX6_faultOfOpen_33 : decode cX6_faultOfOpen 33 = .ok (.areturn, 1) := by decide +kernel
theorem dX6_faultOfFog_0 : decode cX6_faultOfFog 0 = .ok (.aload_n 0, 1) := by decide +kernel
theorem dX6_faultOfFog_1 : decode cX6_faultOfFog 1 = .ok (.iload_n 1, 1) := by decide +kernel
theorem dX6_faultOfFog_2 : decode cX6_faultOfFog 2 = .ok (.invokevirtual 219, 3) := by decide +kernel
theorem dX6_faultOfFog_5 : decode cX6_faultOfFog 5 = .ok (.ifCond .ne 7, 3) := by decide +kernel
theorem dX6_faultOfFog_8 : decode cX6_faultOfFog 8 = .ok (.getstatic 222, 3) := by decide +kernel
theorem dX6_faultOfFog_11 : decode cX6_faultOfFog 11 = .ok (.areturn, 1) := by decide +kernel
theorem dX6_faultOfFog_12 : decode cX6_faultOfFog 12 = .ok (.iload_n 2, 1) := by decide +kernel
theorem dX6_faultOfFog_13 : decode cX6_faultOfFog 13 = .ok (.iconst 0, 1) := by decide +kernel
theorem dX6_faultOfFog_14 : decode cX6_faultOfFog 14 = .ok (.bipush 9, 2) := by decide +kernel
theorem dX6_faultOfFog_16 : decode cX6_faultOfFog 16 = .ok (.invokestatic 73, 3) := by decide +kernel
theorem dX6_faultOfFog_19 : decode cX6_faultOfFog 19 = .ok (.ifCond .eq 9, 3) := by decide +kernel
theorem dX6_faultOfFog_22 : decode cX6_faultOfFog 22 = .ok (.getstatic 231, 3) := by decide +kernel
theorem dX6_faultOfFog_25 : decode cX6_faultOfFog 25 = .ok (.goto 6, 3) := by decide +kernel
theorem dX6_faultOfFog_28 : decode cX6_faultOfFog 28 = .ok (.getstatic 228, 3) := by decide +kernel
theorem dX6_faultOfFog_31 : decode cX6_faultOfFog 31 = .ok (.areturn, 1) := by decide +kernel
theorem dX6_faultOfPrice_0 : decode cX6_faultOfPrice 0 = .ok (.aload_n 0, 1) := by decide +kernel
theorem dX6_faultOfPrice_1 : decode cX6_faultOfPrice 1 = .ok (.iload_n 1, 1) := by decide +kernel
theorem dX6_faultOfPrice_2 : decode cX6_faultOfPrice 2 = .ok (.invokevirtual 219, 3) := by decide +kernel
theorem dX6_faultOfPrice_5 : decode cX6_faultOfPrice 5 = .ok (.ifCond .ne 7, 3) := by decide +kernel
theorem dX6_faultOfPrice_8 : decode cX6_faultOfPrice 8 = .ok (.getstatic 222, 3) := by decide +kernel
theorem dX6_faultOfPrice_11 : decode cX6_faultOfPrice 11 = .ok (.areturn, 1) := by decide +kernel
theorem dX6_faultOfPrice_12 : decode cX6_faultOfPrice 12 = .ok (.iload_n 2, 1) := by decide +kernel
theorem dX6_faultOfPrice_13 : decode cX6_faultOfPrice 13 = .ok (.iconst 1, 1) := by decide +kernel
theorem dX6_faultOfPrice_14 : decode cX6_faultOfPrice 14 = .ok (.bipush 99, 2) := by decide +kernel
theorem dX6_faultOfPrice_16 : decode cX6_faultOfPrice 16 = .ok (.invokestatic 73, 3) := by decide +kernel
theorem dX6_faultOfPrice_19 : decode cX6_faultOfPrice 19 = .ok (.ifCond .eq 9, 3) := by decide +kernel
theorem dX6_faultOfPrice_22 : decode cX6_faultOfPrice 22 = .ok (.getstatic 231, 3) := by decide +kernel
theorem dX6_faultOfPrice_25 : decode cX6_faultOfPrice 25 = .ok (.goto 6, 3) := by decide +kernel
theorem dX6_faultOfPrice_28 : decode cX6_faultOfPrice 28 = .ok (.getstatic 228, 3) := by decide +kernel
theorem dX6_faultOfPrice_31 : decode cX6_faultOfPrice 31 = .ok (.areturn, 1) := by decide +kernel
theorem dX6_faultOfDepth_0 : decode cX6_faultOfDepth 0 = .ok (.iload_n 1, 1) := by decide +kernel
theorem dX6_faultOfDepth_1 : decode cX6_faultOfDepth 1 = .ok (.iconst 0, 1) := by decide +kernel
theorem dX6_faultOfDepth_2 : decode cX6_faultOfDepth 2 = .ok (.bipush 20, 2) := by decide +kernel
theorem dX6_faultOfDepth_4 : decode cX6_faultOfDepth 4 = .ok (.invokestatic 73, 3) := by decide +kernel
theorem dX6_faultOfDepth_7 : decode cX6_faultOfDepth 7 = .ok (.ifCond .eq 9, 3) := by decide +kernel
theorem dX6_faultOfDepth_10 : decode cX6_faultOfDepth 10 = .ok (.getstatic 231, 3) := by decide +kernel
theorem dX6_faultOfDepth_13 : decode cX6_faultOfDepth 13 = .ok (.goto 6, 3) := by decide +kernel
theorem dX6_faultOfDepth_16 : decode cX6_faultOfDepth 16 = .ok (.getstatic 228, 3) := by decide +kernel
theorem dX6_faultOfDepth_19 : decode cX6_faultOfDepth 19 = .ok (.areturn, 1) := by decide +kernel
theorem dX6_faultOfPassing_0 : decode cX6_faultOfPassing 0 = .ok (.iload_n 1, 1) := by decide +kernel
theorem dX6_faultOfPassing_1 : decode cX6_faultOfPassing 1 = .ok (.iconst 1, 1) := by decide +kernel
theorem dX6_faultOfPassing_2 : decode cX6_faultOfPassing 2 = .ok (.sipush 240, 3) := by decide +kernel
theorem dX6_faultOfPassing_5 : decode cX6_faultOfPassing 5 = .ok (.invokestatic 73, 3) := by decide +kernel
theorem dX6_faultOfPassing_8 : decode cX6_faultOfPassing 8 = .ok (.ifCond .ne 7, 3) := by decide +kernel
theorem dX6_faultOfPassing_11 : decode cX6_faultOfPassing 11 = .ok (.getstatic 228, 3) := by decide +kernel
theorem dX6_faultOfPassing_14 : decode cX6_faultOfPassing 14 = .ok (.areturn, 1) := by decide +kernel
theorem dX6_faultOfPassing_15 : decode cX6_faultOfPassing 15 = .ok (.aload_n 0, 1) := by decide +kernel
theorem dX6_faultOfPassing_16 : decode cX6_faultOfPassing 16 = .ok (.getfield 42, 3) := by decide +kernel
theorem dX6_faultOfPassing_19 : decode cX6_faultOfPassing 19 = .ok (.iload_n 1, 1) := by decide +kernel
theorem dX6_faultOfPassing_20 : decode cX6_faultOfPassing 20 = .ok (.iadd, 1) := by decide +kernel
theorem dX6_faultOfPassing_21 : decode cX6_faultOfPassing 21 = .ok (.sipush 9999, 3) := by decide +kernel
theorem dX6_faultOfPassing_24 : decode cX6_faultOfPassing 24 = .ok (.if_icmp .gt 9, 3) := by decide +kernel
theorem dX6_faultOfPassing_27 : decode cX6_faultOfPassing 27 = .ok (.getstatic 231, 3) := by decide +kernel
theorem dX6_faultOfPassing_30 : decode cX6_faultOfPassing 30 = .ok (.goto 6, 3) := by decide +kernel
theorem dX6_faultOfPassing_33 : decode cX6_faultOfPassing 33 = .ok (.getstatic 234, 3) := by decide +kernel
theorem dX6_faultOfPassing_36 : decode cX6_faultOfPassing 36 = .ok (.areturn, 1) := by decide +kernel
theorem dX6_openValley_0 : decode cX6_openValley 0 = .ok (.aload_n 0, 1) := by decide +kernel
theorem dX6_openValley_1 : decode cX6_openValley 1 = .ok (.getfield 11, 3) := by decide +kernel
theorem dX6_openValley_4 : decode cX6_openValley 4 = .ok (.aload_n 0, 1) := by decide +kernel
theorem dX6_openValley_5 : decode cX6_openValley 5 = .ok (.getfield 32, 3) := by decide +kernel
theorem dX6_openValley_8 : decode cX6_openValley 8 = .ok (.aaload, 1) := by decide +kernel
theorem dX6_openValley_9 : decode cX6_openValley 9 = .ok (.astore 6, 2) := by decide +kernel
theorem dX6_openValley_11 : decode cX6_openValley 11 = .ok (.aload 6, 2) := by decide +kernel
theorem dX6_openValley_13 : decode cX6_openValley 13 = .ok (.lload_n 1, 1) := by decide +kernel
theorem dX6_openValley_14 : decode cX6_openValley 14 = .ok (.putfield 112, 3) := by decide +kernel
theorem dX6_openValley_17 : decode cX6_openValley 17 = .ok (.aload 6, 2) := by decide +kernel
theorem dX6_openValley_19 : decode cX6_openValley 19 = .ok (.iload_n 3, 1) := by decide +kernel
theorem dX6_openValley_20 : decode cX6_openValley 20 = .ok (.putfield 128, 3) := by decide +kernel
theorem dX6_openValley_23 : decode cX6_openValley 23 = .ok (.aload 6, 2) := by decide +kernel
theorem dX6_openValley_25 : decode cX6_openValley 25 = .ok (.iload 4, 2) := by decide +kernel
theorem dX6_openValley_27 : decode cX6_openValley 27 = .ok (.putfield 208, 3) := by decide +kernel
theorem dX6_openValley_30 : decode cX6_openValley 30 = .ok (.aload 6, 2) := by decide +kernel
theorem dX6_openValley_32 : decode cX6_openValley 32 = .ok (.iload 5, 2) := by decide +kernel
theorem dX6_openValley_34 : decode cX6_openValley 34 = .ok (.putfield 125, 3) := by decide +kernel
theorem dX6_openValley_37 : decode cX6_openValley 37 = .ok (.aload 6, 2) := by decide +kernel
theorem dX6_openValley_39 : decode cX6_openValley 39 = .ok (.iconst 0, 1) := by decide +kernel
theorem dX6_openValley_40 : decode cX6_openValley 40 = .ok (.putfield 240, 3) := by decide +kernel
theorem dX6_openValley_43 : decode cX6_openValley 43 = .ok (.aload 6, 2) := by decide +kernel
theorem dX6_openValley_45 : decode cX6_openValley 45 = .ok (.bipush 10, 2) := by decide +kernel
theorem dX6_openValley_47 : decode cX6_openValley 47 = .ok (.putfield 81, 3) := by decide +kernel
theorem dX6_openValley_50 : decode cX6_openValley 50 = .ok (.aload 6, 2) := by decide +kernel
theorem dX6_openValley_52 : decode cX6_openValley 52 = .ok (.iconst 0, 1) := by decide +kernel
theorem dX6_openValley_53 : decode cX6_openValley 53 = .ok (.putfield 206, 3) := by decide +kernel
theorem dX6_openValley_56 : decode cX6_openValley 56 = .ok (.aload 6, 2) := by decide +kernel
theorem dX6_openValley_58 : decode cX6_openValley 58 = .ok (.iconst 0, 1) := by decide +kernel
theorem dX6_openValley_59 : decode cX6_openValley 59 = .ok (.putfield 199, 3) := by decide +kernel
theorem dX6_openValley_62 : decode cX6_openValley 62 = .ok (.aload_n 0, 1) := by decide +kernel
theorem dX6_openValley_63 : decode cX6_openValley 63 = .ok (.dup, 1) := by decide +kernel
theorem dX6_openValley_64 : decode cX6_openValley 64 = .ok (.getfield 32, 3) := by decide +kernel
theorem dX6_openValley_67 : decode cX6_openValley 67 = .ok (.iconst 1, 1) := by decide +kernel
theorem dX6_openValley_68 : decode cX6_openValley 68 = .ok (.iadd, 1) := by decide +kernel
theorem dX6_openValley_69 : decode cX6_openValley 69 = .ok (.putfield 32, 3) := by decide +kernel
theorem dX6_openValley_72 : decode cX6_openValley 72 = .ok (.aload_n 0, 1) := by decide +kernel
theorem dX6_openValley_73 : decode cX6_openValley 73 = .ok (.getfield 32, 3) := by decide +kernel
theorem dX6_openValley_76 : decode cX6_openValley 76 = .ok (.iconst 1, 1) := by decide +kernel
theorem dX6_openValley_77 : decode cX6_openValley 77 = .ok (.isub, 1) := by decide +kernel
theorem dX6_openValley_78 : decode cX6_openValley 78 = .ok (.ireturn, 1) := by decide +kernel
theorem dX6_welcome_0 : decode cX6_welcome 0 = .ok (.aload_n 0, 1) := by decide +kernel
theorem dX6_welcome_1 : decode cX6_welcome 1 = .ok (.getfield 19, 3) := by decide +kernel
theorem dX6_welcome_4 : decode cX6_welcome 4 = .ok (.aload_n 0, 1) := by decide +kernel
theorem dX6_welcome_5 : decode cX6_welcome 5 = .ok (.getfield 36, 3) := by decide +kernel
theorem dX6_welcome_8 : decode cX6_welcome 8 = .ok (.aaload, 1) := by decide +kernel
theorem dX6_welcome_9 : decode cX6_welcome 9 = .ok (.astore 5, 2) := by decide +kernel
theorem dX6_welcome_11 : decode cX6_welcome 11 = .ok (.aload 5, 2) := by decide +kernel
theorem dX6_welcome_13 : decode cX6_welcome 13 = .ok (.lload_n 1, 1) := by decide +kernel
theorem dX6_welcome_14 : decode cX6_welcome 14 = .ok (.putfield 116, 3) := by decide +kernel
theorem dX6_welcome_17 : decode cX6_welcome 17 = .ok (.aload 5, 2) := by decide +kernel
theorem dX6_welcome_19 : decode cX6_welcome 19 = .ok (.iload_n 3, 1) := by decide +kernel
theorem dX6_welcome_20 : decode cX6_welcome 20 = .ok (.putfield 131, 3) := by decide +kernel
theorem dX6_welcome_23 : decode cX6_welcome 23 = .ok (.aload 5, 2) := by decide +kernel
theorem dX6_welcome_25 : decode cX6_welcome 25 = .ok (.iload 4, 2) := by decide +kernel
theorem dX6_welcome_27 : decode cX6_welcome 27 = .ok (.putfield 100, 3) := by decide +kernel
theorem dX6_welcome_30 : decode cX6_welcome 30 = .ok (.aload 5, 2) := by decide +kernel
theorem dX6_welcome_32 : decode cX6_welcome 32 = .ok (.iload 4, 2) := by decide +kernel
theorem dX6_welcome_34 : decode cX6_welcome 34 = .ok (.putfield 103, 3) := by decide +kernel
theorem dX6_welcome_37 : decode cX6_welcome 37 = .ok (.aload 5, 2) := by decide +kernel
theorem dX6_welcome_39 : decode cX6_welcome 39 = .ok (.iconst 0, 1) := by decide +kernel
theorem dX6_welcome_40 : decode cX6_welcome 40 = .ok (.putfield 243, 3) := by decide +kernel
theorem dX6_welcome_43 : decode cX6_welcome 43 = .ok (.aload 5, 2) := by decide +kernel
theorem dX6_welcome_45 : decode cX6_welcome 45 = .ok (.iconst 0, 1) := by decide +kernel
theorem dX6_welcome_46 : decode cX6_welcome 46 = .ok (.putfield 207, 3) := by decide +kernel
theorem dX6_welcome_49 : decode cX6_welcome 49 = .ok (.aload 5, 2) := by decide +kernel
theorem dX6_welcome_51 : decode cX6_welcome 51 = .ok (.iconst 0, 1) := by decide +kernel
theorem dX6_welcome_52 : decode cX6_welcome 52 = .ok (.putfield 141, 3) := by decide +kernel
theorem dX6_welcome_55 : decode cX6_welcome 55 = .ok (.aload_n 0, 1) := by decide +kernel
theorem dX6_welcome_56 : decode cX6_welcome 56 = .ok (.dup, 1) := by decide +kernel
theorem dX6_welcome_57 : decode cX6_welcome 57 = .ok (.getfield 36, 3) := by decide +kernel
theorem dX6_welcome_60 : decode cX6_welcome 60 = .ok (.iconst 1, 1) := by decide +kernel
theorem dX6_welcome_61 : decode cX6_welcome 61 = .ok (.iadd, 1) := by decide +kernel
theorem dX6_welcome_62 : decode cX6_welcome 62 = .ok (.putfield 36, 3) := by decide +kernel
theorem dX6_welcome_65 : decode cX6_welcome 65 = .ok (.aload_n 0, 1) := by decide +kernel
theorem dX6_welcome_66 : decode cX6_welcome 66 = .ok (.getfield 36, 3) := by decide +kernel
theorem dX6_welcome_69 : decode cX6_welcome 69 = .ok (.iconst 1, 1) := by decide +kernel
theorem dX6_welcome_70 : decode cX6_welcome 70 = .ok (.isub, 1) := by decide +kernel
theorem dX6_welcome_71 : decode cX6_welcome 71 = .ok (.ireturn, 1) := by decide +kernel
theorem dX6_sell_0 : decode cX6_sell 0 = .ok (.aload_n 0, 1) := by decide +kernel
theorem dX6_sell_1 : decode cX6_sell 1 = .ok (.getfield 19, 3) := by decide +kernel
theorem dX6_sell_4 : decode cX6_sell 4 = .ok (.iload_n 1, 1) := by decide +kernel
theorem dX6_sell_5 : decode cX6_sell 5 = .ok (.aaload, 1) := by decide +kernel
theorem dX6_sell_6 : decode cX6_sell 6 = .ok (.astore 5, 2) := by decide +kernel
theorem dX6_sell_8 : decode cX6_sell 8 = .ok (.aload_n 0, 1) := by decide +kernel
theorem dX6_sell_9 : decode cX6_sell 9 = .ok (.getfield 25, 3) := by decide +kernel
theorem dX6_sell_12 : decode cX6_sell 12 = .ok (.aload_n 0, 1) := by decide +kernel
theorem dX6_sell_13 : decode cX6_sell 13 = .ok (.getfield 39, 3) := by decide +kernel
theorem dX6_sell_16 : decode cX6_sell 16 = .ok (.aaload, 1) := by decide +kernel
theorem dX6_sell_17 : decode cX6_sell 17 = .ok (.astore 6, 2) := by decide +kernel
theorem dX6_sell_19 : decode cX6_sell 19 = .ok (.aload 6, 2) := by decide +kernel
theorem dX6_sell_21 : decode cX6_sell 21 = .ok (.iload_n 1, 1) := by decide +kernel
theorem dX6_sell_22 : decode cX6_sell 22 = .ok (.putfield 200, 3) := by decide +kernel
theorem dX6_sell_25 : decode cX6_sell 25 = .ok (.aload 6, 2) := by decide +kernel
theorem dX6_sell_27 : decode cX6_sell 27 = .ok (.iload_n 2, 1) := by decide +kernel
theorem dX6_sell_28 : decode cX6_sell 28 = .ok (.putfield 167, 3) := by decide +kernel
theorem dX6_sell_31 : decode cX6_sell 31 = .ok (.aload 6, 2) := by decide +kernel
theorem dX6_sell_33 : decode cX6_sell 33 = .ok (.iload_n 3, 1) := by decide +kernel
theorem dX6_sell_34 : decode cX6_sell 34 = .ok (.putfield 164, 3) := by decide +kernel
theorem dX6_sell_37 : decode cX6_sell 37 = .ok (.aload 6, 2) := by decide +kernel
theorem dX6_sell_39 : decode cX6_sell 39 = .ok (.iload 4, 2) := by decide +kernel
theorem dX6_sell_41 : decode cX6_sell 41 = .ok (.putfield 97, 3) := by decide +kernel
theorem dX6_sell_44 : decode cX6_sell 44 = .ok (.aload 6, 2) := by decide +kernel
theorem dX6_sell_46 : decode cX6_sell 46 = .ok (.aload_n 0, 1) := by decide +kernel
theorem dX6_sell_47 : decode cX6_sell 47 = .ok (.getfield 11, 3) := by decide +kernel
theorem dX6_sell_50 : decode cX6_sell 50 = .ok (.iload_n 2, 1) := by decide +kernel
theorem dX6_sell_51 : decode cX6_sell 51 = .ok (.aaload, 1) := by decide +kernel
theorem dX6_sell_52 : decode cX6_sell 52 = .ok (.getfield 125, 3) := by decide +kernel
theorem dX6_sell_55 : decode cX6_sell 55 = .ok (.putfield 163, 3) := by decide +kernel
theorem dX6_sell_58 : decode cX6_sell 58 = .ok (.aload 6, 2) := by decide +kernel
theorem dX6_sell_60 : decode cX6_sell 60 = .ok (.aload_n 0, 1) := by decide +kernel
theorem dX6_sell_61 : decode cX6_sell 61 = .ok (.getfield 11, 3) := by decide +kernel
theorem dX6_sell_64 : decode cX6_sell 64 = .ok (.iload_n 2, 1) := by decide +kernel
theorem dX6_sell_65 : decode cX6_sell 65 = .ok (.aaload, 1) := by decide +kernel
theorem dX6_sell_66 : decode cX6_sell 66 = .ok (.getfield 128, 3) := by decide +kernel
theorem dX6_sell_69 : decode cX6_sell 69 = .ok (.putfield 246, 3) := by decide +kernel
theorem dX6_sell_72 : decode cX6_sell 72 = .ok (.aload 6, 2) := by decide +kernel
theorem dX6_sell_74 : decode cX6_sell 74 = .ok (.aload_n 0, 1) := by decide +kernel
theorem dX6_sell_75 : decode cX6_sell 75 = .ok (.getfield 42, 3) := by decide +kernel
theorem dX6_sell_78 : decode cX6_sell 78 = .ok (.putfield 247, 3) := by decide +kernel
theorem dX6_sell_81 : decode cX6_sell 81 = .ok (.aload 6, 2) := by decide +kernel
theorem dX6_sell_83 : decode cX6_sell 83 = .ok (.aload_n 0, 1) := by decide +kernel
theorem dX6_sell_84 : decode cX6_sell 84 = .ok (.getfield 42, 3) := by decide +kernel
theorem dX6_sell_87 : decode cX6_sell 87 = .ok (.aload 5, 2) := by decide +kernel
theorem dX6_sell_89 : decode cX6_sell 89 = .ok (.getfield 131, 3) := by decide +kernel
theorem dX6_sell_92 : decode cX6_sell 92 = .ok (.iadd, 1) := by decide +kernel
theorem dX6_sell_93 : decode cX6_sell 93 = .ok (.putfield 145, 3) := by decide +kernel
theorem dX6_sell_96 : decode cX6_sell 96 = .ok (.aload 6, 2) := by decide +kernel
theorem dX6_sell_98 : decode cX6_sell 98 = .ok (.iconst 0, 1) := by decide +kernel
theorem dX6_sell_99 : decode cX6_sell 99 = .ok (.putfield 91, 3) := by decide +kernel
theorem dX6_sell_102 : decode cX6_sell 102 = .ok (.aload 6, 2) := by decide +kernel
theorem dX6_sell_104 : decode cX6_sell 104 = .ok (.iconst 0, 1) := by decide +kernel
theorem dX6_sell_105 : decode cX6_sell 105 = .ok (.putfield 94, 3) := by decide +kernel
theorem dX6_sell_108 : decode cX6_sell 108 = .ok (.aload 6, 2) := by decide +kernel
theorem dX6_sell_110 : decode cX6_sell 110 = .ok (.iconst 0, 1) := by decide +kernel
theorem dX6_sell_111 : decode cX6_sell 111 = .ok (.putfield 203, 3) := by decide +kernel
theorem dX6_sell_114 : decode cX6_sell 114 = .ok (.aload 5, 2) := by decide +kernel
theorem dX6_sell_116 : decode cX6_sell 116 = .ok (.dup, 1) := by decide +kernel
theorem dX6_sell_117 : decode cX6_sell 117 = .ok (.getfield 103, 3) := by decide +kernel
theorem dX6_sell_120 : decode cX6_sell 120 = .ok (.aload 6, 2) := by decide +kernel
theorem dX6_sell_122 : decode cX6_sell 122 = .ok (.invokevirtual 87, 3) := by decide +kernel
theorem dX6_sell_125 : decode cX6_sell 125 = .ok (.isub, 1) := by decide +kernel
theorem dX6_sell_126 : decode cX6_sell 126 = .ok (.putfield 103, 3) := by decide +kernel
theorem dX6_sell_129 : decode cX6_sell 129 = .ok (.aload 5, 2) := by decide +kernel
theorem dX6_sell_131 : decode cX6_sell 131 = .ok (.dup, 1) := by decide +kernel
theorem dX6_sell_132 : decode cX6_sell 132 = .ok (.getfield 207, 3) := by decide +kernel
theorem dX6_sell_135 : decode cX6_sell 135 = .ok (.aload 6, 2) := by decide +kernel
theorem dX6_sell_137 : decode cX6_sell 137 = .ok (.invokevirtual 87, 3) := by decide +kernel
theorem dX6_sell_140 : decode cX6_sell 140 = .ok (.iadd, 1) := by decide +kernel
theorem dX6_sell_141 : decode cX6_sell 141 = .ok (.putfield 207, 3) := by decide +kernel
theorem dX6_sell_144 : decode cX6_sell 144 = .ok (.aload_n 0, 1) := by decide +kernel
theorem dX6_sell_145 : decode cX6_sell 145 = .ok (.dup, 1) := by decide +kernel
theorem dX6_sell_146 : decode cX6_sell 146 = .ok (.getfield 54, 3) := by decide +kernel
theorem dX6_sell_149 : decode cX6_sell 149 = .ok (.aload 6, 2) := by decide +kernel
theorem dX6_sell_151 : decode cX6_sell 151 = .ok (.invokevirtual 87, 3) := by decide +kernel
theorem dX6_sell_154 : decode cX6_sell 154 = .ok (.iadd, 1) := by decide +kernel
theorem dX6_sell_155 : decode cX6_sell 155 = .ok (.putfield 54, 3) := by decide +kernel
theorem dX6_sell_158 : decode cX6_sell 158 = .ok (.aload_n 0, 1) := by decide +kernel
theorem dX6_sell_159 : decode cX6_sell 159 = .ok (.dup, 1) := by decide +kernel
theorem dX6_sell_160 : decode cX6_sell 160 = .ok (.getfield 39, 3) := by decide +kernel
theorem dX6_sell_163 : decode cX6_sell 163 = .ok (.iconst 1, 1) := by decide +kernel
theorem dX6_sell_164 : decode cX6_sell 164 = .ok (.iadd, 1) := by decide +kernel
theorem dX6_sell_165 : decode cX6_sell 165 = .ok (.putfield 39, 3) := by decide +kernel
theorem dX6_sell_168 : decode cX6_sell 168 = .ok (.aload_n 0, 1) := by decide +kernel
theorem dX6_sell_169 : decode cX6_sell 169 = .ok (.getfield 39, 3) := by decide +kernel
theorem dX6_sell_172 : decode cX6_sell 172 = .ok (.iconst 1, 1) := by decide +kernel
theorem dX6_sell_173 : decode cX6_sell 173 = .ok (.isub, 1) := by decide +kernel
theorem dX6_sell_174 : decode cX6_sell 174 = .ok (.ireturn, 1) := by decide +kernel
theorem dX6_callOff_0 : decode cX6_callOff 0 = .ok (.aload_n 0, 1) := by decide +kernel
theorem dX6_callOff_1 : decode cX6_callOff 1 = .ok (.getfield 25, 3) := by decide +kernel
theorem dX6_callOff_4 : decode cX6_callOff 4 = .ok (.iload_n 1, 1) := by decide +kernel
theorem dX6_callOff_5 : decode cX6_callOff 5 = .ok (.aaload, 1) := by decide +kernel
theorem dX6_callOff_6 : decode cX6_callOff 6 = .ok (.astore_n 2, 1) := by decide +kernel
theorem dX6_callOff_7 : decode cX6_callOff 7 = .ok (.aload_n 2, 1) := by decide +kernel
theorem dX6_callOff_8 : decode cX6_callOff 8 = .ok (.invokevirtual 250, 3) := by decide +kernel
theorem dX6_callOff_11 : decode cX6_callOff 11 = .ok (.istore_n 3, 1) := by decide +kernel
theorem dX6_callOff_12 : decode cX6_callOff 12 = .ok (.aload_n 2, 1) := by decide +kernel
theorem dX6_callOff_13 : decode cX6_callOff 13 = .ok (.iconst 2, 1) := by decide +kernel
theorem dX6_callOff_14 : decode cX6_callOff 14 = .ok (.putfield 91, 3) := by decide +kernel
theorem dX6_callOff_17 : decode cX6_callOff 17 = .ok (.aload_n 0, 1) := by decide +kernel
theorem dX6_callOff_18 : decode cX6_callOff 18 = .ok (.aload_n 2, 1) := by decide +kernel
theorem dX6_callOff_19 : decode cX6_callOff 19 = .ok (.iload_n 3, 1) := by decide +kernel
theorem dX6_callOff_20 : decode cX6_callOff 20 = .ok (.invokevirtual 192, 3) := by decide +kernel
theorem dX6_callOff_23 : decode cX6_callOff 23 = .ok (.iload_n 3, 1) := by decide +kernel
theorem dX6_callOff_24 : decode cX6_callOff 24 = .ok (.ireturn, 1) := by decide +kernel
theorem dX6_fakeNext_0 : decode cX6_fakeNext 0 = .ok (.aload_n 0, 1) := by decide +kernel
theorem dX6_fakeNext_1 : decode cX6_fakeNext 1 = .ok (.getfield 25, 3) := by decide +kernel
theorem dX6_fakeNext_4 : decode cX6_fakeNext 4 = .ok (.iload_n 1, 1) := by decide +kernel
theorem dX6_fakeNext_5 : decode cX6_fakeNext 5 = .ok (.aaload, 1) := by decide +kernel
theorem dX6_fakeNext_6 : decode cX6_fakeNext 6 = .ok (.astore_n 2, 1) := by decide +kernel
theorem dX6_fakeNext_7 : decode cX6_fakeNext 7 = .ok (.aload_n 0, 1) := by decide +kernel
theorem dX6_fakeNext_8 : decode cX6_fakeNext 8 = .ok (.getfield 19, 3) := by decide +kernel
theorem dX6_fakeNext_11 : decode cX6_fakeNext 11 = .ok (.aload_n 2, 1) := by decide +kernel
theorem dX6_fakeNext_12 : decode cX6_fakeNext 12 = .ok (.getfield 200, 3) := by decide +kernel
theorem dX6_fakeNext_15 : decode cX6_fakeNext 15 = .ok (.aaload, 1) := by decide +kernel
theorem dX6_fakeNext_16 : decode cX6_fakeNext 16 = .ok (.astore_n 3, 1) := by decide +kernel
theorem dX6_fakeNext_17 : decode cX6_fakeNext 17 = .ok (.aload_n 0, 1) := by decide +kernel
theorem dX6_fakeNext_18 : decode cX6_fakeNext 18 = .ok (.getfield 45, 3) := by decide +kernel
theorem dX6_fakeNext_21 : decode cX6_fakeNext 21 = .ok (.iconst 1, 1) := by decide +kernel
theorem dX6_fakeNext_22 : decode cX6_fakeNext 22 = .ok (.if_icmp .lt 7, 3) := by decide +kernel
theorem dX6_fakeNext_25 : decode cX6_fakeNext 25 = .ok (.iconst 1, 1) := by decide +kernel
theorem dX6_fakeNext_26 : decode cX6_fakeNext 26 = .ok (.goto 4, 3) := by decide +kernel
theorem dX6_fakeNext_29 : decode cX6_fakeNext 29 = .ok (.iconst 0, 1) := by decide +kernel
theorem dX6_fakeNext_30 : decode cX6_fakeNext 30 = .ok (.istore 4, 2) := by decide +kernel
theorem dX6_fakeNext_32 : decode cX6_fakeNext 32 = .ok (.aload_n 0, 1) := by decide +kernel
theorem dX6_fakeNext_33 : decode cX6_fakeNext 33 = .ok (.aload_n 2, 1) := by decide +kernel
theorem dX6_fakeNext_34 : decode cX6_fakeNext 34 = .ok (.iload 4, 2) := by decide +kernel
theorem dX6_fakeNext_36 : decode cX6_fakeNext 36 = .ok (.invokevirtual 182, 3) := by decide +kernel
theorem dX6_fakeNext_39 : decode cX6_fakeNext 39 = .ok (.iload 4, 2) := by decide +kernel
theorem dX6_fakeNext_41 : decode cX6_fakeNext 41 = .ok (.ifCond .eq 13, 3) := by decide +kernel
theorem dX6_fakeNext_44 : decode cX6_fakeNext 44 = .ok (.aload_n 3, 1) := by decide +kernel
theorem dX6_fakeNext_45 : decode cX6_fakeNext 45 = .ok (.dup, 1) := by decide +kernel
theorem dX6_fakeNext_46 : decode cX6_fakeNext 46 = .ok (.getfield 243, 3) := by decide +kernel
theorem dX6_fakeNext_49 : decode cX6_fakeNext 49 = .ok (.iconst 1, 1) := by decide +kernel
theorem dX6_fakeNext_50 : decode cX6_fakeNext 50 = .ok (.iadd, 1) := by decide +kernel
theorem dX6_fakeNext_51 : decode cX6_fakeNext 51 = .ok (.putfield 243, 3) := by decide +kernel
theorem dX6_fakeNext_54 : decode cX6_fakeNext 54 = .ok (.aload_n 3, 1) := by decide +kernel
theorem dX6_fakeNext_55 : decode cX6_fakeNext 55 = .ok (.invokevirtual 84, 3) := by decide +kernel
theorem dX6_fakeNext_58 : decode cX6_fakeNext 58 = .ok (.ifCond .eq 11, 3) := by decide +kernel
theorem dX6_fakeNext_61 : decode cX6_fakeNext 61 = .ok (.aload_n 0, 1) := by decide +kernel
theorem dX6_fakeNext_62 : decode cX6_fakeNext 62 = .ok (.aload_n 2, 1) := by decide +kernel
theorem dX6_fakeNext_63 : decode cX6_fakeNext 63 = .ok (.getfield 200, 3) := by decide +kernel
theorem dX6_fakeNext_66 : decode cX6_fakeNext 66 = .ok (.invokevirtual 253, 3) := by decide +kernel
theorem dX6_fakeNext_69 : decode cX6_fakeNext 69 = .ok (.aload_n 3, 1) := by decide +kernel
theorem dX6_fakeNext_70 : decode cX6_fakeNext 70 = .ok (.getfield 243, 3) := by decide +kernel
theorem dX6_fakeNext_73 : decode cX6_fakeNext 73 = .ok (.ireturn, 1) := by decide +kernel
theorem dX6_callOffAll_0 : decode cX6_callOffAll 0 = .ok (.iconst 0, 1) := by decide +kernel
theorem dX6_callOffAll_1 : decode cX6_callOffAll 1 = .ok (.istore_n 2, 1) := by decide +kernel
theorem dX6_callOffAll_2 : decode cX6_callOffAll 2 = .ok (.iload_n 2, 1) := by decide +kernel
theorem dX6_callOffAll_3 : decode cX6_callOffAll 3 = .ok (.aload_n 0, 1) := by decide +kernel
theorem dX6_callOffAll_4 : decode cX6_callOffAll 4 = .ok (.getfield 39, 3) := by decide +kernel
theorem dX6_callOffAll_7 : decode cX6_callOffAll 7 = .ok (.if_icmp .ge 40, 3) := by decide +kernel
theorem dX6_callOffAll_10 : decode cX6_callOffAll 10 = .ok (.aload_n 0, 1) := by decide +kernel
theorem dX6_callOffAll_11 : decode cX6_callOffAll 11 = .ok (.getfield 25, 3) := by decide +kernel
theorem dX6_callOffAll_14 : decode cX6_callOffAll 14 = .ok (.iload_n 2, 1) := by decide +kernel
theorem dX6_callOffAll_15 : decode cX6_callOffAll 15 = .ok (.aaload, 1) := by decide +kernel
theorem dX6_callOffAll_16 : decode cX6_callOffAll 16 = .ok (.invokevirtual 77, 3) := by decide +kernel
theorem dX6_callOffAll_19 : decode cX6_callOffAll 19 = .ok (.ifCond .eq 22, 3) := by decide +kernel
theorem dX6_callOffAll_22 : decode cX6_callOffAll 22 = .ok (.aload_n 0, 1) := by decide +kernel
theorem dX6_callOffAll_23 : decode cX6_callOffAll 23 = .ok (.getfield 25, 3) := by decide +kernel
theorem dX6_callOffAll_26 : decode cX6_callOffAll 26 = .ok (.iload_n 2, 1) := by decide +kernel
theorem dX6_callOffAll_27 : decode cX6_callOffAll 27 = .ok (.aaload, 1) := by decide +kernel
theorem dX6_callOffAll_28 : decode cX6_callOffAll 28 = .ok (.getfield 200, 3) := by decide +kernel
theorem dX6_callOffAll_31 : decode cX6_callOffAll 31 = .ok (.iload_n 1, 1) := by decide +kernel
theorem dX6_callOffAll_32 : decode cX6_callOffAll 32 = .ok (.if_icmp .ne 9, 3) := by decide +kernel
theorem dX6_callOffAll_35 : decode cX6_callOffAll 35 = .ok (.aload_n 0, 1) := by decide +kernel
theorem dX6_callOffAll_36 : decode cX6_callOffAll 36 = .ok (.iload_n 2, 1) := by decide +kernel
theorem dX6_callOffAll_37 : decode cX6_callOffAll 37 = .ok (.invokevirtual 186, 3) := by decide +kernel
theorem dX6_callOffAll_40 : decode cX6_callOffAll 40 = .ok (.pop, 1) := by decide +kernel
theorem dX6_callOffAll_41 : decode cX6_callOffAll 41 = .ok (.iinc 2 1, 3) := by decide +kernel
theorem dX6_callOffAll_44 : decode cX6_callOffAll 44 = .ok (.goto (-42), 3) := by decide +kernel
theorem dX6_callOffAll_47 : decode cX6_callOffAll 47 = .ok (.return_, 1) := by decide +kernel
theorem dX6_changeFog_0 : decode cX6_changeFog 0 = .ok (.aload_n 0, 1) := by decide +kernel
theorem dX6_changeFog_1 : decode cX6_changeFog 1 = .ok (.getfield 11, 3) := by decide +kernel
theorem dX6_changeFog_4 : decode cX6_changeFog 4 = .ok (.iload_n 1, 1) := by decide +kernel
theorem dX6_changeFog_5 : decode cX6_changeFog 5 = .ok (.aaload, 1) := by decide +kernel
theorem dX6_changeFog_6 : decode cX6_changeFog 6 = .ok (.getfield 240, 3) := by decide +kernel
theorem dX6_changeFog_9 : decode cX6_changeFog 9 = .ok (.istore_n 3, 1) := by decide +kernel
theorem dX6_changeFog_10 : decode cX6_changeFog 10 = .ok (.aload_n 0, 1) := by decide +kernel
theorem dX6_changeFog_11 : decode cX6_changeFog 11 = .ok (.getfield 11, 3) := by decide +kernel
theorem dX6_changeFog_14 : decode cX6_changeFog 14 = .ok (.iload_n 1, 1) := by decide +kernel
theorem dX6_changeFog_15 : decode cX6_changeFog 15 = .ok (.aaload, 1) := by decide +kernel
theorem dX6_changeFog_16 : decode cX6_changeFog 16 = .ok (.iload_n 2, 1) := by decide +kernel
theorem dX6_changeFog_17 : decode cX6_changeFog 17 = .ok (.putfield 240, 3) := by decide +kernel
theorem dX6_changeFog_20 : decode cX6_changeFog 20 = .ok (.iload_n 3, 1) := by decide +kernel
theorem dX6_changeFog_21 : decode cX6_changeFog 21 = .ok (.ireturn, 1) := by decide +kernel
theorem dX6_changePrice_0 : decode cX6_changePrice 0 = .ok (.aload_n 0, 1) := by decide +kernel
theorem dX6_changePrice_1 : decode cX6_changePrice 1 = .ok (.getfield 11, 3) := by decide +kernel
theorem dX6_changePrice_4 : decode cX6_changePrice 4 = .ok (.iload_n 1, 1) := by decide +kernel
theorem dX6_changePrice_5 : decode cX6_changePrice 5 = .ok (.aaload, 1) := by decide +kernel
theorem dX6_changePrice_6 : decode cX6_changePrice 6 = .ok (.getfield 125, 3) := by decide +kernel
theorem dX6_changePrice_9 : decode cX6_changePrice 9 = .ok (.istore_n 3, 1) := by decide +kernel
theorem dX6_changePrice_10 : decode cX6_changePrice 10 = .ok (.aload_n 0, 1) := by decide +kernel
theorem dX6_changePrice_11 : decode cX6_changePrice 11 = .ok (.getfield 11, 3) := by decide +kernel
theorem dX6_changePrice_14 : decode cX6_changePrice 14 = .ok (.iload_n 1, 1) := by decide +kernel
theorem dX6_changePrice_15 : decode cX6_changePrice 15 = .ok (.aaload, 1) := by decide +kernel
theorem dX6_changePrice_16 : decode cX6_changePrice 16 = .ok (.iload_n 2, 1) := by decide +kernel
theorem dX6_changePrice_17 : decode cX6_changePrice 17 = .ok (.putfield 125, 3) := by decide +kernel
theorem dX6_changePrice_20 : decode cX6_changePrice 20 = .ok (.iload_n 3, 1) := by decide +kernel
theorem dX6_changePrice_21 : decode cX6_changePrice 21 = .ok (.ireturn, 1) := by decide +kernel
theorem dX6_changeDepth_0 : decode cX6_changeDepth 0 = .ok (.aload_n 0, 1) := by decide +kernel
theorem dX6_changeDepth_1 : decode cX6_changeDepth 1 = .ok (.getfield 45, 3) := by decide +kernel
theorem dX6_changeDepth_4 : decode cX6_changeDepth 4 = .ok (.istore_n 2, 1) := by decide +kernel
theorem dX6_changeDepth_5 : decode cX6_changeDepth 5 = .ok (.aload_n 0, 1) := by decide +kernel
theorem dX6_changeDepth_6 : decode cX6_changeDepth 6 = .ok (.iload_n 1, 1) := by decide +kernel
theorem dX6_changeDepth_7 : decode cX6_changeDepth 7 = .ok (.putfield 45, 3) := by decide +kernel
theorem dX6_changeDepth_10 : decode cX6_changeDepth 10 = .ok (.iload_n 2, 1) := by decide +kernel
theorem dX6_changeDepth_11 : decode cX6_changeDepth 11 = .ok (.ireturn, 1) := by decide +kernel
theorem dX7_init_0 : decode cX7_init 0 = .ok (.aload_n 0, 1) := by decide +kernel
theorem dX7_init_1 : decode cX7_init 1 = .ok (.invokespecial 3, 3) := by decide +kernel
theorem dX7_init_4 : decode cX7_init 4 = .ok (.aload_n 0, 1) := by decide +kernel
theorem dX7_init_5 : decode cX7_init 5 = .ok (.bipush 30, 2) := by decide +kernel
theorem dX7_init_7 : decode cX7_init 7 = .ok (.anewarray 9, 3) := by decide +kernel
theorem dX7_init_10 : decode cX7_init 10 = .ok (.putfield 11, 3) := by decide +kernel
theorem dX7_init_13 : decode cX7_init 13 = .ok (.aload_n 0, 1) := by decide +kernel
theorem dX7_init_14 : decode cX7_init 14 = .ok (.bipush 40, 2) := by decide +kernel
theorem dX7_init_16 : decode cX7_init 16 = .ok (.newarray .int, 2) := by decide +kernel
theorem dX7_init_18 : decode cX7_init 18 = .ok (.putfield 17, 3) := by decide +kernel
theorem dX7_init_21 : decode cX7_init 21 = .ok (.aload_n 0, 1) := by decide +kernel
theorem dX7_init_22 : decode cX7_init 22 = .ok (.iconst 2, 1) := by decide +kernel
theorem dX7_init_23 : decode cX7_init 23 = .ok (.newarray .int, 2) := by decide +kernel
theorem dX7_init_25 : decode cX7_init 25 = .ok (.putfield 21, 3) := by decide +kernel
theorem dX7_init_28 : decode cX7_init 28 = .ok (.aload_n 0, 1) := by decide +kernel
theorem dX7_init_29 : decode cX7_init 29 = .ok (.iconst 2, 1) := by decide +kernel
theorem dX7_init_30 : decode cX7_init 30 = .ok (.newarray .int, 2) := by decide +kernel
theorem dX7_init_32 : decode cX7_init 32 = .ok (.putfield 24, 3) := by decide +kernel
theorem dX7_init_35 : decode cX7_init 35 = .ok (.iconst 0, 1) := by decide +kernel
theorem dX7_init_36 : decode cX7_init 36 = .ok (.istore_n 1, 1) := by decide +kernel
theorem dX7_init_37 : decode cX7_init 37 = .ok (.iload_n 1, 1) := by decide +kernel
theorem dX7_init_38 : decode cX7_init 38 = .ok (.bipush 30, 2) := by decide +kernel
theorem dX7_init_40 : decode cX7_init 40 = .ok (.if_icmp .ge 22, 3) := by decide +kernel
theorem dX7_init_43 : decode cX7_init 43 = .ok (.aload_n 0, 1) := by decide +kernel
theorem dX7_init_44 : decode cX7_init 44 = .ok (.getfield 11, 3) := by decide +kernel
theorem dX7_init_47 : decode cX7_init 47 = .ok (.iload_n 1, 1) := by decide +kernel
theorem dX7_init_48 : decode cX7_init 48 = .ok (.new 9, 3) := by decide +kernel
theorem dX7_init_51 : decode cX7_init 51 = .ok (.dup, 1) := by decide +kernel
theorem dX7_init_52 : decode cX7_init 52 = .ok (.invokespecial 27, 3) := by decide +kernel
theorem dX7_init_55 : decode cX7_init 55 = .ok (.aastore, 1) := by decide +kernel
theorem dX7_init_56 : decode cX7_init 56 = .ok (.iinc 1 1, 3) := by decide +kernel
theorem dX7_init_59 : decode cX7_init 59 = .ok (.goto (-22), 3) := by decide +kernel
theorem dX7_init_62 : decode cX7_init 62 = .ok (.return_, 1) := by decide +kernel
theorem dX8_init_0 : decode cX8_init 0 = .ok (.aload_n 0, 1) := by decide +kernel
theorem dX8_init_1 : decode cX8_init 1 = .ok (.invokespecial 3, 3) := by decide +kernel
theorem dX8_init_4 : decode cX8_init 4 = .ok (.return_, 1) := by decide +kernel
theorem dX8_copyFrom_0 : decode cX8_copyFrom 0 = .ok (.aload_n 0, 1) := by decide +kernel
theorem dX8_copyFrom_1 : decode cX8_copyFrom 1 = .ok (.aload_n 1, 1) := by decide +kernel
theorem dX8_copyFrom_2 : decode cX8_copyFrom 2 = .ok (.getfield 9, 3) := by decide +kernel
theorem dX8_copyFrom_5 : decode cX8_copyFrom 5 = .ok (.putfield 9, 3) := by decide +kernel
theorem dX8_copyFrom_8 : decode cX8_copyFrom 8 = .ok (.aload_n 0, 1) := by decide +kernel
theorem dX8_copyFrom_9 : decode cX8_copyFrom 9 = .ok (.aload_n 1, 1) := by decide +kernel
theorem dX8_copyFrom_10 : decode cX8_copyFrom 10 = .ok (.getfield 15, 3) := by decide +kernel
theorem dX8_copyFrom_13 : decode cX8_copyFrom 13 = .ok (.putfield 15, 3) := by decide +kernel
theorem dX8_copyFrom_16 : decode cX8_copyFrom 16 = .ok (.aload_n 0, 1) := by decide +kernel
theorem dX8_copyFrom_17 : decode cX8_copyFrom 17 = .ok (.aload_n 1, 1) := by decide +kernel
theorem dX8_copyFrom_18 : decode cX8_copyFrom 18 = .ok (.getfield 18, 3) := by decide +kernel
theorem dX8_copyFrom_21 : decode cX8_copyFrom 21 = .ok (.putfield 18, 3) := by decide +kernel
theorem dX8_copyFrom_24 : decode cX8_copyFrom 24 = .ok (.aload_n 0, 1) := by decide +kernel
theorem dX8_copyFrom_25 : decode cX8_copyFrom 25 = .ok (.aload_n 1, 1) := by decide +kernel
theorem dX8_copyFrom_26 : decode cX8_copyFrom 26 = .ok (.getfield 21, 3) := by decide +kernel
theorem dX8_copyFrom_29 : decode cX8_copyFrom 29 = .ok (.putfield 21, 3) := by decide +kernel
theorem dX8_copyFrom_32 : decode cX8_copyFrom 32 = .ok (.aload_n 0, 1) := by decide +kernel
theorem dX8_copyFrom_33 : decode cX8_copyFrom 33 = .ok (.aload_n 1, 1) := by decide +kernel
theorem dX8_copyFrom_34 : decode cX8_copyFrom 34 = .ok (.getfield 24, 3) := by decide +kernel
theorem dX8_copyFrom_37 : decode cX8_copyFrom 37 = .ok (.putfield 24, 3) := by decide +kernel
theorem dX8_copyFrom_40 : decode cX8_copyFrom 40 = .ok (.aload_n 0, 1) := by decide +kernel
theorem dX8_copyFrom_41 : decode cX8_copyFrom 41 = .ok (.aload_n 1, 1) := by decide +kernel
theorem dX8_copyFrom_42 : decode cX8_copyFrom 42 = .ok (.getfield 27, 3) := by decide +kernel
theorem dX8_copyFrom_45 : decode cX8_copyFrom 45 = .ok (.putfield 27, 3) := by decide +kernel
theorem dX8_copyFrom_48 : decode cX8_copyFrom 48 = .ok (.aload_n 0, 1) := by decide +kernel
theorem dX8_copyFrom_49 : decode cX8_copyFrom 49 = .ok (.aload_n 1, 1) := by decide +kernel
theorem dX8_copyFrom_50 : decode cX8_copyFrom 50 = .ok (.getfield 30, 3) := by decide +kernel
theorem dX8_copyFrom_53 : decode cX8_copyFrom 53 = .ok (.putfield 30, 3) := by decide +kernel
theorem dX8_copyFrom_56 : decode cX8_copyFrom 56 = .ok (.aload_n 0, 1) := by decide +kernel
theorem dX8_copyFrom_57 : decode cX8_copyFrom 57 = .ok (.aload_n 1, 1) := by decide +kernel
theorem dX8_copyFrom_58 : decode cX8_copyFrom 58 = .ok (.getfield 33, 3) := by decide +kernel
theorem dX8_copyFrom_61 : decode cX8_copyFrom 61 = .ok (.putfield 33, 3) := by decide +kernel
theorem dX8_copyFrom_64 : decode cX8_copyFrom 64 = .ok (.aload_n 0, 1) := by decide +kernel
theorem dX8_copyFrom_65 : decode cX8_copyFrom 65 = .ok (.aload_n 1, 1) := by decide +kernel
theorem dX8_copyFrom_66 : decode cX8_copyFrom 66 = .ok (.getfield 36, 3) := by decide +kernel
theorem dX8_copyFrom_69 : decode cX8_copyFrom 69 = .ok (.putfield 36, 3) := by decide +kernel
theorem dX8_copyFrom_72 : decode cX8_copyFrom 72 = .ok (.aload_n 0, 1) := by decide +kernel
theorem dX8_copyFrom_73 : decode cX8_copyFrom 73 = .ok (.aload_n 1, 1) := by decide +kernel
theorem dX8_copyFrom_74 : decode cX8_copyFrom 74 = .ok (.getfield 39, 3) := by decide +kernel
theorem dX8_copyFrom_77 : decode cX8_copyFrom 77 = .ok (.putfield 39, 3) := by decide +kernel
theorem dX8_copyFrom_80 : decode cX8_copyFrom 80 = .ok (.aload_n 0, 1) := by decide +kernel
theorem dX8_copyFrom_81 : decode cX8_copyFrom 81 = .ok (.aload_n 1, 1) := by decide +kernel
theorem dX8_copyFrom_82 : decode cX8_copyFrom 82 = .ok (.getfield 42, 3) := by decide +kernel
theorem dX8_copyFrom_85 : decode cX8_copyFrom 85 = .ok (.putfield 42, 3) := by decide +kernel
theorem dX8_copyFrom_88 : decode cX8_copyFrom 88 = .ok (.return_, 1) := by decide +kernel
theorem dX8_isOpen_0 : decode cX8_isOpen 0 = .ok (.aload_n 0, 1) := by decide +kernel
theorem dX8_isOpen_1 : decode cX8_isOpen 1 = .ok (.getfield 36, 3) := by decide +kernel
theorem dX8_isOpen_4 : decode cX8_isOpen 4 = .ok (.ifCond .ne 7, 3) := by decide +kernel
theorem dX8_isOpen_7 : decode cX8_isOpen 7 = .ok (.iconst 1, 1) := by decide +kernel
theorem dX8_isOpen_8 : decode cX8_isOpen 8 = .ok (.goto 4, 3) := by decide +kernel
theorem dX8_isOpen_11 : decode cX8_isOpen 11 = .ok (.iconst 0, 1) := by decide +kernel
theorem dX8_isOpen_12 : decode cX8_isOpen 12 = .ok (.ireturn, 1) := by decide +kernel
theorem dX8_cost_0 : decode cX8_cost 0 = .ok (.aload_n 0, 1) := by decide +kernel
theorem dX8_cost_1 : decode cX8_cost 1 = .ok (.getfield 24, 3) := by decide +kernel
theorem dX8_cost_4 : decode cX8_cost 4 = .ok (.aload_n 0, 1) := by decide +kernel
theorem dX8_cost_5 : decode cX8_cost 5 = .ok (.getfield 21, 3) := by decide +kernel
theorem dX8_cost_8 : decode cX8_cost 8 = .ok (.imul, 1) := by decide +kernel
theorem dX8_cost_9 : decode cX8_cost 9 = .ok (.ireturn, 1) := by decide +kernel
theorem dX8_earnings_0 : decode cX8_earnings 0 = .ok (.aload_n 0, 1) := by decide +kernel
theorem dX8_earnings_1 : decode cX8_earnings 1 = .ok (.getfield 24, 3) := by decide +kernel
theorem dX8_earnings_4 : decode cX8_earnings 4 = .ok (.aload_n 0, 1) := by decide +kernel
theorem dX8_earnings_5 : decode cX8_earnings 5 = .ok (.getfield 42, 3) := by decide +kernel
theorem dX8_earnings_8 : decode cX8_earnings 8 = .ok (.invokestatic 45, 3) := by decide +kernel
theorem dX8_earnings_11 : decode cX8_earnings 11 = .ok (.imul, 1) := by decide +kernel
theorem dX8_earnings_12 : decode cX8_earnings 12 = .ok (.ireturn, 1) := by decide +kernel
theorem dX8_amountToCome_0 : decode cX8_amountToCome 0 = .ok (.aload_n 0, 1) := by decide +kernel
theorem dX8_amountToCome_1 : decode cX8_amountToCome 1 = .ok (.getfield 24, 3) := by decide +kernel
theorem dX8_amountToCome_4 : decode cX8_amountToCome 4 = .ok (.aload_n 0, 1) := by decide +kernel
theorem dX8_amountToCome_5 : decode cX8_amountToCome 5 = .ok (.getfield 21, 3) := by decide +kernel
theorem dX8_amountToCome_8 : decode cX8_amountToCome 8 = .ok (.aload_n 0, 1) := by decide +kernel
theorem dX8_amountToCome_9 : decode cX8_amountToCome 9 = .ok (.getfield 39, 3) := by decide +kernel
theorem dX8_amountToCome_12 : decode cX8_amountToCome 12 = .ok (.isub, 1) := by decide +kernel
theorem dX8_amountToCome_13 : decode cX8_amountToCome 13 = .ok (.imul, 1) := by decide +kernel
theorem dX8_amountToCome_14 : decode cX8_amountToCome 14 = .ok (.ireturn, 1) := by decide +kernel
theorem dX8_secondOf_0 : decode cX8_secondOf 0 = .ok (.aload_n 0, 1) := by decide +kernel
theorem dX8_secondOf_1 : decode cX8_secondOf 1 = .ok (.getfield 30, 3) := by decide +kernel
theorem dX8_secondOf_4 : decode cX8_secondOf 4 = .ok (.aload_n 0, 1) := by decide +kernel
theorem dX8_secondOf_5 : decode cX8_secondOf 5 = .ok (.getfield 27, 3) := by decide +kernel
theorem dX8_secondOf_8 : decode cX8_secondOf 8 = .ok (.iload_n 1, 1) := by decide +kernel
theorem dX8_secondOf_9 : decode cX8_secondOf 9 = .ok (.imul, 1) := by decide +kernel
theorem dX8_secondOf_10 : decode cX8_secondOf 10 = .ok (.iadd, 1) := by decide +kernel
theorem dX8_secondOf_11 : decode cX8_secondOf 11 = .ok (.ireturn, 1) := by decide +kernel
theorem dX8_secondOfNext_0 : decode cX8_secondOfNext 0 = .ok (.aload_n 0, 1) := by decide +kernel
theorem dX8_secondOfNext_1 : decode cX8_secondOfNext 1 = .ok (.aload_n 0, 1) := by decide +kernel
theorem dX8_secondOfNext_2 : decode cX8_secondOfNext 2 = .ok (.getfield 39, 3) := by decide +kernel
theorem dX8_secondOfNext_5 : decode cX8_secondOfNext 5 = .ok (.iconst 1, 1) := by decide +kernel
theorem dX8_secondOfNext_6 : decode cX8_secondOfNext 6 = .ok (.iadd, 1) := by decide +kernel
theorem dX8_secondOfNext_7 : decode cX8_secondOfNext 7 = .ok (.invokevirtual 51, 3) := by decide +kernel
theorem dX8_secondOfNext_10 : decode cX8_secondOfNext 10 = .ok (.ireturn, 1) := by decide +kernel
theorem dX8_stateInTheEnd_0 : decode cX8_stateInTheEnd 0 = .ok (.aload_n 0, 1) := by decide +kernel
theorem dX8_stateInTheEnd_1 : decode cX8_stateInTheEnd 1 = .ok (.invokevirtual 54, 3) := by decide +kernel
theorem dX8_stateInTheEnd_4 : decode cX8_stateInTheEnd 4 = .ok (.ifCond .ne 8, 3) := by decide +kernel
theorem dX8_stateInTheEnd_7 : decode cX8_stateInTheEnd 7 = .ok (.aload_n 0, 1) := by decide +kernel
theorem dX8_stateInTheEnd_8 : decode cX8_stateInTheEnd 8 = .ok (.getfield 36, 3) := by decide +kernel
theorem dX8_stateInTheEnd_11 : decode cX8_stateInTheEnd 11 = .ok (.ireturn, 1) := by decide +kernel
theorem dX8_stateInTheEnd_12 : decode cX8_stateInTheEnd 12 = .ok (.aload_n 0, 1) := by decide +kernel
theorem dX8_stateInTheEnd_13 : decode cX8_stateInTheEnd 13 = .ok (.aload_n 0, 1) := by decide +kernel
theorem dX8_stateInTheEnd_14 : decode cX8_stateInTheEnd 14 = .ok (.getfield 21, 3) := by decide +kernel
theorem dX8_stateInTheEnd_17 : decode cX8_stateInTheEnd 17 = .ok (.invokevirtual 51, 3) := by decide +kernel
theorem dX8_stateInTheEnd_20 : decode cX8_stateInTheEnd 20 = .ok (.aload_n 0, 1) := by decide +kernel
theorem dX8_stateInTheEnd_21 : decode cX8_stateInTheEnd 21 = .ok (.getfield 33, 3) := by decide +kernel
theorem dX8_stateInTheEnd_24 : decode cX8_stateInTheEnd 24 = .ok (.if_icmp .gt 7, 3) := by decide +kernel
theorem dX8_stateInTheEnd_27 : decode cX8_stateInTheEnd 27 = .ok (.iconst 1, 1) := by decide +kernel
theorem dX8_stateInTheEnd_28 : decode cX8_stateInTheEnd 28 = .ok (.goto 4, 3) := by decide +kernel
theorem dX8_stateInTheEnd_31 : decode cX8_stateInTheEnd 31 = .ok (.iconst 2, 1) := by decide +kernel
theorem dX8_stateInTheEnd_32 : decode cX8_stateInTheEnd 32 = .ok (.ireturn, 1) := by decide +kernel
theorem dX9_init_0 : decode cX9_init 0 = .ok (.aload_n 0, 1) := by decide +kernel
theorem dX9_init_1 : decode cX9_init 1 = .ok (.invokespecial 3, 3) := by decide +kernel
theorem dX9_init_4 : decode cX9_init 4 = .ok (.aload_n 0, 1) := by decide +kernel
theorem dX9_init_5 : decode cX9_init 5 = .ok (.sipush 600, 3) := by decide +kernel
theorem dX9_init_8 : decode cX9_init 8 = .ok (.newarray .byte, 2) := by decide +kernel
theorem dX9_init_10 : decode cX9_init 10 = .ok (.putfield 9, 3) := by decide +kernel
theorem dX9_init_13 : decode cX9_init 13 = .ok (.aload_n 0, 1) := by decide +kernel
theorem dX9_init_14 : decode cX9_init 14 = .ok (.sipush 601, 3) := by decide +kernel
theorem dX9_init_17 : decode cX9_init 17 = .ok (.newarray .int, 2) := by decide +kernel
theorem dX9_init_19 : decode cX9_init 19 = .ok (.putfield 15, 3) := by decide +kernel
theorem dX9_init_22 : decode cX9_init 22 = .ok (.aload_n 0, 1) := by decide +kernel
theorem dX9_init_23 : decode cX9_init 23 = .ok (.sipush 601, 3) := by decide +kernel
theorem dX9_init_26 : decode cX9_init 26 = .ok (.newarray .int, 2) := by decide +kernel
theorem dX9_init_28 : decode cX9_init 28 = .ok (.putfield 19, 3) := by decide +kernel
theorem dX9_init_31 : decode cX9_init 31 = .ok (.aload_n 0, 1) := by decide +kernel
theorem dX9_init_32 : decode cX9_init 32 = .ok (.sipush 601, 3) := by decide +kernel
theorem dX9_init_35 : decode cX9_init 35 = .ok (.newarray .long, 2) := by decide +kernel
theorem dX9_init_37 : decode cX9_init 37 = .ok (.putfield 22, 3) := by decide +kernel
theorem dX9_init_40 : decode cX9_init 40 = .ok (.aload_n 0, 1) := by decide +kernel
theorem dX9_init_41 : decode cX9_init 41 = .ok (.iconst (-1), 1) := by decide +kernel
theorem dX9_init_42 : decode cX9_init 42 = .ok (.putfield 26, 3) := by decide +kernel
theorem dX9_init_45 : decode cX9_init 45 = .ok (.return_, 1) := by decide +kernel
theorem dX9_append_0 : decode cX9_append 0 = .ok (.bipush 24, 2) := by decide +kernel
theorem dX9_append_2 : decode cX9_append 2 = .ok (.istore_n 2, 1) := by decide +kernel
theorem dX9_append_3 : decode cX9_append 3 = .ok (.iload_n 2, 1) := by decide +kernel
theorem dX9_append_4 : decode cX9_append 4 = .ok (.ifCond .lt 42, 3) := by decide +kernel
theorem dX9_append_7 : decode cX9_append 7 = .ok (.aload_n 0, 1) := by decide +kernel
theorem dX9_append_8 : decode cX9_append 8 = .ok (.getfield 30, 3) := by decide +kernel
theorem dX9_append_11 : decode cX9_append 11 = .ok (.sipush 600, 3) := by decide +kernel
theorem dX9_append_14 : decode cX9_append 14 = .ok (.if_icmp .ge 32, 3) := by decide +kernel
theorem dX9_append_17 : decode cX9_append 17 = .ok (.aload_n 0, 1) := by decide +kernel
theorem dX9_append_18 : decode cX9_append 18 = .ok (.getfield 9, 3) := by decide +kernel
theorem dX9_append_21 : decode cX9_append 21 = .ok (.aload_n 0, 1) := by decide +kernel
theorem dX9_append_22 : decode cX9_append 22 = .ok (.getfield 30, 3) := by decide +kernel
theorem dX9_append_25 : decode cX9_append 25 = .ok (.iload_n 1, 1) := by decide +kernel
theorem dX9_append_26 : decode cX9_append 26 = .ok (.iload_n 2, 1) := by decide +kernel
theorem dX9_append_27 : decode cX9_append 27 = .ok (.iushr, 1) := by decide +kernel
theorem dX9_append_28 : decode cX9_append 28 = .ok (.i2b, 1) := by decide +kernel
theorem dX9_append_29 : decode cX9_append 29 = .ok (.bastore, 1) := by decide +kernel
theorem dX9_append_30 : decode cX9_append 30 = .ok (.aload_n 0, 1) := by decide +kernel
theorem dX9_append_31 : decode cX9_append 31 = .ok (.dup, 1) := by decide +kernel
theorem dX9_append_32 : decode cX9_append 32 = .ok (.getfield 30, 3) := by decide +kernel
theorem dX9_append_35 : decode cX9_append 35 = .ok (.iconst 1, 1) := by decide +kernel
theorem dX9_append_36 : decode cX9_append 36 = .ok (.iadd, 1) := by decide +kernel
theorem dX9_append_37 : decode cX9_append 37 = .ok (.putfield 30, 3) := by decide +kernel
theorem dX9_append_40 : decode cX9_append 40 = .ok (.iinc 2 (-8), 3) := by decide +kernel
theorem dX9_append_43 : decode cX9_append 43 = .ok (.goto (-40), 3) := by decide +kernel
theorem dX9_append_46 : decode cX9_append 46 = .ok (.return_, 1) := by decide +kernel
theorem dX9_wholeName_0 : decode cX9_wholeName 0 = .ok (.aload_n 0, 1) := by decide +kernel
theorem dX9_wholeName_1 : decode cX9_wholeName 1 = .ok (.iconst 0, 1) := by decide +kernel
theorem dX9_wholeName_2 : decode cX9_wholeName 2 = .ok (.aload_n 0, 1) := by decide +kernel
theorem dX9_wholeName_3 : decode cX9_wholeName 3 = .ok (.getfield 30, 3) := by decide +kernel
theorem dX9_wholeName_6 : decode cX9_wholeName 6 = .ok (.invokevirtual 33, 3) := by decide +kernel
theorem dX9_wholeName_9 : decode cX9_wholeName 9 = .ok (.lreturn, 1) := by decide +kernel
theorem dX9_nameIn_0 : decode cX9_nameIn 0 = .ok (.iload_n 2, 1) := by decide +kernel
theorem dX9_nameIn_1 : decode cX9_nameIn 1 = .ok (.iload_n 1, 1) := by decide +kernel
theorem dX9_nameIn_2 : decode cX9_nameIn 2 = .ok (.isub, 1) := by decide +kernel
theorem dX9_nameIn_3 : decode cX9_nameIn 3 = .ok (.iconst 1, 1) := by decide +kernel
theorem dX9_nameIn_4 : decode cX9_nameIn 4 = .ok (.bipush 8, 2) := by decide +kernel
theorem dX9_nameIn_6 : decode cX9_nameIn 6 = .ok (.invokestatic 37, 3) := by decide +kernel
theorem dX9_nameIn_9 : decode cX9_nameIn 9 = .ok (.ifCond .ne 5, 3) := by decide +kernel
theorem dX9_nameIn_12 : decode cX9_nameIn 12 = .ok (.lconst 0, 1) := by decide +kernel
theorem dX9_nameIn_13 : decode cX9_nameIn 13 = .ok (.lreturn, 1) := by decide +kernel
theorem dX9_nameIn_14 : decode cX9_nameIn 14 = .ok (.lconst 0, 1) := by decide +kernel
theorem dX9_nameIn_15 : decode cX9_nameIn 15 = .ok (.lstore_n 3, 1) := by decide +kernel
theorem dX9_nameIn_16 : decode cX9_nameIn 16 = .ok (.iload_n 1, 1) := by decide +kernel
theorem dX9_nameIn_17 : decode cX9_nameIn 17 = .ok (.istore 5, 2) := by decide +kernel
theorem dX9_nameIn_19 : decode cX9_nameIn 19 = .ok (.iload 5, 2) := by decide +kernel
theorem dX9_nameIn_21 : decode cX9_nameIn 21 = .ok (.iload_n 2, 1) := by decide +kernel
theorem dX9_nameIn_22 : decode cX9_nameIn 22 = .ok (.if_icmp .ge 38, 3) := by decide +kernel
theorem dX9_nameIn_25 : decode cX9_nameIn 25 = .ok (.aload_n 0, 1) := by decide +kernel
theorem dX9_nameIn_26 : decode cX9_nameIn 26 = .ok (.getfield 9, 3) := by decide +kernel
theorem dX9_nameIn_29 : decode cX9_nameIn 29 = .ok (.iload 5, 2) := by decide +kernel
theorem dX9_nameIn_31 : decode cX9_nameIn 31 = .ok (.baload, 1) := by decide +kernel
theorem dX9_nameIn_32 : decode cX9_nameIn 32 = .ok (.invokestatic 41, 3) := by decide +kernel
theorem dX9_nameIn_35 : decode cX9_nameIn 35 = .ok (.ifCond .ne 5, 3) := by decide +kernel
theorem dX9_nameIn_38 : decode cX9_nameIn 38 = .ok (.lconst 0, 1) := by decide +kernel
theorem dX9_nameIn_39 : decode cX9_nameIn 39 = .ok (.lreturn, 1) := by decide +kernel
theorem dX9_nameIn_40 : decode cX9_nameIn 40 = .ok (.lload_n 3, 1) := by decide +kernel
theorem dX9_nameIn_41 : decode cX9_nameIn 41 = .ok (.bipush 8, 2) := by decide +kernel
theorem dX9_nameIn_43 : decode cX9_nameIn 43 = .ok (.lshl, 1) := by decide +kernel
theorem dX9_nameIn_44 : decode cX9_nameIn 44 = .ok (.aload_n 0, 1) := by decide +kernel
theorem dX9_nameIn_45 : decode cX9_nameIn 45 = .ok (.getfield 9, 3) := by decide +kernel
theorem dX9_nameIn_48 : decode cX9_nameIn 48 = .ok (.iload 5, 2) := by decide +kernel
theorem dX9_nameIn_50 : decode cX9_nameIn 50 = .ok (.baload, 1) := by decide +kernel
theorem dX9_nameIn_51 : decode cX9_nameIn 51 = .ok (.i2l, 1) := by decide +kernel
theorem dX9_nameIn_52 : decode cX9_nameIn 52 = .ok (.lor, 1) := by decide +kernel
theorem dX9_nameIn_53 : decode cX9_nameIn 53 = .ok (.lstore_n 3, 1) := by decide +kernel
theorem dX9_nameIn_54 : decode cX9_nameIn 54 = .ok (.iinc 5 1, 3) := by decide +kernel
theorem dX9_nameIn_57 : decode cX9_nameIn 57 = .ok (.goto (-38), 3) := by decide +kernel
theorem dX9_nameIn_60 : decode cX9_nameIn 60 = .ok (.lload_n 3, 1) := by decide +kernel
theorem dX9_nameIn_61 : decode cX9_nameIn 61 = .ok (.bipush 8, 2) := by decide +kernel
theorem dX9_nameIn_63 : decode cX9_nameIn 63 = .ok (.bipush 8, 2) := by decide +kernel
theorem dX9_nameIn_65 : decode cX9_nameIn 65 = .ok (.iload_n 2, 1) := by decide +kernel
theorem dX9_nameIn_66 : decode cX9_nameIn 66 = .ok (.isub, 1) := by decide +kernel
theorem dX9_nameIn_67 : decode cX9_nameIn 67 = .ok (.iload_n 1, 1) := by decide +kernel
theorem dX9_nameIn_68 : decode cX9_nameIn 68 = .ok (.iadd, 1) := by decide +kernel
theorem dX9_nameIn_69 : decode cX9_nameIn 69 = .ok (.imul, 1) := by decide +kernel
theorem dX9_nameIn_70 : decode cX9_nameIn 70 = .ok (.lshl, 1) := by decide +kernel
theorem dX9_nameIn_71 : decode cX9_nameIn 71 = .ok (.lreturn, 1) := by decide +kernel
theorem dX9_open_0 : decode cX9_open 0 = .ok (.aload_n 0, 1) := by decide +kernel
theorem dX9_open_1 : decode cX9_open 1 = .ok (.iconst 0, 1) := by decide +kernel
theorem dX9_open_2 : decode cX9_open 2 = .ok (.invokevirtual 45, 3) := by decide +kernel
theorem dX9_open_5 : decode cX9_open 5 = .ok (.istore_n 1, 1) := by decide +kernel
theorem dX9_open_6 : decode cX9_open 6 = .ok (.aload_n 0, 1) := by decide +kernel
theorem dX9_open_7 : decode cX9_open 7 = .ok (.iconst 0, 1) := by decide +kernel
theorem dX9_open_8 : decode cX9_open 8 = .ok (.putfield 49, 3) := by decide +kernel
theorem dX9_open_11 : decode cX9_open 11 = .ok (.iconst 0, 1) := by decide +kernel
theorem dX9_open_12 : decode cX9_open 12 = .ok (.istore_n 2, 1) := by decide +kernel
theorem dX9_open_13 : decode cX9_open 13 = .ok (.iload_n 2, 1) := by decide +kernel
theorem dX9_open_14 : decode cX9_open 14 = .ok (.sipush 600, 3) := by decide +kernel
theorem dX9_open_17 : decode cX9_open 17 = .ok (.if_icmp .ge 47, 3) := by decide +kernel
theorem dX9_open_20 : decode cX9_open 20 = .ok (.iload_n 1, 1) := by decide +kernel
theorem dX9_open_21 : decode cX9_open 21 = .ok (.aload_n 0, 1) := by decide +kernel
theorem dX9_open_22 : decode cX9_open 22 = .ok (.getfield 30, 3) := by decide +kernel
theorem dX9_open_25 : decode cX9_open 25 = .ok (.if_icmp .ge 39, 3) := by decide +kernel
theorem dX9_open_28 : decode cX9_open 28 = .ok (.aload_n 0, 1) := by decide +kernel
theorem dX9_open_29 : decode cX9_open 29 = .ok (.getfield 19, 3) := by decide +kernel
theorem dX9_open_32 : decode cX9_open 32 = .ok (.aload_n 0, 1) := by decide +kernel
theorem dX9_open_33 : decode cX9_open 33 = .ok (.getfield 49, 3) := by decide +kernel
theorem dX9_open_36 : decode cX9_open 36 = .ok (.iload_n 1, 1) := by decide +kernel
theorem dX9_open_37 : decode cX9_open 37 = .ok (.iastore, 1) := by decide +kernel
theorem dX9_open_38 : decode cX9_open 38 = .ok (.aload_n 0, 1) := by decide +kernel
theorem dX9_open_39 : decode cX9_open 39 = .ok (.aload_n 0, 1) := by decide +kernel
theorem dX9_open_40 : decode cX9_open 40 = .ok (.iload_n 1, 1) := by decide +kernel
theorem dX9_open_41 : decode cX9_open 41 = .ok (.invokevirtual 52, 3) := by decide +kernel
theorem dX9_open_44 : decode cX9_open 44 = .ok (.invokevirtual 45, 3) := by decide +kernel
theorem dX9_open_47 : decode cX9_open 47 = .ok (.istore_n 1, 1) := by decide +kernel
theorem dX9_open_48 : decode cX9_open 48 = .ok (.aload_n 0, 1) := by decide +kernel
theorem dX9_open_49 : decode cX9_open 49 = .ok (.dup, 1) := by decide +kernel
theorem dX9_open_50 : decode cX9_open 50 = .ok (.getfield 49, 3) := by decide +kernel
theorem dX9_open_53 : decode cX9_open 53 = .ok (.iconst 1, 1) := by decide +kernel
theorem dX9_open_54 : decode cX9_open 54 = .ok (.iadd, 1) := by decide +kernel
theorem dX9_open_55 : decode cX9_open 55 = .ok (.putfield 49, 3) := by decide +kernel
theorem dX9_open_58 : decode cX9_open 58 = .ok (.iinc 2 1, 3) := by decide +kernel
theorem dX9_open_61 : decode cX9_open 61 = .ok (.goto (-48), 3) := by decide +kernel
theorem dX9_open_64 : decode cX9_open 64 = .ok (.aload_n 0, 1) := by decide +kernel
theorem dX9_open_65 : decode cX9_open 65 = .ok (.getfield 15, 3) := by decide +kernel
theorem dX9_open_68 : decode cX9_open 68 = .ok (.aload_n 0, 1) := by decide +kernel
theorem dX9_open_69 : decode cX9_open 69 = .ok (.getfield 49, 3) := by decide +kernel
theorem dX9_open_72 : decode cX9_open 72 = .ok (.iconst 0, 1) := by decide +kernel
theorem dX9_open_73 : decode cX9_open 73 = .ok (.iastore, 1) := by decide +kernel
theorem dX9_open_74 : decode cX9_open 74 = .ok (.aload_n 0, 1) := by decide +kernel
theorem dX9_open_75 : decode cX9_open 75 = .ok (.getfield 19, 3) := by decide +kernel
theorem dX9_open_78 : decode cX9_open 78 = .ok (.aload_n 0, 1) := by decide +kernel
theorem dX9_open_79 : decode cX9_open 79 = .ok (.getfield 49, 3) := by decide +kernel
theorem dX9_open_82 : decode cX9_open 82 = .ok (.aload_n 0, 1) := by decide +kernel
theorem dX9_open_83 : decode cX9_open 83 = .ok (.getfield 30, 3) := by decide +kernel
theorem dX9_open_86 : decode cX9_open 86 = .ok (.iastore, 1) := by decide +kernel
theorem dX9_open_87 : decode cX9_open 87 = .ok (.aload_n 0, 1) := by decide +kernel
theorem dX9_open_88 : decode cX9_open 88 = .ok (.iconst 0, 1) := by decide +kernel
theorem dX9_open_89 : decode cX9_open 89 = .ok (.putfield 55, 3) := by decide +kernel
theorem dX9_open_92 : decode cX9_open 92 = .ok (.aload_n 0, 1) := by decide +kernel
theorem dX9_open_93 : decode cX9_open 93 = .ok (.iconst 0, 1) := by decide +kernel
theorem dX9_open_94 : decode cX9_open 94 = .ok (.putfield 58, 3) := by decide +kernel
theorem dX9_open_97 : decode cX9_open 97 = .ok (.aload_n 0, 1) := by decide +kernel
theorem dX9_open_98 : decode cX9_open 98 = .ok (.iconst (-1), 1) := by decide +kernel
theorem dX9_open_99 : decode cX9_open 99 = .ok (.putfield 26, 3) := by decide +kernel
theorem dX9_open_102 : decode cX9_open 102 = .ok (.return_, 1) := by decide +kernel
theorem dX9_behindSpaces_0 : decode cX9_behindSpaces 0 = .ok (.iload_n 1, 1) := by decide +kernel
theorem dX9_behindSpaces_1 : decode cX9_behindSpaces 1 = .ok (.istore_n 2, 1) := by decide +kernel
theorem dX9_behindSpaces_2 : decode cX9_behindSpaces 2 = .ok (.iload_n 2, 1) := by decide +kernel
theorem dX9_behindSpaces_3 : decode cX9_behindSpaces 3 = .ok (.aload_n 0, 1) := by decide +kernel
theorem dX9_behindSpaces_4 : decode cX9_behindSpaces 4 = .ok (.getfield 30, 3) := by decide +kernel
theorem dX9_behindSpaces_7 : decode cX9_behindSpaces 7 = .ok (.if_icmp .ge 31, 3) := by decide +kernel
theorem dX9_behindSpaces_10 : decode cX9_behindSpaces 10 = .ok (.aload_n 0, 1) := by decide +kernel
theorem dX9_behindSpaces_11 : decode cX9_behindSpaces 11 = .ok (.getfield 9, 3) := by decide +kernel
theorem dX9_behindSpaces_14 : decode cX9_behindSpaces 14 = .ok (.iload_n 2, 1) := by decide +kernel
theorem dX9_behindSpaces_15 : decode cX9_behindSpaces 15 = .ok (.baload, 1) := by decide +kernel
theorem dX9_behindSpaces_16 : decode cX9_behindSpaces 16 = .ok (.bipush 32, 2) := by decide +kernel
theorem dX9_behindSpaces_18 : decode cX9_behindSpaces 18 = .ok (.if_icmp .eq 14, 3) := by decide +kernel
theorem dX9_behindSpaces_21 : decode cX9_behindSpaces 21 = .ok (.aload_n 0, 1) := by decide +kernel
theorem dX9_behindSpaces_22 : decode cX9_behindSpaces 22 = .ok (.getfield 9, 3) := by decide +kernel
theorem dX9_behindSpaces_25 : decode cX9_behindSpaces 25 = .ok (.iload_n 2, 1) := by decide +kernel
theorem dX9_behindSpaces_26 : decode cX9_behindSpaces 26 = .ok (.baload, 1) := by decide +kernel
theorem dX9_behindSpaces_27 : decode cX9_behindSpaces 27 = .ok (.bipush 10, 2) := by decide +kernel
theorem dX9_behindSpaces_29 : decode cX9_behindSpaces 29 = .ok (.if_icmp .ne 9, 3) := by decide +kernel
theorem dX9_behindSpaces_32 : decode cX9_behindSpaces 32 = .ok (.iinc 2 1, 3) := by decide +kernel
theorem dX9_behindSpaces_35 : decode cX9_behindSpaces 35 = .ok (.goto (-33), 3) := by decide +kernel
theorem dX9_behindSpaces_38 : decode cX9_behindSpaces 38 = .ok (.iload_n 2, 1) := by decide +kernel
theorem dX9_behindSpaces_39 : decode cX9_behindSpaces 39 = .ok (.ireturn, 1) := by decide +kernel
theorem dX9_behindToken_0 : decode cX9_behindToken 0 = .ok (.aload_n 0, 1) := by decide +kernel
theorem dX9_behindToken_1 : decode cX9_behindToken 1 = .ok (.getfield 9, 3) := by decide +kernel
theorem dX9_behindToken_4 : decode cX9_behindToken 4 = .ok (.iload_n 1, 1) := by decide +kernel
theorem dX9_behindToken_5 : decode cX9_behindToken 5 = .ok (.baload, 1) := by decide +kernel
theorem dX9_behindToken_6 : decode cX9_behindToken 6 = .ok (.istore_n 2, 1) := by decide +kernel
theorem dX9_behindToken_7 : decode cX9_behindToken 7 = .ok (.iload_n 2, 1) := by decide +kernel
theorem dX9_behindToken_8 : decode cX9_behindToken 8 = .ok (.invokestatic 41, 3) := by decide +kernel
theorem dX9_behindToken_11 : decode cX9_behindToken 11 = .ok (.ifCond .eq 9, 3) := by decide +kernel
theorem dX9_behindToken_14 : decode cX9_behindToken 14 = .ok (.aload_n 0, 1) := by decide +kernel
theorem dX9_behindToken_15 : decode cX9_behindToken 15 = .ok (.iload_n 1, 1) := by decide +kernel
theorem dX9_behindToken_16 : decode cX9_behindToken 16 = .ok (.invokevirtual 61, 3) := by decide +kernel
theorem dX9_behindToken_19 : decode cX9_behindToken 19 = .ok (.ireturn, 1) := by decide +kernel
theorem dX9_behindToken_20 : decode cX9_behindToken 20 = .ok (.iload_n 2, 1) := by decide +kernel
theorem dX9_behindToken_21 : decode cX9_behindToken 21 = .ok (.invokestatic 64, 3) := by decide +kernel
theorem dX9_behindToken_24 : decode cX9_behindToken 24 = .ok (.ifCond .eq 9, 3) := by decide +kernel
theorem dX9_behindToken_27 : decode cX9_behindToken 27 = .ok (.aload_n 0, 1) := by decide +kernel
theorem dX9_behindToken_28 : decode cX9_behindToken 28 = .ok (.iload_n 1, 1) := by decide +kernel
theorem dX9_behindToken_29 : decode cX9_behindToken 29 = .ok (.invokevirtual 67, 3) := by decide +kernel
theorem dX9_behindToken_32 : decode cX9_behindToken 32 = .ok (.ireturn, 1) := by decide +kernel
theorem dX9_behindToken_33 : decode cX9_behindToken 33 = .ok (.aload_n 0, 1) := by decide +kernel
theorem dX9_behindToken_34 : decode cX9_behindToken 34 = .ok (.getfield 15, 3) := by decide +kernel
theorem dX9_behindToken_37 : decode cX9_behindToken 37 = .ok (.aload_n 0, 1) := by decide +kernel
theorem dX9_behindToken_38 : decode cX9_behindToken 38 = .ok (.getfield 49, 3) := by decide +kernel
theorem dX9_behindToken_41 : decode cX9_behindToken 41 = .ok (.iload_n 2, 1) := by decide +kernel
theorem dX9_behindToken_42 : decode cX9_behindToken 42 = .ok (.bipush 59, 2) := by decide +kernel
theorem dX9_behindToken_44 : decode cX9_behindToken 44 = .ok (.if_icmp .eq 15, 3) := by decide +kernel
theorem dX9_behindToken_47 : decode cX9_behindToken 47 = .ok (.iload_n 2, 1) := by decide +kernel
theorem dX9_behindToken_48 : decode cX9_behindToken 48 = .ok (.bipush 40, 2) := by decide +kernel
theorem dX9_behindToken_50 : decode cX9_behindToken 50 = .ok (.if_icmp .eq 9, 3) := by decide +kernel
theorem dX9_behindToken_53 : decode cX9_behindToken 53 = .ok (.iload_n 2, 1) := by decide +kernel
theorem dX9_behindToken_54 : decode cX9_behindToken 54 = .ok (.bipush 41, 2) := by decide +kernel
theorem dX9_behindToken_56 : decode cX9_behindToken 56 = .ok (.if_icmp .ne 7, 3) := by decide +kernel
theorem dX9_behindToken_59 : decode cX9_behindToken 59 = .ok (.iconst 3, 1) := by decide +kernel
theorem dX9_behindToken_60 : decode cX9_behindToken 60 = .ok (.goto 4, 3) := by decide +kernel
theorem dX9_behindToken_63 : decode cX9_behindToken 63 = .ok (.iconst 4, 1) := by decide +kernel
theorem dX9_behindToken_64 : decode cX9_behindToken 64 = .ok (.iastore, 1) := by decide +kernel
theorem dX9_behindToken_65 : decode cX9_behindToken 65 = .ok (.aload_n 0, 1) := by decide +kernel
theorem dX9_behindToken_66 : decode cX9_behindToken 66 = .ok (.getfield 22, 3) := by decide +kernel
theorem dX9_behindToken_69 : decode cX9_behindToken 69 = .ok (.aload_n 0, 1) := by decide +kernel
theorem dX9_behindToken_70 : decode cX9_behindToken 70 = .ok (.getfield 49, 3) := by decide +kernel
theorem dX9_behindToken_73 : decode cX9_behindToken 73 = .ok (.iload_n 2, 1) := by decide +kernel
theorem dX9_behindToken_74 : decode cX9_behindToken 74 = .ok (.i2l, 1) := by decide +kernel
theorem dX9_behindToken_75 : decode cX9_behindToken 75 = .ok (.lastore, 1) := by decide +kernel
theorem dX9_behindToken_76 : decode cX9_behindToken 76 = .ok (.iload_n 1, 1) := by decide +kernel
theorem dX9_behindToken_77 : decode cX9_behindToken 77 = .ok (.iconst 1, 1) := by decide +kernel
theorem dX9_behindToken_78 : decode cX9_behindToken 78 = .ok (.iadd, 1) := by decide +kernel
theorem dX9_behindToken_79 : decode cX9_behindToken 79 = .ok (.ireturn, 1) := by decide +kernel
theorem dX9_behindWord_0 : decode cX9_behindWord 0 = .ok (.iload_n 1, 1) := by decide +kernel
theorem dX9_behindWord_1 : decode cX9_behindWord 1 = .ok (.istore_n 2, 1) := by decide +kernel
theorem dX9_behindWord_2 : decode cX9_behindWord 2 = .ok (.iload_n 2, 1) := by decide +kernel
theorem dX9_behindWord_3 : decode cX9_behindWord 3 = .ok (.aload_n 0, 1) := by decide +kernel
theorem dX9_behindWord_4 : decode cX9_behindWord 4 = .ok (.getfield 30, 3) := by decide +kernel
theorem dX9_behindWord_7 : decode cX9_behindWord 7 = .ok (.if_icmp .ge 21, 3) := by decide +kernel
theorem dX9_behindWord_10 : decode cX9_behindWord 10 = .ok (.aload_n 0, 1) := by decide +kernel
theorem dX9_behindWord_11 : decode cX9_behindWord 11 = .ok (.getfield 9, 3) := by decide +kernel
theorem dX9_behindWord_14 : decode cX9_behindWord 14 = .ok (.iload_n 2, 1) := by decide +kernel
theorem dX9_behindWord_15 : decode cX9_behindWord 15 = .ok (.baload, 1) := by decide +kernel
theorem dX9_behindWord_16 : decode cX9_behindWord 16 = .ok (.invokestatic 41, 3) := by decide +kernel
theorem dX9_behindWord_19 : decode cX9_behindWord 19 = .ok (.ifCond .eq 9, 3) := by decide +kernel
theorem dX9_behindWord_22 : decode cX9_behindWord 22 = .ok (.iinc 2 1, 3) := by decide +kernel
theorem dX9_behindWord_25 : decode cX9_behindWord 25 = .ok (.goto (-23), 3) := by decide +kernel
theorem dX9_behindWord_28 : decode cX9_behindWord 28 = .ok (.aload_n 0, 1) := by decide +kernel
theorem dX9_behindWord_29 : decode cX9_behindWord 29 = .ok (.getfield 22, 3) := by decide +kernel
theorem dX9_behindWord_32 : decode cX9_behindWord 32 = .ok (.aload_n 0, 1) := by decide +kernel
theorem dX9_behindWord_33 : decode cX9_behindWord 33 = .ok (.getfield 49, 3) := by decide +kernel
theorem dX9_behindWord_36 : decode cX9_behindWord 36 = .ok (.aload_n 0, 1) := by decide +kernel
theorem dX9_behindWord_37 : decode cX9_behindWord 37 = .ok (.iload_n 1, 1) := by decide +kernel
theorem dX9_behindWord_38 : decode cX9_behindWord 38 = .ok (.iload_n 2, 1) := by decide +kernel
theorem dX9_behindWord_39 : decode cX9_behindWord 39 = .ok (.invokevirtual 33, 3) := by decide +kernel
theorem dX9_behindWord_42 : decode cX9_behindWord 42 = .ok (.lastore, 1) := by decide +kernel
theorem dX9_behindWord_43 : decode cX9_behindWord 43 = .ok (.aload_n 0, 1) := by decide +kernel
theorem dX9_behindWord_44 : decode cX9_behindWord 44 = .ok (.getfield 15, 3) := by decide +kernel
theorem dX9_behindWord_47 : decode cX9_behindWord 47 = .ok (.aload_n 0, 1) := by decide +kernel
theorem dX9_behindWord_48 : decode cX9_behindWord 48 = .ok (.getfield 49, 3) := by decide +kernel
theorem dX9_behindWord_51 : decode cX9_behindWord 51 = .ok (.iload_n 2, 1) := by decide +kernel
theorem dX9_behindWord_52 : decode cX9_behindWord 52 = .ok (.iload_n 1, 1) := by decide +kernel
theorem dX9_behindWord_53 : decode cX9_behindWord 53 = .ok (.isub, 1) := by decide +kernel
theorem dX9_behindWord_54 : decode cX9_behindWord 54 = .ok (.bipush 8, 2) := by decide +kernel
theorem dX9_behindWord_56 : decode cX9_behindWord 56 = .ok (.if_icmp .le 7, 3) := by decide +kernel
theorem dX9_behindWord_59 : decode cX9_behindWord 59 = .ok (.iconst 4, 1) := by decide +kernel
theorem dX9_behindWord_60 : decode cX9_behindWord 60 = .ok (.goto 4, 3) := by decide +kernel
theorem dX9_behindWord_63 : decode cX9_behindWord 63 = .ok (.iconst 1, 1) := by decide +kernel
theorem dX9_behindWord_64 : decode cX9_behindWord 64 = .ok (.iastore, 1) := by decide +kernel
theorem dX9_behindWord_65 : decode cX9_behindWord 65 = .ok (.iload_n 2, 1) := by decide +kernel
theorem dX9_behindWord_66 : decode cX9_behindWord 66 = .ok (.ireturn, 1) := by decide +kernel
theorem dX9_behindNumber_0 : decode cX9_behindNumber 0 = .ok (.iload_n 1, 1) := by decide +kernel
theorem dX9_behindNumber_1 : decode cX9_behindNumber 1 = .ok (.istore_n 2, 1) := by decide +kernel
theorem dX9_behindNumber_2 : decode cX9_behindNumber 2 = .ok (.lconst 0, 1) := by decide +kernel
theorem dX9_behindNumber_3 : decode cX9_behindNumber 3 = .ok (.lstore_n 3, 1) := by decide +kernel
theorem dX9_behindNumber_4 : decode cX9_behindNumber 4 = .ok (.iload_n 2, 1) := by decide +kernel
theorem dX9_behindNumber_5 : decode cX9_behindNumber 5 = .ok (.aload_n 0, 1) := by decide +kernel
theorem dX9_behindNumber_6 : decode cX9_behindNumber 6 = .ok (.getfield 30, 3) := by decide +kernel
theorem dX9_behindNumber_9 : decode cX9_behindNumber 9 = .ok (.if_icmp .ge 39, 3) := by decide +kernel
theorem dX9_behindNumber_12 : decode cX9_behindNumber 12 = .ok (.aload_n 0, 1) := by decide +kernel
theorem dX9_behindNumber_13 : decode cX9_behindNumber 13 = .ok (.getfield 9, 3) := by decide +kernel
theorem dX9_behindNumber_16 : decode cX9_behindNumber 16 = .ok (.iload_n 2, 1) := by decide +kernel
theorem dX9_behindNumber_17 : decode cX9_behindNumber 17 = .ok (.baload, 1) := by decide +kernel
theorem dX9_behindNumber_18 : decode cX9_behindNumber 18 = .ok (.invokestatic 64, 3) := by decide +kernel
theorem dX9_behindNumber_21 : decode cX9_behindNumber 21 = .ok (.ifCond .eq 27, 3) := by decide +kernel
theorem dX9_behindNumber_24 : decode cX9_behindNumber 24 = .ok (.lload_n 3, 1) := by decide +kernel
theorem dX9_behindNumber_25 : decode cX9_behindNumber 25 = .ok (.ldc2_w 70, 3) := by decide +kernel
theorem dX9_behindNumber_28 : decode cX9_behindNumber 28 = .ok (.lmul, 1) := by decide +kernel
theorem dX9_behindNumber_29 : decode cX9_behindNumber 29 = .ok (.aload_n 0, 1) := by decide +kernel
theorem dX9_behindNumber_30 : decode cX9_behindNumber 30 = .ok (.getfield 9, 3) := by decide +kernel
theorem dX9_behindNumber_33 : decode cX9_behindNumber 33 = .ok (.iload_n 2, 1) := by decide +kernel
theorem dX9_behindNumber_34 : decode cX9_behindNumber 34 = .ok (.baload, 1) := by decide +kernel
theorem dX9_behindNumber_35 : decode cX9_behindNumber 35 = .ok (.i2l, 1) := by decide +kernel
theorem dX9_behindNumber_36 : decode cX9_behindNumber 36 = .ok (.ladd, 1) := by decide +kernel
theorem dX9_behindNumber_37 : decode cX9_behindNumber 37 = .ok (.ldc2_w 72, 3) := by decide +kernel
theorem dX9_behindNumber_40 : decode cX9_behindNumber 40 = .ok (.lsub, 1) := by decide +kernel
theorem dX9_behindNumber_41 : decode cX9_behindNumber 41 = .ok (.lstore_n 3, 1) := by decide +kernel
theorem dX9_behindNumber_42 : decode cX9_behindNumber 42 = .ok (.iinc 2 1, 3) := by decide +kernel
theorem dX9_behindNumber_45 : decode cX9_behindNumber 45 = .ok (.goto (-41), 3) := by decide +kernel
theorem dX9_behindNumber_48 : decode cX9_behindNumber 48 = .ok (.aload_n 0, 1) := by decide +kernel
theorem dX9_behindNumber_49 : decode cX9_behindNumber 49 = .ok (.getfield 22, 3) := by decide +kernel
theorem dX9_behindNumber_52 : decode cX9_behindNumber 52 = .ok (.aload_n 0, 1) := by decide +kernel
theorem dX9_behindNumber_53 : decode cX9_behindNumber 53 = .ok (.getfield 49, 3) := by decide +kernel
theorem dX9_behindNumber_56 : decode cX9_behindNumber 56 = .ok (.lload_n 3, 1) := by decide +kernel
theorem dX9_behindNumber_57 : decode cX9_behindNumber 57 = .ok (.lastore, 1) := by decide +kernel
theorem dX9_behindNumber_58 : decode cX9_behindNumber 58 = .ok (.aload_n 0, 1) := by decide +kernel
theorem dX9_behindNumber_59 : decode cX9_behindNumber 59 = .ok (.getfield 15, 3) := by decide +kernel
theorem dX9_behindNumber_62 : decode cX9_behindNumber 62 = .ok (.aload_n 0, 1) := by decide +kernel
theorem dX9_behindNumber_63 : decode cX9_behindNumber 63 = .ok (.getfield 49, 3) := by decide +kernel
theorem dX9_behindNumber_66 : decode cX9_behindNumber 66 = .ok (.iload_n 2, 1) := by decide +kernel
theorem dX9_behindNumber_67 : decode cX9_behindNumber 67 = .ok (.iload_n 1, 1) := by decide +kernel
theorem dX9_behindNumber_68 : decode cX9_behindNumber 68 = .ok (.isub, 1) := by decide +kernel
theorem dX9_behindNumber_69 : decode cX9_behindNumber 69 = .ok (.iconst 4, 1) := by decide +kernel
theorem dX9_behindNumber_70 : decode cX9_behindNumber 70 = .ok (.if_icmp .le 7, 3) := by decide +kernel
theorem dX9_behindNumber_73 : decode cX9_behindNumber 73 = .ok (.iconst 4, 1) := by decide +kernel
theorem dX9_behindNumber_74 : decode cX9_behindNumber 74 = .ok (.goto 4, 3) := by decide +kernel
theorem dX9_behindNumber_77 : decode cX9_behindNumber 77 = .ok (.iconst 2, 1) := by decide +kernel
theorem dX9_behindNumber_78 : decode cX9_behindNumber 78 = .ok (.iastore, 1) := by decide +kernel
theorem dX9_behindNumber_79 : decode cX9_behindNumber 79 = .ok (.iload_n 2, 1) := by decide +kernel
theorem dX9_behindNumber_80 : decode cX9_behindNumber 80 = .ok (.ireturn, 1) := by decide +kernel
theorem dX9_hasFailed_0 : decode cX9_hasFailed 0 = .ok (.aload_n 0, 1) := by decide +kernel
theorem dX9_hasFailed_1 : decode cX9_hasFailed 1 = .ok (.getfield 58, 3) := by decide +kernel
theorem dX9_hasFailed_4 : decode cX9_hasFailed 4 = .ok (.ifCond .eq 7, 3) := by decide +kernel
theorem dX9_hasFailed_7 : decode cX9_hasFailed 7 = .ok (.iconst 1, 1) := by decide +kernel
theorem dX9_hasFailed_8 : decode cX9_hasFailed 8 = .ok (.goto 4, 3) := by decide +kernel
theorem dX9_hasFailed_11 : decode cX9_hasFailed 11 = .ok (.iconst 0, 1) := by decide +kernel
theorem dX9_hasFailed_12 : decode cX9_hasFailed 12 = .ok (.ireturn, 1) := by decide +kernel
theorem dX9_hasMore_0 : decode cX9_hasMore 0 = .ok (.aload_n 0, 1) := by decide +kernel
theorem dX9_hasMore_1 : decode cX9_hasMore 1 = .ok (.getfield 58, 3) := by decide +kernel
theorem dX9_hasMore_4 : decode cX9_hasMore 4 = .ok (.ifCond .ne 19, 3) := by decide +kernel
theorem dX9_hasMore_7 : decode cX9_hasMore 7 = .ok (.aload_n 0, 1) := by decide +kernel
theorem dX9_hasMore_8 : decode cX9_hasMore 8 = .ok (.getfield 15, 3) := by decide +kernel
theorem dX9_hasMore_11 : decode cX9_hasMore 11 = .ok (.aload_n 0, 1) := by decide +kernel
theorem dX9_hasMore_12 : decode cX9_hasMore 12 = .ok (.getfield 55, 3) := by decide +kernel
theorem dX9_hasMore_15 : decode cX9_hasMore 15 = .ok (.iaload, 1) := by decide +kernel
theorem dX9_hasMore_16 : decode cX9_hasMore 16 = .ok (.ifCond .eq 7, 3) := by decide +kernel
theorem dX9_hasMore_19 : decode cX9_hasMore 19 = .ok (.iconst 1, 1) := by decide +kernel
theorem dX9_hasMore_20 : decode cX9_hasMore 20 = .ok (.goto 4, 3) := by decide +kernel
theorem dX9_hasMore_23 : decode cX9_hasMore 23 = .ok (.iconst 0, 1) := by decide +kernel
theorem dX9_hasMore_24 : decode cX9_hasMore 24 = .ok (.ireturn, 1) := by decide +kernel
theorem dX9_isSign_0 : decode cX9_isSign 0 = .ok (.aload_n 0, 1) := by decide +kernel
theorem dX9_isSign_1 : decode cX9_isSign 1 = .ok (.getfield 15, 3) := by decide +kernel
theorem dX9_isSign_4 : decode cX9_isSign 4 = .ok (.aload_n 0, 1) := by decide +kernel
theorem dX9_isSign_5 : decode cX9_isSign 5 = .ok (.getfield 55, 3) := by decide +kernel
theorem dX9_isSign_8 : decode cX9_isSign 8 = .ok (.iaload, 1) := by decide +kernel
theorem dX9_isSign_9 : decode cX9_isSign 9 = .ok (.iconst 3, 1) := by decide +kernel
theorem dX9_isSign_10 : decode cX9_isSign 10 = .ok (.if_icmp .ne 22, 3) := by decide +kernel
theorem dX9_isSign_13 : decode cX9_isSign 13 = .ok (.aload_n 0, 1) := by decide +kernel
theorem dX9_isSign_14 : decode cX9_isSign 14 = .ok (.getfield 22, 3) := by decide +kernel
theorem dX9_isSign_17 : decode cX9_isSign 17 = .ok (.aload_n 0, 1) := by decide +kernel
theorem dX9_isSign_18 : decode cX9_isSign 18 = .ok (.getfield 55, 3) := by decide +kernel
theorem dX9_isSign_21 : decode cX9_isSign 21 = .ok (.laload, 1) := by decide +kernel
theorem dX9_isSign_22 : decode cX9_isSign 22 = .ok (.iload_n 1, 1) := by decide +kernel
theorem dX9_isSign_23 : decode cX9_isSign 23 = .ok (.i2l, 1) := by decide +kernel
theorem dX9_isSign_24 : decode cX9_isSign 24 = .ok (.lcmp, 1) := by decide +kernel
theorem dX9_isSign_25 : decode cX9_isSign 25 = .ok (.ifCond .ne 7, 3) := by decide +kernel
theorem dX9_isSign_28 : decode cX9_isSign 28 = .ok (.iconst 1, 1) := by decide +kernel
theorem dX9_isSign_29 : decode cX9_isSign 29 = .ok (.goto 4, 3) := by decide +kernel
theorem dX9_isSign_32 : decode cX9_isSign 32 = .ok (.iconst 0, 1) := by decide +kernel
theorem dX9_isSign_33 : decode cX9_isSign 33 = .ok (.ireturn, 1) := by decide +kernel
theorem dX9_word_0 : decode cX9_word 0 = .ok (.aload_n 0, 1) := by decide +kernel
theorem dX9_word_1 : decode cX9_word 1 = .ok (.getfield 15, 3) := by decide +kernel
theorem dX9_word_4 : decode cX9_word 4 = .ok (.aload_n 0, 1) := by decide +kernel
theorem dX9_word_5 : decode cX9_word 5 = .ok (.getfield 55, 3) := by decide +kernel
theorem dX9_word_8 : decode cX9_word 8 = .ok (.iaload, 1) := by decide +kernel
theorem dX9_word_9 : decode cX9_word 9 = .ok (.iconst 1, 1) := by decide +kernel
theorem dX9_word_10 : decode cX9_word 10 = .ok (.if_icmp .ne 15, 3) := by decide +kernel
theorem dX9_word_13 : decode cX9_word 13 = .ok (.aload_n 0, 1) := by decide +kernel
theorem dX9_word_14 : decode cX9_word 14 = .ok (.getfield 22, 3) := by decide +kernel
theorem dX9_word_17 : decode cX9_word 17 = .ok (.aload_n 0, 1) := by decide +kernel
theorem dX9_word_18 : decode cX9_word 18 = .ok (.getfield 55, 3) := by decide +kernel
theorem dX9_word_21 : decode cX9_word 21 = .ok (.laload, 1) := by decide +kernel
theorem dX9_word_22 : decode cX9_word 22 = .ok (.goto 4, 3) := by decide +kernel
theorem dX9_word_25 : decode cX9_word 25 = .ok (.lconst 0, 1) := by decide +kernel
theorem dX9_word_26 : decode cX9_word 26 = .ok (.lreturn, 1) := by decide +kernel
theorem dX9_number_0 : decode cX9_number 0 = .ok (.aload_n 0, 1) := by decide +kernel
theorem dX9_number_1 : decode cX9_number 1 = .ok (.getfield 15, 3) := by decide +kernel
theorem dX9_number_4 : decode cX9_number 4 = .ok (.aload_n 0, 1) := by decide +kernel
theorem dX9_number_5 : decode cX9_number 5 = .ok (.getfield 55, 3) := by decide +kernel
theorem dX9_number_8 : decode cX9_number 8 = .ok (.iaload, 1) := by decide +kernel
theorem dX9_number_9 : decode cX9_number 9 = .ok (.iconst 2, 1) := by decide +kernel
theorem dX9_number_10 : decode cX9_number 10 = .ok (.if_icmp .ne 16, 3) := by decide +kernel
theorem dX9_number_13 : decode cX9_number 13 = .ok (.aload_n 0, 1) := by decide +kernel
theorem dX9_number_14 : decode cX9_number 14 = .ok (.getfield 22, 3) := by decide +kernel
theorem dX9_number_17 : decode cX9_number 17 = .ok (.aload_n 0, 1) := by decide +kernel
theorem dX9_number_18 : decode cX9_number 18 = .ok (.getfield 55, 3) := by decide +kernel
theorem dX9_number_21 : decode cX9_number 21 = .ok (.laload, 1) := by decide +kernel
theorem dX9_number_22 : decode cX9_number 22 = .ok (.l2i, 1) := by decide +kernel
theorem dX9_number_23 : decode cX9_number 23 = .ok (.goto 4, 3) := by decide +kernel
theorem dX9_number_26 : decode cX9_number 26 = .ok (.iconst (-1), 1) := by decide +kernel
theorem dX9_number_27 : decode cX9_number 27 = .ok (.ireturn, 1) := by decide +kernel
theorem dX9_verb_0 : decode cX9_verb 0 = .ok (.getstatic 74, 3) := by decide +kernel
theorem dX9_verb_3 : decode cX9_verb 3 = .ok (.astore_n 1, 1) := by decide +kernel
theorem dX9_verb_4 : decode cX9_verb 4 = .ok (.aload_n 1, 1) := by decide +kernel
theorem dX9_verb_5 : decode cX9_verb 5 = .ok (.arraylength, 1) := by decide +kernel
theorem dX9_verb_6 : decode cX9_verb 6 = .ok (.istore_n 2, 1) := by decide +kernel
theorem dX9_verb_7 : decode cX9_verb 7 = .ok (.iconst 0, 1) := by decide +kernel
theorem dX9_verb_8 : decode cX9_verb 8 = .ok (.istore_n 3, 1) := by decide +kernel
theorem dX9_verb_9 : decode cX9_verb 9 = .ok (.iload_n 3, 1) := by decide +kernel
theorem dX9_verb_10 : decode cX9_verb 10 = .ok (.iload_n 2, 1) := by decide +kernel
theorem dX9_verb_11 : decode cX9_verb 11 = .ok (.if_icmp .ge 47, 3) := by decide +kernel
theorem dX9_verb_14 : decode cX9_verb 14 = .ok (.aload_n 1, 1) := by decide +kernel
theorem dX9_verb_15 : decode cX9_verb 15 = .ok (.iload_n 3, 1) := by decide +kernel
theorem dX9_verb_16 : decode cX9_verb 16 = .ok (.aaload, 1) := by decide +kernel
theorem dX9_verb_17 : decode cX9_verb 17 = .ok (.astore 4, 2) := by decide +kernel
theorem dX9_verb_19 : decode cX9_verb 19 = .ok (.aload_n 0, 1) := by decide +kernel
theorem dX9_verb_20 : decode cX9_verb 20 = .ok (.getfield 15, 3) := by decide +kernel
theorem dX9_verb_23 : decode cX9_verb 23 = .ok (.aload_n 0, 1) := by decide +kernel
theorem dX9_verb_24 : decode cX9_verb 24 = .ok (.getfield 55, 3) := by decide +kernel
theorem dX9_verb_27 : decode cX9_verb 27 = .ok (.iaload, 1) := by decide +kernel
theorem dX9_verb_28 : decode cX9_verb 28 = .ok (.iconst 1, 1) := by decide +kernel
theorem dX9_verb_29 : decode cX9_verb 29 = .ok (.if_icmp .ne 23, 3) := by decide +kernel
theorem dX9_verb_32 : decode cX9_verb 32 = .ok (.aload 4, 2) := by decide +kernel
theorem dX9_verb_34 : decode cX9_verb 34 = .ok (.aload_n 0, 1) := by decide +kernel
theorem dX9_verb_35 : decode cX9_verb 35 = .ok (.getfield 22, 3) := by decide +kernel
theorem dX9_verb_38 : decode cX9_verb 38 = .ok (.aload_n 0, 1) := by decide +kernel
theorem dX9_verb_39 : decode cX9_verb 39 = .ok (.getfield 55, 3) := by decide +kernel
theorem dX9_verb_42 : decode cX9_verb 42 = .ok (.laload, 1) := by decide +kernel
theorem dX9_verb_43 : decode cX9_verb 43 = .ok (.invokevirtual 78, 3) := by decide +kernel
theorem dX9_verb_46 : decode cX9_verb 46 = .ok (.ifCond .eq 6, 3) := by decide +kernel
theorem dX9_verb_49 : decode cX9_verb 49 = .ok (.aload 4, 2) := by decide +kernel
theorem dX9_verb_51 : decode cX9_verb 51 = .ok (.areturn, 1) := by decide +kernel
theorem dX9_verb_52 : decode cX9_verb 52 = .ok (.iinc 3 1, 3) := by decide +kernel
theorem dX9_verb_55 : decode cX9_verb 55 = .ok (.goto (-46), 3) := by decide +kernel
theorem dX9_verb_58 : decode cX9_verb 58 = .ok (.getstatic 84, 3) := by decide +kernel
theorem dX9_verb_61 : decode cX9_verb 61 = .ok (.areturn, 1) := by decide +kernel
theorem dX9_failIf_0 : decode cX9_failIf 0 = .ok (.iload_n 1, 1) := by decide +kernel
theorem dX9_failIf_1 : decode cX9_failIf 1 = .ok (.ifCond .eq 28, 3) := by decide +kernel
theorem dX9_failIf_4 : decode cX9_failIf 4 = .ok (.aload_n 0, 1) := by decide +kernel
theorem dX9_failIf_5 : decode cX9_failIf 5 = .ok (.getfield 58, 3) := by decide +kernel
theorem dX9_failIf_8 : decode cX9_failIf 8 = .ok (.ifCond .ne 21, 3) := by decide +kernel
theorem dX9_failIf_11 : decode cX9_failIf 11 = .ok (.aload_n 0, 1) := by decide +kernel
theorem dX9_failIf_12 : decode cX9_failIf 12 = .ok (.iload_n 2, 1) := by decide +kernel
theorem dX9_failIf_13 : decode cX9_failIf 13 = .ok (.putfield 58, 3) := by decide +kernel
theorem dX9_failIf_16 : decode cX9_failIf 16 = .ok (.aload_n 0, 1) := by decide +kernel
theorem dX9_failIf_17 : decode cX9_failIf 17 = .ok (.aload_n 0, 1) := by decide +kernel
theorem dX9_failIf_18 : decode cX9_failIf 18 = .ok (.getfield 19, 3) := by decide +kernel
theorem dX9_failIf_21 : decode cX9_failIf 21 = .ok (.aload_n 0, 1) := by decide +kernel
theorem dX9_failIf_22 : decode cX9_failIf 22 = .ok (.getfield 55, 3) := by decide +kernel
theorem dX9_failIf_25 : decode cX9_failIf 25 = .ok (.iaload, 1) := by decide +kernel
theorem dX9_failIf_26 : decode cX9_failIf 26 = .ok (.putfield 26, 3) := by decide +kernel
theorem dX9_failIf_29 : decode cX9_failIf 29 = .ok (.return_, 1) := by decide +kernel
theorem dX9_expectSign_0 : decode cX9_expectSign 0 = .ok (.aload_n 0, 1) := by decide +kernel
theorem dX9_expectSign_1 : decode cX9_expectSign 1 = .ok (.aload_n 0, 1) := by decide +kernel
theorem dX9_expectSign_2 : decode cX9_expectSign 2 = .ok (.iload_n 1, 1) := by decide +kernel
theorem dX9_expectSign_3 : decode cX9_expectSign 3 = .ok (.invokevirtual 88, 3) := by decide +kernel
theorem dX9_expectSign_6 : decode cX9_expectSign 6 = .ok (.ifCond .ne 7, 3) := by decide +kernel
theorem dX9_expectSign_9 : decode cX9_expectSign 9 = .ok (.iconst 1, 1) := by decide +kernel
theorem dX9_expectSign_10 : decode cX9_expectSign 10 = .ok (.goto 4, 3) := by decide +kernel
theorem dX9_expectSign_13 : decode cX9_expectSign 13 = .ok (.iconst 0, 1) := by decide +kernel
theorem dX9_expectSign_14 : decode cX9_expectSign 14 = .ok (.iconst 1, 1) := by decide +kernel
theorem dX9_expectSign_15 : decode cX9_expectSign 15 = .ok (.invokevirtual 92, 3) := by decide +kernel
theorem dX9_expectSign_18 : decode cX9_expectSign 18 = .ok (.return_, 1) := by decide +kernel
theorem dX9_expectNumber_0 : decode cX9_expectNumber 0 = .ok (.aload_n 0, 1) := by decide +kernel
theorem dX9_expectNumber_1 : decode cX9_expectNumber 1 = .ok (.aload_n 0, 1) := by decide +kernel
theorem dX9_expectNumber_2 : decode cX9_expectNumber 2 = .ok (.getfield 15, 3) := by decide +kernel
theorem dX9_expectNumber_5 : decode cX9_expectNumber 5 = .ok (.aload_n 0, 1) := by decide +kernel
theorem dX9_expectNumber_6 : decode cX9_expectNumber 6 = .ok (.getfield 55, 3) := by decide +kernel
theorem dX9_expectNumber_9 : decode cX9_expectNumber 9 = .ok (.iaload, 1) := by decide +kernel
theorem dX9_expectNumber_10 : decode cX9_expectNumber 10 = .ok (.iconst 2, 1) := by decide +kernel
theorem dX9_expectNumber_11 : decode cX9_expectNumber 11 = .ok (.if_icmp .eq 7, 3) := by decide +kernel
theorem dX9_expectNumber_14 : decode cX9_expectNumber 14 = .ok (.iconst 1, 1) := by decide +kernel
theorem dX9_expectNumber_15 : decode cX9_expectNumber 15 = .ok (.goto 4, 3) := by decide +kernel
theorem dX9_expectNumber_18 : decode cX9_expectNumber 18 = .ok (.iconst 0, 1) := by decide +kernel
theorem dX9_expectNumber_19 : decode cX9_expectNumber 19 = .ok (.iconst 1, 1) := by decide +kernel
theorem dX9_expectNumber_20 : decode cX9_expectNumber 20 = .ok (.invokevirtual 92, 3) := by decide +kernel
theorem dX9_expectNumber_23 : decode cX9_expectNumber 23 = .ok (.aload_n 0, 1) := by decide +kernel
theorem dX9_expectNumber_24 : decode cX9_expectNumber 24 = .ok (.aload_n 0, 1) := by decide +kernel
theorem dX9_expectNumber_25 : decode cX9_expectNumber 25 = .ok (.invokevirtual 96, 3) := by decide +kernel
theorem dX9_expectNumber_28 : decode cX9_expectNumber 28 = .ok (.iload_n 1, 1) := by decide +kernel
theorem dX9_expectNumber_29 : decode cX9_expectNumber 29 = .ok (.iload_n 2, 1) := by decide +kernel
theorem dX9_expectNumber_30 : decode cX9_expectNumber 30 = .ok (.invokestatic 37, 3) := by decide +kernel
theorem dX9_expectNumber_33 : decode cX9_expectNumber 33 = .ok (.ifCond .ne 7, 3) := by decide +kernel
theorem dX9_expectNumber_36 : decode cX9_expectNumber 36 = .ok (.iconst 1, 1) := by decide +kernel
theorem dX9_expectNumber_37 : decode cX9_expectNumber 37 = .ok (.goto 4, 3) := by decide +kernel
theorem dX9_expectNumber_40 : decode cX9_expectNumber 40 = .ok (.iconst 0, 1) := by decide +kernel
theorem dX9_expectNumber_41 : decode cX9_expectNumber 41 = .ok (.iconst 2, 1) := by decide +kernel
theorem dX9_expectNumber_42 : decode cX9_expectNumber 42 = .ok (.invokevirtual 92, 3) := by decide +kernel
theorem dX9_expectNumber_45 : decode cX9_expectNumber 45 = .ok (.return_, 1) := by decide +kernel
theorem dX9_skip_0 : decode cX9_skip 0 = .ok (.aload_n 0, 1) := by decide +kernel
theorem dX9_skip_1 : decode cX9_skip 1 = .ok (.getfield 58, 3) := by decide +kernel
theorem dX9_skip_4 : decode cX9_skip 4 = .ok (.ifCond .ne 24, 3) := by decide +kernel
theorem dX9_skip_7 : decode cX9_skip 7 = .ok (.aload_n 0, 1) := by decide +kernel
theorem dX9_skip_8 : decode cX9_skip 8 = .ok (.getfield 55, 3) := by decide +kernel
theorem dX9_skip_11 : decode cX9_skip 11 = .ok (.aload_n 0, 1) := by decide +kernel
theorem dX9_skip_12 : decode cX9_skip 12 = .ok (.getfield 49, 3) := by decide +kernel
theorem dX9_skip_15 : decode cX9_skip 15 = .ok (.if_icmp .ge 13, 3) := by decide +kernel
theorem dX9_skip_18 : decode cX9_skip 18 = .ok (.aload_n 0, 1) := by decide +kernel
theorem dX9_skip_19 : decode cX9_skip 19 = .ok (.dup, 1) := by decide +kernel
theorem dX9_skip_20 : decode cX9_skip 20 = .ok (.getfield 55, 3) := by decide +kernel
theorem dX9_skip_23 : decode cX9_skip 23 = .ok (.iconst 1, 1) := by decide +kernel
theorem dX9_skip_24 : decode cX9_skip 24 = .ok (.iadd, 1) := by decide +kernel
theorem dX9_skip_25 : decode cX9_skip 25 = .ok (.putfield 55, 3) := by decide +kernel
theorem dX9_skip_28 : decode cX9_skip 28 = .ok (.return_, 1) := by decide +kernel
theorem dX9_takeSign_0 : decode cX9_takeSign 0 = .ok (.aload_n 0, 1) := by decide +kernel
theorem dX9_takeSign_1 : decode cX9_takeSign 1 = .ok (.iload_n 1, 1) := by decide +kernel
theorem dX9_takeSign_2 : decode cX9_takeSign 2 = .ok (.invokevirtual 100, 3) := by decide +kernel
theorem dX9_takeSign_5 : decode cX9_takeSign 5 = .ok (.aload_n 0, 1) := by decide +kernel
theorem dX9_takeSign_6 : decode cX9_takeSign 6 = .ok (.invokevirtual 104, 3) := by decide +kernel
theorem dX9_takeSign_9 : decode cX9_takeSign 9 = .ok (.return_, 1) := by decide +kernel
theorem dX9_takeNumber_0 : decode cX9_takeNumber 0 = .ok (.aload_n 0, 1) := by decide +kernel
theorem dX9_takeNumber_1 : decode cX9_takeNumber 1 = .ok (.invokevirtual 96, 3) := by decide +kernel
theorem dX9_takeNumber_4 : decode cX9_takeNumber 4 = .ok (.istore_n 3, 1) := by decide +kernel
theorem dX9_takeNumber_5 : decode cX9_takeNumber 5 = .ok (.aload_n 0, 1) := by decide +kernel
theorem dX9_takeNumber_6 : decode cX9_takeNumber 6 = .ok (.iload_n 1, 1) := by decide +kernel
theorem dX9_takeNumber_7 : decode cX9_takeNumber 7 = .ok (.iload_n 2, 1) := by decide +kernel
theorem dX9_takeNumber_8 : decode cX9_takeNumber 8 = .ok (.invokevirtual 107, 3) := by decide +kernel
theorem dX9_takeNumber_11 : decode cX9_takeNumber 11 = .ok (.aload_n 0, 1) := by decide +kernel
theorem dX9_takeNumber_12 : decode cX9_takeNumber 12 = .ok (.invokevirtual 104, 3) := by decide +kernel
theorem dX9_takeNumber_15 : decode cX9_takeNumber 15 = .ok (.iload_n 3, 1) := by decide +kernel
theorem dX9_takeNumber_16 : decode cX9_takeNumber 16 = .ok (.ireturn, 1) := by decide +kernel
theorem dX9_takeNewName_0 : decode cX9_takeNewName 0 = .ok (.aload_n 0, 1) := by decide +kernel
theorem dX9_takeNewName_1 : decode cX9_takeNewName 1 = .ok (.invokevirtual 111, 3) := by decide +kernel
theorem dX9_takeNewName_4 : decode cX9_takeNewName 4 = .ok (.lstore_n 2, 1) := by decide +kernel
theorem dX9_takeNewName_5 : decode cX9_takeNewName 5 = .ok (.aload_n 0, 1) := by decide +kernel
theorem dX9_takeNewName_6 : decode cX9_takeNewName 6 = .ok (.aload_n 0, 1) := by decide +kernel
theorem dX9_takeNewName_7 : decode cX9_takeNewName 7 = .ok (.getfield 15, 3) := by decide +kernel
theorem dX9_takeNewName_10 : decode cX9_takeNewName 10 = .ok (.aload_n 0, 1) := by decide +kernel
theorem dX9_takeNewName_11 : decode cX9_takeNewName 11 = .ok (.getfield 55, 3) := by decide +kernel
theorem dX9_takeNewName_14 : decode cX9_takeNewName 14 = .ok (.iaload, 1) := by decide +kernel
theorem dX9_takeNewName_15 : decode cX9_takeNewName 15 = .ok (.iconst 1, 1) := by decide +kernel
theorem dX9_takeNewName_16 : decode cX9_takeNewName 16 = .ok (.if_icmp .eq 7, 3) := by decide +kernel
theorem dX9_takeNewName_19 : decode cX9_takeNewName 19 = .ok (.iconst 1, 1) := by decide +kernel
theorem dX9_takeNewName_20 : decode cX9_takeNewName 20 = .ok (.goto 4, 3) := by decide +kernel
theorem dX9_takeNewName_23 : decode cX9_takeNewName 23 = .ok (.iconst 0, 1) := by decide +kernel
theorem dX9_takeNewName_24 : decode cX9_takeNewName 24 = .ok (.iconst 1, 1) := by decide +kernel
theorem dX9_takeNewName_25 : decode cX9_takeNewName 25 = .ok (.invokevirtual 92, 3) := by decide +kernel
theorem dX9_takeNewName_28 : decode cX9_takeNewName 28 = .ok (.aload_n 0, 1) := by decide +kernel
theorem dX9_takeNewName_29 : decode cX9_takeNewName 29 = .ok (.iload_n 1, 1) := by decide +kernel
theorem dX9_takeNewName_30 : decode cX9_takeNewName 30 = .ok (.iconst (-1), 1) := by decide +kernel
theorem dX9_takeNewName_31 : decode cX9_takeNewName 31 = .ok (.if_icmp .eq 7, 3) := by decide +kernel
theorem dX9_takeNewName_34 : decode cX9_takeNewName 34 = .ok (.iconst 1, 1) := by decide +kernel
theorem dX9_takeNewName_35 : decode cX9_takeNewName 35 = .ok (.goto 4, 3) := by decide +kernel
theorem dX9_takeNewName_38 : decode cX9_takeNewName 38 = .ok (.iconst 0, 1) := by decide +kernel
theorem dX9_takeNewName_39 : decode cX9_takeNewName 39 = .ok (.iconst 3, 1) := by decide +kernel
theorem dX9_takeNewName_40 : decode cX9_takeNewName 40 = .ok (.invokevirtual 92, 3) := by decide +kernel
theorem dX9_takeNewName_43 : decode cX9_takeNewName 43 = .ok (.aload_n 0, 1) := by decide +kernel
theorem dX9_takeNewName_44 : decode cX9_takeNewName 44 = .ok (.invokevirtual 104, 3) := by decide +kernel
theorem dX9_takeNewName_47 : decode cX9_takeNewName 47 = .ok (.lload_n 2, 1) := by decide +kernel
theorem dX9_takeNewName_48 : decode cX9_takeNewName 48 = .ok (.lreturn, 1) := by decide +kernel
theorem dX9_takeValley_0 : decode cX9_takeValley 0 = .ok (.aload_n 1, 1) := by decide +kernel
theorem dX9_takeValley_1 : decode cX9_takeValley 1 = .ok (.aload_n 0, 1) := by decide +kernel
theorem dX9_takeValley_2 : decode cX9_takeValley 2 = .ok (.invokevirtual 111, 3) := by decide +kernel
theorem dX9_takeValley_5 : decode cX9_takeValley 5 = .ok (.invokevirtual 115, 3) := by decide +kernel
theorem dX9_takeValley_8 : decode cX9_takeValley 8 = .ok (.istore_n 2, 1) := by decide +kernel
theorem dX9_takeValley_9 : decode cX9_takeValley 9 = .ok (.aload_n 0, 1) := by decide +kernel
theorem dX9_takeValley_10 : decode cX9_takeValley 10 = .ok (.iload_n 2, 1) := by decide +kernel
theorem dX9_takeValley_11 : decode cX9_takeValley 11 = .ok (.invokevirtual 121, 3) := by decide +kernel
theorem dX9_takeValley_14 : decode cX9_takeValley 14 = .ok (.iload_n 2, 1) := by decide +kernel
theorem dX9_takeValley_15 : decode cX9_takeValley 15 = .ok (.ireturn, 1) := by decide +kernel
theorem dX9_takeCustomer_0 : decode cX9_takeCustomer 0 = .ok (.aload_n 1, 1) := by decide +kernel
theorem dX9_takeCustomer_1 : decode cX9_takeCustomer 1 = .ok (.aload_n 0, 1) := by decide +kernel
theorem dX9_takeCustomer_2 : decode cX9_takeCustomer 2 = .ok (.invokevirtual 111, 3) := by decide +kernel
theorem dX9_takeCustomer_5 : decode cX9_takeCustomer 5 = .ok (.invokevirtual 125, 3) := by decide +kernel
theorem dX9_takeCustomer_8 : decode cX9_takeCustomer 8 = .ok (.istore_n 2, 1) := by decide +kernel
theorem dX9_takeCustomer_9 : decode cX9_takeCustomer 9 = .ok (.aload_n 0, 1) := by decide +kernel
theorem dX9_takeCustomer_10 : decode cX9_takeCustomer 10 = .ok (.iload_n 2, 1) := by decide +kernel
theorem dX9_takeCustomer_11 : decode cX9_takeCustomer 11 = .ok (.invokevirtual 121, 3) := by decide +kernel
theorem dX9_takeCustomer_14 : decode cX9_takeCustomer 14 = .ok (.iload_n 2, 1) := by decide +kernel
theorem dX9_takeCustomer_15 : decode cX9_takeCustomer 15 = .ok (.ireturn, 1) := by decide +kernel
theorem dX9_takeKnownName_0 : decode cX9_takeKnownName 0 = .ok (.aload_n 0, 1) := by decide +kernel
theorem dX9_takeKnownName_1 : decode cX9_takeKnownName 1 = .ok (.aload_n 0, 1) := by decide +kernel
theorem dX9_takeKnownName_2 : decode cX9_takeKnownName 2 = .ok (.getfield 15, 3) := by decide +kernel
theorem dX9_takeKnownName_5 : decode cX9_takeKnownName 5 = .ok (.aload_n 0, 1) := by decide +kernel
theorem dX9_takeKnownName_6 : decode cX9_takeKnownName 6 = .ok (.getfield 55, 3) := by decide +kernel
theorem dX9_takeKnownName_9 : decode cX9_takeKnownName 9 = .ok (.iaload, 1) := by decide +kernel
theorem dX9_takeKnownName_10 : decode cX9_takeKnownName 10 = .ok (.iconst 1, 1) := by decide +kernel
theorem dX9_takeKnownName_11 : decode cX9_takeKnownName 11 = .ok (.if_icmp .eq 7, 3) := by decide +kernel
theorem dX9_takeKnownName_14 : decode cX9_takeKnownName 14 = .ok (.iconst 1, 1) := by decide +kernel
theorem dX9_takeKnownName_15 : decode cX9_takeKnownName 15 = .ok (.goto 4, 3) := by decide +kernel
theorem dX9_takeKnownName_18 : decode cX9_takeKnownName 18 = .ok (.iconst 0, 1) := by decide +kernel
theorem dX9_takeKnownName_19 : decode cX9_takeKnownName 19 = .ok (.iconst 1, 1) := by decide +kernel
theorem dX9_takeKnownName_20 : decode cX9_takeKnownName 20 = .ok (.invokevirtual 92, 3) := by decide +kernel
theorem dX9_takeKnownName_23 : decode cX9_takeKnownName 23 = .ok (.aload_n 0, 1) := by decide +kernel
theorem dX9_takeKnownName_24 : decode cX9_takeKnownName 24 = .ok (.iload_n 1, 1) := by decide +kernel
theorem dX9_takeKnownName_25 : decode cX9_takeKnownName 25 = .ok (.iconst (-1), 1) := by decide +kernel
theorem dX9_takeKnownName_26 : decode cX9_takeKnownName 26 = .ok (.if_icmp .ne 7, 3) := by decide +kernel
theorem dX9_takeKnownName_29 : decode cX9_takeKnownName 29 = .ok (.iconst 1, 1) := by decide +kernel
theorem dX9_takeKnownName_30 : decode cX9_takeKnownName 30 = .ok (.goto 4, 3) := by decide +kernel
theorem dX9_takeKnownName_33 : decode cX9_takeKnownName 33 = .ok (.iconst 0, 1) := by decide +kernel
theorem dX9_takeKnownName_34 : decode cX9_takeKnownName 34 = .ok (.iconst 4, 1) := by decide +kernel
theorem dX9_takeKnownName_35 : decode cX9_takeKnownName 35 = .ok (.invokevirtual 92, 3) := by decide +kernel
theorem dX9_takeKnownName_38 : decode cX9_takeKnownName 38 = .ok (.aload_n 0, 1) := by decide +kernel
theorem dX9_takeKnownName_39 : decode cX9_takeKnownName 39 = .ok (.invokevirtual 104, 3) := by decide +kernel
theorem dX9_takeKnownName_42 : decode cX9_takeKnownName 42 = .ok (.return_, 1) := by decide +kernel
theorem dX10_init_0 : decode cX10_init 0 = .ok (.aload_n 0, 1) := by decide +kernel
theorem dX10_init_1 : decode cX10_init 1 = .ok (.invokespecial 1, 3) := by decide +kernel
theorem dX10_init_4 : decode cX10_init 4 = .ok (.return_, 1) := by decide +kernel
theorem dX10_copyFrom_0 : decode cX10_copyFrom 0 = .ok (.aload_n 0, 1) := by decide +kernel
theorem dX10_copyFrom_1 : decode cX10_copyFrom 1 = .ok (.aload_n 1, 1) := by decide +kernel
theorem dX10_copyFrom_2 : decode cX10_copyFrom 2 = .ok (.getfield 7, 3) := by decide +kernel
theorem dX10_copyFrom_5 : decode cX10_copyFrom 5 = .ok (.putfield 7, 3) := by decide +kernel
theorem dX10_copyFrom_8 : decode cX10_copyFrom 8 = .ok (.aload_n 0, 1) := by decide +kernel
theorem dX10_copyFrom_9 : decode cX10_copyFrom 9 = .ok (.aload_n 1, 1) := by decide +kernel
theorem dX10_copyFrom_10 : decode cX10_copyFrom 10 = .ok (.getfield 13, 3) := by decide +kernel
theorem dX10_copyFrom_13 : decode cX10_copyFrom 13 = .ok (.putfield 13, 3) := by decide +kernel
theorem dX10_copyFrom_16 : decode cX10_copyFrom 16 = .ok (.aload_n 0, 1) := by decide +kernel
theorem dX10_copyFrom_17 : decode cX10_copyFrom 17 = .ok (.aload_n 1, 1) := by decide +kernel
theorem dX10_copyFrom_18 : decode cX10_copyFrom 18 = .ok (.getfield 17, 3) := by decide +kernel
theorem dX10_copyFrom_21 : decode cX10_copyFrom 21 = .ok (.putfield 17, 3) := by decide +kernel
theorem dX10_copyFrom_24 : decode cX10_copyFrom 24 = .ok (.aload_n 0, 1) := by decide +kernel
theorem dX10_copyFrom_25 : decode cX10_copyFrom 25 = .ok (.aload_n 1, 1) := by decide +kernel
theorem dX10_copyFrom_26 : decode cX10_copyFrom 26 = .ok (.getfield 20, 3) := by decide +kernel
theorem dX10_copyFrom_29 : decode cX10_copyFrom 29 = .ok (.putfield 20, 3) := by decide +kernel
theorem dX10_copyFrom_32 : decode cX10_copyFrom 32 = .ok (.aload_n 0, 1) := by decide +kernel
theorem dX10_copyFrom_33 : decode cX10_copyFrom 33 = .ok (.aload_n 1, 1) := by decide +kernel
theorem dX10_copyFrom_34 : decode cX10_copyFrom 34 = .ok (.getfield 23, 3) := by decide +kernel
theorem dX10_copyFrom_37 : decode cX10_copyFrom 37 = .ok (.putfield 23, 3) := by decide +kernel
theorem dX10_copyFrom_40 : decode cX10_copyFrom 40 = .ok (.aload_n 0, 1) := by decide +kernel
theorem dX10_copyFrom_41 : decode cX10_copyFrom 41 = .ok (.aload_n 1, 1) := by decide +kernel
theorem dX10_copyFrom_42 : decode cX10_copyFrom 42 = .ok (.getfield 26, 3) := by decide +kernel
theorem dX10_copyFrom_45 : decode cX10_copyFrom 45 = .ok (.putfield 26, 3) := by decide +kernel
theorem dX10_copyFrom_48 : decode cX10_copyFrom 48 = .ok (.aload_n 0, 1) := by decide +kernel
theorem dX10_copyFrom_49 : decode cX10_copyFrom 49 = .ok (.aload_n 1, 1) := by decide +kernel
theorem dX10_copyFrom_50 : decode cX10_copyFrom 50 = .ok (.getfield 29, 3) := by decide +kernel
theorem dX10_copyFrom_53 : decode cX10_copyFrom 53 = .ok (.putfield 29, 3) := by decide +kernel
theorem dX10_copyFrom_56 : decode cX10_copyFrom 56 = .ok (.aload_n 0, 1) := by decide +kernel
theorem dX10_copyFrom_57 : decode cX10_copyFrom 57 = .ok (.aload_n 1, 1) := by decide +kernel
theorem dX10_copyFrom_58 : decode cX10_copyFrom 58 = .ok (.getfield 32, 3) := by decide +kernel
theorem dX10_copyFrom_61 : decode cX10_copyFrom 61 = .ok (.putfield 32, 3) := by decide +kernel
theorem dX10_copyFrom_64 : decode cX10_copyFrom 64 = .ok (.return_, 1) := by decide +kernel
theorem dX10_loudnessNeeded_0 : decode cX10_loudnessNeeded 0 = .ok (.iconst 2, 1) := by decide +kernel
theorem dX10_loudnessNeeded_1 : decode cX10_loudnessNeeded 1 = .ok (.iload_n 1, 1) := by decide +kernel
theorem dX10_loudnessNeeded_2 : decode cX10_loudnessNeeded 2 = .ok (.imul, 1) := by decide +kernel
theorem dX10_loudnessNeeded_3 : decode cX10_loudnessNeeded 3 = .ok (.aload_n 0, 1) := by decide +kernel
theorem dX10_loudnessNeeded_4 : decode cX10_loudnessNeeded 4 = .ok (.getfield 23, 3) := by decide +kernel
theorem dX10_loudnessNeeded_7 : decode cX10_loudnessNeeded 7 = .ok (.iadd, 1) := by decide +kernel
theorem dX10_loudnessNeeded_8 : decode cX10_loudnessNeeded 8 = .ok (.iconst 1, 1) := by decide +kernel
theorem dX10_loudnessNeeded_9 : decode cX10_loudnessNeeded 9 = .ok (.iadd, 1) := by decide +kernel
theorem dX10_loudnessNeeded_10 : decode cX10_loudnessNeeded 10 = .ok (.ireturn, 1) := by decide +kernel
theorem dX11_isSpelled_0 : decode cX11_isSpelled 0 = .ok (.lload_n 1, 1) := by decide +kernel
theorem dX11_isSpelled_1 : decode cX11_isSpelled 1 = .ok (.aload_n 0, 1) := by decide +kernel
theorem dX11_isSpelled_2 : decode cX11_isSpelled 2 = .ok (.getfield 61, 3) := by decide +kernel
theorem dX11_isSpelled_5 : decode cX11_isSpelled 5 = .ok (.invokevirtual 72, 3) := by decide +kernel
theorem dX11_isSpelled_8 : decode cX11_isSpelled 8 = .ok (.invokestatic 78, 3) := by decide +kernel
theorem dX11_isSpelled_11 : decode cX11_isSpelled 11 = .ok (.iconst (-1), 1) := by decide +kernel
theorem dX11_isSpelled_12 : decode cX11_isSpelled 12 = .ok (.if_icmp .ne 7, 3) := by decide +kernel
theorem dX11_isSpelled_15 : decode cX11_isSpelled 15 = .ok (.iconst 1, 1) := by decide +kernel
theorem dX11_isSpelled_16 : decode cX11_isSpelled 16 = .ok (.goto 4, 3) := by decide +kernel
theorem dX11_isSpelled_19 : decode cX11_isSpelled 19 = .ok (.iconst 0, 1) := by decide +kernel
theorem dX11_isSpelled_20 : decode cX11_isSpelled 20 = .ok (.istore_n 3, 1) := by decide +kernel
theorem dX11_isSpelled_21 : decode cX11_isSpelled 21 = .ok (.iconst 0, 1) := by decide +kernel
theorem dX11_isSpelled_22 : decode cX11_isSpelled 22 = .ok (.istore 4, 2) := by decide +kernel
theorem dX11_isSpelled_24 : decode cX11_isSpelled 24 = .ok (.iload 4, 2) := by decide +kernel
theorem dX11_isSpelled_26 : decode cX11_isSpelled 26 = .ok (.aload_n 0, 1) := by decide +kernel
theorem dX11_isSpelled_27 : decode cX11_isSpelled 27 = .ok (.getfield 61, 3) := by decide +kernel
theorem dX11_isSpelled_30 : decode cX11_isSpelled 30 = .ok (.invokevirtual 72, 3) := by decide +kernel
theorem dX11_isSpelled_33 : decode cX11_isSpelled 33 = .ok (.if_icmp .ge 37, 3) := by decide +kernel
theorem dX11_isSpelled_36 : decode cX11_isSpelled 36 = .ok (.iload_n 3, 1) := by decide +kernel
theorem dX11_isSpelled_37 : decode cX11_isSpelled 37 = .ok (.ifCond .eq 25, 3) := by decide +kernel
theorem dX11_isSpelled_40 : decode cX11_isSpelled 40 = .ok (.lload_n 1, 1) := by decide +kernel
theorem dX11_isSpelled_41 : decode cX11_isSpelled 41 = .ok (.iload 4, 2) := by decide +kernel
theorem dX11_isSpelled_43 : decode cX11_isSpelled 43 = .ok (.invokestatic 78, 3) := by decide +kernel
theorem dX11_isSpelled_46 : decode cX11_isSpelled 46 = .ok (.aload_n 0, 1) := by decide +kernel
theorem dX11_isSpelled_47 : decode cX11_isSpelled 47 = .ok (.getfield 61, 3) := by decide +kernel
theorem dX11_isSpelled_50 : decode cX11_isSpelled 50 = .ok (.iload 4, 2) := by decide +kernel
theorem dX11_isSpelled_52 : decode cX11_isSpelled 52 = .ok (.invokevirtual 82, 3) := by decide +kernel
theorem dX11_isSpelled_55 : decode cX11_isSpelled 55 = .ok (.if_icmp .ne 7, 3) := by decide +kernel
theorem dX11_isSpelled_58 : decode cX11_isSpelled 58 = .ok (.iconst 1, 1) := by decide +kernel
theorem dX11_isSpelled_59 : decode cX11_isSpelled 59 = .ok (.goto 4, 3) := by decide +kernel
theorem dX11_isSpelled_62 : decode cX11_isSpelled 62 = .ok (.iconst 0, 1) := by decide +kernel
theorem dX11_isSpelled_63 : decode cX11_isSpelled 63 = .ok (.istore_n 3, 1) := by decide +kernel
theorem dX11_isSpelled_64 : decode cX11_isSpelled 64 = .ok (.iinc 4 1, 3) := by decide +kernel
theorem dX11_isSpelled_67 : decode cX11_isSpelled 67 = .ok (.goto (-43), 3) := by decide +kernel
theorem dX11_isSpelled_70 : decode cX11_isSpelled 70 = .ok (.iload_n 3, 1) := by decide +kernel
theorem dX11_isSpelled_71 : decode cX11_isSpelled 71 = .ok (.ireturn, 1) := by decide +kernel
theorem dX12_init_0 : decode cX12_init 0 = .ok (.aload_n 0, 1) := by decide +kernel
theorem dX12_init_1 : decode cX12_init 1 = .ok (.invokespecial 1, 3) := by decide +kernel
theorem dX12_init_4 : decode cX12_init 4 = .ok (.aload_n 0, 1) := by decide +kernel
theorem dX12_init_5 : decode cX12_init 5 = .ok (.new 7, 3) := by decide +kernel
theorem dX12_init_8 : decode cX12_init 8 = .ok (.dup, 1) := by decide +kernel
theorem dX12_init_9 : decode cX12_init 9 = .ok (.invokespecial 9, 3) := by decide +kernel
theorem dX12_init_12 : decode cX12_init 12 = .ok (.putfield 10, 3) := by decide +kernel
theorem dX12_init_15 : decode cX12_init 15 = .ok (.aload_n 0, 1) := by decide +kernel
theorem dX12_init_16 : decode cX12_init 16 = .ok (.new 16, 3) := by decide +kernel
theorem dX12_init_19 : decode cX12_init 19 = .ok (.dup, 1) := by decide +kernel
theorem dX12_init_20 : decode cX12_init 20 = .ok (.invokespecial 18, 3) := by decide +kernel
theorem dX12_init_23 : decode cX12_init 23 = .ok (.putfield 19, 3) := by decide +kernel
theorem dX12_init_26 : decode cX12_init 26 = .ok (.aload_n 0, 1) := by decide +kernel
theorem dX12_init_27 : decode cX12_init 27 = .ok (.new 16, 3) := by decide +kernel
theorem dX12_init_30 : decode cX12_init 30 = .ok (.dup, 1) := by decide +kernel
theorem dX12_init_31 : decode cX12_init 31 = .ok (.invokespecial 18, 3) := by decide +kernel
theorem dX12_init_34 : decode cX12_init 34 = .ok (.putfield 23, 3) := by decide +kernel
theorem dX12_init_37 : decode cX12_init 37 = .ok (.aload_n 0, 1) := by decide +kernel
theorem dX12_init_38 : decode cX12_init 38 = .ok (.new 16, 3) := by decide +kernel
theorem dX12_init_41 : decode cX12_init 41 = .ok (.dup, 1) := by decide +kernel
theorem dX12_init_42 : decode cX12_init 42 = .ok (.invokespecial 18, 3) := by decide +kernel
theorem dX12_init_45 : decode cX12_init 45 = .ok (.putfield 26, 3) := by decide +kernel
theorem dX12_init_48 : decode cX12_init 48 = .ok (.aload_n 0, 1) := by decide +kernel
theorem dX12_init_49 : decode cX12_init 49 = .ok (.new 29, 3) := by decide +kernel
theorem dX12_init_52 : decode cX12_init 52 = .ok (.dup, 1) := by decide +kernel
theorem dX12_init_53 : decode cX12_init 53 = .ok (.invokespecial 31, 3) := by decide +kernel
theorem dX12_init_56 : decode cX12_init 56 = .ok (.putfield 32, 3) := by decide +kernel
theorem dX12_init_59 : decode cX12_init 59 = .ok (.aload_n 0, 1) := by decide +kernel
theorem dX12_init_60 : decode cX12_init 60 = .ok (.new 36, 3) := by decide +kernel
theorem dX12_init_63 : decode cX12_init 63 = .ok (.dup, 1) := by decide +kernel
theorem dX12_init_64 : decode cX12_init 64 = .ok (.invokespecial 38, 3) := by decide +kernel
theorem dX12_init_67 : decode cX12_init 67 = .ok (.putfield 39, 3) := by decide +kernel
theorem dX12_init_70 : decode cX12_init 70 = .ok (.aload_n 0, 1) := by decide +kernel
theorem dX12_init_71 : decode cX12_init 71 = .ok (.new 43, 3) := by decide +kernel
theorem dX12_init_74 : decode cX12_init 74 = .ok (.dup, 1) := by decide +kernel
theorem dX12_init_75 : decode cX12_init 75 = .ok (.invokespecial 45, 3) := by decide +kernel
theorem dX12_init_78 : decode cX12_init 78 = .ok (.putfield 46, 3) := by decide +kernel
theorem dX12_init_81 : decode cX12_init 81 = .ok (.aload_n 0, 1) := by decide +kernel
theorem dX12_init_82 : decode cX12_init 82 = .ok (.new 50, 3) := by decide +kernel
theorem dX12_init_85 : decode cX12_init 85 = .ok (.dup, 1) := by decide +kernel
theorem dX12_init_86 : decode cX12_init 86 = .ok (.invokespecial 52, 3) := by decide +kernel
theorem dX12_init_89 : decode cX12_init 89 = .ok (.putfield 53, 3) := by decide +kernel
theorem dX12_init_92 : decode cX12_init 92 = .ok (.aload_n 0, 1) := by decide +kernel
theorem dX12_init_93 : decode cX12_init 93 = .ok (.iconst 0, 1) := by decide +kernel
theorem dX12_init_94 : decode cX12_init 94 = .ok (.putfield 57, 3) := by decide +kernel
theorem dX12_init_97 : decode cX12_init 97 = .ok (.return_, 1) := by decide +kernel
theorem dX12_feed_0 : decode cX12_feed 0 = .ok (.aload_n 0, 1) := by decide +kernel
theorem dX12_feed_1 : decode cX12_feed 1 = .ok (.getfield 10, 3) := by decide +kernel
theorem dX12_feed_4 : decode cX12_feed 4 = .ok (.getfield 61, 3) := by decide +kernel
theorem dX12_feed_7 : decode cX12_feed 7 = .ok (.bipush 20, 2) := by decide +kernel
theorem dX12_feed_9 : decode cX12_feed 9 = .ok (.iadd, 1) := by decide +kernel
theorem dX12_feed_10 : decode cX12_feed 10 = .ok (.sipush 600, 3) := by decide +kernel
theorem dX12_feed_13 : decode cX12_feed 13 = .ok (.if_icmp .gt 7, 3) := by decide +kernel
theorem dX12_feed_16 : decode cX12_feed 16 = .ok (.iconst 1, 1) := by decide +kernel
theorem dX12_feed_17 : decode cX12_feed 17 = .ok (.goto 4, 3) := by decide +kernel
theorem dX12_feed_20 : decode cX12_feed 20 = .ok (.iconst 0, 1) := by decide +kernel
theorem dX12_feed_21 : decode cX12_feed 21 = .ok (.invokestatic 65, 3) := by decide +kernel
theorem dX12_feed_24 : decode cX12_feed 24 = .ok (.aload_n 0, 1) := by decide +kernel
theorem dX12_feed_25 : decode cX12_feed 25 = .ok (.getfield 10, 3) := by decide +kernel
theorem dX12_feed_28 : decode cX12_feed 28 = .ok (.iload_n 1, 1) := by decide +kernel
theorem dX12_feed_29 : decode cX12_feed 29 = .ok (.invokevirtual 69, 3) := by decide +kernel
theorem dX12_feed_32 : decode cX12_feed 32 = .ok (.aload_n 0, 1) := by decide +kernel
theorem dX12_feed_33 : decode cX12_feed 33 = .ok (.getfield 10, 3) := by decide +kernel
theorem dX12_feed_36 : decode cX12_feed 36 = .ok (.iload_n 2, 1) := by decide +kernel
theorem dX12_feed_37 : decode cX12_feed 37 = .ok (.invokevirtual 69, 3) := by decide +kernel
theorem dX12_feed_40 : decode cX12_feed 40 = .ok (.aload_n 0, 1) := by decide +kernel
theorem dX12_feed_41 : decode cX12_feed 41 = .ok (.getfield 10, 3) := by decide +kernel
theorem dX12_feed_44 : decode cX12_feed 44 = .ok (.iload_n 3, 1) := by decide +kernel
theorem dX12_feed_45 : decode cX12_feed 45 = .ok (.invokevirtual 69, 3) := by decide +kernel
theorem dX12_feed_48 : decode cX12_feed 48 = .ok (.aload_n 0, 1) := by decide +kernel
theorem dX12_feed_49 : decode cX12_feed 49 = .ok (.getfield 10, 3) := by decide +kernel
theorem dX12_feed_52 : decode cX12_feed 52 = .ok (.iload 4, 2) := by decide +kernel
theorem dX12_feed_54 : decode cX12_feed 54 = .ok (.invokevirtual 69, 3) := by decide +kernel
theorem dX12_feed_57 : decode cX12_feed 57 = .ok (.aload_n 0, 1) := by decide +kernel
theorem dX12_feed_58 : decode cX12_feed 58 = .ok (.getfield 10, 3) := by decide +kernel
theorem dX12_feed_61 : decode cX12_feed 61 = .ok (.iload 5, 2) := by decide +kernel
theorem dX12_feed_63 : decode cX12_feed 63 = .ok (.invokevirtual 69, 3) := by decide +kernel
theorem dX12_feed_66 : decode cX12_feed 66 = .ok (.aload_n 0, 1) := by decide +kernel
theorem dX12_feed_67 : decode cX12_feed 67 = .ok (.getfield 10, 3) := by decide +kernel
theorem dX12_feed_70 : decode cX12_feed 70 = .ok (.getfield 61, 3) := by decide +kernel
theorem dX12_feed_73 : decode cX12_feed 73 = .ok (.ireturn, 1) := by decide +kernel
theorem dX12_truncate_0 : decode cX12_truncate 0 = .ok (.iload_n 1, 1) := by decide +kernel
theorem dX12_truncate_1 : decode cX12_truncate 1 = .ok (.iconst 0, 1) := by decide +kernel
theorem dX12_truncate_2 : decode cX12_truncate 2 = .ok (.aload_n 0, 1) := by decide +kernel
theorem dX12_truncate_3 : decode cX12_truncate 3 = .ok (.getfield 10, 3) := by decide +kernel
theorem dX12_truncate_6 : decode cX12_truncate 6 = .ok (.getfield 61, 3) := by decide +kernel
theorem dX12_truncate_9 : decode cX12_truncate 9 = .ok (.invokestatic 73, 3) := by decide +kernel
theorem dX12_truncate_12 : decode cX12_truncate 12 = .ok (.invokestatic 77, 3) := by decide +kernel
theorem dX12_truncate_15 : decode cX12_truncate 15 = .ok (.aload_n 0, 1) := by decide +kernel
theorem dX12_truncate_16 : decode cX12_truncate 16 = .ok (.getfield 10, 3) := by decide +kernel
theorem dX12_truncate_19 : decode cX12_truncate 19 = .ok (.iload_n 1, 1) := by decide +kernel
theorem dX12_truncate_20 : decode cX12_truncate 20 = .ok (.putfield 61, 3) := by decide +kernel
theorem dX12_truncate_23 : decode cX12_truncate 23 = .ok (.iload_n 1, 1) := by decide +kernel
theorem dX12_truncate_24 : decode cX12_truncate 24 = .ok (.ireturn, 1) := by decide +kernel
theorem dX12_readText_0 : decode cX12_readText 0 = .ok (.aload_n 0, 1) := by decide +kernel
theorem dX12_readText_1 : decode cX12_readText 1 = .ok (.getfield 32, 3) := by decide +kernel
theorem dX12_readText_4 : decode cX12_readText 4 = .ok (.aload_n 0, 1) := by decide +kernel
theorem dX12_readText_5 : decode cX12_readText 5 = .ok (.getfield 10, 3) := by decide +kernel
theorem dX12_readText_8 : decode cX12_readText 8 = .ok (.aload_n 0, 1) := by decide +kernel
theorem dX12_readText_9 : decode cX12_readText 9 = .ok (.getfield 23, 3) := by decide +kernel
theorem dX12_readText_12 : decode cX12_readText 12 = .ok (.invokevirtual 80, 3) := by decide +kernel
theorem dX12_readText_15 : decode cX12_readText 15 = .ok (.istore_n 1, 1) := by decide +kernel
theorem dX12_readText_16 : decode cX12_readText 16 = .ok (.aload_n 0, 1) := by decide +kernel
theorem dX12_readText_17 : decode cX12_readText 17 = .ok (.getfield 10, 3) := by decide +kernel
theorem dX12_readText_20 : decode cX12_readText 20 = .ok (.iconst 0, 1) := by decide +kernel
theorem dX12_readText_21 : decode cX12_readText 21 = .ok (.putfield 61, 3) := by decide +kernel
theorem dX12_readText_24 : decode cX12_readText 24 = .ok (.iload_n 1, 1) := by decide +kernel
theorem dX12_readText_25 : decode cX12_readText 25 = .ok (.invokestatic 77, 3) := by decide +kernel
theorem dX12_readText_28 : decode cX12_readText 28 = .ok (.aload_n 0, 1) := by decide +kernel
theorem dX12_readText_29 : decode cX12_readText 29 = .ok (.getfield 19, 3) := by decide +kernel
theorem dX12_readText_32 : decode cX12_readText 32 = .ok (.aload_n 0, 1) := by decide +kernel
theorem dX12_readText_33 : decode cX12_readText 33 = .ok (.getfield 23, 3) := by decide +kernel
theorem dX12_readText_36 : decode cX12_readText 36 = .ok (.invokevirtual 84, 3) := by decide +kernel
theorem dX12_readText_39 : decode cX12_readText 39 = .ok (.aload_n 0, 1) := by decide +kernel
theorem dX12_readText_40 : decode cX12_readText 40 = .ok (.getfield 46, 3) := by decide +kernel
theorem dX12_readText_43 : decode cX12_readText 43 = .ok (.invokevirtual 88, 3) := by decide +kernel
theorem dX12_readText_46 : decode cX12_readText 46 = .ok (.aload_n 0, 1) := by decide +kernel
theorem dX12_readText_47 : decode cX12_readText 47 = .ok (.getfield 19, 3) := by decide +kernel
theorem dX12_readText_50 : decode cX12_readText 50 = .ok (.getfield 91, 3) := by decide +kernel
theorem dX12_readText_53 : decode cX12_readText 53 = .ok (.ireturn, 1) := by decide +kernel
theorem dX12_valleyCount_0 : decode cX12_valleyCount 0 = .ok (.aload_n 0, 1) := by decide +kernel
theorem dX12_valleyCount_1 : decode cX12_valleyCount 1 = .ok (.getfield 19, 3) := by decide +kernel
theorem dX12_valleyCount_4 : decode cX12_valleyCount 4 = .ok (.getfield 108, 3) := by decide +kernel
theorem dX12_valleyCount_7 : decode cX12_valleyCount 7 = .ok (.ireturn, 1) := by decide +kernel
theorem dX12_customerCount_0 : decode cX12_customerCount 0 = .ok (.aload_n 0, 1) := by decide +kernel
theorem dX12_customerCount_1 : decode cX12_customerCount 1 = .ok (.getfield 19, 3) := by decide +kernel
theorem dX12_customerCount_4 : decode cX12_customerCount 4 = .ok (.getfield 111, 3) := by decide +kernel
theorem dX12_customerCount_7 : decode cX12_customerCount 7 = .ok (.ireturn, 1) := by decide +kernel
theorem dX12_shoutCount_0 : decode cX12_shoutCount 0 = .ok (.aload_n 0, 1) := by decide +kernel
theorem dX12_shoutCount_1 : decode cX12_shoutCount 1 = .ok (.getfield 19, 3) := by decide +kernel
theorem dX12_shoutCount_4 : decode cX12_shoutCount 4 = .ok (.getfield 91, 3) := by decide +kernel
theorem dX12_shoutCount_7 : decode cX12_shoutCount 7 = .ok (.ireturn, 1) := by decide +kernel
theorem dX12_time_0 : decode cX12_time 0 = .ok (.aload_n 0, 1) := by decide +kernel
theorem dX12_time_1 : decode cX12_time 1 = .ok (.getfield 19, 3) := by decide +kernel
theorem dX12_time_4 : decode cX12_time 4 = .ok (.getfield 114, 3) := by decide +kernel
theorem dX12_time_7 : decode cX12_time 7 = .ok (.ireturn, 1) := by decide +kernel
theorem dX12_earned_0 : decode cX12_earned 0 = .ok (.aload_n 0, 1) := by decide +kernel
theorem dX12_earned_1 : decode cX12_earned 1 = .ok (.getfield 19, 3) := by decide +kernel
theorem dX12_earned_4 : decode cX12_earned 4 = .ok (.getfield 117, 3) := by decide +kernel
theorem dX12_earned_7 : decode cX12_earned 7 = .ok (.ireturn, 1) := by decide +kernel
theorem dX12_refunded_0 : decode cX12_refunded 0 = .ok (.aload_n 0, 1) := by decide +kernel
theorem dX12_refunded_1 : decode cX12_refunded 1 = .ok (.getfield 19, 3) := by decide +kernel
theorem dX12_refunded_4 : decode cX12_refunded 4 = .ok (.getfield 120, 3) := by decide +kernel
theorem dX12_refunded_7 : decode cX12_refunded 7 = .ok (.ireturn, 1) := by decide +kernel
theorem dX12_held_0 : decode cX12_held 0 = .ok (.aload_n 0, 1) := by decide +kernel
theorem dX12_held_1 : decode cX12_held 1 = .ok (.getfield 19, 3) := by decide +kernel
theorem dX12_held_4 : decode cX12_held 4 = .ok (.getfield 123, 3) := by decide +kernel
theorem dX12_held_7 : decode cX12_held 7 = .ok (.ireturn, 1) := by decide +kernel
theorem dX12_wellDepth_0 : decode cX12_wellDepth 0 = .ok (.aload_n 0, 1) := by decide +kernel
theorem dX12_wellDepth_1 : decode cX12_wellDepth 1 = .ok (.getfield 19, 3) := by decide +kernel
theorem dX12_wellDepth_4 : decode cX12_wellDepth 4 = .ok (.getfield 126, 3) := by decide +kernel
theorem dX12_wellDepth_7 : decode cX12_wellDepth 7 = .ok (.ireturn, 1) := by decide +kernel
theorem dX12_openShouts_0 : decode cX12_openShouts 0 = .ok (.aload_n 0, 1) := by decide +kernel
theorem dX12_openShouts_1 : decode cX12_openShouts 1 = .ok (.getfield 19, 3) := by decide +kernel
theorem dX12_openShouts_4 : decode cX12_openShouts 4 = .ok (.invokevirtual 129, 3) := by decide +kernel
theorem dX12_openShouts_7 : decode cX12_openShouts 7 = .ok (.ireturn, 1) := by decide +kernel
theorem dX12_valleyByte_0 : decode cX12_valleyByte 0 = .ok (.aload_n 0, 1) := by decide +kernel
theorem dX12_valleyByte_1 : decode cX12_valleyByte 1 = .ok (.iload_n 1, 1) := by decide +kernel
theorem dX12_valleyByte_2 : decode cX12_valleyByte 2 = .ok (.invokevirtual 133, 3) := by decide +kernel
theorem dX12_valleyByte_5 : decode cX12_valleyByte 5 = .ok (.getfield 137, 3) := by decide +kernel
theorem dX12_valleyByte_8 : decode cX12_valleyByte 8 = .ok (.iload_n 2, 1) := by decide +kernel
theorem dX12_valleyByte_9 : decode cX12_valleyByte 9 = .ok (.invokestatic 143, 3) := by decide +kernel
theorem dX12_valleyByte_12 : decode cX12_valleyByte 12 = .ok (.ireturn, 1) := by decide +kernel
theorem dX12_width_0 : decode cX12_width 0 = .ok (.aload_n 0, 1) := by decide +kernel
theorem dX12_width_1 : decode cX12_width 1 = .ok (.iload_n 1, 1) := by decide +kernel
theorem dX12_width_2 : decode cX12_width 2 = .ok (.invokevirtual 133, 3) := by decide +kernel
theorem dX12_width_5 : decode cX12_width 5 = .ok (.getfield 155, 3) := by decide +kernel
theorem dX12_width_8 : decode cX12_width 8 = .ok (.ireturn, 1) := by decide +kernel
theorem dX12_walls_0 : decode cX12_walls 0 = .ok (.aload_n 0, 1) := by decide +kernel
theorem dX12_walls_1 : decode cX12_walls 1 = .ok (.iload_n 1, 1) := by decide +kernel
theorem dX12_walls_2 : decode cX12_walls 2 = .ok (.invokevirtual 133, 3) := by decide +kernel
theorem dX12_walls_5 : decode cX12_walls 5 = .ok (.getfield 158, 3) := by decide +kernel
theorem dX12_walls_8 : decode cX12_walls 8 = .ok (.ireturn, 1) := by decide +kernel
theorem dX12_price_0 : decode cX12_price 0 = .ok (.aload_n 0, 1) := by decide +kernel
theorem dX12_price_1 : decode cX12_price 1 = .ok (.iload_n 1, 1) := by decide +kernel
theorem dX12_price_2 : decode cX12_price 2 = .ok (.invokevirtual 133, 3) := by decide +kernel
theorem dX12_price_5 : decode cX12_price 5 = .ok (.getfield 161, 3) := by decide +kernel
theorem dX12_price_8 : decode cX12_price 8 = .ok (.ireturn, 1) := by decide +kernel
theorem dX12_rating_0 : decode cX12_rating 0 = .ok (.aload_n 0, 1) := by decide +kernel
theorem dX12_rating_1 : decode cX12_rating 1 = .ok (.iload_n 1, 1) := by decide +kernel
theorem dX12_rating_2 : decode cX12_rating 2 = .ok (.invokevirtual 133, 3) := by decide +kernel
theorem dX12_rating_5 : decode cX12_rating 5 = .ok (.getfield 164, 3) := by decide +kernel
theorem dX12_rating_8 : decode cX12_rating 8 = .ok (.ireturn, 1) := by decide +kernel
theorem dX12_echoesLost_0 : decode cX12_echoesLost 0 = .ok (.aload_n 0, 1) := by decide +kernel
theorem dX12_echoesLost_1 : decode cX12_echoesLost 1 = .ok (.iload_n 1, 1) := by decide +kernel
theorem dX12_echoesLost_2 : decode cX12_echoesLost 2 = .ok (.invokevirtual 133, 3) := by decide +kernel
theorem dX12_echoesLost_5 : decode cX12_echoesLost 5 = .ok (.getfield 167, 3) := by decide +kernel
theorem dX12_echoesLost_8 : decode cX12_echoesLost 8 = .ok (.ireturn, 1) := by decide +kernel
theorem dX12_money_0 : decode cX12_money 0 = .ok (.aload_n 0, 1) := by decide +kernel
theorem dX12_money_1 : decode cX12_money 1 = .ok (.iload_n 1, 1) := by decide +kernel
theorem dX12_money_2 : decode cX12_money 2 = .ok (.invokevirtual 181, 3) := by decide +kernel
theorem dX12_money_5 : decode cX12_money 5 = .ok (.getfield 185, 3) := by decide +kernel
theorem dX12_money_8 : decode cX12_money 8 = .ok (.ireturn, 1) := by decide +kernel
theorem dX12_patience_0 : decode cX12_patience 0 = .ok (.aload_n 0, 1) := by decide +kernel
theorem dX12_patience_1 : decode cX12_patience 1 = .ok (.iload_n 1, 1) := by decide +kernel
theorem dX12_patience_2 : decode cX12_patience 2 = .ok (.invokevirtual 181, 3) := by decide +kernel
theorem dX12_patience_5 : decode cX12_patience 5 = .ok (.getfield 190, 3) := by decide +kernel
theorem dX12_patience_8 : decode cX12_patience 8 = .ok (.ireturn, 1) := by decide +kernel
theorem dX12_suspicion_0 : decode cX12_suspicion 0 = .ok (.aload_n 0, 1) := by decide +kernel
theorem dX12_suspicion_1 : decode cX12_suspicion 1 = .ok (.iload_n 1, 1) := by decide +kernel
theorem dX12_suspicion_2 : decode cX12_suspicion 2 = .ok (.invokevirtual 181, 3) := by decide +kernel
theorem dX12_suspicion_5 : decode cX12_suspicion 5 = .ok (.getfield 193, 3) := by decide +kernel
theorem dX12_suspicion_8 : decode cX12_suspicion 8 = .ok (.ireturn, 1) := by decide +kernel
theorem dX12_isAngry_0 : decode cX12_isAngry 0 = .ok (.aload_n 0, 1) := by decide +kernel
theorem dX12_isAngry_1 : decode cX12_isAngry 1 = .ok (.iload_n 1, 1) := by decide +kernel
theorem dX12_isAngry_2 : decode cX12_isAngry 2 = .ok (.invokevirtual 181, 3) := by decide +kernel
theorem dX12_isAngry_5 : decode cX12_isAngry 5 = .ok (.invokevirtual 196, 3) := by decide +kernel
theorem dX12_isAngry_8 : decode cX12_isAngry 8 = .ok (.ireturn, 1) := by decide +kernel
theorem dX12_echoesHeard_0 : decode cX12_echoesHeard 0 = .ok (.aload_n 0, 1) := by decide +kernel
theorem dX12_echoesHeard_1 : decode cX12_echoesHeard 1 = .ok (.iload_n 1, 1) := by decide +kernel
theorem dX12_echoesHeard_2 : decode cX12_echoesHeard 2 = .ok (.invokevirtual 181, 3) := by decide +kernel
theorem dX12_echoesHeard_5 : decode cX12_echoesHeard 5 = .ok (.getfield 200, 3) := by decide +kernel
theorem dX12_echoesHeard_8 : decode cX12_echoesHeard 8 = .ok (.ireturn, 1) := by decide +kernel
theorem dX12_heldFor_0 : decode cX12_heldFor 0 = .ok (.aload_n 0, 1) := by decide +kernel
theorem dX12_heldFor_1 : decode cX12_heldFor 1 = .ok (.iload_n 1, 1) := by decide +kernel
theorem dX12_heldFor_2 : decode cX12_heldFor 2 = .ok (.invokevirtual 181, 3) := by decide +kernel
theorem dX12_heldFor_5 : decode cX12_heldFor 5 = .ok (.getfield 203, 3) := by decide +kernel
theorem dX12_heldFor_8 : decode cX12_heldFor 8 = .ok (.ireturn, 1) := by decide +kernel
theorem dX12_shoutCustomer_0 : decode cX12_shoutCustomer 0 = .ok (.aload_n 0, 1) := by decide +kernel
theorem dX12_shoutCustomer_1 : decode cX12_shoutCustomer 1 = .ok (.iload_n 1, 1) := by decide +kernel
theorem dX12_shoutCustomer_2 : decode cX12_shoutCustomer 2 = .ok (.invokevirtual 210, 3) := by decide +kernel
theorem dX12_shoutCustomer_5 : decode cX12_shoutCustomer 5 = .ok (.getfield 214, 3) := by decide +kernel
theorem dX12_shoutCustomer_8 : decode cX12_shoutCustomer 8 = .ok (.ireturn, 1) := by decide +kernel
theorem dX12_shoutValley_0 : decode cX12_shoutValley 0 = .ok (.aload_n 0, 1) := by decide +kernel
theorem dX12_shoutValley_1 : decode cX12_shoutValley 1 = .ok (.iload_n 1, 1) := by decide +kernel
theorem dX12_shoutValley_2 : decode cX12_shoutValley 2 = .ok (.invokevirtual 210, 3) := by decide +kernel
theorem dX12_shoutValley_5 : decode cX12_shoutValley 5 = .ok (.getfield 219, 3) := by decide +kernel
theorem dX12_shoutValley_8 : decode cX12_shoutValley 8 = .ok (.ireturn, 1) := by decide +kernel
theorem dX12_shoutState_0 : decode cX12_shoutState 0 = .ok (.aload_n 0, 1) := by decide +kernel
theorem dX12_shoutState_1 : decode cX12_shoutState 1 = .ok (.iload_n 1, 1) := by decide +kernel
theorem dX12_shoutState_2 : decode cX12_shoutState 2 = .ok (.invokevirtual 210, 3) := by decide +kernel
theorem dX12_shoutState_5 : decode cX12_shoutState 5 = .ok (.getfield 222, 3) := by decide +kernel
theorem dX12_shoutState_8 : decode cX12_shoutState 8 = .ok (.ireturn, 1) := by decide +kernel
theorem dX12_returns_0 : decode cX12_returns 0 = .ok (.aload_n 0, 1) := by decide +kernel
theorem dX12_returns_1 : decode cX12_returns 1 = .ok (.iload_n 1, 1) := by decide +kernel
theorem dX12_returns_2 : decode cX12_returns 2 = .ok (.invokevirtual 210, 3) := by decide +kernel
theorem dX12_returns_5 : decode cX12_returns 5 = .ok (.getfield 225, 3) := by decide +kernel
theorem dX12_returns_8 : decode cX12_returns 8 = .ok (.ireturn, 1) := by decide +kernel
theorem dX12_receipt_0 : decode cX12_receipt 0 = .ok (.aload_n 0, 1) := by decide +kernel
theorem dX12_receipt_1 : decode cX12_receipt 1 = .ok (.iload_n 1, 1) := by decide +kernel
theorem dX12_receipt_2 : decode cX12_receipt 2 = .ok (.invokevirtual 210, 3) := by decide +kernel
theorem dX12_receipt_5 : decode cX12_receipt 5 = .ok (.invokevirtual 228, 3) := by decide +kernel
theorem dX12_receipt_8 : decode cX12_receipt 8 = .ok (.ireturn, 1) := by decide +kernel
theorem dX12_nextReturn_0 : decode cX12_nextReturn 0 = .ok (.aload_n 0, 1) := by decide +kernel
theorem dX12_nextReturn_1 : decode cX12_nextReturn 1 = .ok (.iload_n 1, 1) := by decide +kernel
theorem dX12_nextReturn_2 : decode cX12_nextReturn 2 = .ok (.invokevirtual 210, 3) := by decide +kernel
theorem dX12_nextReturn_5 : decode cX12_nextReturn 5 = .ok (.astore_n 2, 1) := by decide +kernel
theorem dX12_nextReturn_6 : decode cX12_nextReturn 6 = .ok (.aload_n 2, 1) := by decide +kernel
theorem dX12_nextReturn_7 : decode cX12_nextReturn 7 = .ok (.invokevirtual 230, 3) := by decide +kernel
theorem dX12_nextReturn_10 : decode cX12_nextReturn 10 = .ok (.ifCond .eq 10, 3) := by decide +kernel
theorem dX12_nextReturn_13 : decode cX12_nextReturn 13 = .ok (.aload_n 2, 1) := by decide +kernel
theorem dX12_nextReturn_14 : decode cX12_nextReturn 14 = .ok (.invokevirtual 233, 3) := by decide +kernel
theorem dX12_nextReturn_17 : decode cX12_nextReturn 17 = .ok (.goto 4, 3) := by decide +kernel
theorem dX12_nextReturn_20 : decode cX12_nextReturn 20 = .ok (.iconst (-1), 1) := by decide +kernel
theorem dX12_nextReturn_21 : decode cX12_nextReturn 21 = .ok (.ireturn, 1) := by decide +kernel
theorem dX12_patienceEnds_0 : decode cX12_patienceEnds 0 = .ok (.aload_n 0, 1) := by decide +kernel
theorem dX12_patienceEnds_1 : decode cX12_patienceEnds 1 = .ok (.iload_n 1, 1) := by decide +kernel
theorem dX12_patienceEnds_2 : decode cX12_patienceEnds 2 = .ok (.invokevirtual 210, 3) := by decide +kernel
theorem dX12_patienceEnds_5 : decode cX12_patienceEnds 5 = .ok (.getfield 236, 3) := by decide +kernel
theorem dX12_patienceEnds_8 : decode cX12_patienceEnds 8 = .ok (.ireturn, 1) := by decide +kernel
theorem dX12_nextEvent_0 : decode cX12_nextEvent 0 = .ok (.aload_n 0, 1) := by decide +kernel
theorem dX12_nextEvent_1 : decode cX12_nextEvent 1 = .ok (.getfield 19, 3) := by decide +kernel
theorem dX12_nextEvent_4 : decode cX12_nextEvent 4 = .ok (.invokevirtual 260, 3) := by decide +kernel
theorem dX12_nextEvent_7 : decode cX12_nextEvent 7 = .ok (.ireturn, 1) := by decide +kernel
theorem dX12_finalState_0 : decode cX12_finalState 0 = .ok (.aload_n 0, 1) := by decide +kernel
theorem dX12_finalState_1 : decode cX12_finalState 1 = .ok (.iload_n 1, 1) := by decide +kernel
theorem dX12_finalState_2 : decode cX12_finalState 2 = .ok (.invokevirtual 210, 3) := by decide +kernel
theorem dX12_finalState_5 : decode cX12_finalState 5 = .ok (.invokevirtual 266, 3) := by decide +kernel
theorem dX12_finalState_8 : decode cX12_finalState 8 = .ok (.ireturn, 1) := by decide +kernel
theorem dX12_violations_0 : decode cX12_violations 0 = .ok (.aload_n 0, 1) := by decide +kernel
theorem dX12_violations_1 : decode cX12_violations 1 = .ok (.getfield 19, 3) := by decide +kernel
theorem dX12_violations_4 : decode cX12_violations 4 = .ok (.invokevirtual 269, 3) := by decide +kernel
theorem dX12_violations_7 : decode cX12_violations 7 = .ok (.ireturn, 1) := by decide +kernel
theorem dX12_addValley_0 : decode cX12_addValley 0 = .ok (.aload_n 0, 1) := by decide +kernel
theorem dX12_addValley_1 : decode cX12_addValley 1 = .ok (.getfield 10, 3) := by decide +kernel
theorem dX12_addValley_4 : decode cX12_addValley 4 = .ok (.invokevirtual 147, 3) := by decide +kernel
theorem dX12_addValley_7 : decode cX12_addValley 7 = .ok (.lstore 4, 2) := by decide +kernel
theorem dX12_addValley_9 : decode cX12_addValley 9 = .ok (.iload_n 1, 1) := by decide +kernel
theorem dX12_addValley_10 : decode cX12_addValley 10 = .ok (.iconst 1, 1) := by decide +kernel
theorem dX12_addValley_11 : decode cX12_addValley 11 = .ok (.bipush 60, 2) := by decide +kernel
theorem dX12_addValley_13 : decode cX12_addValley 13 = .ok (.invokestatic 73, 3) := by decide +kernel
theorem dX12_addValley_16 : decode cX12_addValley 16 = .ok (.invokestatic 77, 3) := by decide +kernel
theorem dX12_addValley_19 : decode cX12_addValley 19 = .ok (.iload_n 2, 1) := by decide +kernel
theorem dX12_addValley_20 : decode cX12_addValley 20 = .ok (.iconst 1, 1) := by decide +kernel
theorem dX12_addValley_21 : decode cX12_addValley 21 = .ok (.iconst 4, 1) := by decide +kernel
theorem dX12_addValley_22 : decode cX12_addValley 22 = .ok (.invokestatic 73, 3) := by decide +kernel
theorem dX12_addValley_25 : decode cX12_addValley 25 = .ok (.invokestatic 77, 3) := by decide +kernel
theorem dX12_addValley_28 : decode cX12_addValley 28 = .ok (.iload_n 3, 1) := by decide +kernel
theorem dX12_addValley_29 : decode cX12_addValley 29 = .ok (.iconst 1, 1) := by decide +kernel
theorem dX12_addValley_30 : decode cX12_addValley 30 = .ok (.bipush 99, 2) := by decide +kernel
theorem dX12_addValley_32 : decode cX12_addValley 32 = .ok (.invokestatic 73, 3) := by decide +kernel
theorem dX12_addValley_35 : decode cX12_addValley 35 = .ok (.invokestatic 77, 3) := by decide +kernel
theorem dX12_addValley_38 : decode cX12_addValley 38 = .ok (.lload 4, 2) := by decide +kernel
theorem dX12_addValley_40 : decode cX12_addValley 40 = .ok (.lconst 0, 1) := by decide +kernel
theorem dX12_addValley_41 : decode cX12_addValley 41 = .ok (.lcmp, 1) := by decide +kernel
theorem dX12_addValley_42 : decode cX12_addValley 42 = .ok (.ifCond .eq 32, 3) := by decide +kernel
theorem dX12_addValley_45 : decode cX12_addValley 45 = .ok (.aload_n 0, 1) := by decide +kernel
theorem dX12_addValley_46 : decode cX12_addValley 46 = .ok (.getfield 19, 3) := by decide +kernel
theorem dX12_addValley_49 : decode cX12_addValley 49 = .ok (.lload 4, 2) := by decide +kernel
theorem dX12_addValley_51 : decode cX12_addValley 51 = .ok (.invokevirtual 151, 3) := by decide +kernel
theorem dX12_addValley_54 : decode cX12_addValley 54 = .ok (.iconst (-1), 1) := by decide +kernel
theorem dX12_addValley_55 : decode cX12_addValley 55 = .ok (.if_icmp .ne 19, 3) := by decide +kernel
theorem dX12_addValley_58 : decode cX12_addValley 58 = .ok (.aload_n 0, 1) := by decide +kernel
theorem dX12_addValley_59 : decode cX12_addValley 59 = .ok (.getfield 19, 3) := by decide +kernel
theorem dX12_addValley_62 : decode cX12_addValley 62 = .ok (.getfield 108, 3) := by decide +kernel
theorem dX12_addValley_65 : decode cX12_addValley 65 = .ok (.bipush 8, 2) := by decide +kernel
theorem dX12_addValley_67 : decode cX12_addValley 67 = .ok (.if_icmp .ge 7, 3) := by decide +kernel
theorem dX12_addValley_70 : decode cX12_addValley 70 = .ok (.iconst 1, 1) := by decide +kernel
theorem dX12_addValley_71 : decode cX12_addValley 71 = .ok (.goto 4, 3) := by decide +kernel
theorem dX12_addValley_74 : decode cX12_addValley 74 = .ok (.iconst 0, 1) := by decide +kernel
theorem dX12_addValley_75 : decode cX12_addValley 75 = .ok (.invokestatic 65, 3) := by decide +kernel
theorem dX12_addValley_78 : decode cX12_addValley 78 = .ok (.aload_n 0, 1) := by decide +kernel
theorem dX12_addValley_79 : decode cX12_addValley 79 = .ok (.getfield 46, 3) := by decide +kernel
theorem dX12_addValley_82 : decode cX12_addValley 82 = .ok (.aload_n 0, 1) := by decide +kernel
theorem dX12_addValley_83 : decode cX12_addValley 83 = .ok (.getfield 19, 3) := by decide +kernel
theorem dX12_addValley_86 : decode cX12_addValley 86 = .ok (.invokevirtual 95, 3) := by decide +kernel
theorem dX12_addValley_89 : decode cX12_addValley 89 = .ok (.aload_n 0, 1) := by decide +kernel
theorem dX12_addValley_90 : decode cX12_addValley 90 = .ok (.getfield 10, 3) := by decide +kernel
theorem dX12_addValley_93 : decode cX12_addValley 93 = .ok (.iconst 0, 1) := by decide +kernel
theorem dX12_addValley_94 : decode cX12_addValley 94 = .ok (.putfield 61, 3) := by decide +kernel
theorem dX12_addValley_97 : decode cX12_addValley 97 = .ok (.aload_n 0, 1) := by decide +kernel
theorem dX12_addValley_98 : decode cX12_addValley 98 = .ok (.getfield 19, 3) := by decide +kernel
theorem dX12_addValley_101 : decode cX12_addValley 101 = .ok (.lload 4, 2) := by decide +kernel
theorem dX12_addValley_103 : decode cX12_addValley 103 = .ok (.iload_n 1, 1) := by decide +kernel
theorem dX12_addValley_104 : decode cX12_addValley 104 = .ok (.iload_n 2, 1) := by decide +kernel
theorem dX12_addValley_105 : decode cX12_addValley 105 = .ok (.iload_n 3, 1) := by decide +kernel
theorem dX12_addValley_106 : decode cX12_addValley 106 = .ok (.invokevirtual 277, 3) := by decide +kernel
theorem dX12_addValley_109 : decode cX12_addValley 109 = .ok (.ireturn, 1) := by decide +kernel
theorem dX12_addCustomer_0 : decode cX12_addCustomer 0 = .ok (.aload_n 0, 1) := by decide +kernel
theorem dX12_addCustomer_1 : decode cX12_addCustomer 1 = .ok (.getfield 10, 3) := by decide +kernel
theorem dX12_addCustomer_4 : decode cX12_addCustomer 4 = .ok (.invokevirtual 147, 3) := by decide +kernel
theorem dX12_addCustomer_7 : decode cX12_addCustomer 7 = .ok (.lstore_n 3, 1) := by decide +kernel
theorem dX12_addCustomer_8 : decode cX12_addCustomer 8 = .ok (.iload_n 1, 1) := by decide +kernel
theorem dX12_addCustomer_9 : decode cX12_addCustomer 9 = .ok (.iconst 1, 1) := by decide +kernel
theorem dX12_addCustomer_10 : decode cX12_addCustomer 10 = .ok (.sipush 240, 3) := by decide +kernel
theorem dX12_addCustomer_13 : decode cX12_addCustomer 13 = .ok (.invokestatic 73, 3) := by decide +kernel
theorem dX12_addCustomer_16 : decode cX12_addCustomer 16 = .ok (.invokestatic 77, 3) := by decide +kernel
theorem dX12_addCustomer_19 : decode cX12_addCustomer 19 = .ok (.iload_n 2, 1) := by decide +kernel
theorem dX12_addCustomer_20 : decode cX12_addCustomer 20 = .ok (.iconst 0, 1) := by decide +kernel
theorem dX12_addCustomer_21 : decode cX12_addCustomer 21 = .ok (.sipush 9999, 3) := by decide +kernel
theorem dX12_addCustomer_24 : decode cX12_addCustomer 24 = .ok (.invokestatic 73, 3) := by decide +kernel
theorem dX12_addCustomer_27 : decode cX12_addCustomer 27 = .ok (.invokestatic 77, 3) := by decide +kernel
theorem dX12_addCustomer_30 : decode cX12_addCustomer 30 = .ok (.lload_n 3, 1) := by decide +kernel
theorem dX12_addCustomer_31 : decode cX12_addCustomer 31 = .ok (.lconst 0, 1) := by decide +kernel
theorem dX12_addCustomer_32 : decode cX12_addCustomer 32 = .ok (.lcmp, 1) := by decide +kernel
theorem dX12_addCustomer_33 : decode cX12_addCustomer 33 = .ok (.ifCond .eq 31, 3) := by decide +kernel
theorem dX12_addCustomer_36 : decode cX12_addCustomer 36 = .ok (.aload_n 0, 1) := by decide +kernel
theorem dX12_addCustomer_37 : decode cX12_addCustomer 37 = .ok (.getfield 19, 3) := by decide +kernel
theorem dX12_addCustomer_40 : decode cX12_addCustomer 40 = .ok (.lload_n 3, 1) := by decide +kernel
theorem dX12_addCustomer_41 : decode cX12_addCustomer 41 = .ok (.invokevirtual 178, 3) := by decide +kernel
theorem dX12_addCustomer_44 : decode cX12_addCustomer 44 = .ok (.iconst (-1), 1) := by decide +kernel
theorem dX12_addCustomer_45 : decode cX12_addCustomer 45 = .ok (.if_icmp .ne 19, 3) := by decide +kernel
theorem dX12_addCustomer_48 : decode cX12_addCustomer 48 = .ok (.aload_n 0, 1) := by decide +kernel
theorem dX12_addCustomer_49 : decode cX12_addCustomer 49 = .ok (.getfield 19, 3) := by decide +kernel
theorem dX12_addCustomer_52 : decode cX12_addCustomer 52 = .ok (.getfield 111, 3) := by decide +kernel
theorem dX12_addCustomer_55 : decode cX12_addCustomer 55 = .ok (.bipush 8, 2) := by decide +kernel
theorem dX12_addCustomer_57 : decode cX12_addCustomer 57 = .ok (.if_icmp .ge 7, 3) := by decide +kernel
theorem dX12_addCustomer_60 : decode cX12_addCustomer 60 = .ok (.iconst 1, 1) := by decide +kernel
theorem dX12_addCustomer_61 : decode cX12_addCustomer 61 = .ok (.goto 4, 3) := by decide +kernel
theorem dX12_addCustomer_64 : decode cX12_addCustomer 64 = .ok (.iconst 0, 1) := by decide +kernel
theorem dX12_addCustomer_65 : decode cX12_addCustomer 65 = .ok (.invokestatic 65, 3) := by decide +kernel
theorem dX12_addCustomer_68 : decode cX12_addCustomer 68 = .ok (.aload_n 0, 1) := by decide +kernel
theorem dX12_addCustomer_69 : decode cX12_addCustomer 69 = .ok (.getfield 46, 3) := by decide +kernel
theorem dX12_addCustomer_72 : decode cX12_addCustomer 72 = .ok (.aload_n 0, 1) := by decide +kernel
theorem dX12_addCustomer_73 : decode cX12_addCustomer 73 = .ok (.getfield 19, 3) := by decide +kernel
theorem dX12_addCustomer_76 : decode cX12_addCustomer 76 = .ok (.invokevirtual 95, 3) := by decide +kernel
theorem dX12_addCustomer_79 : decode cX12_addCustomer 79 = .ok (.aload_n 0, 1) := by decide +kernel
theorem dX12_addCustomer_80 : decode cX12_addCustomer 80 = .ok (.getfield 10, 3) := by decide +kernel
theorem dX12_addCustomer_83 : decode cX12_addCustomer 83 = .ok (.iconst 0, 1) := by decide +kernel
theorem dX12_addCustomer_84 : decode cX12_addCustomer 84 = .ok (.putfield 61, 3) := by decide +kernel
theorem dX12_addCustomer_87 : decode cX12_addCustomer 87 = .ok (.aload_n 0, 1) := by decide +kernel
theorem dX12_addCustomer_88 : decode cX12_addCustomer 88 = .ok (.getfield 19, 3) := by decide +kernel
theorem dX12_addCustomer_91 : decode cX12_addCustomer 91 = .ok (.lload_n 3, 1) := by decide +kernel
theorem dX12_addCustomer_92 : decode cX12_addCustomer 92 = .ok (.iload_n 1, 1) := by decide +kernel
theorem dX12_addCustomer_93 : decode cX12_addCustomer 93 = .ok (.iload_n 2, 1) := by decide +kernel
theorem dX12_addCustomer_94 : decode cX12_addCustomer 94 = .ok (.invokevirtual 281, 3) := by decide +kernel
theorem dX12_addCustomer_97 : decode cX12_addCustomer 97 = .ok (.ireturn, 1) := by decide +kernel
theorem dX12_shout_0 : decode cX12_shout 0 = .ok (.aload_n 0, 1) := by decide +kernel
theorem dX12_shout_1 : decode cX12_shout 1 = .ok (.getfield 19, 3) := by decide +kernel
theorem dX12_shout_4 : decode cX12_shout 4 = .ok (.iload_n 1, 1) := by decide +kernel
theorem dX12_shout_5 : decode cX12_shout 5 = .ok (.iload_n 2, 1) := by decide +kernel
theorem dX12_shout_6 : decode cX12_shout 6 = .ok (.iload_n 3, 1) := by decide +kernel
theorem dX12_shout_7 : decode cX12_shout 7 = .ok (.iload 4, 2) := by decide +kernel
theorem dX12_shout_9 : decode cX12_shout 9 = .ok (.invokevirtual 285, 3) := by decide +kernel
theorem dX12_shout_12 : decode cX12_shout 12 = .ok (.invokestatic 289, 3) := by decide +kernel
theorem dX12_shout_15 : decode cX12_shout 15 = .ok (.aload_n 0, 1) := by decide +kernel
theorem dX12_shout_16 : decode cX12_shout 16 = .ok (.getfield 46, 3) := by decide +kernel
theorem dX12_shout_19 : decode cX12_shout 19 = .ok (.aload_n 0, 1) := by decide +kernel
theorem dX12_shout_20 : decode cX12_shout 20 = .ok (.getfield 19, 3) := by decide +kernel
theorem dX12_shout_23 : decode cX12_shout 23 = .ok (.invokevirtual 95, 3) := by decide +kernel
theorem dX12_shout_26 : decode cX12_shout 26 = .ok (.aload_n 0, 1) := by decide +kernel
theorem dX12_shout_27 : decode cX12_shout 27 = .ok (.getfield 19, 3) := by decide +kernel
theorem dX12_shout_30 : decode cX12_shout 30 = .ok (.iload_n 1, 1) := by decide +kernel
theorem dX12_shout_31 : decode cX12_shout 31 = .ok (.iload_n 2, 1) := by decide +kernel
theorem dX12_shout_32 : decode cX12_shout 32 = .ok (.iload_n 3, 1) := by decide +kernel
theorem dX12_shout_33 : decode cX12_shout 33 = .ok (.iload 4, 2) := by decide +kernel
theorem dX12_shout_35 : decode cX12_shout 35 = .ok (.invokevirtual 293, 3) := by decide +kernel
theorem dX12_shout_38 : decode cX12_shout 38 = .ok (.ireturn, 1) := by decide +kernel
theorem dX12_cancel_0 : decode cX12_cancel 0 = .ok (.aload_n 0, 1) := by decide +kernel
theorem dX12_cancel_1 : decode cX12_cancel 1 = .ok (.getfield 19, 3) := by decide +kernel
theorem dX12_cancel_4 : decode cX12_cancel 4 = .ok (.iload_n 1, 1) := by decide +kernel
theorem dX12_cancel_5 : decode cX12_cancel 5 = .ok (.invokevirtual 297, 3) := by decide +kernel
theorem dX12_cancel_8 : decode cX12_cancel 8 = .ok (.invokestatic 289, 3) := by decide +kernel
theorem dX12_cancel_11 : decode cX12_cancel 11 = .ok (.aload_n 0, 1) := by decide +kernel
theorem dX12_cancel_12 : decode cX12_cancel 12 = .ok (.getfield 46, 3) := by decide +kernel
theorem dX12_cancel_15 : decode cX12_cancel 15 = .ok (.aload_n 0, 1) := by decide +kernel
theorem dX12_cancel_16 : decode cX12_cancel 16 = .ok (.getfield 19, 3) := by decide +kernel
theorem dX12_cancel_19 : decode cX12_cancel 19 = .ok (.invokevirtual 95, 3) := by decide +kernel
theorem dX12_cancel_22 : decode cX12_cancel 22 = .ok (.aload_n 0, 1) := by decide +kernel
theorem dX12_cancel_23 : decode cX12_cancel 23 = .ok (.getfield 19, 3) := by decide +kernel
theorem dX12_cancel_26 : decode cX12_cancel 26 = .ok (.iload_n 1, 1) := by decide +kernel
theorem dX12_cancel_27 : decode cX12_cancel 27 = .ok (.invokevirtual 301, 3) := by decide +kernel
theorem dX12_cancel_30 : decode cX12_cancel 30 = .ok (.ireturn, 1) := by decide +kernel
theorem dX12_fake_0 : decode cX12_fake 0 = .ok (.aload_n 0, 1) := by decide +kernel
theorem dX12_fake_1 : decode cX12_fake 1 = .ok (.getfield 19, 3) := by decide +kernel
theorem dX12_fake_4 : decode cX12_fake 4 = .ok (.iload_n 1, 1) := by decide +kernel
theorem dX12_fake_5 : decode cX12_fake 5 = .ok (.invokevirtual 297, 3) := by decide +kernel
theorem dX12_fake_8 : decode cX12_fake 8 = .ok (.invokestatic 289, 3) := by decide +kernel
theorem dX12_fake_11 : decode cX12_fake 11 = .ok (.aload_n 0, 1) := by decide +kernel
theorem dX12_fake_12 : decode cX12_fake 12 = .ok (.getfield 46, 3) := by decide +kernel
theorem dX12_fake_15 : decode cX12_fake 15 = .ok (.aload_n 0, 1) := by decide +kernel
theorem dX12_fake_16 : decode cX12_fake 16 = .ok (.getfield 19, 3) := by decide +kernel
theorem dX12_fake_19 : decode cX12_fake 19 = .ok (.invokevirtual 95, 3) := by decide +kernel
theorem dX12_fake_22 : decode cX12_fake 22 = .ok (.aload_n 0, 1) := by decide +kernel
theorem dX12_fake_23 : decode cX12_fake 23 = .ok (.getfield 19, 3) := by decide +kernel
theorem dX12_fake_26 : decode cX12_fake 26 = .ok (.iload_n 1, 1) := by decide +kernel
theorem dX12_fake_27 : decode cX12_fake 27 = .ok (.invokevirtual 304, 3) := by decide +kernel
theorem dX12_fake_30 : decode cX12_fake 30 = .ok (.ireturn, 1) := by decide +kernel
theorem dX12_setFog_0 : decode cX12_setFog 0 = .ok (.aload_n 0, 1) := by decide +kernel
theorem dX12_setFog_1 : decode cX12_setFog 1 = .ok (.getfield 19, 3) := by decide +kernel
theorem dX12_setFog_4 : decode cX12_setFog 4 = .ok (.iload_n 1, 1) := by decide +kernel
theorem dX12_setFog_5 : decode cX12_setFog 5 = .ok (.iload_n 2, 1) := by decide +kernel
theorem dX12_setFog_6 : decode cX12_setFog 6 = .ok (.invokevirtual 307, 3) := by decide +kernel
theorem dX12_setFog_9 : decode cX12_setFog 9 = .ok (.invokestatic 289, 3) := by decide +kernel
theorem dX12_setFog_12 : decode cX12_setFog 12 = .ok (.aload_n 0, 1) := by decide +kernel
theorem dX12_setFog_13 : decode cX12_setFog 13 = .ok (.getfield 46, 3) := by decide +kernel
theorem dX12_setFog_16 : decode cX12_setFog 16 = .ok (.aload_n 0, 1) := by decide +kernel
theorem dX12_setFog_17 : decode cX12_setFog 17 = .ok (.getfield 19, 3) := by decide +kernel
theorem dX12_setFog_20 : decode cX12_setFog 20 = .ok (.invokevirtual 95, 3) := by decide +kernel
theorem dX12_setFog_23 : decode cX12_setFog 23 = .ok (.aload_n 0, 1) := by decide +kernel
theorem dX12_setFog_24 : decode cX12_setFog 24 = .ok (.getfield 19, 3) := by decide +kernel
theorem dX12_setFog_27 : decode cX12_setFog 27 = .ok (.iload_n 1, 1) := by decide +kernel
theorem dX12_setFog_28 : decode cX12_setFog 28 = .ok (.iload_n 2, 1) := by decide +kernel
theorem dX12_setFog_29 : decode cX12_setFog 29 = .ok (.invokevirtual 311, 3) := by decide +kernel
theorem dX12_setFog_32 : decode cX12_setFog 32 = .ok (.ireturn, 1) := by decide +kernel
theorem dX12_setPrice_0 : decode cX12_setPrice 0 = .ok (.aload_n 0, 1) := by decide +kernel
theorem dX12_setPrice_1 : decode cX12_setPrice 1 = .ok (.getfield 19, 3) := by decide +kernel
theorem dX12_setPrice_4 : decode cX12_setPrice 4 = .ok (.iload_n 1, 1) := by decide +kernel
theorem dX12_setPrice_5 : decode cX12_setPrice 5 = .ok (.iload_n 2, 1) := by decide +kernel
theorem dX12_setPrice_6 : decode cX12_setPrice 6 = .ok (.invokevirtual 314, 3) := by decide +kernel
theorem dX12_setPrice_9 : decode cX12_setPrice 9 = .ok (.invokestatic 289, 3) := by decide +kernel
theorem dX12_setPrice_12 : decode cX12_setPrice 12 = .ok (.aload_n 0, 1) := by decide +kernel
theorem dX12_setPrice_13 : decode cX12_setPrice 13 = .ok (.getfield 46, 3) := by decide +kernel
theorem dX12_setPrice_16 : decode cX12_setPrice 16 = .ok (.aload_n 0, 1) := by decide +kernel
theorem dX12_setPrice_17 : decode cX12_setPrice 17 = .ok (.getfield 19, 3) := by decide +kernel
theorem dX12_setPrice_20 : decode cX12_setPrice 20 = .ok (.invokevirtual 95, 3) := by decide +kernel
theorem dX12_setPrice_23 : decode cX12_setPrice 23 = .ok (.aload_n 0, 1) := by decide +kernel
theorem dX12_setPrice_24 : decode cX12_setPrice 24 = .ok (.getfield 19, 3) := by decide +kernel
theorem dX12_setPrice_27 : decode cX12_setPrice 27 = .ok (.iload_n 1, 1) := by decide +kernel
theorem dX12_setPrice_28 : decode cX12_setPrice 28 = .ok (.iload_n 2, 1) := by decide +kernel
theorem dX12_setPrice_29 : decode cX12_setPrice 29 = .ok (.invokevirtual 317, 3) := by decide +kernel
theorem dX12_setPrice_32 : decode cX12_setPrice 32 = .ok (.ireturn, 1) := by decide +kernel
theorem dX12_setWell_0 : decode cX12_setWell 0 = .ok (.aload_n 0, 1) := by decide +kernel
theorem dX12_setWell_1 : decode cX12_setWell 1 = .ok (.getfield 19, 3) := by decide +kernel
theorem dX12_setWell_4 : decode cX12_setWell 4 = .ok (.iload_n 1, 1) := by decide +kernel
theorem dX12_setWell_5 : decode cX12_setWell 5 = .ok (.invokevirtual 320, 3) := by decide +kernel
theorem dX12_setWell_8 : decode cX12_setWell 8 = .ok (.invokestatic 289, 3) := by decide +kernel
theorem dX12_setWell_11 : decode cX12_setWell 11 = .ok (.aload_n 0, 1) := by decide +kernel
theorem dX12_setWell_12 : decode cX12_setWell 12 = .ok (.getfield 46, 3) := by decide +kernel
theorem dX12_setWell_15 : decode cX12_setWell 15 = .ok (.aload_n 0, 1) := by decide +kernel
theorem dX12_setWell_16 : decode cX12_setWell 16 = .ok (.getfield 19, 3) := by decide +kernel
theorem dX12_setWell_19 : decode cX12_setWell 19 = .ok (.invokevirtual 95, 3) := by decide +kernel
theorem dX12_setWell_22 : decode cX12_setWell 22 = .ok (.aload_n 0, 1) := by decide +kernel
theorem dX12_setWell_23 : decode cX12_setWell 23 = .ok (.getfield 19, 3) := by decide +kernel
theorem dX12_setWell_26 : decode cX12_setWell 26 = .ok (.iload_n 1, 1) := by decide +kernel
theorem dX12_setWell_27 : decode cX12_setWell 27 = .ok (.invokevirtual 323, 3) := by decide +kernel
theorem dX12_setWell_30 : decode cX12_setWell 30 = .ok (.ireturn, 1) := by decide +kernel
theorem dX12_pass_0 : decode cX12_pass 0 = .ok (.aload_n 0, 1) := by decide +kernel
theorem dX12_pass_1 : decode cX12_pass 1 = .ok (.getfield 19, 3) := by decide +kernel
theorem dX12_pass_4 : decode cX12_pass 4 = .ok (.iload_n 1, 1) := by decide +kernel
theorem dX12_pass_5 : decode cX12_pass 5 = .ok (.invokevirtual 326, 3) := by decide +kernel
theorem dX12_pass_8 : decode cX12_pass 8 = .ok (.invokestatic 289, 3) := by decide +kernel
theorem dX12_pass_11 : decode cX12_pass 11 = .ok (.aload_n 0, 1) := by decide +kernel
theorem dX12_pass_12 : decode cX12_pass 12 = .ok (.getfield 46, 3) := by decide +kernel
theorem dX12_pass_15 : decode cX12_pass 15 = .ok (.aload_n 0, 1) := by decide +kernel
theorem dX12_pass_16 : decode cX12_pass 16 = .ok (.getfield 19, 3) := by decide +kernel
theorem dX12_pass_19 : decode cX12_pass 19 = .ok (.invokevirtual 95, 3) := by decide +kernel
theorem dX12_pass_22 : decode cX12_pass 22 = .ok (.aload_n 0, 1) := by decide +kernel
theorem dX12_pass_23 : decode cX12_pass 23 = .ok (.getfield 19, 3) := by decide +kernel
theorem dX12_pass_26 : decode cX12_pass 26 = .ok (.iload_n 1, 1) := by decide +kernel
theorem dX12_pass_27 : decode cX12_pass 27 = .ok (.invokevirtual 329, 3) := by decide +kernel
theorem dX12_pass_30 : decode cX12_pass 30 = .ok (.ireturn, 1) := by decide +kernel
theorem dX12_valleyAt_0 : decode cX12_valleyAt 0 = .ok (.aload_n 0, 1) := by decide +kernel
theorem dX12_valleyAt_1 : decode cX12_valleyAt 1 = .ok (.getfield 19, 3) := by decide +kernel
theorem dX12_valleyAt_4 : decode cX12_valleyAt 4 = .ok (.iload_n 1, 1) := by decide +kernel
theorem dX12_valleyAt_5 : decode cX12_valleyAt 5 = .ok (.invokevirtual 243, 3) := by decide +kernel
theorem dX12_valleyAt_8 : decode cX12_valleyAt 8 = .ok (.invokestatic 246, 3) := by decide +kernel
theorem dX12_valleyAt_11 : decode cX12_valleyAt 11 = .ok (.aload_n 0, 1) := by decide +kernel
theorem dX12_valleyAt_12 : decode cX12_valleyAt 12 = .ok (.getfield 19, 3) := by decide +kernel
theorem dX12_valleyAt_15 : decode cX12_valleyAt 15 = .ok (.getfield 364, 3) := by decide +kernel
theorem dX12_valleyAt_18 : decode cX12_valleyAt 18 = .ok (.iload_n 1, 1) := by decide +kernel
theorem dX12_valleyAt_19 : decode cX12_valleyAt 19 = .ok (.aaload, 1) := by decide +kernel
theorem dX12_valleyAt_20 : decode cX12_valleyAt 20 = .ok (.areturn, 1) := by decide +kernel
theorem dX12_customerAt_0 : decode cX12_customerAt 0 = .ok (.aload_n 0, 1) := by decide +kernel
theorem dX12_customerAt_1 : decode cX12_customerAt 1 = .ok (.getfield 19, 3) := by decide +kernel
theorem dX12_customerAt_4 : decode cX12_customerAt 4 = .ok (.iload_n 1, 1) := by decide +kernel
theorem dX12_customerAt_5 : decode cX12_customerAt 5 = .ok (.invokevirtual 239, 3) := by decide +kernel
theorem dX12_customerAt_8 : decode cX12_customerAt 8 = .ok (.invokestatic 246, 3) := by decide +kernel
theorem dX12_customerAt_11 : decode cX12_customerAt 11 = .ok (.aload_n 0, 1) := by decide +kernel
theorem dX12_customerAt_12 : decode cX12_customerAt 12 = .ok (.getfield 19, 3) := by decide +kernel
theorem dX12_customerAt_15 : decode cX12_customerAt 15 = .ok (.getfield 368, 3) := by decide +kernel
theorem dX12_customerAt_18 : decode cX12_customerAt 18 = .ok (.iload_n 1, 1) := by decide +kernel
theorem dX12_customerAt_19 : decode cX12_customerAt 19 = .ok (.aaload, 1) := by decide +kernel
theorem dX12_customerAt_20 : decode cX12_customerAt 20 = .ok (.areturn, 1) := by decide +kernel
theorem dX12_shoutAt_0 : decode cX12_shoutAt 0 = .ok (.aload_n 0, 1) := by decide +kernel
theorem dX12_shoutAt_1 : decode cX12_shoutAt 1 = .ok (.getfield 19, 3) := by decide +kernel
theorem dX12_shoutAt_4 : decode cX12_shoutAt 4 = .ok (.iload_n 1, 1) := by decide +kernel
theorem dX12_shoutAt_5 : decode cX12_shoutAt 5 = .ok (.invokevirtual 372, 3) := by decide +kernel
theorem dX12_shoutAt_8 : decode cX12_shoutAt 8 = .ok (.invokestatic 246, 3) := by decide +kernel
theorem dX12_shoutAt_11 : decode cX12_shoutAt 11 = .ok (.aload_n 0, 1) := by decide +kernel
theorem dX12_shoutAt_12 : decode cX12_shoutAt 12 = .ok (.getfield 19, 3) := by decide +kernel
theorem dX12_shoutAt_15 : decode cX12_shoutAt 15 = .ok (.getfield 375, 3) := by decide +kernel
theorem dX12_shoutAt_18 : decode cX12_shoutAt 18 = .ok (.iload_n 1, 1) := by decide +kernel
theorem dX12_shoutAt_19 : decode cX12_shoutAt 19 = .ok (.aaload, 1) := by decide +kernel
theorem dX12_shoutAt_20 : decode cX12_shoutAt 20 = .ok (.areturn, 1) := by decide +kernel
theorem dX12_demand_0 : decode cX12_demand 0 = .ok (.aload_n 0, 1) := by decide +kernel
theorem dX12_demand_1 : decode cX12_demand 1 = .ok (.getstatic 379, 3) := by decide +kernel
theorem dX12_demand_4 : decode cX12_demand 4 = .ok (.if_acmp .eq 7, 3) := by decide +kernel
theorem dX12_demand_7 : decode cX12_demand 7 = .ok (.iconst 1, 1) := by decide +kernel
theorem dX12_demand_8 : decode cX12_demand 8 = .ok (.goto 4, 3) := by decide +kernel
theorem dX12_demand_11 : decode cX12_demand 11 = .ok (.iconst 0, 1) := by decide +kernel
theorem dX12_demand_12 : decode cX12_demand 12 = .ok (.invokestatic 246, 3) := by decide +kernel
theorem dX12_demand_15 : decode cX12_demand 15 = .ok (.aload_n 0, 1) := by decide +kernel
theorem dX12_demand_16 : decode cX12_demand 16 = .ok (.getstatic 385, 3) := by decide +kernel
theorem dX12_demand_19 : decode cX12_demand 19 = .ok (.if_acmp .eq 7, 3) := by decide +kernel
theorem dX12_demand_22 : decode cX12_demand 22 = .ok (.iconst 1, 1) := by decide +kernel
theorem dX12_demand_23 : decode cX12_demand 23 = .ok (.goto 4, 3) := by decide +kernel
theorem dX12_demand_26 : decode cX12_demand 26 = .ok (.iconst 0, 1) := by decide +kernel
theorem dX12_demand_27 : decode cX12_demand 27 = .ok (.invokestatic 77, 3) := by decide +kernel
theorem dX12_demand_30 : decode cX12_demand 30 = .ok (.aload_n 0, 1) := by decide +kernel
theorem dX12_demand_31 : decode cX12_demand 31 = .ok (.getstatic 388, 3) := by decide +kernel
theorem dX12_demand_34 : decode cX12_demand 34 = .ok (.if_acmp .eq 7, 3) := by decide +kernel
theorem dX12_demand_37 : decode cX12_demand 37 = .ok (.iconst 1, 1) := by decide +kernel
theorem dX12_demand_38 : decode cX12_demand 38 = .ok (.goto 4, 3) := by decide +kernel
theorem dX12_demand_41 : decode cX12_demand 41 = .ok (.iconst 0, 1) := by decide +kernel
theorem dX12_demand_42 : decode cX12_demand 42 = .ok (.invokestatic 65, 3) := by decide +kernel
theorem dX12_demand_45 : decode cX12_demand 45 = .ok (.return_, 1) := by decide +kernel
theorem dX12_demandIndex_0 : decode cX12_demandIndex 0 = .ok (.iload_n 0, 1) := by decide +kernel
theorem dX12_demandIndex_1 : decode cX12_demandIndex 1 = .ok (.ifCond .ne 14, 3) := by decide +kernel
theorem dX12_demandIndex_4 : decode cX12_demandIndex 4 = .ok (.new 391, 3) := by decide +kernel
theorem dX12_demandIndex_7 : decode cX12_demandIndex 7 = .ok (.dup, 1) := by decide +kernel
theorem dX12_demandIndex_8 : decode cX12_demandIndex 8 = .ok (.ldc_w 393, 3) := by decide +kernel
theorem dX12_demandIndex_11 : decode cX12_demandIndex 11 = .ok (.invokespecial 395, 3) := by decide +kernel
theorem dX12_demandIndex_14 : decode cX12_demandIndex 14 = .ok (.athrow, 1) := by decide +kernel
theorem dX12_demandIndex_15 : decode cX12_demandIndex 15 = .ok (.return_, 1) := by decide +kernel
theorem dX12_demandArgument_0 : decode cX12_demandArgument 0 = .ok (.iload_n 0, 1) := by decide +kernel
theorem dX12_demandArgument_1 : decode cX12_demandArgument 1 = .ok (.ifCond .ne 14, 3) := by decide +kernel
theorem dX12_demandArgument_4 : decode cX12_demandArgument 4 = .ok (.new 398, 3) := by decide +kernel
theorem dX12_demandArgument_7 : decode cX12_demandArgument 7 = .ok (.dup, 1) := by decide +kernel
theorem dX12_demandArgument_8 : decode cX12_demandArgument 8 = .ok (.ldc_w 400, 3) := by decide +kernel
theorem dX12_demandArgument_11 : decode cX12_demandArgument 11 = .ok (.invokespecial 402, 3) := by decide +kernel
theorem dX12_demandArgument_14 : decode cX12_demandArgument 14 = .ok (.athrow, 1) := by decide +kernel
theorem dX12_demandArgument_15 : decode cX12_demandArgument 15 = .ok (.return_, 1) := by decide +kernel
theorem dX12_demandState_0 : decode cX12_demandState 0 = .ok (.iload_n 0, 1) := by decide +kernel
theorem dX12_demandState_1 : decode cX12_demandState 1 = .ok (.ifCond .ne 14, 3) := by decide +kernel
theorem dX12_demandState_4 : decode cX12_demandState 4 = .ok (.new 403, 3) := by decide +kernel
theorem dX12_demandState_7 : decode cX12_demandState 7 = .ok (.dup, 1) := by decide +kernel
theorem dX12_demandState_8 : decode cX12_demandState 8 = .ok (.ldc_w 405, 3) := by decide +kernel
theorem dX12_demandState_11 : decode cX12_demandState 11 = .ok (.invokespecial 407, 3) := by decide +kernel
theorem dX12_demandState_14 : decode cX12_demandState 14 = .ok (.athrow, 1) := by decide +kernel
theorem dX12_demandState_15 : decode cX12_demandState 15 = .ok (.return_, 1) := by decide +kernel
theorem dX12_isWithin_0 : decode cX12_isWithin 0 = .ok (.iload_n 0, 1) := by decide +kernel
theorem dX12_isWithin_1 : decode cX12_isWithin 1 = .ok (.iload_n 1, 1) := by decide +kernel
theorem dX12_isWithin_2 : decode cX12_isWithin 2 = .ok (.if_icmp .lt 12, 3) := by decide +kernel
theorem dX12_isWithin_5 : decode cX12_isWithin 5 = .ok (.iload_n 0, 1) := by decide +kernel
theorem dX12_isWithin_6 : decode cX12_isWithin 6 = .ok (.iload_n 2, 1) := by decide +kernel
theorem dX12_isWithin_7 : decode cX12_isWithin 7 = .ok (.if_icmp .gt 7, 3) := by decide +kernel
theorem dX12_isWithin_10 : decode cX12_isWithin 10 = .ok (.iconst 1, 1) := by decide +kernel
theorem dX12_isWithin_11 : decode cX12_isWithin 11 = .ok (.goto 4, 3) := by decide +kernel
theorem dX12_isWithin_14 : decode cX12_isWithin 14 = .ok (.iconst 0, 1) := by decide +kernel
theorem dX12_isWithin_15 : decode cX12_isWithin 15 = .ok (.ireturn, 1) := by decide +kernel
theorem dX12_isLetter_0 : decode cX12_isLetter 0 = .ok (.iload_n 0, 1) := by decide +kernel
theorem dX12_isLetter_1 : decode cX12_isLetter 1 = .ok (.bipush 97, 2) := by decide +kernel
theorem dX12_isLetter_3 : decode cX12_isLetter 3 = .ok (.if_icmp .lt 13, 3) := by decide +kernel
theorem dX12_isLetter_6 : decode cX12_isLetter 6 = .ok (.iload_n 0, 1) := by decide +kernel
theorem dX12_isLetter_7 : decode cX12_isLetter 7 = .ok (.bipush 122, 2) := by decide +kernel
theorem dX12_isLetter_9 : decode cX12_isLetter 9 = .ok (.if_icmp .gt 7, 3) := by decide +kernel
theorem dX12_isLetter_12 : decode cX12_isLetter 12 = .ok (.iconst 1, 1) := by decide +kernel
theorem dX12_isLetter_13 : decode cX12_isLetter 13 = .ok (.goto 4, 3) := by decide +kernel
theorem dX12_isLetter_16 : decode cX12_isLetter 16 = .ok (.iconst 0, 1) := by decide +kernel
theorem dX12_isLetter_17 : decode cX12_isLetter 17 = .ok (.ireturn, 1) := by decide +kernel
theorem dX12_isDigit_0 : decode cX12_isDigit 0 = .ok (.iload_n 0, 1) := by decide +kernel
theorem dX12_isDigit_1 : decode cX12_isDigit 1 = .ok (.bipush 48, 2) := by decide +kernel
theorem dX12_isDigit_3 : decode cX12_isDigit 3 = .ok (.if_icmp .lt 13, 3) := by decide +kernel
theorem dX12_isDigit_6 : decode cX12_isDigit 6 = .ok (.iload_n 0, 1) := by decide +kernel
theorem dX12_isDigit_7 : decode cX12_isDigit 7 = .ok (.bipush 57, 2) := by decide +kernel
theorem dX12_isDigit_9 : decode cX12_isDigit 9 = .ok (.if_icmp .gt 7, 3) := by decide +kernel
theorem dX12_isDigit_12 : decode cX12_isDigit 12 = .ok (.iconst 1, 1) := by decide +kernel
theorem dX12_isDigit_13 : decode cX12_isDigit 13 = .ok (.goto 4, 3) := by decide +kernel
theorem dX12_isDigit_16 : decode cX12_isDigit 16 = .ok (.iconst 0, 1) := by decide +kernel
theorem dX12_isDigit_17 : decode cX12_isDigit 17 = .ok (.ireturn, 1) := by decide +kernel
theorem dX12_letterOf_0 : decode cX12_letterOf 0 = .ok (.iload_n 2, 1) := by decide +kernel
theorem dX12_letterOf_1 : decode cX12_letterOf 1 = .ok (.iconst 0, 1) := by decide +kernel
theorem dX12_letterOf_2 : decode cX12_letterOf 2 = .ok (.bipush 7, 2) := by decide +kernel
theorem dX12_letterOf_4 : decode cX12_letterOf 4 = .ok (.invokestatic 73, 3) := by decide +kernel
theorem dX12_letterOf_7 : decode cX12_letterOf 7 = .ok (.ifCond .ne 5, 3) := by decide +kernel
theorem dX12_letterOf_10 : decode cX12_letterOf 10 = .ok (.iconst (-1), 1) := by decide +kernel
theorem dX12_letterOf_11 : decode cX12_letterOf 11 = .ok (.ireturn, 1) := by decide +kernel
theorem dX12_letterOf_12 : decode cX12_letterOf 12 = .ok (.lload_n 0, 1) := by decide +kernel
theorem dX12_letterOf_13 : decode cX12_letterOf 13 = .ok (.bipush 8, 2) := by decide +kernel
theorem dX12_letterOf_15 : decode cX12_letterOf 15 = .ok (.bipush 7, 2) := by decide +kernel
theorem dX12_letterOf_17 : decode cX12_letterOf 17 = .ok (.iload_n 2, 1) := by decide +kernel
theorem dX12_letterOf_18 : decode cX12_letterOf 18 = .ok (.isub, 1) := by decide +kernel
theorem dX12_letterOf_19 : decode cX12_letterOf 19 = .ok (.imul, 1) := by decide +kernel
theorem dX12_letterOf_20 : decode cX12_letterOf 20 = .ok (.lushr, 1) := by decide +kernel
theorem dX12_letterOf_21 : decode cX12_letterOf 21 = .ok (.l2i, 1) := by decide +kernel
theorem dX12_letterOf_22 : decode cX12_letterOf 22 = .ok (.sipush 255, 3) := by decide +kernel
theorem dX12_letterOf_25 : decode cX12_letterOf 25 = .ok (.iand, 1) := by decide +kernel
theorem dX12_letterOf_26 : decode cX12_letterOf 26 = .ok (.istore_n 3, 1) := by decide +kernel
theorem dX12_letterOf_27 : decode cX12_letterOf 27 = .ok (.iload_n 3, 1) := by decide +kernel
theorem dX12_letterOf_28 : decode cX12_letterOf 28 = .ok (.ifCond .ne 7, 3) := by decide +kernel
theorem dX12_letterOf_31 : decode cX12_letterOf 31 = .ok (.iconst (-1), 1) := by decide +kernel
theorem dX12_letterOf_32 : decode cX12_letterOf 32 = .ok (.goto 4, 3) := by decide +kernel
theorem dX12_letterOf_35 : decode cX12_letterOf 35 = .ok (.iload_n 3, 1) := by decide +kernel
theorem dX12_letterOf_36 : decode cX12_letterOf 36 = .ok (.ireturn, 1) := by decide +kernel
theorem dX13_init_0 : decode cX13_init 0 = .ok (.aload_n 0, 1) := by decide +kernel
theorem dX13_init_1 : decode cX13_init 1 = .ok (.invokespecial 1, 3) := by decide +kernel
theorem dX13_init_4 : decode cX13_init 4 = .ok (.aload_n 0, 1) := by decide +kernel
theorem dX13_init_5 : decode cX13_init 5 = .ok (.bipush 8, 2) := by decide +kernel
theorem dX13_init_7 : decode cX13_init 7 = .ok (.bipush 6, 2) := by decide +kernel
theorem dX13_init_9 : decode cX13_init 9 = .ok (.multianewarray 7 2, 4) := by decide +kernel
theorem dX13_init_13 : decode cX13_init 13 = .ok (.putfield 9, 3) := by decide +kernel
theorem dX13_init_16 : decode cX13_init 16 = .ok (.aload_n 0, 1) := by decide +kernel
theorem dX13_init_17 : decode cX13_init 17 = .ok (.bipush 8, 2) := by decide +kernel
theorem dX13_init_19 : decode cX13_init 19 = .ok (.iconst 4, 1) := by decide +kernel
theorem dX13_init_20 : decode cX13_init 20 = .ok (.multianewarray 7 2, 4) := by decide +kernel
theorem dX13_init_24 : decode cX13_init 24 = .ok (.putfield 14, 3) := by decide +kernel
theorem dX13_init_27 : decode cX13_init 27 = .ok (.aload_n 0, 1) := by decide +kernel
theorem dX13_init_28 : decode cX13_init 28 = .ok (.bipush 30, 2) := by decide +kernel
theorem dX13_init_30 : decode cX13_init 30 = .ok (.bipush 9, 2) := by decide +kernel
theorem dX13_init_32 : decode cX13_init 32 = .ok (.multianewarray 7 2, 4) := by decide +kernel
theorem dX13_init_36 : decode cX13_init 36 = .ok (.putfield 17, 3) := by decide +kernel
theorem dX13_init_39 : decode cX13_init 39 = .ok (.aload_n 0, 1) := by decide +kernel
theorem dX13_init_40 : decode cX13_init 40 = .ok (.new 20, 3) := by decide +kernel
theorem dX13_init_43 : decode cX13_init 43 = .ok (.dup, 1) := by decide +kernel
theorem dX13_init_44 : decode cX13_init 44 = .ok (.invokespecial 22, 3) := by decide +kernel
theorem dX13_init_47 : decode cX13_init 47 = .ok (.putfield 23, 3) := by decide +kernel
theorem dX13_init_50 : decode cX13_init 50 = .ok (.return_, 1) := by decide +kernel
theorem dX13_grown_0 : decode cX13_grown 0 = .ok (.new 10, 3) := by decide +kernel
theorem dX13_grown_3 : decode cX13_grown 3 = .ok (.dup, 1) := by decide +kernel
theorem dX13_grown_4 : decode cX13_grown 4 = .ok (.invokespecial 27, 3) := by decide +kernel
theorem dX13_grown_7 : decode cX13_grown 7 = .ok (.astore_n 1, 1) := by decide +kernel
theorem dX13_grown_8 : decode cX13_grown 8 = .ok (.aload_n 0, 1) := by decide +kernel
theorem dX13_grown_9 : decode cX13_grown 9 = .ok (.iconst 1, 1) := by decide +kernel
theorem dX13_grown_10 : decode cX13_grown 10 = .ok (.iconst 2, 1) := by decide +kernel
theorem dX13_grown_11 : decode cX13_grown 11 = .ok (.invokestatic 28, 3) := by decide +kernel
theorem dX13_grown_14 : decode cX13_grown 14 = .ok (.ifCond .ne 8, 3) := by decide +kernel
theorem dX13_grown_17 : decode cX13_grown 17 = .ok (.ldc 34, 2) := by decide +kernel
theorem dX13_grown_19 : decode cX13_grown 19 = .ok (.goto 5, 3) := by decide +kernel
theorem dX13_grown_22 : decode cX13_grown 22 = .ok (.ldc 36, 2) := by decide +kernel
theorem dX13_grown_24 : decode cX13_grown 24 = .ok (.astore_n 2, 1) := by decide +kernel
theorem dX13_grown_25 : decode cX13_grown 25 = .ok (.aload_n 1, 1) := by decide +kernel
theorem dX13_grown_26 : decode cX13_grown 26 = .ok (.getfield 23, 3) := by decide +kernel
theorem dX13_grown_29 : decode cX13_grown 29 = .ok (.astore_n 3, 1) := by decide +kernel
theorem dX13_grown_30 : decode cX13_grown 30 = .ok (.aload_n 3, 1) := by decide +kernel
theorem dX13_grown_31 : decode cX13_grown 31 = .ok (.ldc 38, 2) := by decide +kernel
theorem dX13_grown_33 : decode cX13_grown 33 = .ok (.invokevirtual 40, 3) := by decide +kernel
theorem dX13_grown_36 : decode cX13_grown 36 = .ok (.aload_n 2, 1) := by decide +kernel
theorem dX13_grown_37 : decode cX13_grown 37 = .ok (.invokevirtual 40, 3) := by decide +kernel
theorem dX13_grown_40 : decode cX13_grown 40 = .ok (.pop, 1) := by decide +kernel
theorem dX13_grown_41 : decode cX13_grown 41 = .ok (.aload_n 0, 1) := by decide +kernel
theorem dX13_grown_42 : decode cX13_grown 42 = .ok (.iconst 2, 1) := by decide +kernel
theorem dX13_grown_43 : decode cX13_grown 43 = .ok (.bipush 9, 2) := by decide +kernel
theorem dX13_grown_45 : decode cX13_grown 45 = .ok (.invokestatic 28, 3) := by decide +kernel
theorem dX13_grown_48 : decode cX13_grown 48 = .ok (.istore 4, 2) := by decide +kernel
theorem dX13_grown_50 : decode cX13_grown 50 = .ok (.iconst 0, 1) := by decide +kernel
theorem dX13_grown_51 : decode cX13_grown 51 = .ok (.istore 5, 2) := by decide +kernel
theorem dX13_grown_53 : decode cX13_grown 53 = .ok (.iload 5, 2) := by decide +kernel
theorem dX13_grown_55 : decode cX13_grown 55 = .ok (.iload 4, 2) := by decide +kernel
theorem dX13_grown_57 : decode cX13_grown 57 = .ok (.if_icmp .ge 151, 3) := by decide +kernel
theorem dX13_grown_60 : decode cX13_grown 60 = .ok (.iconst 1, 1) := by decide +kernel
theorem dX13_grown_61 : decode cX13_grown 61 = .ok (.aload_n 0, 1) := by decide +kernel
theorem dX13_grown_62 : decode cX13_grown 62 = .ok (.bipush 10, 2) := by decide +kernel
theorem dX13_grown_64 : decode cX13_grown 64 = .ok (.iload 5, 2) := by decide +kernel
theorem dX13_grown_66 : decode cX13_grown 66 = .ok (.iadd, 1) := by decide +kernel
theorem dX13_grown_67 : decode cX13_grown 67 = .ok (.aload_n 0, 1) := by decide +kernel
theorem dX13_grown_68 : decode cX13_grown 68 = .ok (.bipush 20, 2) := by decide +kernel
theorem dX13_grown_70 : decode cX13_grown 70 = .ok (.iload 5, 2) := by decide +kernel
theorem dX13_grown_72 : decode cX13_grown 72 = .ok (.iadd, 1) := by decide +kernel
theorem dX13_grown_73 : decode cX13_grown 73 = .ok (.iconst 2, 1) := by decide +kernel
theorem dX13_grown_74 : decode cX13_grown 74 = .ok (.invokestatic 28, 3) := by decide +kernel
theorem dX13_grown_77 : decode cX13_grown 77 = .ok (.ifCond .ne 8, 3) := by decide +kernel
theorem dX13_grown_80 : decode cX13_grown 80 = .ok (.bipush 60, 2) := by decide +kernel
theorem dX13_grown_82 : decode cX13_grown 82 = .ok (.goto 5, 3) := by decide +kernel
theorem dX13_grown_85 : decode cX13_grown 85 = .ok (.bipush 9, 2) := by decide +kernel
theorem dX13_grown_87 : decode cX13_grown 87 = .ok (.invokestatic 28, 3) := by decide +kernel
theorem dX13_grown_90 : decode cX13_grown 90 = .ok (.iadd, 1) := by decide +kernel
theorem dX13_grown_91 : decode cX13_grown 91 = .ok (.istore 6, 2) := by decide +kernel
theorem dX13_grown_93 : decode cX13_grown 93 = .ok (.iconst 1, 1) := by decide +kernel
theorem dX13_grown_94 : decode cX13_grown 94 = .ok (.aload_n 0, 1) := by decide +kernel
theorem dX13_grown_95 : decode cX13_grown 95 = .ok (.bipush 30, 2) := by decide +kernel
theorem dX13_grown_97 : decode cX13_grown 97 = .ok (.iload 5, 2) := by decide +kernel
theorem dX13_grown_99 : decode cX13_grown 99 = .ok (.iadd, 1) := by decide +kernel
theorem dX13_grown_100 : decode cX13_grown 100 = .ok (.iconst 4, 1) := by decide +kernel
theorem dX13_grown_101 : decode cX13_grown 101 = .ok (.invokestatic 28, 3) := by decide +kernel
theorem dX13_grown_104 : decode cX13_grown 104 = .ok (.iadd, 1) := by decide +kernel
theorem dX13_grown_105 : decode cX13_grown 105 = .ok (.istore 7, 2) := by decide +kernel
theorem dX13_grown_107 : decode cX13_grown 107 = .ok (.iconst 1, 1) := by decide +kernel
theorem dX13_grown_108 : decode cX13_grown 108 = .ok (.aload_n 0, 1) := by decide +kernel
theorem dX13_grown_109 : decode cX13_grown 109 = .ok (.bipush 40, 2) := by decide +kernel
theorem dX13_grown_111 : decode cX13_grown 111 = .ok (.iload 5, 2) := by decide +kernel
theorem dX13_grown_113 : decode cX13_grown 113 = .ok (.iadd, 1) := by decide +kernel
theorem dX13_grown_114 : decode cX13_grown 114 = .ok (.aload_n 0, 1) := by decide +kernel
theorem dX13_grown_115 : decode cX13_grown 115 = .ok (.bipush 50, 2) := by decide +kernel
theorem dX13_grown_117 : decode cX13_grown 117 = .ok (.iload 5, 2) := by decide +kernel
theorem dX13_grown_119 : decode cX13_grown 119 = .ok (.iadd, 1) := by decide +kernel
theorem dX13_grown_120 : decode cX13_grown 120 = .ok (.iconst 2, 1) := by decide +kernel
theorem dX13_grown_121 : decode cX13_grown 121 = .ok (.invokestatic 28, 3) := by decide +kernel
theorem dX13_grown_124 : decode cX13_grown 124 = .ok (.ifCond .ne 8, 3) := by decide +kernel
theorem dX13_grown_127 : decode cX13_grown 127 = .ok (.bipush 99, 2) := by decide +kernel
theorem dX13_grown_129 : decode cX13_grown 129 = .ok (.goto 5, 3) := by decide +kernel
theorem dX13_grown_132 : decode cX13_grown 132 = .ok (.bipush 9, 2) := by decide +kernel
theorem dX13_grown_134 : decode cX13_grown 134 = .ok (.invokestatic 28, 3) := by decide +kernel
theorem dX13_grown_137 : decode cX13_grown 137 = .ok (.iadd, 1) := by decide +kernel
theorem dX13_grown_138 : decode cX13_grown 138 = .ok (.istore 8, 2) := by decide +kernel
theorem dX13_grown_140 : decode cX13_grown 140 = .ok (.aload_n 1, 1) := by decide +kernel
theorem dX13_grown_141 : decode cX13_grown 141 = .ok (.iload 6, 2) := by decide +kernel
theorem dX13_grown_143 : decode cX13_grown 143 = .ok (.iload 7, 2) := by decide +kernel
theorem dX13_grown_145 : decode cX13_grown 145 = .ok (.iload 8, 2) := by decide +kernel
theorem dX13_grown_147 : decode cX13_grown 147 = .ok (.invokevirtual 44, 3) := by decide +kernel
theorem dX13_grown_150 : decode cX13_grown 150 = .ok (.istore 9, 2) := by decide +kernel
theorem dX13_grown_152 : decode cX13_grown 152 = .ok (.aload_n 3, 1) := by decide +kernel
theorem dX13_grown_153 : decode cX13_grown 153 = .ok (.ldc 48, 2) := by decide +kernel
theorem dX13_grown_155 : decode cX13_grown 155 = .ok (.invokevirtual 40, 3) := by decide +kernel
theorem dX13_grown_158 : decode cX13_grown 158 = .ok (.bipush 97, 2) := by decide +kernel
theorem dX13_grown_160 : decode cX13_grown 160 = .ok (.iload 5, 2) := by decide +kernel
theorem dX13_grown_162 : decode cX13_grown 162 = .ok (.iadd, 1) := by decide +kernel
theorem dX13_grown_163 : decode cX13_grown 163 = .ok (.i2c, 1) := by decide +kernel
theorem dX13_grown_164 : decode cX13_grown 164 = .ok (.invokevirtual 50, 3) := by decide +kernel
theorem dX13_grown_167 : decode cX13_grown 167 = .ok (.ldc 53, 2) := by decide +kernel
theorem dX13_grown_169 : decode cX13_grown 169 = .ok (.invokevirtual 40, 3) := by decide +kernel
theorem dX13_grown_172 : decode cX13_grown 172 = .ok (.iload 6, 2) := by decide +kernel
theorem dX13_grown_174 : decode cX13_grown 174 = .ok (.invokevirtual 55, 3) := by decide +kernel
theorem dX13_grown_177 : decode cX13_grown 177 = .ok (.ldc 53, 2) := by decide +kernel
theorem dX13_grown_179 : decode cX13_grown 179 = .ok (.invokevirtual 40, 3) := by decide +kernel
theorem dX13_grown_182 : decode cX13_grown 182 = .ok (.iload 7, 2) := by decide +kernel
theorem dX13_grown_184 : decode cX13_grown 184 = .ok (.invokevirtual 55, 3) := by decide +kernel
theorem dX13_grown_187 : decode cX13_grown 187 = .ok (.ldc 53, 2) := by decide +kernel
theorem dX13_grown_189 : decode cX13_grown 189 = .ok (.invokevirtual 40, 3) := by decide +kernel
theorem dX13_grown_192 : decode cX13_grown 192 = .ok (.iload 8, 2) := by decide +kernel
theorem dX13_grown_194 : decode cX13_grown 194 = .ok (.invokevirtual 55, 3) := by decide +kernel
theorem dX13_grown_197 : decode cX13_grown 197 = .ok (.aload_n 2, 1) := by decide +kernel
theorem dX13_grown_198 : decode cX13_grown 198 = .ok (.invokevirtual 40, 3) := by decide +kernel
theorem dX13_grown_201 : decode cX13_grown 201 = .ok (.pop, 1) := by decide +kernel
theorem dX13_grown_202 : decode cX13_grown 202 = .ok (.iinc 5 1, 3) := by decide +kernel
theorem dX13_grown_205 : decode cX13_grown 205 = .ok (.goto (-152), 3) := by decide +kernel
theorem dX13_grown_208 : decode cX13_grown 208 = .ok (.aload_n 0, 1) := by decide +kernel
theorem dX13_grown_209 : decode cX13_grown 209 = .ok (.iconst 3, 1) := by decide +kernel
theorem dX13_grown_210 : decode cX13_grown 210 = .ok (.bipush 7, 2) := by decide +kernel
theorem dX13_grown_212 : decode cX13_grown 212 = .ok (.invokestatic 28, 3) := by decide +kernel
theorem dX13_grown_215 : decode cX13_grown 215 = .ok (.istore 5, 2) := by decide +kernel
theorem dX13_grown_217 : decode cX13_grown 217 = .ok (.iconst 0, 1) := by decide +kernel
theorem dX13_grown_218 : decode cX13_grown 218 = .ok (.istore 6, 2) := by decide +kernel
theorem dX13_grown_220 : decode cX13_grown 220 = .ok (.iload 6, 2) := by decide +kernel
theorem dX13_grown_222 : decode cX13_grown 222 = .ok (.iload 5, 2) := by decide +kernel
theorem dX13_grown_224 : decode cX13_grown 224 = .ok (.if_icmp .ge 135, 3) := by decide +kernel
theorem dX13_grown_227 : decode cX13_grown 227 = .ok (.iconst 1, 1) := by decide +kernel
theorem dX13_grown_228 : decode cX13_grown 228 = .ok (.aload_n 0, 1) := by decide +kernel
theorem dX13_grown_229 : decode cX13_grown 229 = .ok (.bipush 60, 2) := by decide +kernel
theorem dX13_grown_231 : decode cX13_grown 231 = .ok (.iload 6, 2) := by decide +kernel
theorem dX13_grown_233 : decode cX13_grown 233 = .ok (.iadd, 1) := by decide +kernel
theorem dX13_grown_234 : decode cX13_grown 234 = .ok (.aload_n 0, 1) := by decide +kernel
theorem dX13_grown_235 : decode cX13_grown 235 = .ok (.bipush 70, 2) := by decide +kernel
theorem dX13_grown_237 : decode cX13_grown 237 = .ok (.iload 6, 2) := by decide +kernel
theorem dX13_grown_239 : decode cX13_grown 239 = .ok (.iadd, 1) := by decide +kernel
theorem dX13_grown_240 : decode cX13_grown 240 = .ok (.iconst 2, 1) := by decide +kernel
theorem dX13_grown_241 : decode cX13_grown 241 = .ok (.invokestatic 28, 3) := by decide +kernel
theorem dX13_grown_244 : decode cX13_grown 244 = .ok (.ifCond .ne 9, 3) := by decide +kernel
theorem dX13_grown_247 : decode cX13_grown 247 = .ok (.sipush 240, 3) := by decide +kernel
theorem dX13_grown_250 : decode cX13_grown 250 = .ok (.goto 5, 3) := by decide +kernel
theorem dX13_grown_253 : decode cX13_grown 253 = .ok (.bipush 30, 2) := by decide +kernel
theorem dX13_grown_255 : decode cX13_grown 255 = .ok (.invokestatic 28, 3) := by decide +kernel
theorem dX13_grown_258 : decode cX13_grown 258 = .ok (.iadd, 1) := by decide +kernel
theorem dX13_grown_259 : decode cX13_grown 259 = .ok (.istore 7, 2) := by decide +kernel
theorem dX13_grown_261 : decode cX13_grown 261 = .ok (.aload_n 0, 1) := by decide +kernel
theorem dX13_grown_262 : decode cX13_grown 262 = .ok (.bipush 80, 2) := by decide +kernel
theorem dX13_grown_264 : decode cX13_grown 264 = .ok (.iload 6, 2) := by decide +kernel
theorem dX13_grown_266 : decode cX13_grown 266 = .ok (.iadd, 1) := by decide +kernel
theorem dX13_grown_267 : decode cX13_grown 267 = .ok (.iconst 3, 1) := by decide +kernel
theorem dX13_grown_268 : decode cX13_grown 268 = .ok (.invokestatic 28, 3) := by decide +kernel
theorem dX13_grown_271 : decode cX13_grown 271 = .ok (.ifCond .ne 18, 3) := by decide +kernel
theorem dX13_grown_274 : decode cX13_grown 274 = .ok (.aload_n 0, 1) := by decide +kernel
theorem dX13_grown_275 : decode cX13_grown 275 = .ok (.bipush 90, 2) := by decide +kernel
theorem dX13_grown_277 : decode cX13_grown 277 = .ok (.iload 6, 2) := by decide +kernel
theorem dX13_grown_279 : decode cX13_grown 279 = .ok (.iadd, 1) := by decide +kernel
theorem dX13_grown_280 : decode cX13_grown 280 = .ok (.sipush 10000, 3) := by decide +kernel
theorem dX13_grown_283 : decode cX13_grown 283 = .ok (.invokestatic 28, 3) := by decide +kernel
theorem dX13_grown_286 : decode cX13_grown 286 = .ok (.goto 15, 3) := by decide +kernel
theorem dX13_grown_289 : decode cX13_grown 289 = .ok (.aload_n 0, 1) := by decide +kernel
theorem dX13_grown_290 : decode cX13_grown 290 = .ok (.bipush 90, 2) := by decide +kernel
theorem dX13_grown_292 : decode cX13_grown 292 = .ok (.iload 6, 2) := by decide +kernel
theorem dX13_grown_294 : decode cX13_grown 294 = .ok (.iadd, 1) := by decide +kernel
theorem dX13_grown_295 : decode cX13_grown 295 = .ok (.sipush 300, 3) := by decide +kernel
theorem dX13_grown_298 : decode cX13_grown 298 = .ok (.invokestatic 28, 3) := by decide +kernel
theorem dX13_grown_301 : decode cX13_grown 301 = .ok (.istore 8, 2) := by decide +kernel
theorem dX13_grown_303 : decode cX13_grown 303 = .ok (.aload_n 1, 1) := by decide +kernel
theorem dX13_grown_304 : decode cX13_grown 304 = .ok (.iload 7, 2) := by decide +kernel
theorem dX13_grown_306 : decode cX13_grown 306 = .ok (.iload 8, 2) := by decide +kernel
theorem dX13_grown_308 : decode cX13_grown 308 = .ok (.invokevirtual 58, 3) := by decide +kernel
theorem dX13_grown_311 : decode cX13_grown 311 = .ok (.istore 9, 2) := by decide +kernel
theorem dX13_grown_313 : decode cX13_grown 313 = .ok (.aload_n 3, 1) := by decide +kernel
theorem dX13_grown_314 : decode cX13_grown 314 = .ok (.ldc 62, 2) := by decide +kernel
theorem dX13_grown_316 : decode cX13_grown 316 = .ok (.invokevirtual 40, 3) := by decide +kernel
theorem dX13_grown_319 : decode cX13_grown 319 = .ok (.bipush 97, 2) := by decide +kernel
theorem dX13_grown_321 : decode cX13_grown 321 = .ok (.iload 6, 2) := by decide +kernel
theorem dX13_grown_323 : decode cX13_grown 323 = .ok (.iadd, 1) := by decide +kernel
theorem dX13_grown_324 : decode cX13_grown 324 = .ok (.i2c, 1) := by decide +kernel
theorem dX13_grown_325 : decode cX13_grown 325 = .ok (.invokevirtual 50, 3) := by decide +kernel
theorem dX13_grown_328 : decode cX13_grown 328 = .ok (.ldc 53, 2) := by decide +kernel
theorem dX13_grown_330 : decode cX13_grown 330 = .ok (.invokevirtual 40, 3) := by decide +kernel
theorem dX13_grown_333 : decode cX13_grown 333 = .ok (.iload 7, 2) := by decide +kernel
theorem dX13_grown_335 : decode cX13_grown 335 = .ok (.invokevirtual 55, 3) := by decide +kernel
theorem dX13_grown_338 : decode cX13_grown 338 = .ok (.ldc 53, 2) := by decide +kernel
theorem dX13_grown_340 : decode cX13_grown 340 = .ok (.invokevirtual 40, 3) := by decide +kernel
theorem dX13_grown_343 : decode cX13_grown 343 = .ok (.iload 8, 2) := by decide +kernel
theorem dX13_grown_345 : decode cX13_grown 345 = .ok (.invokevirtual 55, 3) := by decide +kernel
theorem dX13_grown_348 : decode cX13_grown 348 = .ok (.aload_n 2, 1) := by decide +kernel
theorem dX13_grown_349 : decode cX13_grown 349 = .ok (.invokevirtual 40, 3) := by decide +kernel
theorem dX13_grown_352 : decode cX13_grown 352 = .ok (.pop, 1) := by decide +kernel
theorem dX13_grown_353 : decode cX13_grown 353 = .ok (.iinc 6 1, 3) := by decide +kernel
theorem dX13_grown_356 : decode cX13_grown 356 = .ok (.goto (-136), 3) := by decide +kernel
theorem dX13_grown_359 : decode cX13_grown 359 = .ok (.iload 4, 2) := by decide +kernel
theorem dX13_grown_361 : decode cX13_grown 361 = .ok (.ifCond .eq 8, 3) := by decide +kernel
theorem dX13_grown_364 : decode cX13_grown 364 = .ok (.iload 5, 2) := by decide +kernel
theorem dX13_grown_366 : decode cX13_grown 366 = .ok (.ifCond .ne 7, 3) := by decide +kernel
theorem dX13_grown_369 : decode cX13_grown 369 = .ok (.iconst 0, 1) := by decide +kernel
theorem dX13_grown_370 : decode cX13_grown 370 = .ok (.goto 10, 3) := by decide +kernel
theorem dX13_grown_373 : decode cX13_grown 373 = .ok (.aload_n 0, 1) := by decide +kernel
theorem dX13_grown_374 : decode cX13_grown 374 = .ok (.iconst 4, 1) := by decide +kernel
theorem dX13_grown_375 : decode cX13_grown 375 = .ok (.bipush 6, 2) := by decide +kernel
theorem dX13_grown_377 : decode cX13_grown 377 = .ok (.invokestatic 28, 3) := by decide +kernel
theorem dX13_grown_380 : decode cX13_grown 380 = .ok (.istore 6, 2) := by decide +kernel
theorem dX13_grown_382 : decode cX13_grown 382 = .ok (.iconst 0, 1) := by decide +kernel
theorem dX13_grown_383 : decode cX13_grown 383 = .ok (.istore 7, 2) := by decide +kernel
theorem dX13_grown_385 : decode cX13_grown 385 = .ok (.iload 7, 2) := by decide +kernel
theorem dX13_grown_387 : decode cX13_grown 387 = .ok (.iload 6, 2) := by decide +kernel
theorem dX13_grown_389 : decode cX13_grown 389 = .ok (.if_icmp .ge 211, 3) := by decide +kernel
theorem dX13_grown_392 : decode cX13_grown 392 = .ok (.aload_n 0, 1) := by decide +kernel
theorem dX13_grown_393 : decode cX13_grown 393 = .ok (.bipush 100, 2) := by decide +kernel
theorem dX13_grown_395 : decode cX13_grown 395 = .ok (.iload 7, 2) := by decide +kernel
theorem dX13_grown_397 : decode cX13_grown 397 = .ok (.iadd, 1) := by decide +kernel
theorem dX13_grown_398 : decode cX13_grown 398 = .ok (.iload 5, 2) := by decide +kernel
theorem dX13_grown_400 : decode cX13_grown 400 = .ok (.invokestatic 28, 3) := by decide +kernel
theorem dX13_grown_403 : decode cX13_grown 403 = .ok (.istore 8, 2) := by decide +kernel
theorem dX13_grown_405 : decode cX13_grown 405 = .ok (.aload_n 0, 1) := by decide +kernel
theorem dX13_grown_406 : decode cX13_grown 406 = .ok (.bipush 110, 2) := by decide +kernel
theorem dX13_grown_408 : decode cX13_grown 408 = .ok (.iload 7, 2) := by decide +kernel
theorem dX13_grown_410 : decode cX13_grown 410 = .ok (.iadd, 1) := by decide +kernel
theorem dX13_grown_411 : decode cX13_grown 411 = .ok (.iload 4, 2) := by decide +kernel
theorem dX13_grown_413 : decode cX13_grown 413 = .ok (.invokestatic 28, 3) := by decide +kernel
theorem dX13_grown_416 : decode cX13_grown 416 = .ok (.istore 9, 2) := by decide +kernel
theorem dX13_grown_418 : decode cX13_grown 418 = .ok (.iconst 1, 1) := by decide +kernel
theorem dX13_grown_419 : decode cX13_grown 419 = .ok (.aload_n 0, 1) := by decide +kernel
theorem dX13_grown_420 : decode cX13_grown 420 = .ok (.bipush 120, 2) := by decide +kernel
theorem dX13_grown_422 : decode cX13_grown 422 = .ok (.iload 7, 2) := by decide +kernel
theorem dX13_grown_424 : decode cX13_grown 424 = .ok (.iadd, 1) := by decide +kernel
theorem dX13_grown_425 : decode cX13_grown 425 = .ok (.bipush 20, 2) := by decide +kernel
theorem dX13_grown_427 : decode cX13_grown 427 = .ok (.invokestatic 28, 3) := by decide +kernel
theorem dX13_grown_430 : decode cX13_grown 430 = .ok (.iadd, 1) := by decide +kernel
theorem dX13_grown_431 : decode cX13_grown 431 = .ok (.istore 10, 2) := by decide +kernel
theorem dX13_grown_433 : decode cX13_grown 433 = .ok (.iconst 1, 1) := by decide +kernel
theorem dX13_grown_434 : decode cX13_grown 434 = .ok (.aload_n 0, 1) := by decide +kernel
theorem dX13_grown_435 : decode cX13_grown 435 = .ok (.sipush 130, 3) := by decide +kernel
theorem dX13_grown_438 : decode cX13_grown 438 = .ok (.iload 7, 2) := by decide +kernel
theorem dX13_grown_440 : decode cX13_grown 440 = .ok (.iadd, 1) := by decide +kernel
theorem dX13_grown_441 : decode cX13_grown 441 = .ok (.iconst 4, 1) := by decide +kernel
theorem dX13_grown_442 : decode cX13_grown 442 = .ok (.invokestatic 28, 3) := by decide +kernel
theorem dX13_grown_445 : decode cX13_grown 445 = .ok (.iadd, 1) := by decide +kernel
theorem dX13_grown_446 : decode cX13_grown 446 = .ok (.istore 11, 2) := by decide +kernel
theorem dX13_grown_448 : decode cX13_grown 448 = .ok (.aload_n 1, 1) := by decide +kernel
theorem dX13_grown_449 : decode cX13_grown 449 = .ok (.iload 8, 2) := by decide +kernel
theorem dX13_grown_451 : decode cX13_grown 451 = .ok (.iload 9, 2) := by decide +kernel
theorem dX13_grown_453 : decode cX13_grown 453 = .ok (.iload 11, 2) := by decide +kernel
theorem dX13_grown_455 : decode cX13_grown 455 = .ok (.invokevirtual 64, 3) := by decide +kernel
theorem dX13_grown_458 : decode cX13_grown 458 = .ok (.ifCond .ne 71, 3) := by decide +kernel
theorem dX13_grown_461 : decode cX13_grown 461 = .ok (.aload_n 1, 1) := by decide +kernel
theorem dX13_grown_462 : decode cX13_grown 462 = .ok (.iload 8, 2) := by decide +kernel
theorem dX13_grown_464 : decode cX13_grown 464 = .ok (.iload 9, 2) := by decide +kernel
theorem dX13_grown_466 : decode cX13_grown 466 = .ok (.iload 10, 2) := by decide +kernel
theorem dX13_grown_468 : decode cX13_grown 468 = .ok (.iload 11, 2) := by decide +kernel
theorem dX13_grown_470 : decode cX13_grown 470 = .ok (.invokevirtual 67, 3) := by decide +kernel
theorem dX13_grown_473 : decode cX13_grown 473 = .ok (.istore 12, 2) := by decide +kernel
theorem dX13_grown_475 : decode cX13_grown 475 = .ok (.aload_n 3, 1) := by decide +kernel
theorem dX13_grown_476 : decode cX13_grown 476 = .ok (.ldc 71, 2) := by decide +kernel
theorem dX13_grown_478 : decode cX13_grown 478 = .ok (.invokevirtual 40, 3) := by decide +kernel
theorem dX13_grown_481 : decode cX13_grown 481 = .ok (.bipush 97, 2) := by decide +kernel
theorem dX13_grown_483 : decode cX13_grown 483 = .ok (.iload 8, 2) := by decide +kernel
theorem dX13_grown_485 : decode cX13_grown 485 = .ok (.iadd, 1) := by decide +kernel
theorem dX13_grown_486 : decode cX13_grown 486 = .ok (.i2c, 1) := by decide +kernel
theorem dX13_grown_487 : decode cX13_grown 487 = .ok (.invokevirtual 50, 3) := by decide +kernel
theorem dX13_grown_490 : decode cX13_grown 490 = .ok (.ldc 73, 2) := by decide +kernel
theorem dX13_grown_492 : decode cX13_grown 492 = .ok (.invokevirtual 40, 3) := by decide +kernel
theorem dX13_grown_495 : decode cX13_grown 495 = .ok (.bipush 97, 2) := by decide +kernel
theorem dX13_grown_497 : decode cX13_grown 497 = .ok (.iload 9, 2) := by decide +kernel
theorem dX13_grown_499 : decode cX13_grown 499 = .ok (.iadd, 1) := by decide +kernel
theorem dX13_grown_500 : decode cX13_grown 500 = .ok (.i2c, 1) := by decide +kernel
theorem dX13_grown_501 : decode cX13_grown 501 = .ok (.invokevirtual 50, 3) := by decide +kernel
theorem dX13_grown_504 : decode cX13_grown 504 = .ok (.ldc 53, 2) := by decide +kernel
theorem dX13_grown_506 : decode cX13_grown 506 = .ok (.invokevirtual 40, 3) := by decide +kernel
theorem dX13_grown_509 : decode cX13_grown 509 = .ok (.iload 10, 2) := by decide +kernel
theorem dX13_grown_511 : decode cX13_grown 511 = .ok (.invokevirtual 55, 3) := by decide +kernel
theorem dX13_grown_514 : decode cX13_grown 514 = .ok (.ldc 53, 2) := by decide +kernel
theorem dX13_grown_516 : decode cX13_grown 516 = .ok (.invokevirtual 40, 3) := by decide +kernel
theorem dX13_grown_519 : decode cX13_grown 519 = .ok (.iload 11, 2) := by decide +kernel
theorem dX13_grown_521 : decode cX13_grown 521 = .ok (.invokevirtual 55, 3) := by decide +kernel
theorem dX13_grown_524 : decode cX13_grown 524 = .ok (.aload_n 2, 1) := by decide +kernel
theorem dX13_grown_525 : decode cX13_grown 525 = .ok (.invokevirtual 40, 3) := by decide +kernel
theorem dX13_grown_528 : decode cX13_grown 528 = .ok (.pop, 1) := by decide +kernel
theorem dX13_grown_529 : decode cX13_grown 529 = .ok (.aload_n 0, 1) := by decide +kernel
theorem dX13_grown_530 : decode cX13_grown 530 = .ok (.sipush 140, 3) := by decide +kernel
theorem dX13_grown_533 : decode cX13_grown 533 = .ok (.iload 7, 2) := by decide +kernel
theorem dX13_grown_535 : decode cX13_grown 535 = .ok (.iadd, 1) := by decide +kernel
theorem dX13_grown_536 : decode cX13_grown 536 = .ok (.iconst 3, 1) := by decide +kernel
theorem dX13_grown_537 : decode cX13_grown 537 = .ok (.invokestatic 28, 3) := by decide +kernel
theorem dX13_grown_540 : decode cX13_grown 540 = .ok (.ifCond .le 6, 3) := by decide +kernel
theorem dX13_grown_543 : decode cX13_grown 543 = .ok (.goto 51, 3) := by decide +kernel
theorem dX13_grown_546 : decode cX13_grown 546 = .ok (.aload_n 1, 1) := by decide +kernel
theorem dX13_grown_547 : decode cX13_grown 547 = .ok (.iconst 1, 1) := by decide +kernel
theorem dX13_grown_548 : decode cX13_grown 548 = .ok (.aload_n 0, 1) := by decide +kernel
theorem dX13_grown_549 : decode cX13_grown 549 = .ok (.sipush 150, 3) := by decide +kernel
theorem dX13_grown_552 : decode cX13_grown 552 = .ok (.iload 7, 2) := by decide +kernel
theorem dX13_grown_554 : decode cX13_grown 554 = .ok (.iadd, 1) := by decide +kernel
theorem dX13_grown_555 : decode cX13_grown 555 = .ok (.bipush 20, 2) := by decide +kernel
theorem dX13_grown_557 : decode cX13_grown 557 = .ok (.invokestatic 28, 3) := by decide +kernel
theorem dX13_grown_560 : decode cX13_grown 560 = .ok (.iadd, 1) := by decide +kernel
theorem dX13_grown_561 : decode cX13_grown 561 = .ok (.invokevirtual 75, 3) := by decide +kernel
theorem dX13_grown_564 : decode cX13_grown 564 = .ok (.istore 12, 2) := by decide +kernel
theorem dX13_grown_566 : decode cX13_grown 566 = .ok (.aload_n 3, 1) := by decide +kernel
theorem dX13_grown_567 : decode cX13_grown 567 = .ok (.ldc 79, 2) := by decide +kernel
theorem dX13_grown_569 : decode cX13_grown 569 = .ok (.invokevirtual 40, 3) := by decide +kernel
theorem dX13_grown_572 : decode cX13_grown 572 = .ok (.iconst 1, 1) := by decide +kernel
theorem dX13_grown_573 : decode cX13_grown 573 = .ok (.aload_n 0, 1) := by decide +kernel
theorem dX13_grown_574 : decode cX13_grown 574 = .ok (.sipush 150, 3) := by decide +kernel
theorem dX13_grown_577 : decode cX13_grown 577 = .ok (.iload 7, 2) := by decide +kernel
theorem dX13_grown_579 : decode cX13_grown 579 = .ok (.iadd, 1) := by decide +kernel
theorem dX13_grown_580 : decode cX13_grown 580 = .ok (.bipush 20, 2) := by decide +kernel
theorem dX13_grown_582 : decode cX13_grown 582 = .ok (.invokestatic 28, 3) := by decide +kernel
theorem dX13_grown_585 : decode cX13_grown 585 = .ok (.iadd, 1) := by decide +kernel
theorem dX13_grown_586 : decode cX13_grown 586 = .ok (.invokevirtual 55, 3) := by decide +kernel
theorem dX13_grown_589 : decode cX13_grown 589 = .ok (.aload_n 2, 1) := by decide +kernel
theorem dX13_grown_590 : decode cX13_grown 590 = .ok (.invokevirtual 40, 3) := by decide +kernel
theorem dX13_grown_593 : decode cX13_grown 593 = .ok (.pop, 1) := by decide +kernel
theorem dX13_grown_594 : decode cX13_grown 594 = .ok (.iinc 7 1, 3) := by decide +kernel
theorem dX13_grown_597 : decode cX13_grown 597 = .ok (.goto (-212), 3) := by decide +kernel
theorem dX13_grown_600 : decode cX13_grown 600 = .ok (.aload_n 1, 1) := by decide +kernel
theorem dX13_grown_601 : decode cX13_grown 601 = .ok (.areturn, 1) := by decide +kernel
theorem dX13_addValley_0 : decode cX13_addValley 0 = .ok (.bipush 6, 2) := by decide +kernel
theorem dX13_addValley_2 : decode cX13_addValley 2 = .ok (.newarray .int, 2) := by decide +kernel
theorem dX13_addValley_4 : decode cX13_addValley 4 = .ok (.dup, 1) := by decide +kernel
theorem dX13_addValley_5 : decode cX13_addValley 5 = .ok (.iconst 0, 1) := by decide +kernel
theorem dX13_addValley_6 : decode cX13_addValley 6 = .ok (.iload_n 1, 1) := by decide +kernel
theorem dX13_addValley_7 : decode cX13_addValley 7 = .ok (.iastore, 1) := by decide +kernel
theorem dX13_addValley_8 : decode cX13_addValley 8 = .ok (.dup, 1) := by decide +kernel
theorem dX13_addValley_9 : decode cX13_addValley 9 = .ok (.iconst 1, 1) := by decide +kernel
theorem dX13_addValley_10 : decode cX13_addValley 10 = .ok (.iload_n 2, 1) := by decide +kernel
theorem dX13_addValley_11 : decode cX13_addValley 11 = .ok (.iastore, 1) := by decide +kernel
theorem dX13_addValley_12 : decode cX13_addValley 12 = .ok (.dup, 1) := by decide +kernel
theorem dX13_addValley_13 : decode cX13_addValley 13 = .ok (.iconst 2, 1) := by decide +kernel
theorem dX13_addValley_14 : decode cX13_addValley 14 = .ok (.iload_n 3, 1) := by decide +kernel
theorem dX13_addValley_15 : decode cX13_addValley 15 = .ok (.iastore, 1) := by decide +kernel
theorem dX13_addValley_16 : decode cX13_addValley 16 = .ok (.dup, 1) := by decide +kernel
theorem dX13_addValley_17 : decode cX13_addValley 17 = .ok (.iconst 3, 1) := by decide +kernel
theorem dX13_addValley_18 : decode cX13_addValley 18 = .ok (.iconst 0, 1) := by decide +kernel
theorem dX13_addValley_19 : decode cX13_addValley 19 = .ok (.iastore, 1) := by decide +kernel
theorem dX13_addValley_20 : decode cX13_addValley 20 = .ok (.dup, 1) := by decide +kernel
theorem dX13_addValley_21 : decode cX13_addValley 21 = .ok (.iconst 4, 1) := by decide +kernel
theorem dX13_addValley_22 : decode cX13_addValley 22 = .ok (.bipush 10, 2) := by decide +kernel
theorem dX13_addValley_24 : decode cX13_addValley 24 = .ok (.iastore, 1) := by decide +kernel
theorem dX13_addValley_25 : decode cX13_addValley 25 = .ok (.dup, 1) := by decide +kernel
theorem dX13_addValley_26 : decode cX13_addValley 26 = .ok (.iconst 5, 1) := by decide +kernel
theorem dX13_addValley_27 : decode cX13_addValley 27 = .ok (.iconst 0, 1) := by decide +kernel
theorem dX13_addValley_28 : decode cX13_addValley 28 = .ok (.iastore, 1) := by decide +kernel
theorem dX13_addValley_29 : decode cX13_addValley 29 = .ok (.astore 4, 2) := by decide +kernel
theorem dX13_addValley_31 : decode cX13_addValley 31 = .ok (.aload 4, 2) := by decide +kernel
theorem dX13_addValley_33 : decode cX13_addValley 33 = .ok (.iconst 0, 1) := by decide +kernel
theorem dX13_addValley_34 : decode cX13_addValley 34 = .ok (.aload_n 0, 1) := by decide +kernel
theorem dX13_addValley_35 : decode cX13_addValley 35 = .ok (.getfield 9, 3) := by decide +kernel
theorem dX13_addValley_38 : decode cX13_addValley 38 = .ok (.aload_n 0, 1) := by decide +kernel
theorem dX13_addValley_39 : decode cX13_addValley 39 = .ok (.getfield 81, 3) := by decide +kernel
theorem dX13_addValley_42 : decode cX13_addValley 42 = .ok (.aaload, 1) := by decide +kernel
theorem dX13_addValley_43 : decode cX13_addValley 43 = .ok (.iconst 0, 1) := by decide +kernel
theorem dX13_addValley_44 : decode cX13_addValley 44 = .ok (.bipush 6, 2) := by decide +kernel
theorem dX13_addValley_46 : decode cX13_addValley 46 = .ok (.invokestatic 106, 3) := by decide +kernel
theorem dX13_addValley_49 : decode cX13_addValley 49 = .ok (.aload_n 0, 1) := by decide +kernel
theorem dX13_addValley_50 : decode cX13_addValley 50 = .ok (.dup, 1) := by decide +kernel
theorem dX13_addValley_51 : decode cX13_addValley 51 = .ok (.getfield 81, 3) := by decide +kernel
theorem dX13_addValley_54 : decode cX13_addValley 54 = .ok (.iconst 1, 1) := by decide +kernel
theorem dX13_addValley_55 : decode cX13_addValley 55 = .ok (.iadd, 1) := by decide +kernel
theorem dX13_addValley_56 : decode cX13_addValley 56 = .ok (.putfield 81, 3) := by decide +kernel
theorem dX13_addValley_59 : decode cX13_addValley 59 = .ok (.aload_n 0, 1) := by decide +kernel
theorem dX13_addValley_60 : decode cX13_addValley 60 = .ok (.getfield 81, 3) := by decide +kernel
theorem dX13_addValley_63 : decode cX13_addValley 63 = .ok (.iconst 1, 1) := by decide +kernel
theorem dX13_addValley_64 : decode cX13_addValley 64 = .ok (.isub, 1) := by decide +kernel
theorem dX13_addValley_65 : decode cX13_addValley 65 = .ok (.ireturn, 1) := by decide +kernel
theorem dX13_addCustomer_0 : decode cX13_addCustomer 0 = .ok (.iconst 4, 1) := by decide +kernel
theorem dX13_addCustomer_1 : decode cX13_addCustomer 1 = .ok (.newarray .int, 2) := by decide +kernel
theorem dX13_addCustomer_3 : decode cX13_addCustomer 3 = .ok (.dup, 1) := by decide +kernel
theorem dX13_addCustomer_4 : decode cX13_addCustomer 4 = .ok (.iconst 0, 1) := by decide +kernel
theorem dX13_addCustomer_5 : decode cX13_addCustomer 5 = .ok (.iload_n 1, 1) := by decide +kernel
theorem dX13_addCustomer_6 : decode cX13_addCustomer 6 = .ok (.iastore, 1) := by decide +kernel
theorem dX13_addCustomer_7 : decode cX13_addCustomer 7 = .ok (.dup, 1) := by decide +kernel
theorem dX13_addCustomer_8 : decode cX13_addCustomer 8 = .ok (.iconst 1, 1) := by decide +kernel
theorem dX13_addCustomer_9 : decode cX13_addCustomer 9 = .ok (.iload_n 2, 1) := by decide +kernel
theorem dX13_addCustomer_10 : decode cX13_addCustomer 10 = .ok (.iastore, 1) := by decide +kernel
theorem dX13_addCustomer_11 : decode cX13_addCustomer 11 = .ok (.dup, 1) := by decide +kernel
theorem dX13_addCustomer_12 : decode cX13_addCustomer 12 = .ok (.iconst 2, 1) := by decide +kernel
theorem dX13_addCustomer_13 : decode cX13_addCustomer 13 = .ok (.iconst 0, 1) := by decide +kernel
theorem dX13_addCustomer_14 : decode cX13_addCustomer 14 = .ok (.iastore, 1) := by decide +kernel
theorem dX13_addCustomer_15 : decode cX13_addCustomer 15 = .ok (.dup, 1) := by decide +kernel
theorem dX13_addCustomer_16 : decode cX13_addCustomer 16 = .ok (.iconst 3, 1) := by decide +kernel
theorem dX13_addCustomer_17 : decode cX13_addCustomer 17 = .ok (.iconst 0, 1) := by decide +kernel
theorem dX13_addCustomer_18 : decode cX13_addCustomer 18 = .ok (.iastore, 1) := by decide +kernel
theorem dX13_addCustomer_19 : decode cX13_addCustomer 19 = .ok (.astore_n 3, 1) := by decide +kernel
theorem dX13_addCustomer_20 : decode cX13_addCustomer 20 = .ok (.aload_n 3, 1) := by decide +kernel
theorem dX13_addCustomer_21 : decode cX13_addCustomer 21 = .ok (.iconst 0, 1) := by decide +kernel
theorem dX13_addCustomer_22 : decode cX13_addCustomer 22 = .ok (.aload_n 0, 1) := by decide +kernel
theorem dX13_addCustomer_23 : decode cX13_addCustomer 23 = .ok (.getfield 14, 3) := by decide +kernel
theorem dX13_addCustomer_26 : decode cX13_addCustomer 26 = .ok (.aload_n 0, 1) := by decide +kernel
theorem dX13_addCustomer_27 : decode cX13_addCustomer 27 = .ok (.getfield 85, 3) := by decide +kernel
theorem dX13_addCustomer_30 : decode cX13_addCustomer 30 = .ok (.aaload, 1) := by decide +kernel
theorem dX13_addCustomer_31 : decode cX13_addCustomer 31 = .ok (.iconst 0, 1) := by decide +kernel
theorem dX13_addCustomer_32 : decode cX13_addCustomer 32 = .ok (.iconst 4, 1) := by decide +kernel
theorem dX13_addCustomer_33 : decode cX13_addCustomer 33 = .ok (.invokestatic 106, 3) := by decide +kernel
theorem dX13_addCustomer_36 : decode cX13_addCustomer 36 = .ok (.aload_n 0, 1) := by decide +kernel
theorem dX13_addCustomer_37 : decode cX13_addCustomer 37 = .ok (.dup, 1) := by decide +kernel
theorem dX13_addCustomer_38 : decode cX13_addCustomer 38 = .ok (.getfield 103, 3) := by decide +kernel
theorem dX13_addCustomer_41 : decode cX13_addCustomer 41 = .ok (.iload_n 2, 1) := by decide +kernel
theorem dX13_addCustomer_42 : decode cX13_addCustomer 42 = .ok (.iadd, 1) := by decide +kernel
theorem dX13_addCustomer_43 : decode cX13_addCustomer 43 = .ok (.putfield 103, 3) := by decide +kernel
theorem dX13_addCustomer_46 : decode cX13_addCustomer 46 = .ok (.aload_n 0, 1) := by decide +kernel
theorem dX13_addCustomer_47 : decode cX13_addCustomer 47 = .ok (.dup, 1) := by decide +kernel
theorem dX13_addCustomer_48 : decode cX13_addCustomer 48 = .ok (.getfield 85, 3) := by decide +kernel
theorem dX13_addCustomer_51 : decode cX13_addCustomer 51 = .ok (.iconst 1, 1) := by decide +kernel
theorem dX13_addCustomer_52 : decode cX13_addCustomer 52 = .ok (.iadd, 1) := by decide +kernel
theorem dX13_addCustomer_53 : decode cX13_addCustomer 53 = .ok (.putfield 85, 3) := by decide +kernel
theorem dX13_addCustomer_56 : decode cX13_addCustomer 56 = .ok (.aload_n 0, 1) := by decide +kernel
theorem dX13_addCustomer_57 : decode cX13_addCustomer 57 = .ok (.getfield 85, 3) := by decide +kernel
theorem dX13_addCustomer_60 : decode cX13_addCustomer 60 = .ok (.iconst 1, 1) := by decide +kernel
theorem dX13_addCustomer_61 : decode cX13_addCustomer 61 = .ok (.isub, 1) := by decide +kernel
theorem dX13_addCustomer_62 : decode cX13_addCustomer 62 = .ok (.ireturn, 1) := by decide +kernel
theorem dX13_refusal_0 : decode cX13_refusal 0 = .ok (.aload_n 0, 1) := by decide +kernel
theorem dX13_refusal_1 : decode cX13_refusal 1 = .ok (.getfield 14, 3) := by decide +kernel
theorem dX13_refusal_4 : decode cX13_refusal 4 = .ok (.iload_n 1, 1) := by decide +kernel
theorem dX13_refusal_5 : decode cX13_refusal 5 = .ok (.aaload, 1) := by decide +kernel
theorem dX13_refusal_6 : decode cX13_refusal 6 = .ok (.iconst 2, 1) := by decide +kernel
theorem dX13_refusal_7 : decode cX13_refusal 7 = .ok (.iaload, 1) := by decide +kernel
theorem dX13_refusal_8 : decode cX13_refusal 8 = .ok (.iconst 2, 1) := by decide +kernel
theorem dX13_refusal_9 : decode cX13_refusal 9 = .ok (.if_icmp .le 7, 3) := by decide +kernel
theorem dX13_refusal_12 : decode cX13_refusal 12 = .ok (.iconst 5, 1) := by decide +kernel
theorem dX13_refusal_13 : decode cX13_refusal 13 = .ok (.goto 4, 3) := by decide +kernel
theorem dX13_refusal_16 : decode cX13_refusal 16 = .ok (.iconst 0, 1) := by decide +kernel
theorem dX13_refusal_17 : decode cX13_refusal 17 = .ok (.istore 4, 2) := by decide +kernel
theorem dX13_refusal_19 : decode cX13_refusal 19 = .ok (.iconst 0, 1) := by decide +kernel
theorem dX13_refusal_20 : decode cX13_refusal 20 = .ok (.istore 5, 2) := by decide +kernel
theorem dX13_refusal_22 : decode cX13_refusal 22 = .ok (.iload 5, 2) := by decide +kernel
theorem dX13_refusal_24 : decode cX13_refusal 24 = .ok (.aload_n 0, 1) := by decide +kernel
theorem dX13_refusal_25 : decode cX13_refusal 25 = .ok (.getfield 88, 3) := by decide +kernel
theorem dX13_refusal_28 : decode cX13_refusal 28 = .ok (.if_icmp .ge 51, 3) := by decide +kernel
theorem dX13_refusal_31 : decode cX13_refusal 31 = .ok (.aload_n 0, 1) := by decide +kernel
theorem dX13_refusal_32 : decode cX13_refusal 32 = .ok (.getfield 17, 3) := by decide +kernel
theorem dX13_refusal_35 : decode cX13_refusal 35 = .ok (.iload 5, 2) := by decide +kernel
theorem dX13_refusal_37 : decode cX13_refusal 37 = .ok (.aaload, 1) := by decide +kernel
theorem dX13_refusal_38 : decode cX13_refusal 38 = .ok (.iconst 0, 1) := by decide +kernel
theorem dX13_refusal_39 : decode cX13_refusal 39 = .ok (.iaload, 1) := by decide +kernel
theorem dX13_refusal_40 : decode cX13_refusal 40 = .ok (.iload_n 1, 1) := by decide +kernel
theorem dX13_refusal_41 : decode cX13_refusal 41 = .ok (.if_icmp .ne 32, 3) := by decide +kernel
theorem dX13_refusal_44 : decode cX13_refusal 44 = .ok (.aload_n 0, 1) := by decide +kernel
theorem dX13_refusal_45 : decode cX13_refusal 45 = .ok (.getfield 17, 3) := by decide +kernel
theorem dX13_refusal_48 : decode cX13_refusal 48 = .ok (.iload 5, 2) := by decide +kernel
theorem dX13_refusal_50 : decode cX13_refusal 50 = .ok (.aaload, 1) := by decide +kernel
theorem dX13_refusal_51 : decode cX13_refusal 51 = .ok (.iconst 1, 1) := by decide +kernel
theorem dX13_refusal_52 : decode cX13_refusal 52 = .ok (.iaload, 1) := by decide +kernel
theorem dX13_refusal_53 : decode cX13_refusal 53 = .ok (.iload_n 2, 1) := by decide +kernel
theorem dX13_refusal_54 : decode cX13_refusal 54 = .ok (.if_icmp .ne 19, 3) := by decide +kernel
theorem dX13_refusal_57 : decode cX13_refusal 57 = .ok (.aload_n 0, 1) := by decide +kernel
theorem dX13_refusal_58 : decode cX13_refusal 58 = .ok (.getfield 17, 3) := by decide +kernel
theorem dX13_refusal_61 : decode cX13_refusal 61 = .ok (.iload 5, 2) := by decide +kernel
theorem dX13_refusal_63 : decode cX13_refusal 63 = .ok (.aaload, 1) := by decide +kernel
theorem dX13_refusal_64 : decode cX13_refusal 64 = .ok (.bipush 6, 2) := by decide +kernel
theorem dX13_refusal_66 : decode cX13_refusal 66 = .ok (.iaload, 1) := by decide +kernel
theorem dX13_refusal_67 : decode cX13_refusal 67 = .ok (.ifCond .ne 6, 3) := by decide +kernel
theorem dX13_refusal_70 : decode cX13_refusal 70 = .ok (.iconst 4, 1) := by decide +kernel
theorem dX13_refusal_71 : decode cX13_refusal 71 = .ok (.istore 4, 2) := by decide +kernel
theorem dX13_refusal_73 : decode cX13_refusal 73 = .ok (.iinc 5 1, 3) := by decide +kernel
theorem dX13_refusal_76 : decode cX13_refusal 76 = .ok (.goto (-54), 3) := by decide +kernel
theorem dX13_refusal_79 : decode cX13_refusal 79 = .ok (.aload_n 0, 1) := by decide +kernel
theorem dX13_refusal_80 : decode cX13_refusal 80 = .ok (.getfield 14, 3) := by decide +kernel
theorem dX13_refusal_83 : decode cX13_refusal 83 = .ok (.iload_n 1, 1) := by decide +kernel
theorem dX13_refusal_84 : decode cX13_refusal 84 = .ok (.aaload, 1) := by decide +kernel
theorem dX13_refusal_85 : decode cX13_refusal 85 = .ok (.iconst 1, 1) := by decide +kernel
theorem dX13_refusal_86 : decode cX13_refusal 86 = .ok (.iaload, 1) := by decide +kernel
theorem dX13_refusal_87 : decode cX13_refusal 87 = .ok (.aload_n 0, 1) := by decide +kernel
theorem dX13_refusal_88 : decode cX13_refusal 88 = .ok (.getfield 9, 3) := by decide +kernel
theorem dX13_refusal_91 : decode cX13_refusal 91 = .ok (.iload_n 2, 1) := by decide +kernel
theorem dX13_refusal_92 : decode cX13_refusal 92 = .ok (.aaload, 1) := by decide +kernel
theorem dX13_refusal_93 : decode cX13_refusal 93 = .ok (.iconst 2, 1) := by decide +kernel
theorem dX13_refusal_94 : decode cX13_refusal 94 = .ok (.iaload, 1) := by decide +kernel
theorem dX13_refusal_95 : decode cX13_refusal 95 = .ok (.iload_n 3, 1) := by decide +kernel
theorem dX13_refusal_96 : decode cX13_refusal 96 = .ok (.imul, 1) := by decide +kernel
theorem dX13_refusal_97 : decode cX13_refusal 97 = .ok (.if_icmp .ge 7, 3) := by decide +kernel
theorem dX13_refusal_100 : decode cX13_refusal 100 = .ok (.iconst 3, 1) := by decide +kernel
theorem dX13_refusal_101 : decode cX13_refusal 101 = .ok (.goto 5, 3) := by decide +kernel
theorem dX13_refusal_104 : decode cX13_refusal 104 = .ok (.iload 4, 2) := by decide +kernel
theorem dX13_refusal_106 : decode cX13_refusal 106 = .ok (.istore 4, 2) := by decide +kernel
theorem dX13_refusal_108 : decode cX13_refusal 108 = .ok (.iload_n 3, 1) := by decide +kernel
theorem dX13_refusal_109 : decode cX13_refusal 109 = .ok (.aload_n 0, 1) := by decide +kernel
theorem dX13_refusal_110 : decode cX13_refusal 110 = .ok (.getfield 9, 3) := by decide +kernel
theorem dX13_refusal_113 : decode cX13_refusal 113 = .ok (.iload_n 2, 1) := by decide +kernel
theorem dX13_refusal_114 : decode cX13_refusal 114 = .ok (.aaload, 1) := by decide +kernel
theorem dX13_refusal_115 : decode cX13_refusal 115 = .ok (.iconst 1, 1) := by decide +kernel
theorem dX13_refusal_116 : decode cX13_refusal 116 = .ok (.iaload, 1) := by decide +kernel
theorem dX13_refusal_117 : decode cX13_refusal 117 = .ok (.if_icmp .le 7, 3) := by decide +kernel
theorem dX13_refusal_120 : decode cX13_refusal 120 = .ok (.iconst 2, 1) := by decide +kernel
theorem dX13_refusal_121 : decode cX13_refusal 121 = .ok (.goto 5, 3) := by decide +kernel
theorem dX13_refusal_124 : decode cX13_refusal 124 = .ok (.iload 4, 2) := by decide +kernel
theorem dX13_refusal_126 : decode cX13_refusal 126 = .ok (.istore 4, 2) := by decide +kernel
theorem dX13_refusal_128 : decode cX13_refusal 128 = .ok (.aload_n 0, 1) := by decide +kernel
theorem dX13_refusal_129 : decode cX13_refusal 129 = .ok (.getfield 88, 3) := by decide +kernel
theorem dX13_refusal_132 : decode cX13_refusal 132 = .ok (.bipush 30, 2) := by decide +kernel
theorem dX13_refusal_134 : decode cX13_refusal 134 = .ok (.if_icmp .ne 7, 3) := by decide +kernel
theorem dX13_refusal_137 : decode cX13_refusal 137 = .ok (.iconst 1, 1) := by decide +kernel
theorem dX13_refusal_138 : decode cX13_refusal 138 = .ok (.goto 5, 3) := by decide +kernel
theorem dX13_refusal_141 : decode cX13_refusal 141 = .ok (.iload 4, 2) := by decide +kernel
theorem dX13_refusal_143 : decode cX13_refusal 143 = .ok (.ireturn, 1) := by decide +kernel
theorem dX13_sell_0 : decode cX13_sell 0 = .ok (.bipush 9, 2) := by decide +kernel
theorem dX13_sell_2 : decode cX13_sell 2 = .ok (.newarray .int, 2) := by decide +kernel
theorem dX13_sell_4 : decode cX13_sell 4 = .ok (.dup, 1) := by decide +kernel
theorem dX13_sell_5 : decode cX13_sell 5 = .ok (.iconst 0, 1) := by decide +kernel
theorem dX13_sell_6 : decode cX13_sell 6 = .ok (.iload_n 1, 1) := by decide +kernel
theorem dX13_sell_7 : decode cX13_sell 7 = .ok (.iastore, 1) := by decide +kernel
theorem dX13_sell_8 : decode cX13_sell 8 = .ok (.dup, 1) := by decide +kernel
theorem dX13_sell_9 : decode cX13_sell 9 = .ok (.iconst 1, 1) := by decide +kernel
theorem dX13_sell_10 : decode cX13_sell 10 = .ok (.iload_n 2, 1) := by decide +kernel
theorem dX13_sell_11 : decode cX13_sell 11 = .ok (.iastore, 1) := by decide +kernel
theorem dX13_sell_12 : decode cX13_sell 12 = .ok (.dup, 1) := by decide +kernel
theorem dX13_sell_13 : decode cX13_sell 13 = .ok (.iconst 2, 1) := by decide +kernel
theorem dX13_sell_14 : decode cX13_sell 14 = .ok (.iload_n 3, 1) := by decide +kernel
theorem dX13_sell_15 : decode cX13_sell 15 = .ok (.iastore, 1) := by decide +kernel
theorem dX13_sell_16 : decode cX13_sell 16 = .ok (.dup, 1) := by decide +kernel
theorem dX13_sell_17 : decode cX13_sell 17 = .ok (.iconst 3, 1) := by decide +kernel
theorem dX13_sell_18 : decode cX13_sell 18 = .ok (.iload 4, 2) := by decide +kernel
theorem dX13_sell_20 : decode cX13_sell 20 = .ok (.iastore, 1) := by decide +kernel
theorem dX13_sell_21 : decode cX13_sell 21 = .ok (.dup, 1) := by decide +kernel
theorem dX13_sell_22 : decode cX13_sell 22 = .ok (.iconst 4, 1) := by decide +kernel
theorem dX13_sell_23 : decode cX13_sell 23 = .ok (.aload_n 0, 1) := by decide +kernel
theorem dX13_sell_24 : decode cX13_sell 24 = .ok (.getfield 9, 3) := by decide +kernel
theorem dX13_sell_27 : decode cX13_sell 27 = .ok (.iload_n 2, 1) := by decide +kernel
theorem dX13_sell_28 : decode cX13_sell 28 = .ok (.aaload, 1) := by decide +kernel
theorem dX13_sell_29 : decode cX13_sell 29 = .ok (.iconst 2, 1) := by decide +kernel
theorem dX13_sell_30 : decode cX13_sell 30 = .ok (.iaload, 1) := by decide +kernel
theorem dX13_sell_31 : decode cX13_sell 31 = .ok (.iastore, 1) := by decide +kernel
theorem dX13_sell_32 : decode cX13_sell 32 = .ok (.dup, 1) := by decide +kernel
theorem dX13_sell_33 : decode cX13_sell 33 = .ok (.iconst 5, 1) := by decide +kernel
theorem dX13_sell_34 : decode cX13_sell 34 = .ok (.aload_n 0, 1) := by decide +kernel
theorem dX13_sell_35 : decode cX13_sell 35 = .ok (.getfield 91, 3) := by decide +kernel
theorem dX13_sell_38 : decode cX13_sell 38 = .ok (.iastore, 1) := by decide +kernel
theorem dX13_sell_39 : decode cX13_sell 39 = .ok (.dup, 1) := by decide +kernel
theorem dX13_sell_40 : decode cX13_sell 40 = .ok (.bipush 6, 2) := by decide +kernel
theorem dX13_sell_42 : decode cX13_sell 42 = .ok (.iconst 0, 1) := by decide +kernel
theorem dX13_sell_43 : decode cX13_sell 43 = .ok (.iastore, 1) := by decide +kernel
theorem dX13_sell_44 : decode cX13_sell 44 = .ok (.dup, 1) := by decide +kernel
theorem dX13_sell_45 : decode cX13_sell 45 = .ok (.bipush 7, 2) := by decide +kernel
theorem dX13_sell_47 : decode cX13_sell 47 = .ok (.iconst 0, 1) := by decide +kernel
theorem dX13_sell_48 : decode cX13_sell 48 = .ok (.iastore, 1) := by decide +kernel
theorem dX13_sell_49 : decode cX13_sell 49 = .ok (.dup, 1) := by decide +kernel
theorem dX13_sell_50 : decode cX13_sell 50 = .ok (.bipush 8, 2) := by decide +kernel
theorem dX13_sell_52 : decode cX13_sell 52 = .ok (.iconst 0, 1) := by decide +kernel
theorem dX13_sell_53 : decode cX13_sell 53 = .ok (.iastore, 1) := by decide +kernel
theorem dX13_sell_54 : decode cX13_sell 54 = .ok (.astore 5, 2) := by decide +kernel
theorem dX13_sell_56 : decode cX13_sell 56 = .ok (.aload 5, 2) := by decide +kernel
theorem dX13_sell_58 : decode cX13_sell 58 = .ok (.iconst 0, 1) := by decide +kernel
theorem dX13_sell_59 : decode cX13_sell 59 = .ok (.aload_n 0, 1) := by decide +kernel
theorem dX13_sell_60 : decode cX13_sell 60 = .ok (.getfield 17, 3) := by decide +kernel
theorem dX13_sell_63 : decode cX13_sell 63 = .ok (.aload_n 0, 1) := by decide +kernel
theorem dX13_sell_64 : decode cX13_sell 64 = .ok (.getfield 88, 3) := by decide +kernel
theorem dX13_sell_67 : decode cX13_sell 67 = .ok (.aaload, 1) := by decide +kernel
theorem dX13_sell_68 : decode cX13_sell 68 = .ok (.iconst 0, 1) := by decide +kernel
theorem dX13_sell_69 : decode cX13_sell 69 = .ok (.bipush 9, 2) := by decide +kernel
theorem dX13_sell_71 : decode cX13_sell 71 = .ok (.invokestatic 106, 3) := by decide +kernel
theorem dX13_sell_74 : decode cX13_sell 74 = .ok (.aload_n 0, 1) := by decide +kernel
theorem dX13_sell_75 : decode cX13_sell 75 = .ok (.getfield 14, 3) := by decide +kernel
theorem dX13_sell_78 : decode cX13_sell 78 = .ok (.iload_n 1, 1) := by decide +kernel
theorem dX13_sell_79 : decode cX13_sell 79 = .ok (.aaload, 1) := by decide +kernel
theorem dX13_sell_80 : decode cX13_sell 80 = .ok (.iconst 1, 1) := by decide +kernel
theorem dX13_sell_81 : decode cX13_sell 81 = .ok (.dup2, 1) := by decide +kernel
theorem dX13_sell_82 : decode cX13_sell 82 = .ok (.iaload, 1) := by decide +kernel
theorem dX13_sell_83 : decode cX13_sell 83 = .ok (.aload_n 0, 1) := by decide +kernel
theorem dX13_sell_84 : decode cX13_sell 84 = .ok (.getfield 9, 3) := by decide +kernel
theorem dX13_sell_87 : decode cX13_sell 87 = .ok (.iload_n 2, 1) := by decide +kernel
theorem dX13_sell_88 : decode cX13_sell 88 = .ok (.aaload, 1) := by decide +kernel
theorem dX13_sell_89 : decode cX13_sell 89 = .ok (.iconst 2, 1) := by decide +kernel
theorem dX13_sell_90 : decode cX13_sell 90 = .ok (.iaload, 1) := by decide +kernel
theorem dX13_sell_91 : decode cX13_sell 91 = .ok (.iload 4, 2) := by decide +kernel
theorem dX13_sell_93 : decode cX13_sell 93 = .ok (.imul, 1) := by decide +kernel
theorem dX13_sell_94 : decode cX13_sell 94 = .ok (.isub, 1) := by decide +kernel
theorem dX13_sell_95 : decode cX13_sell 95 = .ok (.iastore, 1) := by decide +kernel
theorem dX13_sell_96 : decode cX13_sell 96 = .ok (.aload_n 0, 1) := by decide +kernel
theorem dX13_sell_97 : decode cX13_sell 97 = .ok (.dup, 1) := by decide +kernel
theorem dX13_sell_98 : decode cX13_sell 98 = .ok (.getfield 88, 3) := by decide +kernel
theorem dX13_sell_101 : decode cX13_sell 101 = .ok (.iconst 1, 1) := by decide +kernel
theorem dX13_sell_102 : decode cX13_sell 102 = .ok (.iadd, 1) := by decide +kernel
theorem dX13_sell_103 : decode cX13_sell 103 = .ok (.putfield 88, 3) := by decide +kernel
theorem dX13_sell_106 : decode cX13_sell 106 = .ok (.aload_n 0, 1) := by decide +kernel
theorem dX13_sell_107 : decode cX13_sell 107 = .ok (.getfield 88, 3) := by decide +kernel
theorem dX13_sell_110 : decode cX13_sell 110 = .ok (.iconst 1, 1) := by decide +kernel
theorem dX13_sell_111 : decode cX13_sell 111 = .ok (.isub, 1) := by decide +kernel
theorem dX13_sell_112 : decode cX13_sell 112 = .ok (.ireturn, 1) := by decide +kernel
theorem dX13_held_0 : decode cX13_held 0 = .ok (.iconst 0, 1) := by decide +kernel
theorem dX13_held_1 : decode cX13_held 1 = .ok (.istore_n 2, 1) := by decide +kernel
theorem dX13_held_2 : decode cX13_held 2 = .ok (.iconst 0, 1) := by decide +kernel
theorem dX13_held_3 : decode cX13_held 3 = .ok (.istore_n 3, 1) := by decide +kernel
theorem dX13_held_4 : decode cX13_held 4 = .ok (.iload_n 3, 1) := by decide +kernel
theorem dX13_held_5 : decode cX13_held 5 = .ok (.aload_n 0, 1) := by decide +kernel
theorem dX13_held_6 : decode cX13_held 6 = .ok (.getfield 88, 3) := by decide +kernel
theorem dX13_held_9 : decode cX13_held 9 = .ok (.if_icmp .ge 71, 3) := by decide +kernel
theorem dX13_held_12 : decode cX13_held 12 = .ok (.iload_n 2, 1) := by decide +kernel
theorem dX13_held_13 : decode cX13_held 13 = .ok (.aload_n 0, 1) := by decide +kernel
theorem dX13_held_14 : decode cX13_held 14 = .ok (.getfield 17, 3) := by decide +kernel
theorem dX13_held_17 : decode cX13_held 17 = .ok (.iload_n 3, 1) := by decide +kernel
theorem dX13_held_18 : decode cX13_held 18 = .ok (.aaload, 1) := by decide +kernel
theorem dX13_held_19 : decode cX13_held 19 = .ok (.bipush 6, 2) := by decide +kernel
theorem dX13_held_21 : decode cX13_held 21 = .ok (.iaload, 1) := by decide +kernel
theorem dX13_held_22 : decode cX13_held 22 = .ok (.ifCond .ne 49, 3) := by decide +kernel
theorem dX13_held_25 : decode cX13_held 25 = .ok (.iload_n 1, 1) := by decide +kernel
theorem dX13_held_26 : decode cX13_held 26 = .ok (.ifCond .lt 15, 3) := by decide +kernel
theorem dX13_held_29 : decode cX13_held 29 = .ok (.aload_n 0, 1) := by decide +kernel
theorem dX13_held_30 : decode cX13_held 30 = .ok (.getfield 17, 3) := by decide +kernel
theorem dX13_held_33 : decode cX13_held 33 = .ok (.iload_n 3, 1) := by decide +kernel
theorem dX13_held_34 : decode cX13_held 34 = .ok (.aaload, 1) := by decide +kernel
theorem dX13_held_35 : decode cX13_held 35 = .ok (.iconst 0, 1) := by decide +kernel
theorem dX13_held_36 : decode cX13_held 36 = .ok (.iaload, 1) := by decide +kernel
theorem dX13_held_37 : decode cX13_held 37 = .ok (.iload_n 1, 1) := by decide +kernel
theorem dX13_held_38 : decode cX13_held 38 = .ok (.if_icmp .ne 33, 3) := by decide +kernel
theorem dX13_held_41 : decode cX13_held 41 = .ok (.aload_n 0, 1) := by decide +kernel
theorem dX13_held_42 : decode cX13_held 42 = .ok (.getfield 17, 3) := by decide +kernel
theorem dX13_held_45 : decode cX13_held 45 = .ok (.iload_n 3, 1) := by decide +kernel
theorem dX13_held_46 : decode cX13_held 46 = .ok (.aaload, 1) := by decide +kernel
theorem dX13_held_47 : decode cX13_held 47 = .ok (.iconst 4, 1) := by decide +kernel
theorem dX13_held_48 : decode cX13_held 48 = .ok (.iaload, 1) := by decide +kernel
theorem dX13_held_49 : decode cX13_held 49 = .ok (.aload_n 0, 1) := by decide +kernel
theorem dX13_held_50 : decode cX13_held 50 = .ok (.getfield 17, 3) := by decide +kernel
theorem dX13_held_53 : decode cX13_held 53 = .ok (.iload_n 3, 1) := by decide +kernel
theorem dX13_held_54 : decode cX13_held 54 = .ok (.aaload, 1) := by decide +kernel
theorem dX13_held_55 : decode cX13_held 55 = .ok (.iconst 3, 1) := by decide +kernel
theorem dX13_held_56 : decode cX13_held 56 = .ok (.iaload, 1) := by decide +kernel
theorem dX13_held_57 : decode cX13_held 57 = .ok (.aload_n 0, 1) := by decide +kernel
theorem dX13_held_58 : decode cX13_held 58 = .ok (.getfield 17, 3) := by decide +kernel
theorem dX13_held_61 : decode cX13_held 61 = .ok (.iload_n 3, 1) := by decide +kernel
theorem dX13_held_62 : decode cX13_held 62 = .ok (.aaload, 1) := by decide +kernel
theorem dX13_held_63 : decode cX13_held 63 = .ok (.bipush 7, 2) := by decide +kernel
theorem dX13_held_65 : decode cX13_held 65 = .ok (.iaload, 1) := by decide +kernel
theorem dX13_held_66 : decode cX13_held 66 = .ok (.isub, 1) := by decide +kernel
theorem dX13_held_67 : decode cX13_held 67 = .ok (.imul, 1) := by decide +kernel
theorem dX13_held_68 : decode cX13_held 68 = .ok (.goto 4, 3) := by decide +kernel
theorem dX13_held_71 : decode cX13_held 71 = .ok (.iconst 0, 1) := by decide +kernel
theorem dX13_held_72 : decode cX13_held 72 = .ok (.iadd, 1) := by decide +kernel
theorem dX13_held_73 : decode cX13_held 73 = .ok (.istore_n 2, 1) := by decide +kernel
theorem dX13_held_74 : decode cX13_held 74 = .ok (.iinc 3 1, 3) := by decide +kernel
theorem dX13_held_77 : decode cX13_held 77 = .ok (.goto (-73), 3) := by decide +kernel
theorem dX13_held_80 : decode cX13_held 80 = .ok (.iload_n 2, 1) := by decide +kernel
theorem dX13_held_81 : decode cX13_held 81 = .ok (.ireturn, 1) := by decide +kernel
theorem dX13_back_0 : decode cX13_back 0 = .ok (.aload_n 0, 1) := by decide +kernel
theorem dX13_back_1 : decode cX13_back 1 = .ok (.getfield 9, 3) := by decide +kernel
theorem dX13_back_4 : decode cX13_back 4 = .ok (.aload_n 1, 1) := by decide +kernel
theorem dX13_back_5 : decode cX13_back 5 = .ok (.iconst 1, 1) := by decide +kernel
theorem dX13_back_6 : decode cX13_back 6 = .ok (.iaload, 1) := by decide +kernel
theorem dX13_back_7 : decode cX13_back 7 = .ok (.aaload, 1) := by decide +kernel
theorem dX13_back_8 : decode cX13_back 8 = .ok (.astore_n 3, 1) := by decide +kernel
theorem dX13_back_9 : decode cX13_back 9 = .ok (.iload_n 2, 1) := by decide +kernel
theorem dX13_back_10 : decode cX13_back 10 = .ok (.ifCond .eq 45, 3) := by decide +kernel
theorem dX13_back_13 : decode cX13_back 13 = .ok (.aload_n 0, 1) := by decide +kernel
theorem dX13_back_14 : decode cX13_back 14 = .ok (.dup, 1) := by decide +kernel
theorem dX13_back_15 : decode cX13_back 15 = .ok (.getfield 94, 3) := by decide +kernel
theorem dX13_back_18 : decode cX13_back 18 = .ok (.aload_n 1, 1) := by decide +kernel
theorem dX13_back_19 : decode cX13_back 19 = .ok (.iconst 4, 1) := by decide +kernel
theorem dX13_back_20 : decode cX13_back 20 = .ok (.iaload, 1) := by decide +kernel
theorem dX13_back_21 : decode cX13_back 21 = .ok (.iadd, 1) := by decide +kernel
theorem dX13_back_22 : decode cX13_back 22 = .ok (.putfield 94, 3) := by decide +kernel
theorem dX13_back_25 : decode cX13_back 25 = .ok (.aload_n 0, 1) := by decide +kernel
theorem dX13_back_26 : decode cX13_back 26 = .ok (.getfield 14, 3) := by decide +kernel
theorem dX13_back_29 : decode cX13_back 29 = .ok (.aload_n 1, 1) := by decide +kernel
theorem dX13_back_30 : decode cX13_back 30 = .ok (.iconst 0, 1) := by decide +kernel
theorem dX13_back_31 : decode cX13_back 31 = .ok (.iaload, 1) := by decide +kernel
theorem dX13_back_32 : decode cX13_back 32 = .ok (.aaload, 1) := by decide +kernel
theorem dX13_back_33 : decode cX13_back 33 = .ok (.iconst 3, 1) := by decide +kernel
theorem dX13_back_34 : decode cX13_back 34 = .ok (.dup2, 1) := by decide +kernel
theorem dX13_back_35 : decode cX13_back 35 = .ok (.iaload, 1) := by decide +kernel
theorem dX13_back_36 : decode cX13_back 36 = .ok (.iconst 1, 1) := by decide +kernel
theorem dX13_back_37 : decode cX13_back 37 = .ok (.iadd, 1) := by decide +kernel
theorem dX13_back_38 : decode cX13_back 38 = .ok (.iastore, 1) := by decide +kernel
theorem dX13_back_39 : decode cX13_back 39 = .ok (.aload_n 1, 1) := by decide +kernel
theorem dX13_back_40 : decode cX13_back 40 = .ok (.bipush 8, 2) := by decide +kernel
theorem dX13_back_42 : decode cX13_back 42 = .ok (.dup2, 1) := by decide +kernel
theorem dX13_back_43 : decode cX13_back 43 = .ok (.iaload, 1) := by decide +kernel
theorem dX13_back_44 : decode cX13_back 44 = .ok (.iconst 1, 1) := by decide +kernel
theorem dX13_back_45 : decode cX13_back 45 = .ok (.aload_n 1, 1) := by decide +kernel
theorem dX13_back_46 : decode cX13_back 46 = .ok (.bipush 7, 2) := by decide +kernel
theorem dX13_back_48 : decode cX13_back 48 = .ok (.iaload, 1) := by decide +kernel
theorem dX13_back_49 : decode cX13_back 49 = .ok (.ishl, 1) := by decide +kernel
theorem dX13_back_50 : decode cX13_back 50 = .ok (.ior, 1) := by decide +kernel
theorem dX13_back_51 : decode cX13_back 51 = .ok (.iastore, 1) := by decide +kernel
theorem dX13_back_52 : decode cX13_back 52 = .ok (.goto 38, 3) := by decide +kernel
theorem dX13_back_55 : decode cX13_back 55 = .ok (.aload_n 0, 1) := by decide +kernel
theorem dX13_back_56 : decode cX13_back 56 = .ok (.dup, 1) := by decide +kernel
theorem dX13_back_57 : decode cX13_back 57 = .ok (.getfield 97, 3) := by decide +kernel
theorem dX13_back_60 : decode cX13_back 60 = .ok (.aload_n 1, 1) := by decide +kernel
theorem dX13_back_61 : decode cX13_back 61 = .ok (.iconst 4, 1) := by decide +kernel
theorem dX13_back_62 : decode cX13_back 62 = .ok (.iaload, 1) := by decide +kernel
theorem dX13_back_63 : decode cX13_back 63 = .ok (.iadd, 1) := by decide +kernel
theorem dX13_back_64 : decode cX13_back 64 = .ok (.putfield 97, 3) := by decide +kernel
theorem dX13_back_67 : decode cX13_back 67 = .ok (.aload_n 0, 1) := by decide +kernel
theorem dX13_back_68 : decode cX13_back 68 = .ok (.getfield 14, 3) := by decide +kernel
theorem dX13_back_71 : decode cX13_back 71 = .ok (.aload_n 1, 1) := by decide +kernel
theorem dX13_back_72 : decode cX13_back 72 = .ok (.iconst 0, 1) := by decide +kernel
theorem dX13_back_73 : decode cX13_back 73 = .ok (.iaload, 1) := by decide +kernel
theorem dX13_back_74 : decode cX13_back 74 = .ok (.aaload, 1) := by decide +kernel
theorem dX13_back_75 : decode cX13_back 75 = .ok (.iconst 1, 1) := by decide +kernel
theorem dX13_back_76 : decode cX13_back 76 = .ok (.dup2, 1) := by decide +kernel
theorem dX13_back_77 : decode cX13_back 77 = .ok (.iaload, 1) := by decide +kernel
theorem dX13_back_78 : decode cX13_back 78 = .ok (.aload_n 1, 1) := by decide +kernel
theorem dX13_back_79 : decode cX13_back 79 = .ok (.iconst 4, 1) := by decide +kernel
theorem dX13_back_80 : decode cX13_back 80 = .ok (.iaload, 1) := by decide +kernel
theorem dX13_back_81 : decode cX13_back 81 = .ok (.iadd, 1) := by decide +kernel
theorem dX13_back_82 : decode cX13_back 82 = .ok (.iastore, 1) := by decide +kernel
theorem dX13_back_83 : decode cX13_back 83 = .ok (.aload_n 3, 1) := by decide +kernel
theorem dX13_back_84 : decode cX13_back 84 = .ok (.iconst 5, 1) := by decide +kernel
theorem dX13_back_85 : decode cX13_back 85 = .ok (.dup2, 1) := by decide +kernel
theorem dX13_back_86 : decode cX13_back 86 = .ok (.iaload, 1) := by decide +kernel
theorem dX13_back_87 : decode cX13_back 87 = .ok (.iconst 1, 1) := by decide +kernel
theorem dX13_back_88 : decode cX13_back 88 = .ok (.iadd, 1) := by decide +kernel
theorem dX13_back_89 : decode cX13_back 89 = .ok (.iastore, 1) := by decide +kernel
theorem dX13_back_90 : decode cX13_back 90 = .ok (.aload_n 3, 1) := by decide +kernel
theorem dX13_back_91 : decode cX13_back 91 = .ok (.iconst 4, 1) := by decide +kernel
theorem dX13_back_92 : decode cX13_back 92 = .ok (.iconst 0, 1) := by decide +kernel
theorem dX13_back_93 : decode cX13_back 93 = .ok (.aload_n 3, 1) := by decide +kernel
theorem dX13_back_94 : decode cX13_back 94 = .ok (.iconst 4, 1) := by decide +kernel
theorem dX13_back_95 : decode cX13_back 95 = .ok (.iaload, 1) := by decide +kernel
theorem dX13_back_96 : decode cX13_back 96 = .ok (.iload_n 2, 1) := by decide +kernel
theorem dX13_back_97 : decode cX13_back 97 = .ok (.ifCond .eq 7, 3) := by decide +kernel
theorem dX13_back_100 : decode cX13_back 100 = .ok (.iconst 1, 1) := by decide +kernel
theorem dX13_back_101 : decode cX13_back 101 = .ok (.goto 5, 3) := by decide +kernel
theorem dX13_back_104 : decode cX13_back 104 = .ok (.bipush (-2), 2) := by decide +kernel
theorem dX13_back_106 : decode cX13_back 106 = .ok (.iadd, 1) := by decide +kernel
theorem dX13_back_107 : decode cX13_back 107 = .ok (.invokestatic 112, 3) := by decide +kernel
theorem dX13_back_110 : decode cX13_back 110 = .ok (.iastore, 1) := by decide +kernel
theorem dX13_back_111 : decode cX13_back 111 = .ok (.aload_n 1, 1) := by decide +kernel
theorem dX13_back_112 : decode cX13_back 112 = .ok (.bipush 7, 2) := by decide +kernel
theorem dX13_back_114 : decode cX13_back 114 = .ok (.dup2, 1) := by decide +kernel
theorem dX13_back_115 : decode cX13_back 115 = .ok (.iaload, 1) := by decide +kernel
theorem dX13_back_116 : decode cX13_back 116 = .ok (.iconst 1, 1) := by decide +kernel
theorem dX13_back_117 : decode cX13_back 117 = .ok (.iadd, 1) := by decide +kernel
theorem dX13_back_118 : decode cX13_back 118 = .ok (.iastore, 1) := by decide +kernel
theorem dX13_back_119 : decode cX13_back 119 = .ok (.aload_n 1, 1) := by decide +kernel
theorem dX13_back_120 : decode cX13_back 120 = .ok (.bipush 6, 2) := by decide +kernel
theorem dX13_back_122 : decode cX13_back 122 = .ok (.aload_n 1, 1) := by decide +kernel
theorem dX13_back_123 : decode cX13_back 123 = .ok (.bipush 7, 2) := by decide +kernel
theorem dX13_back_125 : decode cX13_back 125 = .ok (.iaload, 1) := by decide +kernel
theorem dX13_back_126 : decode cX13_back 126 = .ok (.aload_n 1, 1) := by decide +kernel
theorem dX13_back_127 : decode cX13_back 127 = .ok (.iconst 3, 1) := by decide +kernel
theorem dX13_back_128 : decode cX13_back 128 = .ok (.iaload, 1) := by decide +kernel
theorem dX13_back_129 : decode cX13_back 129 = .ok (.if_icmp .ne 7, 3) := by decide +kernel
theorem dX13_back_132 : decode cX13_back 132 = .ok (.iconst 1, 1) := by decide +kernel
theorem dX13_back_133 : decode cX13_back 133 = .ok (.goto 4, 3) := by decide +kernel
theorem dX13_back_136 : decode cX13_back 136 = .ok (.iconst 0, 1) := by decide +kernel
theorem dX13_back_137 : decode cX13_back 137 = .ok (.iastore, 1) := by decide +kernel
theorem dX13_back_138 : decode cX13_back 138 = .ok (.return_, 1) := by decide +kernel
theorem dX13_cancel_0 : decode cX13_cancel 0 = .ok (.aload_n 0, 1) := by decide +kernel
theorem dX13_cancel_1 : decode cX13_cancel 1 = .ok (.getfield 17, 3) := by decide +kernel
theorem dX13_cancel_4 : decode cX13_cancel 4 = .ok (.iload_n 1, 1) := by decide +kernel
theorem dX13_cancel_5 : decode cX13_cancel 5 = .ok (.aaload, 1) := by decide +kernel
theorem dX13_cancel_6 : decode cX13_cancel 6 = .ok (.astore_n 2, 1) := by decide +kernel
theorem dX13_cancel_7 : decode cX13_cancel 7 = .ok (.aload_n 2, 1) := by decide +kernel
theorem dX13_cancel_8 : decode cX13_cancel 8 = .ok (.iconst 4, 1) := by decide +kernel
theorem dX13_cancel_9 : decode cX13_cancel 9 = .ok (.iaload, 1) := by decide +kernel
theorem dX13_cancel_10 : decode cX13_cancel 10 = .ok (.aload_n 2, 1) := by decide +kernel
theorem dX13_cancel_11 : decode cX13_cancel 11 = .ok (.iconst 3, 1) := by decide +kernel
theorem dX13_cancel_12 : decode cX13_cancel 12 = .ok (.iaload, 1) := by decide +kernel
theorem dX13_cancel_13 : decode cX13_cancel 13 = .ok (.aload_n 2, 1) := by decide +kernel
theorem dX13_cancel_14 : decode cX13_cancel 14 = .ok (.bipush 7, 2) := by decide +kernel
theorem dX13_cancel_16 : decode cX13_cancel 16 = .ok (.iaload, 1) := by decide +kernel
theorem dX13_cancel_17 : decode cX13_cancel 17 = .ok (.isub, 1) := by decide +kernel
theorem dX13_cancel_18 : decode cX13_cancel 18 = .ok (.imul, 1) := by decide +kernel
theorem dX13_cancel_19 : decode cX13_cancel 19 = .ok (.istore_n 3, 1) := by decide +kernel
theorem dX13_cancel_20 : decode cX13_cancel 20 = .ok (.aload_n 2, 1) := by decide +kernel
theorem dX13_cancel_21 : decode cX13_cancel 21 = .ok (.bipush 6, 2) := by decide +kernel
theorem dX13_cancel_23 : decode cX13_cancel 23 = .ok (.iconst 2, 1) := by decide +kernel
theorem dX13_cancel_24 : decode cX13_cancel 24 = .ok (.iastore, 1) := by decide +kernel
theorem dX13_cancel_25 : decode cX13_cancel 25 = .ok (.aload_n 0, 1) := by decide +kernel
theorem dX13_cancel_26 : decode cX13_cancel 26 = .ok (.dup, 1) := by decide +kernel
theorem dX13_cancel_27 : decode cX13_cancel 27 = .ok (.getfield 97, 3) := by decide +kernel
theorem dX13_cancel_30 : decode cX13_cancel 30 = .ok (.iload_n 3, 1) := by decide +kernel
theorem dX13_cancel_31 : decode cX13_cancel 31 = .ok (.iadd, 1) := by decide +kernel
theorem dX13_cancel_32 : decode cX13_cancel 32 = .ok (.putfield 97, 3) := by decide +kernel
theorem dX13_cancel_35 : decode cX13_cancel 35 = .ok (.aload_n 0, 1) := by decide +kernel
theorem dX13_cancel_36 : decode cX13_cancel 36 = .ok (.getfield 14, 3) := by decide +kernel
theorem dX13_cancel_39 : decode cX13_cancel 39 = .ok (.aload_n 2, 1) := by decide +kernel
theorem dX13_cancel_40 : decode cX13_cancel 40 = .ok (.iconst 0, 1) := by decide +kernel
theorem dX13_cancel_41 : decode cX13_cancel 41 = .ok (.iaload, 1) := by decide +kernel
theorem dX13_cancel_42 : decode cX13_cancel 42 = .ok (.aaload, 1) := by decide +kernel
theorem dX13_cancel_43 : decode cX13_cancel 43 = .ok (.iconst 1, 1) := by decide +kernel
theorem dX13_cancel_44 : decode cX13_cancel 44 = .ok (.dup2, 1) := by decide +kernel
theorem dX13_cancel_45 : decode cX13_cancel 45 = .ok (.iaload, 1) := by decide +kernel
theorem dX13_cancel_46 : decode cX13_cancel 46 = .ok (.iload_n 3, 1) := by decide +kernel
theorem dX13_cancel_47 : decode cX13_cancel 47 = .ok (.iadd, 1) := by decide +kernel
theorem dX13_cancel_48 : decode cX13_cancel 48 = .ok (.iastore, 1) := by decide +kernel
theorem dX13_cancel_49 : decode cX13_cancel 49 = .ok (.iload_n 3, 1) := by decide +kernel
theorem dX13_cancel_50 : decode cX13_cancel 50 = .ok (.ireturn, 1) := by decide +kernel
theorem dX13_fake_0 : decode cX13_fake 0 = .ok (.aload_n 0, 1) := by decide +kernel
theorem dX13_fake_1 : decode cX13_fake 1 = .ok (.getfield 17, 3) := by decide +kernel
theorem dX13_fake_4 : decode cX13_fake 4 = .ok (.iload_n 1, 1) := by decide +kernel
theorem dX13_fake_5 : decode cX13_fake 5 = .ok (.aaload, 1) := by decide +kernel
theorem dX13_fake_6 : decode cX13_fake 6 = .ok (.astore_n 2, 1) := by decide +kernel
theorem dX13_fake_7 : decode cX13_fake 7 = .ok (.aload_n 0, 1) := by decide +kernel
theorem dX13_fake_8 : decode cX13_fake 8 = .ok (.getfield 14, 3) := by decide +kernel
theorem dX13_fake_11 : decode cX13_fake 11 = .ok (.aload_n 2, 1) := by decide +kernel
theorem dX13_fake_12 : decode cX13_fake 12 = .ok (.iconst 0, 1) := by decide +kernel
theorem dX13_fake_13 : decode cX13_fake 13 = .ok (.iaload, 1) := by decide +kernel
theorem dX13_fake_14 : decode cX13_fake 14 = .ok (.aaload, 1) := by decide +kernel
theorem dX13_fake_15 : decode cX13_fake 15 = .ok (.astore_n 3, 1) := by decide +kernel
theorem dX13_fake_16 : decode cX13_fake 16 = .ok (.aload_n 0, 1) := by decide +kernel
theorem dX13_fake_17 : decode cX13_fake 17 = .ok (.aload_n 2, 1) := by decide +kernel
theorem dX13_fake_18 : decode cX13_fake 18 = .ok (.aload_n 0, 1) := by decide +kernel
theorem dX13_fake_19 : decode cX13_fake 19 = .ok (.getfield 100, 3) := by decide +kernel
theorem dX13_fake_22 : decode cX13_fake 22 = .ok (.ifCond .le 7, 3) := by decide +kernel
theorem dX13_fake_25 : decode cX13_fake 25 = .ok (.iconst 1, 1) := by decide +kernel
theorem dX13_fake_26 : decode cX13_fake 26 = .ok (.goto 4, 3) := by decide +kernel
theorem dX13_fake_29 : decode cX13_fake 29 = .ok (.iconst 0, 1) := by decide +kernel
theorem dX13_fake_30 : decode cX13_fake 30 = .ok (.invokevirtual 117, 3) := by decide +kernel
theorem dX13_fake_33 : decode cX13_fake 33 = .ok (.aload_n 3, 1) := by decide +kernel
theorem dX13_fake_34 : decode cX13_fake 34 = .ok (.iconst 2, 1) := by decide +kernel
theorem dX13_fake_35 : decode cX13_fake 35 = .ok (.dup2, 1) := by decide +kernel
theorem dX13_fake_36 : decode cX13_fake 36 = .ok (.iaload, 1) := by decide +kernel
theorem dX13_fake_37 : decode cX13_fake 37 = .ok (.aload_n 0, 1) := by decide +kernel
theorem dX13_fake_38 : decode cX13_fake 38 = .ok (.getfield 100, 3) := by decide +kernel
theorem dX13_fake_41 : decode cX13_fake 41 = .ok (.ifCond .le 7, 3) := by decide +kernel
theorem dX13_fake_44 : decode cX13_fake 44 = .ok (.iconst 1, 1) := by decide +kernel
theorem dX13_fake_45 : decode cX13_fake 45 = .ok (.goto 4, 3) := by decide +kernel
theorem dX13_fake_48 : decode cX13_fake 48 = .ok (.iconst 0, 1) := by decide +kernel
theorem dX13_fake_49 : decode cX13_fake 49 = .ok (.iadd, 1) := by decide +kernel
theorem dX13_fake_50 : decode cX13_fake 50 = .ok (.iastore, 1) := by decide +kernel
theorem dX13_fake_51 : decode cX13_fake 51 = .ok (.iconst 0, 1) := by decide +kernel
theorem dX13_fake_52 : decode cX13_fake 52 = .ok (.istore 4, 2) := by decide +kernel
theorem dX13_fake_54 : decode cX13_fake 54 = .ok (.iload 4, 2) := by decide +kernel
theorem dX13_fake_56 : decode cX13_fake 56 = .ok (.aload_n 0, 1) := by decide +kernel
theorem dX13_fake_57 : decode cX13_fake 57 = .ok (.getfield 88, 3) := by decide +kernel
theorem dX13_fake_60 : decode cX13_fake 60 = .ok (.if_icmp .ge 52, 3) := by decide +kernel
theorem dX13_fake_63 : decode cX13_fake 63 = .ok (.aload_n 3, 1) := by decide +kernel
theorem dX13_fake_64 : decode cX13_fake 64 = .ok (.iconst 2, 1) := by decide +kernel
theorem dX13_fake_65 : decode cX13_fake 65 = .ok (.iaload, 1) := by decide +kernel
theorem dX13_fake_66 : decode cX13_fake 66 = .ok (.iconst 2, 1) := by decide +kernel
theorem dX13_fake_67 : decode cX13_fake 67 = .ok (.if_icmp .le 45, 3) := by decide +kernel
theorem dX13_fake_70 : decode cX13_fake 70 = .ok (.aload_n 0, 1) := by decide +kernel
theorem dX13_fake_71 : decode cX13_fake 71 = .ok (.getfield 17, 3) := by decide +kernel
theorem dX13_fake_74 : decode cX13_fake 74 = .ok (.iload 4, 2) := by decide +kernel
theorem dX13_fake_76 : decode cX13_fake 76 = .ok (.aaload, 1) := by decide +kernel
theorem dX13_fake_77 : decode cX13_fake 77 = .ok (.iconst 0, 1) := by decide +kernel
theorem dX13_fake_78 : decode cX13_fake 78 = .ok (.iaload, 1) := by decide +kernel
theorem dX13_fake_79 : decode cX13_fake 79 = .ok (.aload_n 2, 1) := by decide +kernel
theorem dX13_fake_80 : decode cX13_fake 80 = .ok (.iconst 0, 1) := by decide +kernel
theorem dX13_fake_81 : decode cX13_fake 81 = .ok (.iaload, 1) := by decide +kernel
theorem dX13_fake_82 : decode cX13_fake 82 = .ok (.if_icmp .ne 24, 3) := by decide +kernel
theorem dX13_fake_85 : decode cX13_fake 85 = .ok (.aload_n 0, 1) := by decide +kernel
theorem dX13_fake_86 : decode cX13_fake 86 = .ok (.getfield 17, 3) := by decide +kernel
theorem dX13_fake_89 : decode cX13_fake 89 = .ok (.iload 4, 2) := by decide +kernel
theorem dX13_fake_91 : decode cX13_fake 91 = .ok (.aaload, 1) := by decide +kernel
theorem dX13_fake_92 : decode cX13_fake 92 = .ok (.bipush 6, 2) := by decide +kernel
theorem dX13_fake_94 : decode cX13_fake 94 = .ok (.iaload, 1) := by decide +kernel
theorem dX13_fake_95 : decode cX13_fake 95 = .ok (.ifCond .ne 11, 3) := by decide +kernel
theorem dX13_fake_98 : decode cX13_fake 98 = .ok (.aload_n 0, 1) := by decide +kernel
theorem dX13_fake_99 : decode cX13_fake 99 = .ok (.iload 4, 2) := by decide +kernel
theorem dX13_fake_101 : decode cX13_fake 101 = .ok (.invokevirtual 121, 3) := by decide +kernel
theorem dX13_fake_104 : decode cX13_fake 104 = .ok (.istore 5, 2) := by decide +kernel
theorem dX13_fake_106 : decode cX13_fake 106 = .ok (.iinc 4 1, 3) := by decide +kernel
theorem dX13_fake_109 : decode cX13_fake 109 = .ok (.goto (-55), 3) := by decide +kernel
theorem dX13_fake_112 : decode cX13_fake 112 = .ok (.aload_n 3, 1) := by decide +kernel
theorem dX13_fake_113 : decode cX13_fake 113 = .ok (.iconst 2, 1) := by decide +kernel
theorem dX13_fake_114 : decode cX13_fake 114 = .ok (.iaload, 1) := by decide +kernel
theorem dX13_fake_115 : decode cX13_fake 115 = .ok (.ireturn, 1) := by decide +kernel
theorem dX13_due_0 : decode cX13_due 0 = .ok (.aload_n 1, 1) := by decide +kernel
theorem dX13_due_1 : decode cX13_due 1 = .ok (.iconst 5, 1) := by decide +kernel
theorem dX13_due_2 : decode cX13_due 2 = .ok (.iaload, 1) := by decide +kernel
theorem dX13_due_3 : decode cX13_due 3 = .ok (.aload_n 0, 1) := by decide +kernel
theorem dX13_due_4 : decode cX13_due 4 = .ok (.getfield 9, 3) := by decide +kernel
theorem dX13_due_7 : decode cX13_due 7 = .ok (.aload_n 1, 1) := by decide +kernel
theorem dX13_due_8 : decode cX13_due 8 = .ok (.iconst 1, 1) := by decide +kernel
theorem dX13_due_9 : decode cX13_due 9 = .ok (.iaload, 1) := by decide +kernel
theorem dX13_due_10 : decode cX13_due 10 = .ok (.aaload, 1) := by decide +kernel
theorem dX13_due_11 : decode cX13_due 11 = .ok (.iconst 0, 1) := by decide +kernel
theorem dX13_due_12 : decode cX13_due 12 = .ok (.iaload, 1) := by decide +kernel
theorem dX13_due_13 : decode cX13_due 13 = .ok (.aload_n 1, 1) := by decide +kernel
theorem dX13_due_14 : decode cX13_due 14 = .ok (.bipush 7, 2) := by decide +kernel
theorem dX13_due_16 : decode cX13_due 16 = .ok (.iaload, 1) := by decide +kernel
theorem dX13_due_17 : decode cX13_due 17 = .ok (.iconst 1, 1) := by decide +kernel
theorem dX13_due_18 : decode cX13_due 18 = .ok (.iadd, 1) := by decide +kernel
theorem dX13_due_19 : decode cX13_due 19 = .ok (.imul, 1) := by decide +kernel
theorem dX13_due_20 : decode cX13_due 20 = .ok (.iadd, 1) := by decide +kernel
theorem dX13_due_21 : decode cX13_due 21 = .ok (.ireturn, 1) := by decide +kernel
theorem dX13_end_0 : decode cX13_end 0 = .ok (.aload_n 1, 1) := by decide +kernel
theorem dX13_end_1 : decode cX13_end 1 = .ok (.iconst 5, 1) := by decide +kernel
theorem dX13_end_2 : decode cX13_end 2 = .ok (.iaload, 1) := by decide +kernel
theorem dX13_end_3 : decode cX13_end 3 = .ok (.aload_n 0, 1) := by decide +kernel
theorem dX13_end_4 : decode cX13_end 4 = .ok (.getfield 14, 3) := by decide +kernel
theorem dX13_end_7 : decode cX13_end 7 = .ok (.aload_n 1, 1) := by decide +kernel
theorem dX13_end_8 : decode cX13_end 8 = .ok (.iconst 0, 1) := by decide +kernel
theorem dX13_end_9 : decode cX13_end 9 = .ok (.iaload, 1) := by decide +kernel
theorem dX13_end_10 : decode cX13_end 10 = .ok (.aaload, 1) := by decide +kernel
theorem dX13_end_11 : decode cX13_end 11 = .ok (.iconst 0, 1) := by decide +kernel
theorem dX13_end_12 : decode cX13_end 12 = .ok (.iaload, 1) := by decide +kernel
theorem dX13_end_13 : decode cX13_end 13 = .ok (.iadd, 1) := by decide +kernel
theorem dX13_end_14 : decode cX13_end 14 = .ok (.ireturn, 1) := by decide +kernel
theorem dX13_pass_0 : decode cX13_pass 0 = .ok (.iconst 0, 1) := by decide +kernel
theorem dX13_pass_1 : decode cX13_pass 1 = .ok (.istore_n 2, 1) := by decide +kernel
theorem dX13_pass_2 : decode cX13_pass 2 = .ok (.iconst 0, 1) := by decide +kernel
theorem dX13_pass_3 : decode cX13_pass 3 = .ok (.istore_n 3, 1) := by decide +kernel
theorem dX13_pass_4 : decode cX13_pass 4 = .ok (.iload_n 3, 1) := by decide +kernel
theorem dX13_pass_5 : decode cX13_pass 5 = .ok (.iload_n 1, 1) := by decide +kernel
theorem dX13_pass_6 : decode cX13_pass 6 = .ok (.if_icmp .ge 170, 3) := by decide +kernel
theorem dX13_pass_9 : decode cX13_pass 9 = .ok (.aload_n 0, 1) := by decide +kernel
theorem dX13_pass_10 : decode cX13_pass 10 = .ok (.dup, 1) := by decide +kernel
theorem dX13_pass_11 : decode cX13_pass 11 = .ok (.getfield 91, 3) := by decide +kernel
theorem dX13_pass_14 : decode cX13_pass 14 = .ok (.iconst 1, 1) := by decide +kernel
theorem dX13_pass_15 : decode cX13_pass 15 = .ok (.iadd, 1) := by decide +kernel
theorem dX13_pass_16 : decode cX13_pass 16 = .ok (.putfield 91, 3) := by decide +kernel
theorem dX13_pass_19 : decode cX13_pass 19 = .ok (.iconst 0, 1) := by decide +kernel
theorem dX13_pass_20 : decode cX13_pass 20 = .ok (.istore 4, 2) := by decide +kernel
theorem dX13_pass_22 : decode cX13_pass 22 = .ok (.iload 4, 2) := by decide +kernel
theorem dX13_pass_24 : decode cX13_pass 24 = .ok (.aload_n 0, 1) := by decide +kernel
theorem dX13_pass_25 : decode cX13_pass 25 = .ok (.getfield 88, 3) := by decide +kernel
theorem dX13_pass_28 : decode cX13_pass 28 = .ok (.if_icmp .ge 85, 3) := by decide +kernel
theorem dX13_pass_31 : decode cX13_pass 31 = .ok (.aload_n 0, 1) := by decide +kernel
theorem dX13_pass_32 : decode cX13_pass 32 = .ok (.getfield 17, 3) := by decide +kernel
theorem dX13_pass_35 : decode cX13_pass 35 = .ok (.iload 4, 2) := by decide +kernel
theorem dX13_pass_37 : decode cX13_pass 37 = .ok (.aaload, 1) := by decide +kernel
theorem dX13_pass_38 : decode cX13_pass 38 = .ok (.astore 5, 2) := by decide +kernel
theorem dX13_pass_40 : decode cX13_pass 40 = .ok (.aload 5, 2) := by decide +kernel
theorem dX13_pass_42 : decode cX13_pass 42 = .ok (.bipush 6, 2) := by decide +kernel
theorem dX13_pass_44 : decode cX13_pass 44 = .ok (.iaload, 1) := by decide +kernel
theorem dX13_pass_45 : decode cX13_pass 45 = .ok (.ifCond .ne 62, 3) := by decide +kernel
theorem dX13_pass_48 : decode cX13_pass 48 = .ok (.aload_n 0, 1) := by decide +kernel
theorem dX13_pass_49 : decode cX13_pass 49 = .ok (.aload 5, 2) := by decide +kernel
theorem dX13_pass_51 : decode cX13_pass 51 = .ok (.invokevirtual 124, 3) := by decide +kernel
theorem dX13_pass_54 : decode cX13_pass 54 = .ok (.aload_n 0, 1) := by decide +kernel
theorem dX13_pass_55 : decode cX13_pass 55 = .ok (.getfield 91, 3) := by decide +kernel
theorem dX13_pass_58 : decode cX13_pass 58 = .ok (.if_icmp .eq 6, 3) := by decide +kernel
theorem dX13_pass_61 : decode cX13_pass 61 = .ok (.goto 46, 3) := by decide +kernel
theorem dX13_pass_64 : decode cX13_pass 64 = .ok (.aload_n 0, 1) := by decide +kernel
theorem dX13_pass_65 : decode cX13_pass 65 = .ok (.aload 5, 2) := by decide +kernel
theorem dX13_pass_67 : decode cX13_pass 67 = .ok (.aload 5, 2) := by decide +kernel
theorem dX13_pass_69 : decode cX13_pass 69 = .ok (.iconst 2, 1) := by decide +kernel
theorem dX13_pass_70 : decode cX13_pass 70 = .ok (.iaload, 1) := by decide +kernel
theorem dX13_pass_71 : decode cX13_pass 71 = .ok (.iconst 2, 1) := by decide +kernel
theorem dX13_pass_72 : decode cX13_pass 72 = .ok (.aload 5, 2) := by decide +kernel
theorem dX13_pass_74 : decode cX13_pass 74 = .ok (.bipush 7, 2) := by decide +kernel
theorem dX13_pass_76 : decode cX13_pass 76 = .ok (.iaload, 1) := by decide +kernel
theorem dX13_pass_77 : decode cX13_pass 77 = .ok (.iconst 1, 1) := by decide +kernel
theorem dX13_pass_78 : decode cX13_pass 78 = .ok (.iadd, 1) := by decide +kernel
theorem dX13_pass_79 : decode cX13_pass 79 = .ok (.imul, 1) := by decide +kernel
theorem dX13_pass_80 : decode cX13_pass 80 = .ok (.isub, 1) := by decide +kernel
theorem dX13_pass_81 : decode cX13_pass 81 = .ok (.aload_n 0, 1) := by decide +kernel
theorem dX13_pass_82 : decode cX13_pass 82 = .ok (.getfield 9, 3) := by decide +kernel
theorem dX13_pass_85 : decode cX13_pass 85 = .ok (.aload 5, 2) := by decide +kernel
theorem dX13_pass_87 : decode cX13_pass 87 = .ok (.iconst 1, 1) := by decide +kernel
theorem dX13_pass_88 : decode cX13_pass 88 = .ok (.iaload, 1) := by decide +kernel
theorem dX13_pass_89 : decode cX13_pass 89 = .ok (.aaload, 1) := by decide +kernel
theorem dX13_pass_90 : decode cX13_pass 90 = .ok (.iconst 3, 1) := by decide +kernel
theorem dX13_pass_91 : decode cX13_pass 91 = .ok (.iaload, 1) := by decide +kernel
theorem dX13_pass_92 : decode cX13_pass 92 = .ok (.isub, 1) := by decide +kernel
theorem dX13_pass_93 : decode cX13_pass 93 = .ok (.ifCond .le 7, 3) := by decide +kernel
theorem dX13_pass_96 : decode cX13_pass 96 = .ok (.iconst 1, 1) := by decide +kernel
theorem dX13_pass_97 : decode cX13_pass 97 = .ok (.goto 4, 3) := by decide +kernel
theorem dX13_pass_100 : decode cX13_pass 100 = .ok (.iconst 0, 1) := by decide +kernel
theorem dX13_pass_101 : decode cX13_pass 101 = .ok (.invokevirtual 117, 3) := by decide +kernel
theorem dX13_pass_104 : decode cX13_pass 104 = .ok (.iinc 2 1, 3) := by decide +kernel
theorem dX13_pass_107 : decode cX13_pass 107 = .ok (.iinc 4 1, 3) := by decide +kernel
theorem dX13_pass_110 : decode cX13_pass 110 = .ok (.goto (-88), 3) := by decide +kernel
theorem dX13_pass_113 : decode cX13_pass 113 = .ok (.iconst 0, 1) := by decide +kernel
theorem dX13_pass_114 : decode cX13_pass 114 = .ok (.istore 4, 2) := by decide +kernel
theorem dX13_pass_116 : decode cX13_pass 116 = .ok (.iload 4, 2) := by decide +kernel
theorem dX13_pass_118 : decode cX13_pass 118 = .ok (.aload_n 0, 1) := by decide +kernel
theorem dX13_pass_119 : decode cX13_pass 119 = .ok (.getfield 88, 3) := by decide +kernel
theorem dX13_pass_122 : decode cX13_pass 122 = .ok (.if_icmp .ge 48, 3) := by decide +kernel
theorem dX13_pass_125 : decode cX13_pass 125 = .ok (.aload_n 0, 1) := by decide +kernel
theorem dX13_pass_126 : decode cX13_pass 126 = .ok (.getfield 17, 3) := by decide +kernel
theorem dX13_pass_129 : decode cX13_pass 129 = .ok (.iload 4, 2) := by decide +kernel
theorem dX13_pass_131 : decode cX13_pass 131 = .ok (.aaload, 1) := by decide +kernel
theorem dX13_pass_132 : decode cX13_pass 132 = .ok (.bipush 6, 2) := by decide +kernel
theorem dX13_pass_134 : decode cX13_pass 134 = .ok (.iaload, 1) := by decide +kernel
theorem dX13_pass_135 : decode cX13_pass 135 = .ok (.ifCond .ne 29, 3) := by decide +kernel
theorem dX13_pass_138 : decode cX13_pass 138 = .ok (.aload_n 0, 1) := by decide +kernel
theorem dX13_pass_139 : decode cX13_pass 139 = .ok (.aload_n 0, 1) := by decide +kernel
theorem dX13_pass_140 : decode cX13_pass 140 = .ok (.getfield 17, 3) := by decide +kernel
theorem dX13_pass_143 : decode cX13_pass 143 = .ok (.iload 4, 2) := by decide +kernel
theorem dX13_pass_145 : decode cX13_pass 145 = .ok (.aaload, 1) := by decide +kernel
theorem dX13_pass_146 : decode cX13_pass 146 = .ok (.invokevirtual 128, 3) := by decide +kernel
theorem dX13_pass_149 : decode cX13_pass 149 = .ok (.aload_n 0, 1) := by decide +kernel
theorem dX13_pass_150 : decode cX13_pass 150 = .ok (.getfield 91, 3) := by decide +kernel
theorem dX13_pass_153 : decode cX13_pass 153 = .ok (.if_icmp .ne 11, 3) := by decide +kernel
theorem dX13_pass_156 : decode cX13_pass 156 = .ok (.aload_n 0, 1) := by decide +kernel
theorem dX13_pass_157 : decode cX13_pass 157 = .ok (.iload 4, 2) := by decide +kernel
theorem dX13_pass_159 : decode cX13_pass 159 = .ok (.invokevirtual 121, 3) := by decide +kernel
theorem dX13_pass_162 : decode cX13_pass 162 = .ok (.istore 5, 2) := by decide +kernel
theorem dX13_pass_164 : decode cX13_pass 164 = .ok (.iinc 4 1, 3) := by decide +kernel
theorem dX13_pass_167 : decode cX13_pass 167 = .ok (.goto (-51), 3) := by decide +kernel
theorem dX13_pass_170 : decode cX13_pass 170 = .ok (.iinc 3 1, 3) := by decide +kernel
theorem dX13_pass_173 : decode cX13_pass 173 = .ok (.goto (-169), 3) := by decide +kernel
theorem dX13_pass_176 : decode cX13_pass 176 = .ok (.iload_n 2, 1) := by decide +kernel
theorem dX13_pass_177 : decode cX13_pass 177 = .ok (.ireturn, 1) := by decide +kernel
