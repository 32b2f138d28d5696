theorem dL_cell_0 : decode cL_cell 0 = .ok (.iload_n 1, 1) := by decide +kernel
theorem dL_cell_1 : decode cL_cell 1 = .ok (.aload_n 0, 1) := by decide +kernel
theorem dL_cell_2 : decode cL_cell 2 = .ok (.arraylength, 1) := by decide +kernel
theorem dL_cell_3 : decode cL_cell 3 = .ok (.if_icmp .ge 9, 3) := by decide +kernel
theorem dL_cell_6 : decode cL_cell 6 = .ok (.aload_n 0, 1) := by decide +kernel
theorem dL_cell_7 : decode cL_cell 7 = .ok (.iload_n 1, 1) := by decide +kernel
theorem dL_cell_8 : decode cL_cell 8 = .ok (.iaload, 1) := by decide +kernel
theorem dL_cell_9 : decode cL_cell 9 = .ok (.goto 10, 3) := by decide +kernel
theorem dL_cell_12 : decode cL_cell 12 = .ok (.ldc 7, 2) := by decide +kernel
theorem dL_cell_14 : decode cL_cell 14 = .ok (.iload_n 1, 1) := by decide +kernel
theorem dL_cell_15 : decode cL_cell 15 = .ok (.imul, 1) := by decide +kernel
theorem dL_cell_16 : decode cL_cell 16 = .ok (.ldc 8, 2) := by decide +kernel
theorem dL_cell_18 : decode cL_cell 18 = .ok (.iadd, 1) := by decide +kernel
theorem dL_cell_19 : decode cL_cell 19 = .ok (.ireturn, 1) := by decide +kernel
theorem dL_pick_0 : decode cL_pick 0 = .ok (.aload_n 0, 1) := by decide +kernel
theorem dL_pick_1 : decode cL_pick 1 = .ok (.iload_n 1, 1) := by decide +kernel
theorem dL_pick_2 : decode cL_pick 2 = .ok (.invokestatic 9, 3) := by decide +kernel
theorem dL_pick_5 : decode cL_pick 5 = .ok (.ldc 15, 2) := by decide +kernel
theorem dL_pick_7 : decode cL_pick 7 = .ok (.iand, 1) := by decide +kernel
theorem dL_pick_8 : decode cL_pick 8 = .ok (.iload_n 2, 1) := by decide +kernel
theorem dL_pick_9 : decode cL_pick 9 = .ok (.irem, 1) := by decide +kernel
theorem dL_pick_10 : decode cL_pick 10 = .ok (.ireturn, 1) := by decide +kernel
theorem dL_feeds_0 : decode cL_feeds 0 = .ok (.iconst 0, 1) := by decide +kernel
theorem dL_feeds_1 : decode cL_feeds 1 = .ok (.istore_n 2, 1) := by decide +kernel
theorem dL_feeds_2 : decode cL_feeds 2 = .ok (.iconst 5, 1) := by decide +kernel
theorem dL_feeds_3 : decode cL_feeds 3 = .ok (.newarray .int, 2) := by decide +kernel
theorem dL_feeds_5 : decode cL_feeds 5 = .ok (.astore_n 3, 1) := by decide +kernel
theorem dL_feeds_6 : decode cL_feeds 6 = .ok (.iconst 0, 1) := by decide +kernel
theorem dL_feeds_7 : decode cL_feeds 7 = .ok (.istore 4, 2) := by decide +kernel
theorem dL_feeds_9 : decode cL_feeds 9 = .ok (.iload 4, 2) := by decide +kernel
theorem dL_feeds_11 : decode cL_feeds 11 = .ok (.aload_n 1, 1) := by decide +kernel
theorem dL_feeds_12 : decode cL_feeds 12 = .ok (.invokeinterface 16 1, 5) := by decide +kernel
theorem dL_feeds_17 : decode cL_feeds 17 = .ok (.if_icmp .ge 91, 3) := by decide +kernel
theorem dL_feeds_20 : decode cL_feeds 20 = .ok (.iconst 0, 1) := by decide +kernel
theorem dL_feeds_21 : decode cL_feeds 21 = .ok (.istore 5, 2) := by decide +kernel
theorem dL_feeds_23 : decode cL_feeds 23 = .ok (.iload 5, 2) := by decide +kernel
theorem dL_feeds_25 : decode cL_feeds 25 = .ok (.bipush 20, 2) := by decide +kernel
theorem dL_feeds_27 : decode cL_feeds 27 = .ok (.if_icmp .ge 55, 3) := by decide +kernel
theorem dL_feeds_30 : decode cL_feeds 30 = .ok (.aload_n 3, 1) := by decide +kernel
theorem dL_feeds_31 : decode cL_feeds 31 = .ok (.iload 5, 2) := by decide +kernel
theorem dL_feeds_33 : decode cL_feeds 33 = .ok (.iconst 4, 1) := by decide +kernel
theorem dL_feeds_34 : decode cL_feeds 34 = .ok (.idiv, 1) := by decide +kernel
theorem dL_feeds_35 : decode cL_feeds 35 = .ok (.aload_n 3, 1) := by decide +kernel
theorem dL_feeds_36 : decode cL_feeds 36 = .ok (.iload 5, 2) := by decide +kernel
theorem dL_feeds_38 : decode cL_feeds 38 = .ok (.iconst 4, 1) := by decide +kernel
theorem dL_feeds_39 : decode cL_feeds 39 = .ok (.idiv, 1) := by decide +kernel
theorem dL_feeds_40 : decode cL_feeds 40 = .ok (.iaload, 1) := by decide +kernel
theorem dL_feeds_41 : decode cL_feeds 41 = .ok (.bipush 8, 2) := by decide +kernel
theorem dL_feeds_43 : decode cL_feeds 43 = .ok (.ishl, 1) := by decide +kernel
theorem dL_feeds_44 : decode cL_feeds 44 = .ok (.iload 4, 2) := by decide +kernel
theorem dL_feeds_46 : decode cL_feeds 46 = .ok (.iload 5, 2) := by decide +kernel
theorem dL_feeds_48 : decode cL_feeds 48 = .ok (.iadd, 1) := by decide +kernel
theorem dL_feeds_49 : decode cL_feeds 49 = .ok (.aload_n 1, 1) := by decide +kernel
theorem dL_feeds_50 : decode cL_feeds 50 = .ok (.invokeinterface 16 1, 5) := by decide +kernel
theorem dL_feeds_55 : decode cL_feeds 55 = .ok (.if_icmp .ge 17, 3) := by decide +kernel
theorem dL_feeds_58 : decode cL_feeds 58 = .ok (.aload_n 1, 1) := by decide +kernel
theorem dL_feeds_59 : decode cL_feeds 59 = .ok (.iload 4, 2) := by decide +kernel
theorem dL_feeds_61 : decode cL_feeds 61 = .ok (.iload 5, 2) := by decide +kernel
theorem dL_feeds_63 : decode cL_feeds 63 = .ok (.iadd, 1) := by decide +kernel
theorem dL_feeds_64 : decode cL_feeds 64 = .ok (.invokeinterface 22 2, 5) := by decide +kernel
theorem dL_feeds_69 : decode cL_feeds 69 = .ok (.goto 5, 3) := by decide +kernel
theorem dL_feeds_72 : decode cL_feeds 72 = .ok (.bipush 32, 2) := by decide +kernel
theorem dL_feeds_74 : decode cL_feeds 74 = .ok (.ior, 1) := by decide +kernel
theorem dL_feeds_75 : decode cL_feeds 75 = .ok (.iastore, 1) := by decide +kernel
theorem dL_feeds_76 : decode cL_feeds 76 = .ok (.iinc 5 1, 3) := by decide +kernel
theorem dL_feeds_79 : decode cL_feeds 79 = .ok (.goto (-56), 3) := by decide +kernel
theorem dL_feeds_82 : decode cL_feeds 82 = .ok (.aload_n 0, 1) := by decide +kernel
theorem dL_feeds_83 : decode cL_feeds 83 = .ok (.aload_n 3, 1) := by decide +kernel
theorem dL_feeds_84 : decode cL_feeds 84 = .ok (.iconst 0, 1) := by decide +kernel
theorem dL_feeds_85 : decode cL_feeds 85 = .ok (.iaload, 1) := by decide +kernel
theorem dL_feeds_86 : decode cL_feeds 86 = .ok (.aload_n 3, 1) := by decide +kernel
theorem dL_feeds_87 : decode cL_feeds 87 = .ok (.iconst 1, 1) := by decide +kernel
theorem dL_feeds_88 : decode cL_feeds 88 = .ok (.iaload, 1) := by decide +kernel
theorem dL_feeds_89 : decode cL_feeds 89 = .ok (.aload_n 3, 1) := by decide +kernel
theorem dL_feeds_90 : decode cL_feeds 90 = .ok (.iconst 2, 1) := by decide +kernel
theorem dL_feeds_91 : decode cL_feeds 91 = .ok (.iaload, 1) := by decide +kernel
theorem dL_feeds_92 : decode cL_feeds 92 = .ok (.aload_n 3, 1) := by decide +kernel
theorem dL_feeds_93 : decode cL_feeds 93 = .ok (.iconst 3, 1) := by decide +kernel
theorem dL_feeds_94 : decode cL_feeds 94 = .ok (.iaload, 1) := by decide +kernel
theorem dL_feeds_95 : decode cL_feeds 95 = .ok (.aload_n 3, 1) := by decide +kernel
theorem dL_feeds_96 : decode cL_feeds 96 = .ok (.iconst 4, 1) := by decide +kernel
theorem dL_feeds_97 : decode cL_feeds 97 = .ok (.iaload, 1) := by decide +kernel
theorem dL_feeds_98 : decode cL_feeds 98 = .ok (.invokevirtual 26, 3) := by decide +kernel
theorem dL_feeds_101 : decode cL_feeds 101 = .ok (.istore_n 2, 1) := by decide +kernel
theorem dL_feeds_102 : decode cL_feeds 102 = .ok (.iinc 4 20, 3) := by decide +kernel
theorem dL_feeds_105 : decode cL_feeds 105 = .ok (.goto (-96), 3) := by decide +kernel
theorem dL_feeds_108 : decode cL_feeds 108 = .ok (.aload_n 1, 1) := by decide +kernel
theorem dL_feeds_109 : decode cL_feeds 109 = .ok (.invokeinterface 16 1, 5) := by decide +kernel
theorem dL_feeds_114 : decode cL_feeds 114 = .ok (.ifCond .eq 32, 3) := by decide +kernel
theorem dL_feeds_117 : decode cL_feeds 117 = .ok (.iload_n 2, 1) := by decide +kernel
theorem dL_feeds_118 : decode cL_feeds 118 = .ok (.aload_n 1, 1) := by decide +kernel
theorem dL_feeds_119 : decode cL_feeds 119 = .ok (.invokeinterface 16 1, 5) := by decide +kernel
theorem dL_feeds_124 : decode cL_feeds 124 = .ok (.if_icmp .lt 26, 3) := by decide +kernel
theorem dL_feeds_127 : decode cL_feeds 127 = .ok (.aload_n 0, 1) := by decide +kernel
theorem dL_feeds_128 : decode cL_feeds 128 = .ok (.aload_n 1, 1) := by decide +kernel
theorem dL_feeds_129 : decode cL_feeds 129 = .ok (.invokeinterface 16 1, 5) := by decide +kernel
theorem dL_feeds_134 : decode cL_feeds 134 = .ok (.invokevirtual 32, 3) := by decide +kernel
theorem dL_feeds_137 : decode cL_feeds 137 = .ok (.aload_n 1, 1) := by decide +kernel
theorem dL_feeds_138 : decode cL_feeds 138 = .ok (.invokeinterface 16 1, 5) := by decide +kernel
theorem dL_feeds_143 : decode cL_feeds 143 = .ok (.if_icmp .ne 7, 3) := by decide +kernel
theorem dL_feeds_146 : decode cL_feeds 146 = .ok (.iconst 1, 1) := by decide +kernel
theorem dL_feeds_147 : decode cL_feeds 147 = .ok (.goto 4, 3) := by decide +kernel
theorem dL_feeds_150 : decode cL_feeds 150 = .ok (.iconst 0, 1) := by decide +kernel
theorem dL_feeds_151 : decode cL_feeds 151 = .ok (.ireturn, 1) := by decide +kernel
theorem dL_alike_0 : decode cL_alike 0 = .ok (.aload_n 0, 1) := by decide +kernel
theorem dL_alike_1 : decode cL_alike 1 = .ok (.invokevirtual 36, 3) := by decide +kernel
theorem dL_alike_4 : decode cL_alike 4 = .ok (.aload_n 1, 1) := by decide +kernel
theorem dL_alike_5 : decode cL_alike 5 = .ok (.getfield 39, 3) := by decide +kernel
theorem dL_alike_8 : decode cL_alike 8 = .ok (.if_icmp .ne 81, 3) := by decide +kernel
theorem dL_alike_11 : decode cL_alike 11 = .ok (.aload_n 0, 1) := by decide +kernel
theorem dL_alike_12 : decode cL_alike 12 = .ok (.invokevirtual 45, 3) := by decide +kernel
theorem dL_alike_15 : decode cL_alike 15 = .ok (.aload_n 1, 1) := by decide +kernel
theorem dL_alike_16 : decode cL_alike 16 = .ok (.getfield 48, 3) := by decide +kernel
theorem dL_alike_19 : decode cL_alike 19 = .ok (.if_icmp .ne 70, 3) := by decide +kernel
theorem dL_alike_22 : decode cL_alike 22 = .ok (.aload_n 0, 1) := by decide +kernel
theorem dL_alike_23 : decode cL_alike 23 = .ok (.invokevirtual 51, 3) := by decide +kernel
theorem dL_alike_26 : decode cL_alike 26 = .ok (.aload_n 1, 1) := by decide +kernel
theorem dL_alike_27 : decode cL_alike 27 = .ok (.getfield 54, 3) := by decide +kernel
theorem dL_alike_30 : decode cL_alike 30 = .ok (.if_icmp .ne 59, 3) := by decide +kernel
theorem dL_alike_33 : decode cL_alike 33 = .ok (.aload_n 0, 1) := by decide +kernel
theorem dL_alike_34 : decode cL_alike 34 = .ok (.invokevirtual 57, 3) := by decide +kernel
theorem dL_alike_37 : decode cL_alike 37 = .ok (.aload_n 1, 1) := by decide +kernel
theorem dL_alike_38 : decode cL_alike 38 = .ok (.getfield 60, 3) := by decide +kernel
theorem dL_alike_41 : decode cL_alike 41 = .ok (.if_icmp .ne 48, 3) := by decide +kernel
theorem dL_alike_44 : decode cL_alike 44 = .ok (.aload_n 0, 1) := by decide +kernel
theorem dL_alike_45 : decode cL_alike 45 = .ok (.invokevirtual 62, 3) := by decide +kernel
theorem dL_alike_48 : decode cL_alike 48 = .ok (.aload_n 1, 1) := by decide +kernel
theorem dL_alike_49 : decode cL_alike 49 = .ok (.getfield 65, 3) := by decide +kernel
theorem dL_alike_52 : decode cL_alike 52 = .ok (.if_icmp .ne 37, 3) := by decide +kernel
theorem dL_alike_55 : decode cL_alike 55 = .ok (.aload_n 0, 1) := by decide +kernel
theorem dL_alike_56 : decode cL_alike 56 = .ok (.invokevirtual 67, 3) := by decide +kernel
theorem dL_alike_59 : decode cL_alike 59 = .ok (.aload_n 1, 1) := by decide +kernel
theorem dL_alike_60 : decode cL_alike 60 = .ok (.getfield 70, 3) := by decide +kernel
theorem dL_alike_63 : decode cL_alike 63 = .ok (.if_icmp .ne 26, 3) := by decide +kernel
theorem dL_alike_66 : decode cL_alike 66 = .ok (.aload_n 0, 1) := by decide +kernel
theorem dL_alike_67 : decode cL_alike 67 = .ok (.invokevirtual 72, 3) := by decide +kernel
theorem dL_alike_70 : decode cL_alike 70 = .ok (.aload_n 1, 1) := by decide +kernel
theorem dL_alike_71 : decode cL_alike 71 = .ok (.iconst (-1), 1) := by decide +kernel
theorem dL_alike_72 : decode cL_alike 72 = .ok (.invokevirtual 75, 3) := by decide +kernel
theorem dL_alike_75 : decode cL_alike 75 = .ok (.if_icmp .ne 14, 3) := by decide +kernel
theorem dL_alike_78 : decode cL_alike 78 = .ok (.aload_n 0, 1) := by decide +kernel
theorem dL_alike_79 : decode cL_alike 79 = .ok (.invokevirtual 77, 3) := by decide +kernel
theorem dL_alike_82 : decode cL_alike 82 = .ok (.aload_n 1, 1) := by decide +kernel
theorem dL_alike_83 : decode cL_alike 83 = .ok (.getfield 80, 3) := by decide +kernel
theorem dL_alike_86 : decode cL_alike 86 = .ok (.if_icmp .eq 5, 3) := by decide +kernel
theorem dL_alike_89 : decode cL_alike 89 = .ok (.iconst 0, 1) := by decide +kernel
theorem dL_alike_90 : decode cL_alike 90 = .ok (.ireturn, 1) := by decide +kernel
theorem dL_alike_91 : decode cL_alike 91 = .ok (.iconst 0, 1) := by decide +kernel
theorem dL_alike_92 : decode cL_alike 92 = .ok (.istore_n 2, 1) := by decide +kernel
theorem dL_alike_93 : decode cL_alike 93 = .ok (.iload_n 2, 1) := by decide +kernel
theorem dL_alike_94 : decode cL_alike 94 = .ok (.aload_n 1, 1) := by decide +kernel
theorem dL_alike_95 : decode cL_alike 95 = .ok (.getfield 39, 3) := by decide +kernel
theorem dL_alike_98 : decode cL_alike 98 = .ok (.if_icmp .ge 86, 3) := by decide +kernel
theorem dL_alike_101 : decode cL_alike 101 = .ok (.aload_n 1, 1) := by decide +kernel
theorem dL_alike_102 : decode cL_alike 102 = .ok (.getfield 83, 3) := by decide +kernel
theorem dL_alike_105 : decode cL_alike 105 = .ok (.iload_n 2, 1) := by decide +kernel
theorem dL_alike_106 : decode cL_alike 106 = .ok (.aaload, 1) := by decide +kernel
theorem dL_alike_107 : decode cL_alike 107 = .ok (.astore_n 3, 1) := by decide +kernel
theorem dL_alike_108 : decode cL_alike 108 = .ok (.aload_n 0, 1) := by decide +kernel
theorem dL_alike_109 : decode cL_alike 109 = .ok (.iload_n 2, 1) := by decide +kernel
theorem dL_alike_110 : decode cL_alike 110 = .ok (.invokevirtual 87, 3) := by decide +kernel
theorem dL_alike_113 : decode cL_alike 113 = .ok (.aload_n 3, 1) := by decide +kernel
theorem dL_alike_114 : decode cL_alike 114 = .ok (.iconst 0, 1) := by decide +kernel
theorem dL_alike_115 : decode cL_alike 115 = .ok (.iaload, 1) := by decide +kernel
theorem dL_alike_116 : decode cL_alike 116 = .ok (.if_icmp .ne 60, 3) := by decide +kernel
theorem dL_alike_119 : decode cL_alike 119 = .ok (.aload_n 0, 1) := by decide +kernel
theorem dL_alike_120 : decode cL_alike 120 = .ok (.iload_n 2, 1) := by decide +kernel
theorem dL_alike_121 : decode cL_alike 121 = .ok (.invokevirtual 90, 3) := by decide +kernel
theorem dL_alike_124 : decode cL_alike 124 = .ok (.aload_n 3, 1) := by decide +kernel
theorem dL_alike_125 : decode cL_alike 125 = .ok (.iconst 1, 1) := by decide +kernel
theorem dL_alike_126 : decode cL_alike 126 = .ok (.iaload, 1) := by decide +kernel
theorem dL_alike_127 : decode cL_alike 127 = .ok (.if_icmp .ne 49, 3) := by decide +kernel
theorem dL_alike_130 : decode cL_alike 130 = .ok (.aload_n 0, 1) := by decide +kernel
theorem dL_alike_131 : decode cL_alike 131 = .ok (.iload_n 2, 1) := by decide +kernel
theorem dL_alike_132 : decode cL_alike 132 = .ok (.invokevirtual 93, 3) := by decide +kernel
theorem dL_alike_135 : decode cL_alike 135 = .ok (.aload_n 3, 1) := by decide +kernel
theorem dL_alike_136 : decode cL_alike 136 = .ok (.iconst 2, 1) := by decide +kernel
theorem dL_alike_137 : decode cL_alike 137 = .ok (.iaload, 1) := by decide +kernel
theorem dL_alike_138 : decode cL_alike 138 = .ok (.if_icmp .ne 38, 3) := by decide +kernel
theorem dL_alike_141 : decode cL_alike 141 = .ok (.aload_n 0, 1) := by decide +kernel
theorem dL_alike_142 : decode cL_alike 142 = .ok (.iload_n 2, 1) := by decide +kernel
theorem dL_alike_143 : decode cL_alike 143 = .ok (.invokevirtual 96, 3) := by decide +kernel
theorem dL_alike_146 : decode cL_alike 146 = .ok (.aload_n 3, 1) := by decide +kernel
theorem dL_alike_147 : decode cL_alike 147 = .ok (.iconst 4, 1) := by decide +kernel
theorem dL_alike_148 : decode cL_alike 148 = .ok (.iaload, 1) := by decide +kernel
theorem dL_alike_149 : decode cL_alike 149 = .ok (.if_icmp .ne 27, 3) := by decide +kernel
theorem dL_alike_152 : decode cL_alike 152 = .ok (.aload_n 0, 1) := by decide +kernel
theorem dL_alike_153 : decode cL_alike 153 = .ok (.iload_n 2, 1) := by decide +kernel
theorem dL_alike_154 : decode cL_alike 154 = .ok (.invokevirtual 99, 3) := by decide +kernel
theorem dL_alike_157 : decode cL_alike 157 = .ok (.aload_n 3, 1) := by decide +kernel
theorem dL_alike_158 : decode cL_alike 158 = .ok (.iconst 5, 1) := by decide +kernel
theorem dL_alike_159 : decode cL_alike 159 = .ok (.iaload, 1) := by decide +kernel
theorem dL_alike_160 : decode cL_alike 160 = .ok (.if_icmp .ne 16, 3) := by decide +kernel
theorem dL_alike_163 : decode cL_alike 163 = .ok (.aload_n 0, 1) := by decide +kernel
theorem dL_alike_164 : decode cL_alike 164 = .ok (.iload_n 2, 1) := by decide +kernel
theorem dL_alike_165 : decode cL_alike 165 = .ok (.iconst 1, 1) := by decide +kernel
theorem dL_alike_166 : decode cL_alike 166 = .ok (.invokevirtual 102, 3) := by decide +kernel
theorem dL_alike_169 : decode cL_alike 169 = .ok (.bipush 97, 2) := by decide +kernel
theorem dL_alike_171 : decode cL_alike 171 = .ok (.iload_n 2, 1) := by decide +kernel
theorem dL_alike_172 : decode cL_alike 172 = .ok (.iadd, 1) := by decide +kernel
theorem dL_alike_173 : decode cL_alike 173 = .ok (.if_icmp .eq 5, 3) := by decide +kernel
theorem dL_alike_176 : decode cL_alike 176 = .ok (.iconst 0, 1) := by decide +kernel
theorem dL_alike_177 : decode cL_alike 177 = .ok (.ireturn, 1) := by decide +kernel
theorem dL_alike_178 : decode cL_alike 178 = .ok (.iinc 2 1, 3) := by decide +kernel
theorem dL_alike_181 : decode cL_alike 181 = .ok (.goto (-88), 3) := by decide +kernel
theorem dL_alike_184 : decode cL_alike 184 = .ok (.iconst 0, 1) := by decide +kernel
theorem dL_alike_185 : decode cL_alike 185 = .ok (.istore_n 2, 1) := by decide +kernel
theorem dL_alike_186 : decode cL_alike 186 = .ok (.iload_n 2, 1) := by decide +kernel
theorem dL_alike_187 : decode cL_alike 187 = .ok (.aload_n 1, 1) := by decide +kernel
theorem dL_alike_188 : decode cL_alike 188 = .ok (.getfield 48, 3) := by decide +kernel
theorem dL_alike_191 : decode cL_alike 191 = .ok (.if_icmp .ge 95, 3) := by decide +kernel
theorem dL_alike_194 : decode cL_alike 194 = .ok (.aload_n 1, 1) := by decide +kernel
theorem dL_alike_195 : decode cL_alike 195 = .ok (.getfield 106, 3) := by decide +kernel
theorem dL_alike_198 : decode cL_alike 198 = .ok (.iload_n 2, 1) := by decide +kernel
theorem dL_alike_199 : decode cL_alike 199 = .ok (.aaload, 1) := by decide +kernel
theorem dL_alike_200 : decode cL_alike 200 = .ok (.astore_n 3, 1) := by decide +kernel
theorem dL_alike_201 : decode cL_alike 201 = .ok (.aload_n 0, 1) := by decide +kernel
theorem dL_alike_202 : decode cL_alike 202 = .ok (.iload_n 2, 1) := by decide +kernel
theorem dL_alike_203 : decode cL_alike 203 = .ok (.invokevirtual 109, 3) := by decide +kernel
theorem dL_alike_206 : decode cL_alike 206 = .ok (.aload_n 3, 1) := by decide +kernel
theorem dL_alike_207 : decode cL_alike 207 = .ok (.iconst 0, 1) := by decide +kernel
theorem dL_alike_208 : decode cL_alike 208 = .ok (.iaload, 1) := by decide +kernel
theorem dL_alike_209 : decode cL_alike 209 = .ok (.if_icmp .ne 69, 3) := by decide +kernel
theorem dL_alike_212 : decode cL_alike 212 = .ok (.aload_n 0, 1) := by decide +kernel
theorem dL_alike_213 : decode cL_alike 213 = .ok (.iload_n 2, 1) := by decide +kernel
theorem dL_alike_214 : decode cL_alike 214 = .ok (.invokevirtual 112, 3) := by decide +kernel
theorem dL_alike_217 : decode cL_alike 217 = .ok (.aload_n 3, 1) := by decide +kernel
theorem dL_alike_218 : decode cL_alike 218 = .ok (.iconst 1, 1) := by decide +kernel
theorem dL_alike_219 : decode cL_alike 219 = .ok (.iaload, 1) := by decide +kernel
theorem dL_alike_220 : decode cL_alike 220 = .ok (.if_icmp .ne 58, 3) := by decide +kernel
theorem dL_alike_223 : decode cL_alike 223 = .ok (.aload_n 0, 1) := by decide +kernel
theorem dL_alike_224 : decode cL_alike 224 = .ok (.iload_n 2, 1) := by decide +kernel
theorem dL_alike_225 : decode cL_alike 225 = .ok (.invokevirtual 115, 3) := by decide +kernel
theorem dL_alike_228 : decode cL_alike 228 = .ok (.aload_n 3, 1) := by decide +kernel
theorem dL_alike_229 : decode cL_alike 229 = .ok (.iconst 2, 1) := by decide +kernel
theorem dL_alike_230 : decode cL_alike 230 = .ok (.iaload, 1) := by decide +kernel
theorem dL_alike_231 : decode cL_alike 231 = .ok (.if_icmp .ne 47, 3) := by decide +kernel
theorem dL_alike_234 : decode cL_alike 234 = .ok (.aload_n 0, 1) := by decide +kernel
theorem dL_alike_235 : decode cL_alike 235 = .ok (.iload_n 2, 1) := by decide +kernel
theorem dL_alike_236 : decode cL_alike 236 = .ok (.invokevirtual 118, 3) := by decide +kernel
theorem dL_alike_239 : decode cL_alike 239 = .ok (.aload_n 3, 1) := by decide +kernel
theorem dL_alike_240 : decode cL_alike 240 = .ok (.iconst 3, 1) := by decide +kernel
theorem dL_alike_241 : decode cL_alike 241 = .ok (.iaload, 1) := by decide +kernel
theorem dL_alike_242 : decode cL_alike 242 = .ok (.if_icmp .ne 36, 3) := by decide +kernel
theorem dL_alike_245 : decode cL_alike 245 = .ok (.aload_n 0, 1) := by decide +kernel
theorem dL_alike_246 : decode cL_alike 246 = .ok (.iload_n 2, 1) := by decide +kernel
theorem dL_alike_247 : decode cL_alike 247 = .ok (.invokevirtual 121, 3) := by decide +kernel
theorem dL_alike_250 : decode cL_alike 250 = .ok (.aload_n 3, 1) := by decide +kernel
theorem dL_alike_251 : decode cL_alike 251 = .ok (.iconst 2, 1) := by decide +kernel
theorem dL_alike_252 : decode cL_alike 252 = .ok (.iaload, 1) := by decide +kernel
theorem dL_alike_253 : decode cL_alike 253 = .ok (.iconst 2, 1) := by decide +kernel
theorem dL_alike_254 : decode cL_alike 254 = .ok (.if_icmp .le 7, 3) := by decide +kernel
theorem dL_alike_257 : decode cL_alike 257 = .ok (.iconst 1, 1) := by decide +kernel
theorem dL_alike_258 : decode cL_alike 258 = .ok (.goto 4, 3) := by decide +kernel
theorem dL_alike_261 : decode cL_alike 261 = .ok (.iconst 0, 1) := by decide +kernel
theorem dL_alike_262 : decode cL_alike 262 = .ok (.if_icmp .ne 16, 3) := by decide +kernel
theorem dL_alike_265 : decode cL_alike 265 = .ok (.aload_n 0, 1) := by decide +kernel
theorem dL_alike_266 : decode cL_alike 266 = .ok (.iload_n 2, 1) := by decide +kernel
theorem dL_alike_267 : decode cL_alike 267 = .ok (.invokevirtual 125, 3) := by decide +kernel
theorem dL_alike_270 : decode cL_alike 270 = .ok (.aload_n 1, 1) := by decide +kernel
theorem dL_alike_271 : decode cL_alike 271 = .ok (.iload_n 2, 1) := by decide +kernel
theorem dL_alike_272 : decode cL_alike 272 = .ok (.invokevirtual 75, 3) := by decide +kernel
theorem dL_alike_275 : decode cL_alike 275 = .ok (.if_icmp .eq 5, 3) := by decide +kernel
theorem dL_alike_278 : decode cL_alike 278 = .ok (.iconst 0, 1) := by decide +kernel
theorem dL_alike_279 : decode cL_alike 279 = .ok (.ireturn, 1) := by decide +kernel
theorem dL_alike_280 : decode cL_alike 280 = .ok (.iinc 2 1, 3) := by decide +kernel
theorem dL_alike_283 : decode cL_alike 283 = .ok (.goto (-97), 3) := by decide +kernel
theorem dL_alike_286 : decode cL_alike 286 = .ok (.iconst 0, 1) := by decide +kernel
theorem dL_alike_287 : decode cL_alike 287 = .ok (.istore_n 2, 1) := by decide +kernel
theorem dL_alike_288 : decode cL_alike 288 = .ok (.iload_n 2, 1) := by decide +kernel
theorem dL_alike_289 : decode cL_alike 289 = .ok (.aload_n 1, 1) := by decide +kernel
theorem dL_alike_290 : decode cL_alike 290 = .ok (.getfield 54, 3) := by decide +kernel
theorem dL_alike_293 : decode cL_alike 293 = .ok (.if_icmp .ge 120, 3) := by decide +kernel
theorem dL_alike_296 : decode cL_alike 296 = .ok (.aload_n 1, 1) := by decide +kernel
theorem dL_alike_297 : decode cL_alike 297 = .ok (.getfield 128, 3) := by decide +kernel
theorem dL_alike_300 : decode cL_alike 300 = .ok (.iload_n 2, 1) := by decide +kernel
theorem dL_alike_301 : decode cL_alike 301 = .ok (.aaload, 1) := by decide +kernel
theorem dL_alike_302 : decode cL_alike 302 = .ok (.astore_n 3, 1) := by decide +kernel
theorem dL_alike_303 : decode cL_alike 303 = .ok (.aload_n 0, 1) := by decide +kernel
theorem dL_alike_304 : decode cL_alike 304 = .ok (.iload_n 2, 1) := by decide +kernel
theorem dL_alike_305 : decode cL_alike 305 = .ok (.invokevirtual 131, 3) := by decide +kernel
theorem dL_alike_308 : decode cL_alike 308 = .ok (.aload_n 3, 1) := by decide +kernel
theorem dL_alike_309 : decode cL_alike 309 = .ok (.iconst 0, 1) := by decide +kernel
theorem dL_alike_310 : decode cL_alike 310 = .ok (.iaload, 1) := by decide +kernel
theorem dL_alike_311 : decode cL_alike 311 = .ok (.if_icmp .ne 94, 3) := by decide +kernel
theorem dL_alike_314 : decode cL_alike 314 = .ok (.aload_n 0, 1) := by decide +kernel
theorem dL_alike_315 : decode cL_alike 315 = .ok (.iload_n 2, 1) := by decide +kernel
theorem dL_alike_316 : decode cL_alike 316 = .ok (.invokevirtual 134, 3) := by decide +kernel
theorem dL_alike_319 : decode cL_alike 319 = .ok (.aload_n 3, 1) := by decide +kernel
theorem dL_alike_320 : decode cL_alike 320 = .ok (.iconst 1, 1) := by decide +kernel
theorem dL_alike_321 : decode cL_alike 321 = .ok (.iaload, 1) := by decide +kernel
theorem dL_alike_322 : decode cL_alike 322 = .ok (.if_icmp .ne 83, 3) := by decide +kernel
theorem dL_alike_325 : decode cL_alike 325 = .ok (.aload_n 0, 1) := by decide +kernel
theorem dL_alike_326 : decode cL_alike 326 = .ok (.iload_n 2, 1) := by decide +kernel
theorem dL_alike_327 : decode cL_alike 327 = .ok (.invokevirtual 137, 3) := by decide +kernel
theorem dL_alike_330 : decode cL_alike 330 = .ok (.aload_n 3, 1) := by decide +kernel
theorem dL_alike_331 : decode cL_alike 331 = .ok (.bipush 6, 2) := by decide +kernel
theorem dL_alike_333 : decode cL_alike 333 = .ok (.iaload, 1) := by decide +kernel
theorem dL_alike_334 : decode cL_alike 334 = .ok (.if_icmp .ne 71, 3) := by decide +kernel
theorem dL_alike_337 : decode cL_alike 337 = .ok (.aload_n 0, 1) := by decide +kernel
theorem dL_alike_338 : decode cL_alike 338 = .ok (.iload_n 2, 1) := by decide +kernel
theorem dL_alike_339 : decode cL_alike 339 = .ok (.invokevirtual 140, 3) := by decide +kernel
theorem dL_alike_342 : decode cL_alike 342 = .ok (.aload_n 3, 1) := by decide +kernel
theorem dL_alike_343 : decode cL_alike 343 = .ok (.bipush 7, 2) := by decide +kernel
theorem dL_alike_345 : decode cL_alike 345 = .ok (.iaload, 1) := by decide +kernel
theorem dL_alike_346 : decode cL_alike 346 = .ok (.if_icmp .ne 59, 3) := by decide +kernel
theorem dL_alike_349 : decode cL_alike 349 = .ok (.aload_n 0, 1) := by decide +kernel
theorem dL_alike_350 : decode cL_alike 350 = .ok (.iload_n 2, 1) := by decide +kernel
theorem dL_alike_351 : decode cL_alike 351 = .ok (.invokevirtual 143, 3) := by decide +kernel
theorem dL_alike_354 : decode cL_alike 354 = .ok (.aload_n 3, 1) := by decide +kernel
theorem dL_alike_355 : decode cL_alike 355 = .ok (.iconst 4, 1) := by decide +kernel
theorem dL_alike_356 : decode cL_alike 356 = .ok (.iaload, 1) := by decide +kernel
theorem dL_alike_357 : decode cL_alike 357 = .ok (.aload_n 3, 1) := by decide +kernel
theorem dL_alike_358 : decode cL_alike 358 = .ok (.bipush 8, 2) := by decide +kernel
theorem dL_alike_360 : decode cL_alike 360 = .ok (.iaload, 1) := by decide +kernel
theorem dL_alike_361 : decode cL_alike 361 = .ok (.invokestatic 146, 3) := by decide +kernel
theorem dL_alike_364 : decode cL_alike 364 = .ok (.imul, 1) := by decide +kernel
theorem dL_alike_365 : decode cL_alike 365 = .ok (.if_icmp .ne 40, 3) := by decide +kernel
theorem dL_alike_368 : decode cL_alike 368 = .ok (.aload_n 0, 1) := by decide +kernel
theorem dL_alike_369 : decode cL_alike 369 = .ok (.iload_n 2, 1) := by decide +kernel
theorem dL_alike_370 : decode cL_alike 370 = .ok (.invokevirtual 151, 3) := by decide +kernel
theorem dL_alike_373 : decode cL_alike 373 = .ok (.aload_n 3, 1) := by decide +kernel
theorem dL_alike_374 : decode cL_alike 374 = .ok (.bipush 6, 2) := by decide +kernel
theorem dL_alike_376 : decode cL_alike 376 = .ok (.iaload, 1) := by decide +kernel
theorem dL_alike_377 : decode cL_alike 377 = .ok (.ifCond .ne 11, 3) := by decide +kernel
theorem dL_alike_380 : decode cL_alike 380 = .ok (.aload_n 1, 1) := by decide +kernel
theorem dL_alike_381 : decode cL_alike 381 = .ok (.aload_n 3, 1) := by decide +kernel
theorem dL_alike_382 : decode cL_alike 382 = .ok (.invokevirtual 154, 3) := by decide +kernel
theorem dL_alike_385 : decode cL_alike 385 = .ok (.goto 4, 3) := by decide +kernel
theorem dL_alike_388 : decode cL_alike 388 = .ok (.iconst (-1), 1) := by decide +kernel
theorem dL_alike_389 : decode cL_alike 389 = .ok (.if_icmp .ne 16, 3) := by decide +kernel
theorem dL_alike_392 : decode cL_alike 392 = .ok (.aload_n 0, 1) := by decide +kernel
theorem dL_alike_393 : decode cL_alike 393 = .ok (.iload_n 2, 1) := by decide +kernel
theorem dL_alike_394 : decode cL_alike 394 = .ok (.invokevirtual 158, 3) := by decide +kernel
theorem dL_alike_397 : decode cL_alike 397 = .ok (.aload_n 1, 1) := by decide +kernel
theorem dL_alike_398 : decode cL_alike 398 = .ok (.aload_n 3, 1) := by decide +kernel
theorem dL_alike_399 : decode cL_alike 399 = .ok (.invokevirtual 161, 3) := by decide +kernel
theorem dL_alike_402 : decode cL_alike 402 = .ok (.if_icmp .eq 5, 3) := by decide +kernel
theorem dL_alike_405 : decode cL_alike 405 = .ok (.iconst 0, 1) := by decide +kernel
theorem dL_alike_406 : decode cL_alike 406 = .ok (.ireturn, 1) := by decide +kernel
theorem dL_alike_407 : decode cL_alike 407 = .ok (.iinc 2 1, 3) := by decide +kernel
theorem dL_alike_410 : decode cL_alike 410 = .ok (.goto (-122), 3) := by decide +kernel
theorem dL_alike_413 : decode cL_alike 413 = .ok (.iconst 1, 1) := by decide +kernel
theorem dL_alike_414 : decode cL_alike 414 = .ok (.ireturn, 1) := by decide +kernel
theorem dL_adds_0 : decode cL_adds 0 = .ok (.iload_n 2, 1) := by decide +kernel
theorem dL_adds_1 : decode cL_adds 1 = .ok (.iconst 2, 1) := by decide +kernel
theorem dL_adds_2 : decode cL_adds 2 = .ok (.irem, 1) := by decide +kernel
theorem dL_adds_3 : decode cL_adds 3 = .ok (.ifCond .ne 108, 3) := by decide +kernel
theorem dL_adds_6 : decode cL_adds 6 = .ok (.aload_n 1, 1) := by decide +kernel
theorem dL_adds_7 : decode cL_adds 7 = .ok (.getfield 39, 3) := by decide +kernel
theorem dL_adds_10 : decode cL_adds 10 = .ok (.bipush 8, 2) := by decide +kernel
theorem dL_adds_12 : decode cL_adds 12 = .ok (.if_icmp .ge 99, 3) := by decide +kernel
theorem dL_adds_15 : decode cL_adds 15 = .ok (.aload_n 0, 1) := by decide +kernel
theorem dL_adds_16 : decode cL_adds 16 = .ok (.new 164, 3) := by decide +kernel
theorem dL_adds_19 : decode cL_adds 19 = .ok (.dup, 1) := by decide +kernel
theorem dL_adds_20 : decode cL_adds 20 = .ok (.invokespecial 166, 3) := by decide +kernel
theorem dL_adds_23 : decode cL_adds 23 = .ok (.ldc 167, 2) := by decide +kernel
theorem dL_adds_25 : decode cL_adds 25 = .ok (.invokevirtual 169, 3) := by decide +kernel
theorem dL_adds_28 : decode cL_adds 28 = .ok (.bipush 97, 2) := by decide +kernel
theorem dL_adds_30 : decode cL_adds 30 = .ok (.aload_n 1, 1) := by decide +kernel
theorem dL_adds_31 : decode cL_adds 31 = .ok (.getfield 39, 3) := by decide +kernel
theorem dL_adds_34 : decode cL_adds 34 = .ok (.iadd, 1) := by decide +kernel
theorem dL_adds_35 : decode cL_adds 35 = .ok (.i2c, 1) := by decide +kernel
theorem dL_adds_36 : decode cL_adds 36 = .ok (.invokevirtual 173, 3) := by decide +kernel
theorem dL_adds_39 : decode cL_adds 39 = .ok (.invokevirtual 176, 3) := by decide +kernel
theorem dL_adds_42 : decode cL_adds 42 = .ok (.invokestatic 180, 3) := by decide +kernel
theorem dL_adds_45 : decode cL_adds 45 = .ok (.ifCond .eq 64, 3) := by decide +kernel
theorem dL_adds_48 : decode cL_adds 48 = .ok (.aload_n 0, 1) := by decide +kernel
theorem dL_adds_49 : decode cL_adds 49 = .ok (.iconst 1, 1) := by decide +kernel
theorem dL_adds_50 : decode cL_adds 50 = .ok (.iload_n 2, 1) := by decide +kernel
theorem dL_adds_51 : decode cL_adds 51 = .ok (.bipush 20, 2) := by decide +kernel
theorem dL_adds_53 : decode cL_adds 53 = .ok (.irem, 1) := by decide +kernel
theorem dL_adds_54 : decode cL_adds 54 = .ok (.iadd, 1) := by decide +kernel
theorem dL_adds_55 : decode cL_adds 55 = .ok (.iconst 1, 1) := by decide +kernel
theorem dL_adds_56 : decode cL_adds 56 = .ok (.iload_n 2, 1) := by decide +kernel
theorem dL_adds_57 : decode cL_adds 57 = .ok (.bipush 20, 2) := by decide +kernel
theorem dL_adds_59 : decode cL_adds 59 = .ok (.idiv, 1) := by decide +kernel
theorem dL_adds_60 : decode cL_adds 60 = .ok (.iconst 4, 1) := by decide +kernel
theorem dL_adds_61 : decode cL_adds 61 = .ok (.irem, 1) := by decide +kernel
theorem dL_adds_62 : decode cL_adds 62 = .ok (.iadd, 1) := by decide +kernel
theorem dL_adds_63 : decode cL_adds 63 = .ok (.iconst 1, 1) := by decide +kernel
theorem dL_adds_64 : decode cL_adds 64 = .ok (.iload_n 2, 1) := by decide +kernel
theorem dL_adds_65 : decode cL_adds 65 = .ok (.bipush 80, 2) := by decide +kernel
theorem dL_adds_67 : decode cL_adds 67 = .ok (.idiv, 1) := by decide +kernel
theorem dL_adds_68 : decode cL_adds 68 = .ok (.bipush 9, 2) := by decide +kernel
theorem dL_adds_70 : decode cL_adds 70 = .ok (.irem, 1) := by decide +kernel
theorem dL_adds_71 : decode cL_adds 71 = .ok (.iadd, 1) := by decide +kernel
theorem dL_adds_72 : decode cL_adds 72 = .ok (.invokevirtual 184, 3) := by decide +kernel
theorem dL_adds_75 : decode cL_adds 75 = .ok (.aload_n 1, 1) := by decide +kernel
theorem dL_adds_76 : decode cL_adds 76 = .ok (.iconst 1, 1) := by decide +kernel
theorem dL_adds_77 : decode cL_adds 77 = .ok (.iload_n 2, 1) := by decide +kernel
theorem dL_adds_78 : decode cL_adds 78 = .ok (.bipush 20, 2) := by decide +kernel
theorem dL_adds_80 : decode cL_adds 80 = .ok (.irem, 1) := by decide +kernel
theorem dL_adds_81 : decode cL_adds 81 = .ok (.iadd, 1) := by decide +kernel
theorem dL_adds_82 : decode cL_adds 82 = .ok (.iconst 1, 1) := by decide +kernel
theorem dL_adds_83 : decode cL_adds 83 = .ok (.iload_n 2, 1) := by decide +kernel
theorem dL_adds_84 : decode cL_adds 84 = .ok (.bipush 20, 2) := by decide +kernel
theorem dL_adds_86 : decode cL_adds 86 = .ok (.idiv, 1) := by decide +kernel
theorem dL_adds_87 : decode cL_adds 87 = .ok (.iconst 4, 1) := by decide +kernel
theorem dL_adds_88 : decode cL_adds 88 = .ok (.irem, 1) := by decide +kernel
theorem dL_adds_89 : decode cL_adds 89 = .ok (.iadd, 1) := by decide +kernel
theorem dL_adds_90 : decode cL_adds 90 = .ok (.iconst 1, 1) := by decide +kernel
theorem dL_adds_91 : decode cL_adds 91 = .ok (.iload_n 2, 1) := by decide +kernel
theorem dL_adds_92 : decode cL_adds 92 = .ok (.bipush 80, 2) := by decide +kernel
theorem dL_adds_94 : decode cL_adds 94 = .ok (.idiv, 1) := by decide +kernel
theorem dL_adds_95 : decode cL_adds 95 = .ok (.bipush 9, 2) := by decide +kernel
theorem dL_adds_97 : decode cL_adds 97 = .ok (.irem, 1) := by decide +kernel
theorem dL_adds_98 : decode cL_adds 98 = .ok (.iadd, 1) := by decide +kernel
theorem dL_adds_99 : decode cL_adds 99 = .ok (.invokevirtual 188, 3) := by decide +kernel
theorem dL_adds_102 : decode cL_adds 102 = .ok (.if_icmp .ne 7, 3) := by decide +kernel
theorem dL_adds_105 : decode cL_adds 105 = .ok (.iconst 1, 1) := by decide +kernel
theorem dL_adds_106 : decode cL_adds 106 = .ok (.goto 4, 3) := by decide +kernel
theorem dL_adds_109 : decode cL_adds 109 = .ok (.iconst 0, 1) := by decide +kernel
theorem dL_adds_110 : decode cL_adds 110 = .ok (.ireturn, 1) := by decide +kernel
theorem dL_adds_111 : decode cL_adds 111 = .ok (.aload_n 1, 1) := by decide +kernel
theorem dL_adds_112 : decode cL_adds 112 = .ok (.getfield 48, 3) := by decide +kernel
theorem dL_adds_115 : decode cL_adds 115 = .ok (.bipush 8, 2) := by decide +kernel
theorem dL_adds_117 : decode cL_adds 117 = .ok (.if_icmp .ne 22, 3) := by decide +kernel
theorem dL_adds_120 : decode cL_adds 120 = .ok (.aload_n 0, 1) := by decide +kernel
theorem dL_adds_121 : decode cL_adds 121 = .ok (.iconst 1, 1) := by decide +kernel
theorem dL_adds_122 : decode cL_adds 122 = .ok (.invokevirtual 189, 3) := by decide +kernel
theorem dL_adds_125 : decode cL_adds 125 = .ok (.aload_n 1, 1) := by decide +kernel
theorem dL_adds_126 : decode cL_adds 126 = .ok (.iconst 1, 1) := by decide +kernel
theorem dL_adds_127 : decode cL_adds 127 = .ok (.invokevirtual 192, 3) := by decide +kernel
theorem dL_adds_130 : decode cL_adds 130 = .ok (.if_icmp .ne 7, 3) := by decide +kernel
theorem dL_adds_133 : decode cL_adds 133 = .ok (.iconst 1, 1) := by decide +kernel
theorem dL_adds_134 : decode cL_adds 134 = .ok (.goto 4, 3) := by decide +kernel
theorem dL_adds_137 : decode cL_adds 137 = .ok (.iconst 0, 1) := by decide +kernel
theorem dL_adds_138 : decode cL_adds 138 = .ok (.ireturn, 1) := by decide +kernel
theorem dL_adds_139 : decode cL_adds 139 = .ok (.aload_n 0, 1) := by decide +kernel
theorem dL_adds_140 : decode cL_adds 140 = .ok (.new 164, 3) := by decide +kernel
theorem dL_adds_143 : decode cL_adds 143 = .ok (.dup, 1) := by decide +kernel
theorem dL_adds_144 : decode cL_adds 144 = .ok (.invokespecial 166, 3) := by decide +kernel
theorem dL_adds_147 : decode cL_adds 147 = .ok (.ldc 193, 2) := by decide +kernel
theorem dL_adds_149 : decode cL_adds 149 = .ok (.invokevirtual 169, 3) := by decide +kernel
theorem dL_adds_152 : decode cL_adds 152 = .ok (.bipush 97, 2) := by decide +kernel
theorem dL_adds_154 : decode cL_adds 154 = .ok (.aload_n 1, 1) := by decide +kernel
theorem dL_adds_155 : decode cL_adds 155 = .ok (.getfield 48, 3) := by decide +kernel
theorem dL_adds_158 : decode cL_adds 158 = .ok (.iadd, 1) := by decide +kernel
theorem dL_adds_159 : decode cL_adds 159 = .ok (.i2c, 1) := by decide +kernel
theorem dL_adds_160 : decode cL_adds 160 = .ok (.invokevirtual 173, 3) := by decide +kernel
theorem dL_adds_163 : decode cL_adds 163 = .ok (.invokevirtual 176, 3) := by decide +kernel
theorem dL_adds_166 : decode cL_adds 166 = .ok (.invokestatic 180, 3) := by decide +kernel
theorem dL_adds_169 : decode cL_adds 169 = .ok (.ifCond .eq 46, 3) := by decide +kernel
theorem dL_adds_172 : decode cL_adds 172 = .ok (.aload_n 0, 1) := by decide +kernel
theorem dL_adds_173 : decode cL_adds 173 = .ok (.iconst 1, 1) := by decide +kernel
theorem dL_adds_174 : decode cL_adds 174 = .ok (.iload_n 2, 1) := by decide +kernel
theorem dL_adds_175 : decode cL_adds 175 = .ok (.bipush 90, 2) := by decide +kernel
theorem dL_adds_177 : decode cL_adds 177 = .ok (.irem, 1) := by decide +kernel
theorem dL_adds_178 : decode cL_adds 178 = .ok (.iadd, 1) := by decide +kernel
theorem dL_adds_179 : decode cL_adds 179 = .ok (.iload_n 2, 1) := by decide +kernel
theorem dL_adds_180 : decode cL_adds 180 = .ok (.bipush 90, 2) := by decide +kernel
theorem dL_adds_182 : decode cL_adds 182 = .ok (.idiv, 1) := by decide +kernel
theorem dL_adds_183 : decode cL_adds 183 = .ok (.sipush 300, 3) := by decide +kernel
theorem dL_adds_186 : decode cL_adds 186 = .ok (.irem, 1) := by decide +kernel
theorem dL_adds_187 : decode cL_adds 187 = .ok (.invokevirtual 195, 3) := by decide +kernel
theorem dL_adds_190 : decode cL_adds 190 = .ok (.aload_n 1, 1) := by decide +kernel
theorem dL_adds_191 : decode cL_adds 191 = .ok (.iconst 1, 1) := by decide +kernel
theorem dL_adds_192 : decode cL_adds 192 = .ok (.iload_n 2, 1) := by decide +kernel
theorem dL_adds_193 : decode cL_adds 193 = .ok (.bipush 90, 2) := by decide +kernel
theorem dL_adds_195 : decode cL_adds 195 = .ok (.irem, 1) := by decide +kernel
theorem dL_adds_196 : decode cL_adds 196 = .ok (.iadd, 1) := by decide +kernel
theorem dL_adds_197 : decode cL_adds 197 = .ok (.iload_n 2, 1) := by decide +kernel
theorem dL_adds_198 : decode cL_adds 198 = .ok (.bipush 90, 2) := by decide +kernel
theorem dL_adds_200 : decode cL_adds 200 = .ok (.idiv, 1) := by decide +kernel
theorem dL_adds_201 : decode cL_adds 201 = .ok (.sipush 300, 3) := by decide +kernel
theorem dL_adds_204 : decode cL_adds 204 = .ok (.irem, 1) := by decide +kernel
theorem dL_adds_205 : decode cL_adds 205 = .ok (.invokevirtual 198, 3) := by decide +kernel
theorem dL_adds_208 : decode cL_adds 208 = .ok (.if_icmp .ne 7, 3) := by decide +kernel
theorem dL_adds_211 : decode cL_adds 211 = .ok (.iconst 1, 1) := by decide +kernel
theorem dL_adds_212 : decode cL_adds 212 = .ok (.goto 4, 3) := by decide +kernel
theorem dL_adds_215 : decode cL_adds 215 = .ok (.iconst 0, 1) := by decide +kernel
theorem dL_adds_216 : decode cL_adds 216 = .ok (.ireturn, 1) := by decide +kernel
theorem dL_openOne_0 : decode cL_openOne 0 = .ok (.iconst 0, 1) := by decide +kernel
theorem dL_openOne_1 : decode cL_openOne 1 = .ok (.istore_n 2, 1) := by decide +kernel
theorem dL_openOne_2 : decode cL_openOne 2 = .ok (.iload_n 2, 1) := by decide +kernel
theorem dL_openOne_3 : decode cL_openOne 3 = .ok (.aload_n 0, 1) := by decide +kernel
theorem dL_openOne_4 : decode cL_openOne 4 = .ok (.getfield 54, 3) := by decide +kernel
theorem dL_openOne_7 : decode cL_openOne 7 = .ok (.if_icmp .ge 37, 3) := by decide +kernel
theorem dL_openOne_10 : decode cL_openOne 10 = .ok (.aload_n 0, 1) := by decide +kernel
theorem dL_openOne_11 : decode cL_openOne 11 = .ok (.getfield 128, 3) := by decide +kernel
theorem dL_openOne_14 : decode cL_openOne 14 = .ok (.iload_n 1, 1) := by decide +kernel
theorem dL_openOne_15 : decode cL_openOne 15 = .ok (.iload_n 2, 1) := by decide +kernel
theorem dL_openOne_16 : decode cL_openOne 16 = .ok (.iadd, 1) := by decide +kernel
theorem dL_openOne_17 : decode cL_openOne 17 = .ok (.aload_n 0, 1) := by decide +kernel
theorem dL_openOne_18 : decode cL_openOne 18 = .ok (.getfield 54, 3) := by decide +kernel
theorem dL_openOne_21 : decode cL_openOne 21 = .ok (.irem, 1) := by decide +kernel
theorem dL_openOne_22 : decode cL_openOne 22 = .ok (.aaload, 1) := by decide +kernel
theorem dL_openOne_23 : decode cL_openOne 23 = .ok (.bipush 6, 2) := by decide +kernel
theorem dL_openOne_25 : decode cL_openOne 25 = .ok (.iaload, 1) := by decide +kernel
theorem dL_openOne_26 : decode cL_openOne 26 = .ok (.ifCond .ne 12, 3) := by decide +kernel
theorem dL_openOne_29 : decode cL_openOne 29 = .ok (.iload_n 1, 1) := by decide +kernel
theorem dL_openOne_30 : decode cL_openOne 30 = .ok (.iload_n 2, 1) := by decide +kernel
theorem dL_openOne_31 : decode cL_openOne 31 = .ok (.iadd, 1) := by decide +kernel
theorem dL_openOne_32 : decode cL_openOne 32 = .ok (.aload_n 0, 1) := by decide +kernel
theorem dL_openOne_33 : decode cL_openOne 33 = .ok (.getfield 54, 3) := by decide +kernel
theorem dL_openOne_36 : decode cL_openOne 36 = .ok (.irem, 1) := by decide +kernel
theorem dL_openOne_37 : decode cL_openOne 37 = .ok (.ireturn, 1) := by decide +kernel
theorem dL_openOne_38 : decode cL_openOne 38 = .ok (.iinc 2 1, 3) := by decide +kernel
theorem dL_openOne_41 : decode cL_openOne 41 = .ok (.goto (-39), 3) := by decide +kernel
theorem dL_openOne_44 : decode cL_openOne 44 = .ok (.iconst (-1), 1) := by decide +kernel
theorem dL_openOne_45 : decode cL_openOne 45 = .ok (.ireturn, 1) := by decide +kernel
theorem dL_acts_0 : decode cL_acts 0 = .ok (.aload_n 2, 1) := by decide +kernel
theorem dL_acts_1 : decode cL_acts 1 = .ok (.sipush 300, 3) := by decide +kernel
theorem dL_acts_4 : decode cL_acts 4 = .ok (.iload_n 3, 1) := by decide +kernel
theorem dL_acts_5 : decode cL_acts 5 = .ok (.iadd, 1) := by decide +kernel
theorem dL_acts_6 : decode cL_acts 6 = .ok (.bipush 26, 2) := by decide +kernel
theorem dL_acts_8 : decode cL_acts 8 = .ok (.invokestatic 199, 3) := by decide +kernel
theorem dL_acts_11 : decode cL_acts 11 = .ok (.istore 4, 2) := by decide +kernel
theorem dL_acts_13 : decode cL_acts 13 = .ok (.aload_n 2, 1) := by decide +kernel
theorem dL_acts_14 : decode cL_acts 14 = .ok (.sipush 360, 3) := by decide +kernel
theorem dL_acts_17 : decode cL_acts 17 = .ok (.iload_n 3, 1) := by decide +kernel
theorem dL_acts_18 : decode cL_acts 18 = .ok (.iadd, 1) := by decide +kernel
theorem dL_acts_19 : decode cL_acts 19 = .ok (.ldc 203, 2) := by decide +kernel
theorem dL_acts_21 : decode cL_acts 21 = .ok (.invokestatic 199, 3) := by decide +kernel
theorem dL_acts_24 : decode cL_acts 24 = .ok (.istore 5, 2) := by decide +kernel
theorem dL_acts_26 : decode cL_acts 26 = .ok (.aload_n 1, 1) := by decide +kernel
theorem dL_acts_27 : decode cL_acts 27 = .ok (.getfield 39, 3) := by decide +kernel
theorem dL_acts_30 : decode cL_acts 30 = .ok (.ifCond .eq 15, 3) := by decide +kernel
theorem dL_acts_33 : decode cL_acts 33 = .ok (.aload_n 1, 1) := by decide +kernel
theorem dL_acts_34 : decode cL_acts 34 = .ok (.getfield 48, 3) := by decide +kernel
theorem dL_acts_37 : decode cL_acts 37 = .ok (.ifCond .eq 8, 3) := by decide +kernel
theorem dL_acts_40 : decode cL_acts 40 = .ok (.iload 4, 2) := by decide +kernel
theorem dL_acts_42 : decode cL_acts 42 = .ok (.ifCond .ne 41, 3) := by decide +kernel
theorem dL_acts_45 : decode cL_acts 45 = .ok (.aload_n 0, 1) := by decide +kernel
theorem dL_acts_46 : decode cL_acts 46 = .ok (.aload_n 1, 1) := by decide +kernel
theorem dL_acts_47 : decode cL_acts 47 = .ok (.aload_n 1, 1) := by decide +kernel
theorem dL_acts_48 : decode cL_acts 48 = .ok (.getfield 39, 3) := by decide +kernel
theorem dL_acts_51 : decode cL_acts 51 = .ok (.ifCond .ne 10, 3) := by decide +kernel
theorem dL_acts_54 : decode cL_acts 54 = .ok (.iconst 2, 1) := by decide +kernel
theorem dL_acts_55 : decode cL_acts 55 = .ok (.iload 5, 2) := by decide +kernel
theorem dL_acts_57 : decode cL_acts 57 = .ok (.imul, 1) := by decide +kernel
theorem dL_acts_58 : decode cL_acts 58 = .ok (.goto 21, 3) := by decide +kernel
theorem dL_acts_61 : decode cL_acts 61 = .ok (.aload_n 1, 1) := by decide +kernel
theorem dL_acts_62 : decode cL_acts 62 = .ok (.getfield 48, 3) := by decide +kernel
theorem dL_acts_65 : decode cL_acts 65 = .ok (.ifCond .ne 12, 3) := by decide +kernel
theorem dL_acts_68 : decode cL_acts 68 = .ok (.iconst 2, 1) := by decide +kernel
theorem dL_acts_69 : decode cL_acts 69 = .ok (.iload 5, 2) := by decide +kernel
theorem dL_acts_71 : decode cL_acts 71 = .ok (.imul, 1) := by decide +kernel
theorem dL_acts_72 : decode cL_acts 72 = .ok (.iconst 1, 1) := by decide +kernel
theorem dL_acts_73 : decode cL_acts 73 = .ok (.iadd, 1) := by decide +kernel
theorem dL_acts_74 : decode cL_acts 74 = .ok (.goto 5, 3) := by decide +kernel
theorem dL_acts_77 : decode cL_acts 77 = .ok (.iload 5, 2) := by decide +kernel
theorem dL_acts_79 : decode cL_acts 79 = .ok (.invokestatic 204, 3) := by decide +kernel
theorem dL_acts_82 : decode cL_acts 82 = .ok (.ireturn, 1) := by decide +kernel
theorem dL_acts_83 : decode cL_acts 83 = .ok (.iload 5, 2) := by decide +kernel
theorem dL_acts_85 : decode cL_acts 85 = .ok (.aload_n 1, 1) := by decide +kernel
theorem dL_acts_86 : decode cL_acts 86 = .ok (.getfield 48, 3) := by decide +kernel
theorem dL_acts_89 : decode cL_acts 89 = .ok (.irem, 1) := by decide +kernel
theorem dL_acts_90 : decode cL_acts 90 = .ok (.istore 6, 2) := by decide +kernel
theorem dL_acts_92 : decode cL_acts 92 = .ok (.iload 5, 2) := by decide +kernel
theorem dL_acts_94 : decode cL_acts 94 = .ok (.bipush 8, 2) := by decide +kernel
theorem dL_acts_96 : decode cL_acts 96 = .ok (.idiv, 1) := by decide +kernel
theorem dL_acts_97 : decode cL_acts 97 = .ok (.aload_n 1, 1) := by decide +kernel
theorem dL_acts_98 : decode cL_acts 98 = .ok (.getfield 39, 3) := by decide +kernel
theorem dL_acts_101 : decode cL_acts 101 = .ok (.irem, 1) := by decide +kernel
theorem dL_acts_102 : decode cL_acts 102 = .ok (.istore 7, 2) := by decide +kernel
theorem dL_acts_104 : decode cL_acts 104 = .ok (.iload 4, 2) := by decide +kernel
theorem dL_acts_106 : decode cL_acts 106 = .ok (.bipush 9, 2) := by decide +kernel
theorem dL_acts_108 : decode cL_acts 108 = .ok (.if_icmp .ge 94, 3) := by decide +kernel
theorem dL_acts_111 : decode cL_acts 111 = .ok (.iconst 1, 1) := by decide +kernel
theorem dL_acts_112 : decode cL_acts 112 = .ok (.iload 5, 2) := by decide +kernel
theorem dL_acts_114 : decode cL_acts 114 = .ok (.bipush 64, 2) := by decide +kernel
theorem dL_acts_116 : decode cL_acts 116 = .ok (.idiv, 1) := by decide +kernel
theorem dL_acts_117 : decode cL_acts 117 = .ok (.iconst 4, 1) := by decide +kernel
theorem dL_acts_118 : decode cL_acts 118 = .ok (.irem, 1) := by decide +kernel
theorem dL_acts_119 : decode cL_acts 119 = .ok (.iadd, 1) := by decide +kernel
theorem dL_acts_120 : decode cL_acts 120 = .ok (.istore 8, 2) := by decide +kernel
theorem dL_acts_122 : decode cL_acts 122 = .ok (.iconst 1, 1) := by decide +kernel
theorem dL_acts_123 : decode cL_acts 123 = .ok (.iload 5, 2) := by decide +kernel
theorem dL_acts_125 : decode cL_acts 125 = .ok (.sipush 256, 3) := by decide +kernel
theorem dL_acts_128 : decode cL_acts 128 = .ok (.idiv, 1) := by decide +kernel
theorem dL_acts_129 : decode cL_acts 129 = .ok (.bipush 20, 2) := by decide +kernel
theorem dL_acts_131 : decode cL_acts 131 = .ok (.irem, 1) := by decide +kernel
theorem dL_acts_132 : decode cL_acts 132 = .ok (.iadd, 1) := by decide +kernel
theorem dL_acts_133 : decode cL_acts 133 = .ok (.istore 9, 2) := by decide +kernel
theorem dL_acts_135 : decode cL_acts 135 = .ok (.aload_n 1, 1) := by decide +kernel
theorem dL_acts_136 : decode cL_acts 136 = .ok (.iload 6, 2) := by decide +kernel
theorem dL_acts_138 : decode cL_acts 138 = .ok (.iload 7, 2) := by decide +kernel
theorem dL_acts_140 : decode cL_acts 140 = .ok (.iload 8, 2) := by decide +kernel
theorem dL_acts_142 : decode cL_acts 142 = .ok (.invokevirtual 208, 3) := by decide +kernel
theorem dL_acts_145 : decode cL_acts 145 = .ok (.ifCond .ne 38, 3) := by decide +kernel
theorem dL_acts_148 : decode cL_acts 148 = .ok (.aload_n 0, 1) := by decide +kernel
theorem dL_acts_149 : decode cL_acts 149 = .ok (.iload 6, 2) := by decide +kernel
theorem dL_acts_151 : decode cL_acts 151 = .ok (.iload 7, 2) := by decide +kernel
theorem dL_acts_153 : decode cL_acts 153 = .ok (.iload 9, 2) := by decide +kernel
theorem dL_acts_155 : decode cL_acts 155 = .ok (.iload 8, 2) := by decide +kernel
theorem dL_acts_157 : decode cL_acts 157 = .ok (.invokevirtual 211, 3) := by decide +kernel
theorem dL_acts_160 : decode cL_acts 160 = .ok (.aload_n 1, 1) := by decide +kernel
theorem dL_acts_161 : decode cL_acts 161 = .ok (.iload 6, 2) := by decide +kernel
theorem dL_acts_163 : decode cL_acts 163 = .ok (.iload 7, 2) := by decide +kernel
theorem dL_acts_165 : decode cL_acts 165 = .ok (.iload 9, 2) := by decide +kernel
theorem dL_acts_167 : decode cL_acts 167 = .ok (.iload 8, 2) := by decide +kernel
theorem dL_acts_169 : decode cL_acts 169 = .ok (.invokevirtual 214, 3) := by decide +kernel
theorem dL_acts_172 : decode cL_acts 172 = .ok (.if_icmp .ne 7, 3) := by decide +kernel
theorem dL_acts_175 : decode cL_acts 175 = .ok (.iconst 1, 1) := by decide +kernel
theorem dL_acts_176 : decode cL_acts 176 = .ok (.goto 25, 3) := by decide +kernel
theorem dL_acts_179 : decode cL_acts 179 = .ok (.iconst 0, 1) := by decide +kernel
theorem dL_acts_180 : decode cL_acts 180 = .ok (.goto 21, 3) := by decide +kernel
theorem dL_acts_183 : decode cL_acts 183 = .ok (.aload_n 0, 1) := by decide +kernel
theorem dL_acts_184 : decode cL_acts 184 = .ok (.iconst 1, 1) := by decide +kernel
theorem dL_acts_185 : decode cL_acts 185 = .ok (.invokevirtual 189, 3) := by decide +kernel
theorem dL_acts_188 : decode cL_acts 188 = .ok (.aload_n 1, 1) := by decide +kernel
theorem dL_acts_189 : decode cL_acts 189 = .ok (.iconst 1, 1) := by decide +kernel
theorem dL_acts_190 : decode cL_acts 190 = .ok (.invokevirtual 192, 3) := by decide +kernel
theorem dL_acts_193 : decode cL_acts 193 = .ok (.if_icmp .ne 7, 3) := by decide +kernel
theorem dL_acts_196 : decode cL_acts 196 = .ok (.iconst 1, 1) := by decide +kernel
theorem dL_acts_197 : decode cL_acts 197 = .ok (.goto 4, 3) := by decide +kernel
theorem dL_acts_200 : decode cL_acts 200 = .ok (.iconst 0, 1) := by decide +kernel
theorem dL_acts_201 : decode cL_acts 201 = .ok (.ireturn, 1) := by decide +kernel
theorem dL_acts_202 : decode cL_acts 202 = .ok (.iload 4, 2) := by decide +kernel
theorem dL_acts_204 : decode cL_acts 204 = .ok (.bipush 17, 2) := by decide +kernel
theorem dL_acts_206 : decode cL_acts 206 = .ok (.if_icmp .ge 34, 3) := by decide +kernel
theorem dL_acts_209 : decode cL_acts 209 = .ok (.aload_n 0, 1) := by decide +kernel
theorem dL_acts_210 : decode cL_acts 210 = .ok (.iconst 1, 1) := by decide +kernel
theorem dL_acts_211 : decode cL_acts 211 = .ok (.iload 5, 2) := by decide +kernel
theorem dL_acts_213 : decode cL_acts 213 = .ok (.bipush 25, 2) := by decide +kernel
theorem dL_acts_215 : decode cL_acts 215 = .ok (.irem, 1) := by decide +kernel
theorem dL_acts_216 : decode cL_acts 216 = .ok (.iadd, 1) := by decide +kernel
theorem dL_acts_217 : decode cL_acts 217 = .ok (.invokevirtual 189, 3) := by decide +kernel
theorem dL_acts_220 : decode cL_acts 220 = .ok (.aload_n 1, 1) := by decide +kernel
theorem dL_acts_221 : decode cL_acts 221 = .ok (.iconst 1, 1) := by decide +kernel
theorem dL_acts_222 : decode cL_acts 222 = .ok (.iload 5, 2) := by decide +kernel
theorem dL_acts_224 : decode cL_acts 224 = .ok (.bipush 25, 2) := by decide +kernel
theorem dL_acts_226 : decode cL_acts 226 = .ok (.irem, 1) := by decide +kernel
theorem dL_acts_227 : decode cL_acts 227 = .ok (.iadd, 1) := by decide +kernel
theorem dL_acts_228 : decode cL_acts 228 = .ok (.invokevirtual 192, 3) := by decide +kernel
theorem dL_acts_231 : decode cL_acts 231 = .ok (.if_icmp .ne 7, 3) := by decide +kernel
theorem dL_acts_234 : decode cL_acts 234 = .ok (.iconst 1, 1) := by decide +kernel
theorem dL_acts_235 : decode cL_acts 235 = .ok (.goto 4, 3) := by decide +kernel
theorem dL_acts_238 : decode cL_acts 238 = .ok (.iconst 0, 1) := by decide +kernel
theorem dL_acts_239 : decode cL_acts 239 = .ok (.ireturn, 1) := by decide +kernel
theorem dL_acts_240 : decode cL_acts 240 = .ok (.aload_n 1, 1) := by decide +kernel
theorem dL_acts_241 : decode cL_acts 241 = .ok (.iload 5, 2) := by decide +kernel
theorem dL_acts_243 : decode cL_acts 243 = .ok (.invokestatic 217, 3) := by decide +kernel
theorem dL_acts_246 : decode cL_acts 246 = .ok (.istore 8, 2) := by decide +kernel
theorem dL_acts_248 : decode cL_acts 248 = .ok (.iload 4, 2) := by decide +kernel
theorem dL_acts_250 : decode cL_acts 250 = .ok (.bipush 20, 2) := by decide +kernel
theorem dL_acts_252 : decode cL_acts 252 = .ok (.if_icmp .ge 29, 3) := by decide +kernel
theorem dL_acts_255 : decode cL_acts 255 = .ok (.iload 8, 2) := by decide +kernel
theorem dL_acts_257 : decode cL_acts 257 = .ok (.ifCond .lt 24, 3) := by decide +kernel
theorem dL_acts_260 : decode cL_acts 260 = .ok (.aload_n 0, 1) := by decide +kernel
theorem dL_acts_261 : decode cL_acts 261 = .ok (.iload 8, 2) := by decide +kernel
theorem dL_acts_263 : decode cL_acts 263 = .ok (.invokevirtual 221, 3) := by decide +kernel
theorem dL_acts_266 : decode cL_acts 266 = .ok (.aload_n 1, 1) := by decide +kernel
theorem dL_acts_267 : decode cL_acts 267 = .ok (.iload 8, 2) := by decide +kernel
theorem dL_acts_269 : decode cL_acts 269 = .ok (.invokevirtual 224, 3) := by decide +kernel
theorem dL_acts_272 : decode cL_acts 272 = .ok (.if_icmp .ne 7, 3) := by decide +kernel
theorem dL_acts_275 : decode cL_acts 275 = .ok (.iconst 1, 1) := by decide +kernel
theorem dL_acts_276 : decode cL_acts 276 = .ok (.goto 4, 3) := by decide +kernel
theorem dL_acts_279 : decode cL_acts 279 = .ok (.iconst 0, 1) := by decide +kernel
theorem dL_acts_280 : decode cL_acts 280 = .ok (.ireturn, 1) := by decide +kernel
theorem dL_acts_281 : decode cL_acts 281 = .ok (.iload 4, 2) := by decide +kernel
theorem dL_acts_283 : decode cL_acts 283 = .ok (.bipush 20, 2) := by decide +kernel
theorem dL_acts_285 : decode cL_acts 285 = .ok (.if_icmp .ne 29, 3) := by decide +kernel
theorem dL_acts_288 : decode cL_acts 288 = .ok (.iload 8, 2) := by decide +kernel
theorem dL_acts_290 : decode cL_acts 290 = .ok (.ifCond .lt 24, 3) := by decide +kernel
theorem dL_acts_293 : decode cL_acts 293 = .ok (.aload_n 0, 1) := by decide +kernel
theorem dL_acts_294 : decode cL_acts 294 = .ok (.iload 8, 2) := by decide +kernel
theorem dL_acts_296 : decode cL_acts 296 = .ok (.invokevirtual 225, 3) := by decide +kernel
theorem dL_acts_299 : decode cL_acts 299 = .ok (.aload_n 1, 1) := by decide +kernel
theorem dL_acts_300 : decode cL_acts 300 = .ok (.iload 8, 2) := by decide +kernel
theorem dL_acts_302 : decode cL_acts 302 = .ok (.invokevirtual 228, 3) := by decide +kernel
theorem dL_acts_305 : decode cL_acts 305 = .ok (.if_icmp .ne 7, 3) := by decide +kernel
theorem dL_acts_308 : decode cL_acts 308 = .ok (.iconst 1, 1) := by decide +kernel
theorem dL_acts_309 : decode cL_acts 309 = .ok (.goto 4, 3) := by decide +kernel
theorem dL_acts_312 : decode cL_acts 312 = .ok (.iconst 0, 1) := by decide +kernel
theorem dL_acts_313 : decode cL_acts 313 = .ok (.ireturn, 1) := by decide +kernel
theorem dL_acts_314 : decode cL_acts 314 = .ok (.iload 4, 2) := by decide +kernel
theorem dL_acts_316 : decode cL_acts 316 = .ok (.bipush 21, 2) := by decide +kernel
theorem dL_acts_318 : decode cL_acts 318 = .ok (.if_icmp .ne 56, 3) := by decide +kernel
theorem dL_acts_321 : decode cL_acts 321 = .ok (.aload_n 1, 1) := by decide +kernel
theorem dL_acts_322 : decode cL_acts 322 = .ok (.getfield 83, 3) := by decide +kernel
theorem dL_acts_325 : decode cL_acts 325 = .ok (.iload 7, 2) := by decide +kernel
theorem dL_acts_327 : decode cL_acts 327 = .ok (.aaload, 1) := by decide +kernel
theorem dL_acts_328 : decode cL_acts 328 = .ok (.iconst 3, 1) := by decide +kernel
theorem dL_acts_329 : decode cL_acts 329 = .ok (.iaload, 1) := by decide +kernel
theorem dL_acts_330 : decode cL_acts 330 = .ok (.istore 9, 2) := by decide +kernel
theorem dL_acts_332 : decode cL_acts 332 = .ok (.aload_n 1, 1) := by decide +kernel
theorem dL_acts_333 : decode cL_acts 333 = .ok (.getfield 83, 3) := by decide +kernel
theorem dL_acts_336 : decode cL_acts 336 = .ok (.iload 7, 2) := by decide +kernel
theorem dL_acts_338 : decode cL_acts 338 = .ok (.aaload, 1) := by decide +kernel
theorem dL_acts_339 : decode cL_acts 339 = .ok (.iconst 3, 1) := by decide +kernel
theorem dL_acts_340 : decode cL_acts 340 = .ok (.iload 5, 2) := by decide +kernel
theorem dL_acts_342 : decode cL_acts 342 = .ok (.bipush 100, 2) := by decide +kernel
theorem dL_acts_344 : decode cL_acts 344 = .ok (.idiv, 1) := by decide +kernel
theorem dL_acts_345 : decode cL_acts 345 = .ok (.bipush 10, 2) := by decide +kernel
theorem dL_acts_347 : decode cL_acts 347 = .ok (.irem, 1) := by decide +kernel
theorem dL_acts_348 : decode cL_acts 348 = .ok (.iastore, 1) := by decide +kernel
theorem dL_acts_349 : decode cL_acts 349 = .ok (.aload_n 0, 1) := by decide +kernel
theorem dL_acts_350 : decode cL_acts 350 = .ok (.iload 7, 2) := by decide +kernel
theorem dL_acts_352 : decode cL_acts 352 = .ok (.iload 5, 2) := by decide +kernel
theorem dL_acts_354 : decode cL_acts 354 = .ok (.bipush 100, 2) := by decide +kernel
theorem dL_acts_356 : decode cL_acts 356 = .ok (.idiv, 1) := by decide +kernel
theorem dL_acts_357 : decode cL_acts 357 = .ok (.bipush 10, 2) := by decide +kernel
theorem dL_acts_359 : decode cL_acts 359 = .ok (.irem, 1) := by decide +kernel
theorem dL_acts_360 : decode cL_acts 360 = .ok (.invokevirtual 229, 3) := by decide +kernel
theorem dL_acts_363 : decode cL_acts 363 = .ok (.iload 9, 2) := by decide +kernel
theorem dL_acts_365 : decode cL_acts 365 = .ok (.if_icmp .ne 7, 3) := by decide +kernel
theorem dL_acts_368 : decode cL_acts 368 = .ok (.iconst 1, 1) := by decide +kernel
theorem dL_acts_369 : decode cL_acts 369 = .ok (.goto 4, 3) := by decide +kernel
theorem dL_acts_372 : decode cL_acts 372 = .ok (.iconst 0, 1) := by decide +kernel
theorem dL_acts_373 : decode cL_acts 373 = .ok (.ireturn, 1) := by decide +kernel
theorem dL_acts_374 : decode cL_acts 374 = .ok (.iload 4, 2) := by decide +kernel
theorem dL_acts_376 : decode cL_acts 376 = .ok (.bipush 22, 2) := by decide +kernel
theorem dL_acts_378 : decode cL_acts 378 = .ok (.if_icmp .ne 60, 3) := by decide +kernel
theorem dL_acts_381 : decode cL_acts 381 = .ok (.aload_n 1, 1) := by decide +kernel
theorem dL_acts_382 : decode cL_acts 382 = .ok (.getfield 83, 3) := by decide +kernel
theorem dL_acts_385 : decode cL_acts 385 = .ok (.iload 7, 2) := by decide +kernel
theorem dL_acts_387 : decode cL_acts 387 = .ok (.aaload, 1) := by decide +kernel
theorem dL_acts_388 : decode cL_acts 388 = .ok (.iconst 2, 1) := by decide +kernel
theorem dL_acts_389 : decode cL_acts 389 = .ok (.iaload, 1) := by decide +kernel
theorem dL_acts_390 : decode cL_acts 390 = .ok (.istore 9, 2) := by decide +kernel
theorem dL_acts_392 : decode cL_acts 392 = .ok (.aload_n 1, 1) := by decide +kernel
theorem dL_acts_393 : decode cL_acts 393 = .ok (.getfield 83, 3) := by decide +kernel
theorem dL_acts_396 : decode cL_acts 396 = .ok (.iload 7, 2) := by decide +kernel
theorem dL_acts_398 : decode cL_acts 398 = .ok (.aaload, 1) := by decide +kernel
theorem dL_acts_399 : decode cL_acts 399 = .ok (.iconst 2, 1) := by decide +kernel
theorem dL_acts_400 : decode cL_acts 400 = .ok (.iconst 1, 1) := by decide +kernel
theorem dL_acts_401 : decode cL_acts 401 = .ok (.iload 5, 2) := by decide +kernel
theorem dL_acts_403 : decode cL_acts 403 = .ok (.bipush 100, 2) := by decide +kernel
theorem dL_acts_405 : decode cL_acts 405 = .ok (.idiv, 1) := by decide +kernel
theorem dL_acts_406 : decode cL_acts 406 = .ok (.bipush 30, 2) := by decide +kernel
theorem dL_acts_408 : decode cL_acts 408 = .ok (.irem, 1) := by decide +kernel
theorem dL_acts_409 : decode cL_acts 409 = .ok (.iadd, 1) := by decide +kernel
theorem dL_acts_410 : decode cL_acts 410 = .ok (.iastore, 1) := by decide +kernel
theorem dL_acts_411 : decode cL_acts 411 = .ok (.aload_n 0, 1) := by decide +kernel
theorem dL_acts_412 : decode cL_acts 412 = .ok (.iload 7, 2) := by decide +kernel
theorem dL_acts_414 : decode cL_acts 414 = .ok (.iconst 1, 1) := by decide +kernel
theorem dL_acts_415 : decode cL_acts 415 = .ok (.iload 5, 2) := by decide +kernel
theorem dL_acts_417 : decode cL_acts 417 = .ok (.bipush 100, 2) := by decide +kernel
theorem dL_acts_419 : decode cL_acts 419 = .ok (.idiv, 1) := by decide +kernel
theorem dL_acts_420 : decode cL_acts 420 = .ok (.bipush 30, 2) := by decide +kernel
theorem dL_acts_422 : decode cL_acts 422 = .ok (.irem, 1) := by decide +kernel
theorem dL_acts_423 : decode cL_acts 423 = .ok (.iadd, 1) := by decide +kernel
theorem dL_acts_424 : decode cL_acts 424 = .ok (.invokevirtual 232, 3) := by decide +kernel
theorem dL_acts_427 : decode cL_acts 427 = .ok (.iload 9, 2) := by decide +kernel
theorem dL_acts_429 : decode cL_acts 429 = .ok (.if_icmp .ne 7, 3) := by decide +kernel
theorem dL_acts_432 : decode cL_acts 432 = .ok (.iconst 1, 1) := by decide +kernel
theorem dL_acts_433 : decode cL_acts 433 = .ok (.goto 4, 3) := by decide +kernel
theorem dL_acts_436 : decode cL_acts 436 = .ok (.iconst 0, 1) := by decide +kernel
theorem dL_acts_437 : decode cL_acts 437 = .ok (.ireturn, 1) := by decide +kernel
theorem dL_acts_438 : decode cL_acts 438 = .ok (.iload 4, 2) := by decide +kernel
theorem dL_acts_440 : decode cL_acts 440 = .ok (.bipush 23, 2) := by decide +kernel
theorem dL_acts_442 : decode cL_acts 442 = .ok (.if_icmp .ne 42, 3) := by decide +kernel
theorem dL_acts_445 : decode cL_acts 445 = .ok (.aload_n 1, 1) := by decide +kernel
theorem dL_acts_446 : decode cL_acts 446 = .ok (.getfield 80, 3) := by decide +kernel
theorem dL_acts_449 : decode cL_acts 449 = .ok (.istore 9, 2) := by decide +kernel
theorem dL_acts_451 : decode cL_acts 451 = .ok (.aload_n 1, 1) := by decide +kernel
theorem dL_acts_452 : decode cL_acts 452 = .ok (.iload 5, 2) := by decide +kernel
theorem dL_acts_454 : decode cL_acts 454 = .ok (.bipush 100, 2) := by decide +kernel
theorem dL_acts_456 : decode cL_acts 456 = .ok (.idiv, 1) := by decide +kernel
theorem dL_acts_457 : decode cL_acts 457 = .ok (.iconst 4, 1) := by decide +kernel
theorem dL_acts_458 : decode cL_acts 458 = .ok (.irem, 1) := by decide +kernel
theorem dL_acts_459 : decode cL_acts 459 = .ok (.putfield 80, 3) := by decide +kernel
theorem dL_acts_462 : decode cL_acts 462 = .ok (.aload_n 0, 1) := by decide +kernel
theorem dL_acts_463 : decode cL_acts 463 = .ok (.iload 5, 2) := by decide +kernel
theorem dL_acts_465 : decode cL_acts 465 = .ok (.bipush 100, 2) := by decide +kernel
theorem dL_acts_467 : decode cL_acts 467 = .ok (.idiv, 1) := by decide +kernel
theorem dL_acts_468 : decode cL_acts 468 = .ok (.iconst 4, 1) := by decide +kernel
theorem dL_acts_469 : decode cL_acts 469 = .ok (.irem, 1) := by decide +kernel
theorem dL_acts_470 : decode cL_acts 470 = .ok (.invokevirtual 235, 3) := by decide +kernel
theorem dL_acts_473 : decode cL_acts 473 = .ok (.iload 9, 2) := by decide +kernel
theorem dL_acts_475 : decode cL_acts 475 = .ok (.if_icmp .ne 7, 3) := by decide +kernel
theorem dL_acts_478 : decode cL_acts 478 = .ok (.iconst 1, 1) := by decide +kernel
theorem dL_acts_479 : decode cL_acts 479 = .ok (.goto 4, 3) := by decide +kernel
theorem dL_acts_482 : decode cL_acts 482 = .ok (.iconst 0, 1) := by decide +kernel
theorem dL_acts_483 : decode cL_acts 483 = .ok (.ireturn, 1) := by decide +kernel
theorem dL_acts_484 : decode cL_acts 484 = .ok (.aload_n 0, 1) := by decide +kernel
theorem dL_acts_485 : decode cL_acts 485 = .ok (.iconst 1, 1) := by decide +kernel
theorem dL_acts_486 : decode cL_acts 486 = .ok (.iload 5, 2) := by decide +kernel
theorem dL_acts_488 : decode cL_acts 488 = .ok (.iconst 4, 1) := by decide +kernel
theorem dL_acts_489 : decode cL_acts 489 = .ok (.irem, 1) := by decide +kernel
theorem dL_acts_490 : decode cL_acts 490 = .ok (.iadd, 1) := by decide +kernel
theorem dL_acts_491 : decode cL_acts 491 = .ok (.invokevirtual 189, 3) := by decide +kernel
theorem dL_acts_494 : decode cL_acts 494 = .ok (.aload_n 1, 1) := by decide +kernel
theorem dL_acts_495 : decode cL_acts 495 = .ok (.iconst 1, 1) := by decide +kernel
theorem dL_acts_496 : decode cL_acts 496 = .ok (.iload 5, 2) := by decide +kernel
theorem dL_acts_498 : decode cL_acts 498 = .ok (.iconst 4, 1) := by decide +kernel
theorem dL_acts_499 : decode cL_acts 499 = .ok (.irem, 1) := by decide +kernel
theorem dL_acts_500 : decode cL_acts 500 = .ok (.iadd, 1) := by decide +kernel
theorem dL_acts_501 : decode cL_acts 501 = .ok (.invokevirtual 192, 3) := by decide +kernel
theorem dL_acts_504 : decode cL_acts 504 = .ok (.if_icmp .ne 7, 3) := by decide +kernel
theorem dL_acts_507 : decode cL_acts 507 = .ok (.iconst 1, 1) := by decide +kernel
theorem dL_acts_508 : decode cL_acts 508 = .ok (.goto 4, 3) := by decide +kernel
theorem dL_acts_511 : decode cL_acts 511 = .ok (.iconst 0, 1) := by decide +kernel
theorem dL_acts_512 : decode cL_acts 512 = .ok (.ireturn, 1) := by decide +kernel
theorem dL_holds_0 : decode cL_holds 0 = .ok (.aload_n 0, 1) := by decide +kernel
theorem dL_holds_1 : decode cL_holds 1 = .ok (.invokevirtual 238, 3) := by decide +kernel
theorem dL_holds_4 : decode cL_holds 4 = .ok (.ifCond .eq 5, 3) := by decide +kernel
theorem dL_holds_7 : decode cL_holds 7 = .ok (.iconst 0, 1) := by decide +kernel
theorem dL_holds_8 : decode cL_holds 8 = .ok (.ireturn, 1) := by decide +kernel
theorem dL_holds_9 : decode cL_holds 9 = .ok (.iconst 0, 1) := by decide +kernel
theorem dL_holds_10 : decode cL_holds 10 = .ok (.istore_n 1, 1) := by decide +kernel
theorem dL_holds_11 : decode cL_holds 11 = .ok (.iconst 0, 1) := by decide +kernel
theorem dL_holds_12 : decode cL_holds 12 = .ok (.istore_n 2, 1) := by decide +kernel
theorem dL_holds_13 : decode cL_holds 13 = .ok (.iconst 0, 1) := by decide +kernel
theorem dL_holds_14 : decode cL_holds 14 = .ok (.istore_n 3, 1) := by decide +kernel
theorem dL_holds_15 : decode cL_holds 15 = .ok (.iconst (-1), 1) := by decide +kernel
theorem dL_holds_16 : decode cL_holds 16 = .ok (.istore 4, 2) := by decide +kernel
theorem dL_holds_18 : decode cL_holds 18 = .ok (.iconst 0, 1) := by decide +kernel
theorem dL_holds_19 : decode cL_holds 19 = .ok (.istore 5, 2) := by decide +kernel
theorem dL_holds_21 : decode cL_holds 21 = .ok (.iload 5, 2) := by decide +kernel
theorem dL_holds_23 : decode cL_holds 23 = .ok (.aload_n 0, 1) := by decide +kernel
theorem dL_holds_24 : decode cL_holds 24 = .ok (.invokevirtual 51, 3) := by decide +kernel
theorem dL_holds_27 : decode cL_holds 27 = .ok (.if_icmp .ge 116, 3) := by decide +kernel
theorem dL_holds_30 : decode cL_holds 30 = .ok (.iload_n 3, 1) := by decide +kernel
theorem dL_holds_31 : decode cL_holds 31 = .ok (.aload_n 0, 1) := by decide +kernel
theorem dL_holds_32 : decode cL_holds 32 = .ok (.iload 5, 2) := by decide +kernel
theorem dL_holds_34 : decode cL_holds 34 = .ok (.invokevirtual 143, 3) := by decide +kernel
theorem dL_holds_37 : decode cL_holds 37 = .ok (.iadd, 1) := by decide +kernel
theorem dL_holds_38 : decode cL_holds 38 = .ok (.istore_n 3, 1) := by decide +kernel
theorem dL_holds_39 : decode cL_holds 39 = .ok (.aload_n 0, 1) := by decide +kernel
theorem dL_holds_40 : decode cL_holds 40 = .ok (.iload 5, 2) := by decide +kernel
theorem dL_holds_42 : decode cL_holds 42 = .ok (.invokevirtual 137, 3) := by decide +kernel
theorem dL_holds_45 : decode cL_holds 45 = .ok (.ifCond .eq 20, 3) := by decide +kernel
theorem dL_holds_48 : decode cL_holds 48 = .ok (.aload_n 0, 1) := by decide +kernel
theorem dL_holds_49 : decode cL_holds 49 = .ok (.iload 5, 2) := by decide +kernel
theorem dL_holds_51 : decode cL_holds 51 = .ok (.invokevirtual 241, 3) := by decide +kernel
theorem dL_holds_54 : decode cL_holds 54 = .ok (.aload_n 0, 1) := by decide +kernel
theorem dL_holds_55 : decode cL_holds 55 = .ok (.iload 5, 2) := by decide +kernel
theorem dL_holds_57 : decode cL_holds 57 = .ok (.invokevirtual 137, 3) := by decide +kernel
theorem dL_holds_60 : decode cL_holds 60 = .ok (.if_icmp .eq 77, 3) := by decide +kernel
theorem dL_holds_63 : decode cL_holds 63 = .ok (.iconst 0, 1) := by decide +kernel
theorem dL_holds_64 : decode cL_holds 64 = .ok (.ireturn, 1) := by decide +kernel
theorem dL_holds_65 : decode cL_holds 65 = .ok (.iinc 1 1, 3) := by decide +kernel
theorem dL_holds_68 : decode cL_holds 68 = .ok (.aload_n 0, 1) := by decide +kernel
theorem dL_holds_69 : decode cL_holds 69 = .ok (.iload 5, 2) := by decide +kernel
theorem dL_holds_71 : decode cL_holds 71 = .ok (.invokevirtual 151, 3) := by decide +kernel
theorem dL_holds_74 : decode cL_holds 74 = .ok (.aload_n 0, 1) := by decide +kernel
theorem dL_holds_75 : decode cL_holds 75 = .ok (.iload 5, 2) := by decide +kernel
theorem dL_holds_77 : decode cL_holds 77 = .ok (.invokevirtual 158, 3) := by decide +kernel
theorem dL_holds_80 : decode cL_holds 80 = .ok (.invokestatic 244, 3) := by decide +kernel
theorem dL_holds_83 : decode cL_holds 83 = .ok (.istore 6, 2) := by decide +kernel
theorem dL_holds_85 : decode cL_holds 85 = .ok (.iload 4, 2) := by decide +kernel
theorem dL_holds_87 : decode cL_holds 87 = .ok (.ifCond .ge 8, 3) := by decide +kernel
theorem dL_holds_90 : decode cL_holds 90 = .ok (.iload 6, 2) := by decide +kernel
theorem dL_holds_92 : decode cL_holds 92 = .ok (.goto 10, 3) := by decide +kernel
theorem dL_holds_95 : decode cL_holds 95 = .ok (.iload 4, 2) := by decide +kernel
theorem dL_holds_97 : decode cL_holds 97 = .ok (.iload 6, 2) := by decide +kernel
theorem dL_holds_99 : decode cL_holds 99 = .ok (.invokestatic 244, 3) := by decide +kernel
theorem dL_holds_102 : decode cL_holds 102 = .ok (.istore 4, 2) := by decide +kernel
theorem dL_holds_104 : decode cL_holds 104 = .ok (.iload 6, 2) := by decide +kernel
theorem dL_holds_106 : decode cL_holds 106 = .ok (.aload_n 0, 1) := by decide +kernel
theorem dL_holds_107 : decode cL_holds 107 = .ok (.invokevirtual 57, 3) := by decide +kernel
theorem dL_holds_110 : decode cL_holds 110 = .ok (.if_icmp .le 25, 3) := by decide +kernel
theorem dL_holds_113 : decode cL_holds 113 = .ok (.aload_n 0, 1) := by decide +kernel
theorem dL_holds_114 : decode cL_holds 114 = .ok (.aload_n 0, 1) := by decide +kernel
theorem dL_holds_115 : decode cL_holds 115 = .ok (.iload 5, 2) := by decide +kernel
theorem dL_holds_117 : decode cL_holds 117 = .ok (.invokevirtual 131, 3) := by decide +kernel
theorem dL_holds_120 : decode cL_holds 120 = .ok (.invokevirtual 121, 3) := by decide +kernel
theorem dL_holds_123 : decode cL_holds 123 = .ok (.ifCond .ne 12, 3) := by decide +kernel
theorem dL_holds_126 : decode cL_holds 126 = .ok (.aload_n 0, 1) := by decide +kernel
theorem dL_holds_127 : decode cL_holds 127 = .ok (.iload 5, 2) := by decide +kernel
theorem dL_holds_129 : decode cL_holds 129 = .ok (.invokevirtual 241, 3) := by decide +kernel
theorem dL_holds_132 : decode cL_holds 132 = .ok (.ifCond .ne 5, 3) := by decide +kernel
theorem dL_holds_135 : decode cL_holds 135 = .ok (.iconst 0, 1) := by decide +kernel
theorem dL_holds_136 : decode cL_holds 136 = .ok (.ireturn, 1) := by decide +kernel
theorem dL_holds_137 : decode cL_holds 137 = .ok (.iinc 5 1, 3) := by decide +kernel
theorem dL_holds_140 : decode cL_holds 140 = .ok (.goto (-119), 3) := by decide +kernel
theorem dL_holds_143 : decode cL_holds 143 = .ok (.iconst 0, 1) := by decide +kernel
theorem dL_holds_144 : decode cL_holds 144 = .ok (.istore 5, 2) := by decide +kernel
theorem dL_holds_146 : decode cL_holds 146 = .ok (.iload 5, 2) := by decide +kernel
theorem dL_holds_148 : decode cL_holds 148 = .ok (.aload_n 0, 1) := by decide +kernel
theorem dL_holds_149 : decode cL_holds 149 = .ok (.invokevirtual 45, 3) := by decide +kernel
theorem dL_holds_152 : decode cL_holds 152 = .ok (.if_icmp .ge 53, 3) := by decide +kernel
theorem dL_holds_155 : decode cL_holds 155 = .ok (.iload_n 2, 1) := by decide +kernel
theorem dL_holds_156 : decode cL_holds 156 = .ok (.aload_n 0, 1) := by decide +kernel
theorem dL_holds_157 : decode cL_holds 157 = .ok (.iload 5, 2) := by decide +kernel
theorem dL_holds_159 : decode cL_holds 159 = .ok (.invokevirtual 125, 3) := by decide +kernel
theorem dL_holds_162 : decode cL_holds 162 = .ok (.iadd, 1) := by decide +kernel
theorem dL_holds_163 : decode cL_holds 163 = .ok (.istore_n 2, 1) := by decide +kernel
theorem dL_holds_164 : decode cL_holds 164 = .ok (.aload_n 0, 1) := by decide +kernel
theorem dL_holds_165 : decode cL_holds 165 = .ok (.iload 5, 2) := by decide +kernel
theorem dL_holds_167 : decode cL_holds 167 = .ok (.invokevirtual 112, 3) := by decide +kernel
theorem dL_holds_170 : decode cL_holds 170 = .ok (.ifCond .lt 27, 3) := by decide +kernel
theorem dL_holds_173 : decode cL_holds 173 = .ok (.aload_n 0, 1) := by decide +kernel
theorem dL_holds_174 : decode cL_holds 174 = .ok (.iload 5, 2) := by decide +kernel
theorem dL_holds_176 : decode cL_holds 176 = .ok (.invokevirtual 121, 3) := by decide +kernel
theorem dL_holds_179 : decode cL_holds 179 = .ok (.aload_n 0, 1) := by decide +kernel
theorem dL_holds_180 : decode cL_holds 180 = .ok (.iload 5, 2) := by decide +kernel
theorem dL_holds_182 : decode cL_holds 182 = .ok (.invokevirtual 115, 3) := by decide +kernel
theorem dL_holds_185 : decode cL_holds 185 = .ok (.iconst 2, 1) := by decide +kernel
theorem dL_holds_186 : decode cL_holds 186 = .ok (.if_icmp .le 7, 3) := by decide +kernel
theorem dL_holds_189 : decode cL_holds 189 = .ok (.iconst 1, 1) := by decide +kernel
theorem dL_holds_190 : decode cL_holds 190 = .ok (.goto 4, 3) := by decide +kernel
theorem dL_holds_193 : decode cL_holds 193 = .ok (.iconst 0, 1) := by decide +kernel
theorem dL_holds_194 : decode cL_holds 194 = .ok (.if_icmp .eq 5, 3) := by decide +kernel
theorem dL_holds_197 : decode cL_holds 197 = .ok (.iconst 0, 1) := by decide +kernel
theorem dL_holds_198 : decode cL_holds 198 = .ok (.ireturn, 1) := by decide +kernel
theorem dL_holds_199 : decode cL_holds 199 = .ok (.iinc 5 1, 3) := by decide +kernel
theorem dL_holds_202 : decode cL_holds 202 = .ok (.goto (-56), 3) := by decide +kernel
theorem dL_holds_205 : decode cL_holds 205 = .ok (.iload_n 1, 1) := by decide +kernel
theorem dL_holds_206 : decode cL_holds 206 = .ok (.aload_n 0, 1) := by decide +kernel
theorem dL_holds_207 : decode cL_holds 207 = .ok (.invokevirtual 249, 3) := by decide +kernel
theorem dL_holds_210 : decode cL_holds 210 = .ok (.if_icmp .ne 32, 3) := by decide +kernel
theorem dL_holds_213 : decode cL_holds 213 = .ok (.iload_n 2, 1) := by decide +kernel
theorem dL_holds_214 : decode cL_holds 214 = .ok (.aload_n 0, 1) := by decide +kernel
theorem dL_holds_215 : decode cL_holds 215 = .ok (.invokevirtual 72, 3) := by decide +kernel
theorem dL_holds_218 : decode cL_holds 218 = .ok (.if_icmp .ne 24, 3) := by decide +kernel
theorem dL_holds_221 : decode cL_holds 221 = .ok (.iload_n 3, 1) := by decide +kernel
theorem dL_holds_222 : decode cL_holds 222 = .ok (.aload_n 0, 1) := by decide +kernel
theorem dL_holds_223 : decode cL_holds 223 = .ok (.invokevirtual 62, 3) := by decide +kernel
theorem dL_holds_226 : decode cL_holds 226 = .ok (.if_icmp .ne 16, 3) := by decide +kernel
theorem dL_holds_229 : decode cL_holds 229 = .ok (.iload 4, 2) := by decide +kernel
theorem dL_holds_231 : decode cL_holds 231 = .ok (.aload_n 0, 1) := by decide +kernel
theorem dL_holds_232 : decode cL_holds 232 = .ok (.invokevirtual 252, 3) := by decide +kernel
theorem dL_holds_235 : decode cL_holds 235 = .ok (.if_icmp .ne 7, 3) := by decide +kernel
theorem dL_holds_238 : decode cL_holds 238 = .ok (.iconst 1, 1) := by decide +kernel
theorem dL_holds_239 : decode cL_holds 239 = .ok (.goto 4, 3) := by decide +kernel
theorem dL_holds_242 : decode cL_holds 242 = .ok (.iconst 0, 1) := by decide +kernel
theorem dL_holds_243 : decode cL_holds 243 = .ok (.ireturn, 1) := by decide +kernel
theorem dL_law_0 : decode cL_law 0 = .ok (.aload_n 0, 1) := by decide +kernel
theorem dL_law_1 : decode cL_law 1 = .ok (.invokestatic 255, 3) := by decide +kernel
theorem dL_law_4 : decode cL_law 4 = .ok (.astore_n 1, 1) := by decide +kernel
theorem dL_law_5 : decode cL_law 5 = .ok (.new 27, 3) := by decide +kernel
theorem dL_law_8 : decode cL_law 8 = .ok (.dup, 1) := by decide +kernel
theorem dL_law_9 : decode cL_law 9 = .ok (.invokespecial 259, 3) := by decide +kernel
theorem dL_law_12 : decode cL_law 12 = .ok (.astore_n 2, 1) := by decide +kernel
theorem dL_law_13 : decode cL_law 13 = .ok (.aload_n 2, 1) := by decide +kernel
theorem dL_law_14 : decode cL_law 14 = .ok (.aload_n 1, 1) := by decide +kernel
theorem dL_law_15 : decode cL_law 15 = .ok (.getfield 260, 3) := by decide +kernel
theorem dL_law_18 : decode cL_law 18 = .ok (.invokestatic 180, 3) := by decide +kernel
theorem dL_law_21 : decode cL_law 21 = .ok (.ifCond .eq 14, 3) := by decide +kernel
theorem dL_law_24 : decode cL_law 24 = .ok (.aload_n 2, 1) := by decide +kernel
theorem dL_law_25 : decode cL_law 25 = .ok (.invokevirtual 264, 3) := by decide +kernel
theorem dL_law_28 : decode cL_law 28 = .ok (.aload_n 1, 1) := by decide +kernel
theorem dL_law_29 : decode cL_law 29 = .ok (.getfield 54, 3) := by decide +kernel
theorem dL_law_32 : decode cL_law 32 = .ok (.if_icmp .eq 5, 3) := by decide +kernel
theorem dL_law_35 : decode cL_law 35 = .ok (.iconst 0, 1) := by decide +kernel
theorem dL_law_36 : decode cL_law 36 = .ok (.ireturn, 1) := by decide +kernel
theorem dL_law_37 : decode cL_law 37 = .ok (.iconst 0, 1) := by decide +kernel
theorem dL_law_38 : decode cL_law 38 = .ok (.istore_n 3, 1) := by decide +kernel
theorem dL_law_39 : decode cL_law 39 = .ok (.iload_n 3, 1) := by decide +kernel
theorem dL_law_40 : decode cL_law 40 = .ok (.bipush 40, 2) := by decide +kernel
theorem dL_law_42 : decode cL_law 42 = .ok (.if_icmp .ge 28, 3) := by decide +kernel
theorem dL_law_45 : decode cL_law 45 = .ok (.aload_n 2, 1) := by decide +kernel
theorem dL_law_46 : decode cL_law 46 = .ok (.aload_n 1, 1) := by decide +kernel
theorem dL_law_47 : decode cL_law 47 = .ok (.aload_n 0, 1) := by decide +kernel
theorem dL_law_48 : decode cL_law 48 = .ok (.iload_n 3, 1) := by decide +kernel
theorem dL_law_49 : decode cL_law 49 = .ok (.invokestatic 267, 3) := by decide +kernel
theorem dL_law_52 : decode cL_law 52 = .ok (.ifCond .eq 10, 3) := by decide +kernel
theorem dL_law_55 : decode cL_law 55 = .ok (.aload_n 2, 1) := by decide +kernel
theorem dL_law_56 : decode cL_law 56 = .ok (.invokestatic 271, 3) := by decide +kernel
theorem dL_law_59 : decode cL_law 59 = .ok (.ifCond .ne 5, 3) := by decide +kernel
theorem dL_law_62 : decode cL_law 62 = .ok (.iconst 0, 1) := by decide +kernel
theorem dL_law_63 : decode cL_law 63 = .ok (.ireturn, 1) := by decide +kernel
theorem dL_law_64 : decode cL_law 64 = .ok (.iinc 3 1, 3) := by decide +kernel
theorem dL_law_67 : decode cL_law 67 = .ok (.goto (-28), 3) := by decide +kernel
theorem dL_law_70 : decode cL_law 70 = .ok (.aload_n 2, 1) := by decide +kernel
theorem dL_law_71 : decode cL_law 71 = .ok (.aload_n 1, 1) := by decide +kernel
theorem dL_law_72 : decode cL_law 72 = .ok (.invokestatic 275, 3) := by decide +kernel
theorem dL_law_75 : decode cL_law 75 = .ok (.ifCond .ne 5, 3) := by decide +kernel
theorem dL_law_78 : decode cL_law 78 = .ok (.iconst 0, 1) := by decide +kernel
theorem dL_law_79 : decode cL_law 79 = .ok (.ireturn, 1) := by decide +kernel
theorem dL_law_80 : decode cL_law 80 = .ok (.bipush 30, 2) := by decide +kernel
theorem dL_law_82 : decode cL_law 82 = .ok (.newarray .int, 2) := by decide +kernel
theorem dL_law_84 : decode cL_law 84 = .ok (.astore_n 3, 1) := by decide +kernel
theorem dL_law_85 : decode cL_law 85 = .ok (.iconst 0, 1) := by decide +kernel
theorem dL_law_86 : decode cL_law 86 = .ok (.istore 4, 2) := by decide +kernel
theorem dL_law_88 : decode cL_law 88 = .ok (.iload 4, 2) := by decide +kernel
theorem dL_law_90 : decode cL_law 90 = .ok (.aload_n 1, 1) := by decide +kernel
theorem dL_law_91 : decode cL_law 91 = .ok (.getfield 54, 3) := by decide +kernel
theorem dL_law_94 : decode cL_law 94 = .ok (.if_icmp .ge 19, 3) := by decide +kernel
theorem dL_law_97 : decode cL_law 97 = .ok (.aload_n 3, 1) := by decide +kernel
theorem dL_law_98 : decode cL_law 98 = .ok (.iload 4, 2) := by decide +kernel
theorem dL_law_100 : decode cL_law 100 = .ok (.aload_n 2, 1) := by decide +kernel
theorem dL_law_101 : decode cL_law 101 = .ok (.iload 4, 2) := by decide +kernel
theorem dL_law_103 : decode cL_law 103 = .ok (.invokevirtual 241, 3) := by decide +kernel
theorem dL_law_106 : decode cL_law 106 = .ok (.iastore, 1) := by decide +kernel
theorem dL_law_107 : decode cL_law 107 = .ok (.iinc 4 1, 3) := by decide +kernel
theorem dL_law_110 : decode cL_law 110 = .ok (.goto (-22), 3) := by decide +kernel
theorem dL_law_113 : decode cL_law 113 = .ok (.iconst 0, 1) := by decide +kernel
theorem dL_law_114 : decode cL_law 114 = .ok (.istore 4, 2) := by decide +kernel
theorem dL_law_116 : decode cL_law 116 = .ok (.iload 4, 2) := by decide +kernel
theorem dL_law_118 : decode cL_law 118 = .ok (.sipush 200, 3) := by decide +kernel
theorem dL_law_121 : decode cL_law 121 = .ok (.if_icmp .ge 51, 3) := by decide +kernel
theorem dL_law_124 : decode cL_law 124 = .ok (.aload_n 2, 1) := by decide +kernel
theorem dL_law_125 : decode cL_law 125 = .ok (.invokevirtual 249, 3) := by decide +kernel
theorem dL_law_128 : decode cL_law 128 = .ok (.ifCond .le 44, 3) := by decide +kernel
theorem dL_law_131 : decode cL_law 131 = .ok (.aload_n 2, 1) := by decide +kernel
theorem dL_law_132 : decode cL_law 132 = .ok (.invokevirtual 252, 3) := by decide +kernel
theorem dL_law_135 : decode cL_law 135 = .ok (.istore 5, 2) := by decide +kernel
theorem dL_law_137 : decode cL_law 137 = .ok (.aload_n 2, 1) := by decide +kernel
theorem dL_law_138 : decode cL_law 138 = .ok (.iload 5, 2) := by decide +kernel
theorem dL_law_140 : decode cL_law 140 = .ok (.aload_n 2, 1) := by decide +kernel
theorem dL_law_141 : decode cL_law 141 = .ok (.invokevirtual 57, 3) := by decide +kernel
theorem dL_law_144 : decode cL_law 144 = .ok (.isub, 1) := by decide +kernel
theorem dL_law_145 : decode cL_law 145 = .ok (.invokevirtual 189, 3) := by decide +kernel
theorem dL_law_148 : decode cL_law 148 = .ok (.istore 6, 2) := by decide +kernel
theorem dL_law_150 : decode cL_law 150 = .ok (.aload_n 2, 1) := by decide +kernel
theorem dL_law_151 : decode cL_law 151 = .ok (.invokevirtual 57, 3) := by decide +kernel
theorem dL_law_154 : decode cL_law 154 = .ok (.iload 5, 2) := by decide +kernel
theorem dL_law_156 : decode cL_law 156 = .ok (.if_icmp .ne 8, 3) := by decide +kernel
theorem dL_law_159 : decode cL_law 159 = .ok (.iload 6, 2) := by decide +kernel
theorem dL_law_161 : decode cL_law 161 = .ok (.ifCond .ge 5, 3) := by decide +kernel
theorem dL_law_164 : decode cL_law 164 = .ok (.iconst 0, 1) := by decide +kernel
theorem dL_law_165 : decode cL_law 165 = .ok (.ireturn, 1) := by decide +kernel
theorem dL_law_166 : decode cL_law 166 = .ok (.iinc 4 1, 3) := by decide +kernel
theorem dL_law_169 : decode cL_law 169 = .ok (.goto (-53), 3) := by decide +kernel
theorem dL_law_172 : decode cL_law 172 = .ok (.iconst 0, 1) := by decide +kernel
theorem dL_law_173 : decode cL_law 173 = .ok (.istore 4, 2) := by decide +kernel
theorem dL_law_175 : decode cL_law 175 = .ok (.iload 4, 2) := by decide +kernel
theorem dL_law_177 : decode cL_law 177 = .ok (.aload_n 1, 1) := by decide +kernel
theorem dL_law_178 : decode cL_law 178 = .ok (.getfield 54, 3) := by decide +kernel
theorem dL_law_181 : decode cL_law 181 = .ok (.if_icmp .ge 24, 3) := by decide +kernel
theorem dL_law_184 : decode cL_law 184 = .ok (.aload_n 2, 1) := by decide +kernel
theorem dL_law_185 : decode cL_law 185 = .ok (.iload 4, 2) := by decide +kernel
theorem dL_law_187 : decode cL_law 187 = .ok (.invokevirtual 137, 3) := by decide +kernel
theorem dL_law_190 : decode cL_law 190 = .ok (.aload_n 3, 1) := by decide +kernel
theorem dL_law_191 : decode cL_law 191 = .ok (.iload 4, 2) := by decide +kernel
theorem dL_law_193 : decode cL_law 193 = .ok (.iaload, 1) := by decide +kernel
theorem dL_law_194 : decode cL_law 194 = .ok (.if_icmp .eq 5, 3) := by decide +kernel
theorem dL_law_197 : decode cL_law 197 = .ok (.iconst 0, 1) := by decide +kernel
theorem dL_law_198 : decode cL_law 198 = .ok (.ireturn, 1) := by decide +kernel
theorem dL_law_199 : decode cL_law 199 = .ok (.iinc 4 1, 3) := by decide +kernel
theorem dL_law_202 : decode cL_law 202 = .ok (.goto (-27), 3) := by decide +kernel
theorem dL_law_205 : decode cL_law 205 = .ok (.aload_n 2, 1) := by decide +kernel
theorem dL_law_206 : decode cL_law 206 = .ok (.invokevirtual 72, 3) := by decide +kernel
theorem dL_law_209 : decode cL_law 209 = .ok (.ifCond .ne 15, 3) := by decide +kernel
theorem dL_law_212 : decode cL_law 212 = .ok (.aload_n 2, 1) := by decide +kernel
theorem dL_law_213 : decode cL_law 213 = .ok (.invokevirtual 252, 3) := by decide +kernel
theorem dL_law_216 : decode cL_law 216 = .ok (.iconst (-1), 1) := by decide +kernel
theorem dL_law_217 : decode cL_law 217 = .ok (.if_icmp .ne 7, 3) := by decide +kernel
theorem dL_law_220 : decode cL_law 220 = .ok (.iconst 1, 1) := by decide +kernel
theorem dL_law_221 : decode cL_law 221 = .ok (.goto 4, 3) := by decide +kernel
theorem dL_law_224 : decode cL_law 224 = .ok (.iconst 0, 1) := by decide +kernel
theorem dL_law_225 : decode cL_law 225 = .ok (.ireturn, 1) := by decide +kernel
