theorem dX8_init_0 : decode cX8_init 0 = .ok (.aload_n 0, 1) := by decide +kernel
theorem dX8_init_1 : decode cX8_init 1 = .ok (.invokespecial 1, 3) := by decide +kernel
theorem dX8_init_4 : decode cX8_init 4 = .ok (.aload_n 0, 1) := by decide +kernel
theorem dX8_init_5 : decode cX8_init 5 = .ok (.iconst 1, 1) := by decide +kernel
theorem dX8_init_6 : decode cX8_init 6 = .ok (.putfield 7, 3) := by decide +kernel
theorem dX8_init_9 : decode cX8_init 9 = .ok (.aload_n 0, 1) := by decide +kernel
theorem dX8_init_10 : decode cX8_init 10 = .ok (.iconst 1, 1) := by decide +kernel
theorem dX8_init_11 : decode cX8_init 11 = .ok (.putfield 13, 3) := by decide +kernel
theorem dX8_init_14 : decode cX8_init 14 = .ok (.aload_n 0, 1) := by decide +kernel
theorem dX8_init_15 : decode cX8_init 15 = .ok (.bipush 16, 2) := by decide +kernel
theorem dX8_init_17 : decode cX8_init 17 = .ok (.newarray .int, 2) := by decide +kernel
theorem dX8_init_19 : decode cX8_init 19 = .ok (.putfield 16, 3) := by decide +kernel
theorem dX8_init_22 : decode cX8_init 22 = .ok (.aload_n 0, 1) := by decide +kernel
theorem dX8_init_23 : decode cX8_init 23 = .ok (.bipush 16, 2) := by decide +kernel
theorem dX8_init_25 : decode cX8_init 25 = .ok (.newarray .int, 2) := by decide +kernel
theorem dX8_init_27 : decode cX8_init 27 = .ok (.putfield 20, 3) := by decide +kernel
theorem dX8_init_30 : decode cX8_init 30 = .ok (.aload_n 0, 1) := by decide +kernel
theorem dX8_init_31 : decode cX8_init 31 = .ok (.bipush 16, 2) := by decide +kernel
theorem dX8_init_33 : decode cX8_init 33 = .ok (.newarray .int, 2) := by decide +kernel
theorem dX8_init_35 : decode cX8_init 35 = .ok (.putfield 23, 3) := by decide +kernel
theorem dX8_init_38 : decode cX8_init 38 = .ok (.aload_n 0, 1) := by decide +kernel
theorem dX8_init_39 : decode cX8_init 39 = .ok (.bipush 16, 2) := by decide +kernel
theorem dX8_init_41 : decode cX8_init 41 = .ok (.newarray .int, 2) := by decide +kernel
theorem dX8_init_43 : decode cX8_init 43 = .ok (.putfield 26, 3) := by decide +kernel
theorem dX8_init_46 : decode cX8_init 46 = .ok (.aload_n 0, 1) := by decide +kernel
theorem dX8_init_47 : decode cX8_init 47 = .ok (.bipush 16, 2) := by decide +kernel
theorem dX8_init_49 : decode cX8_init 49 = .ok (.newarray .int, 2) := by decide +kernel
theorem dX8_init_51 : decode cX8_init 51 = .ok (.putfield 29, 3) := by decide +kernel
theorem dX8_init_54 : decode cX8_init 54 = .ok (.aload_n 0, 1) := by decide +kernel
theorem dX8_init_55 : decode cX8_init 55 = .ok (.bipush 16, 2) := by decide +kernel
theorem dX8_init_57 : decode cX8_init 57 = .ok (.newarray .int, 2) := by decide +kernel
theorem dX8_init_59 : decode cX8_init 59 = .ok (.putfield 32, 3) := by decide +kernel
theorem dX8_init_62 : decode cX8_init 62 = .ok (.aload_n 0, 1) := by decide +kernel
theorem dX8_init_63 : decode cX8_init 63 = .ok (.bipush 16, 2) := by decide +kernel
theorem dX8_init_65 : decode cX8_init 65 = .ok (.newarray .int, 2) := by decide +kernel
theorem dX8_init_67 : decode cX8_init 67 = .ok (.putfield 35, 3) := by decide +kernel
theorem dX8_init_70 : decode cX8_init 70 = .ok (.aload_n 0, 1) := by decide +kernel
theorem dX8_init_71 : decode cX8_init 71 = .ok (.bipush 16, 2) := by decide +kernel
theorem dX8_init_73 : decode cX8_init 73 = .ok (.newarray .int, 2) := by decide +kernel
theorem dX8_init_75 : decode cX8_init 75 = .ok (.putfield 38, 3) := by decide +kernel
theorem dX8_init_78 : decode cX8_init 78 = .ok (.aload_n 0, 1) := by decide +kernel
theorem dX8_init_79 : decode cX8_init 79 = .ok (.bipush 16, 2) := by decide +kernel
theorem dX8_init_81 : decode cX8_init 81 = .ok (.newarray .int, 2) := by decide +kernel
theorem dX8_init_83 : decode cX8_init 83 = .ok (.putfield 41, 3) := by decide +kernel
theorem dX8_init_86 : decode cX8_init 86 = .ok (.aload_n 0, 1) := by decide +kernel
theorem dX8_init_87 : decode cX8_init 87 = .ok (.sipush 500, 3) := by decide +kernel
theorem dX8_init_90 : decode cX8_init 90 = .ok (.newarray .int, 2) := by decide +kernel
theorem dX8_init_92 : decode cX8_init 92 = .ok (.putfield 44, 3) := by decide +kernel
theorem dX8_init_95 : decode cX8_init 95 = .ok (.aload_n 0, 1) := by decide +kernel
theorem dX8_init_96 : decode cX8_init 96 = .ok (.sipush 500, 3) := by decide +kernel
theorem dX8_init_99 : decode cX8_init 99 = .ok (.newarray .int, 2) := by decide +kernel
theorem dX8_init_101 : decode cX8_init 101 = .ok (.putfield 47, 3) := by decide +kernel
theorem dX8_init_104 : decode cX8_init 104 = .ok (.aload_n 0, 1) := by decide +kernel
theorem dX8_init_105 : decode cX8_init 105 = .ok (.bipush 16, 2) := by decide +kernel
theorem dX8_init_107 : decode cX8_init 107 = .ok (.newarray .int, 2) := by decide +kernel
theorem dX8_init_109 : decode cX8_init 109 = .ok (.putfield 50, 3) := by decide +kernel
theorem dX8_init_112 : decode cX8_init 112 = .ok (.aload_n 0, 1) := by decide +kernel
theorem dX8_init_113 : decode cX8_init 113 = .ok (.sipush 500, 3) := by decide +kernel
theorem dX8_init_116 : decode cX8_init 116 = .ok (.newarray .boolean, 2) := by decide +kernel
theorem dX8_init_118 : decode cX8_init 118 = .ok (.putfield 53, 3) := by decide +kernel
theorem dX8_init_121 : decode cX8_init 121 = .ok (.aload_n 0, 1) := by decide +kernel
theorem dX8_init_122 : decode cX8_init 122 = .ok (.bipush 16, 2) := by decide +kernel
theorem dX8_init_124 : decode cX8_init 124 = .ok (.newarray .int, 2) := by decide +kernel
theorem dX8_init_126 : decode cX8_init 126 = .ok (.putfield 57, 3) := by decide +kernel
theorem dX8_init_129 : decode cX8_init 129 = .ok (.aload_n 0, 1) := by decide +kernel
theorem dX8_init_130 : decode cX8_init 130 = .ok (.bipush 16, 2) := by decide +kernel
theorem dX8_init_132 : decode cX8_init 132 = .ok (.newarray .int, 2) := by decide +kernel
theorem dX8_init_134 : decode cX8_init 134 = .ok (.putfield 60, 3) := by decide +kernel
theorem dX8_init_137 : decode cX8_init 137 = .ok (.aload_n 0, 1) := by decide +kernel
theorem dX8_init_138 : decode cX8_init 138 = .ok (.bipush 16, 2) := by decide +kernel
theorem dX8_init_140 : decode cX8_init 140 = .ok (.newarray .int, 2) := by decide +kernel
theorem dX8_init_142 : decode cX8_init 142 = .ok (.putfield 63, 3) := by decide +kernel
theorem dX8_init_145 : decode cX8_init 145 = .ok (.aload_n 0, 1) := by decide +kernel
theorem dX8_init_146 : decode cX8_init 146 = .ok (.bipush 16, 2) := by decide +kernel
theorem dX8_init_148 : decode cX8_init 148 = .ok (.newarray .boolean, 2) := by decide +kernel
theorem dX8_init_150 : decode cX8_init 150 = .ok (.putfield 66, 3) := by decide +kernel
theorem dX8_init_153 : decode cX8_init 153 = .ok (.aload_n 0, 1) := by decide +kernel
theorem dX8_init_154 : decode cX8_init 154 = .ok (.bipush 16, 2) := by decide +kernel
theorem dX8_init_156 : decode cX8_init 156 = .ok (.newarray .boolean, 2) := by decide +kernel
theorem dX8_init_158 : decode cX8_init 158 = .ok (.putfield 69, 3) := by decide +kernel
theorem dX8_init_161 : decode cX8_init 161 = .ok (.aload_n 0, 1) := by decide +kernel
theorem dX8_init_162 : decode cX8_init 162 = .ok (.sipush 160, 3) := by decide +kernel
theorem dX8_init_165 : decode cX8_init 165 = .ok (.newarray .int, 2) := by decide +kernel
theorem dX8_init_167 : decode cX8_init 167 = .ok (.putfield 72, 3) := by decide +kernel
theorem dX8_init_170 : decode cX8_init 170 = .ok (.aload_n 0, 1) := by decide +kernel
theorem dX8_init_171 : decode cX8_init 171 = .ok (.bipush 10, 2) := by decide +kernel
theorem dX8_init_173 : decode cX8_init 173 = .ok (.newarray .int, 2) := by decide +kernel
theorem dX8_init_175 : decode cX8_init 175 = .ok (.putfield 75, 3) := by decide +kernel
theorem dX8_init_178 : decode cX8_init 178 = .ok (.aload_n 0, 1) := by decide +kernel
theorem dX8_init_179 : decode cX8_init 179 = .ok (.bipush 10, 2) := by decide +kernel
theorem dX8_init_181 : decode cX8_init 181 = .ok (.newarray .int, 2) := by decide +kernel
theorem dX8_init_183 : decode cX8_init 183 = .ok (.putfield 78, 3) := by decide +kernel
theorem dX8_init_186 : decode cX8_init 186 = .ok (.aload_n 0, 1) := by decide +kernel
theorem dX8_init_187 : decode cX8_init 187 = .ok (.bipush 16, 2) := by decide +kernel
theorem dX8_init_189 : decode cX8_init 189 = .ok (.newarray .int, 2) := by decide +kernel
theorem dX8_init_191 : decode cX8_init 191 = .ok (.putfield 81, 3) := by decide +kernel
theorem dX8_init_194 : decode cX8_init 194 = .ok (.aload_n 0, 1) := by decide +kernel
theorem dX8_init_195 : decode cX8_init 195 = .ok (.bipush 16, 2) := by decide +kernel
theorem dX8_init_197 : decode cX8_init 197 = .ok (.newarray .int, 2) := by decide +kernel
theorem dX8_init_199 : decode cX8_init 199 = .ok (.putfield 84, 3) := by decide +kernel
theorem dX8_init_202 : decode cX8_init 202 = .ok (.aload_n 0, 1) := by decide +kernel
theorem dX8_init_203 : decode cX8_init 203 = .ok (.bipush 8, 2) := by decide +kernel
theorem dX8_init_205 : decode cX8_init 205 = .ok (.newarray .int, 2) := by decide +kernel
theorem dX8_init_207 : decode cX8_init 207 = .ok (.putfield 87, 3) := by decide +kernel
theorem dX8_init_210 : decode cX8_init 210 = .ok (.aload_n 0, 1) := by decide +kernel
theorem dX8_init_211 : decode cX8_init 211 = .ok (.bipush 8, 2) := by decide +kernel
theorem dX8_init_213 : decode cX8_init 213 = .ok (.newarray .int, 2) := by decide +kernel
theorem dX8_init_215 : decode cX8_init 215 = .ok (.putfield 90, 3) := by decide +kernel
theorem dX8_init_218 : decode cX8_init 218 = .ok (.aload_n 0, 1) := by decide +kernel
theorem dX8_init_219 : decode cX8_init 219 = .ok (.bipush 60, 2) := by decide +kernel
theorem dX8_init_221 : decode cX8_init 221 = .ok (.newarray .int, 2) := by decide +kernel
theorem dX8_init_223 : decode cX8_init 223 = .ok (.putfield 93, 3) := by decide +kernel
theorem dX8_init_226 : decode cX8_init 226 = .ok (.aload_n 0, 1) := by decide +kernel
theorem dX8_init_227 : decode cX8_init 227 = .ok (.iconst 1, 1) := by decide +kernel
theorem dX8_init_228 : decode cX8_init 228 = .ok (.invokevirtual 96, 3) := by decide +kernel
theorem dX8_init_231 : decode cX8_init 231 = .ok (.aload_n 0, 1) := by decide +kernel
theorem dX8_init_232 : decode cX8_init 232 = .ok (.invokevirtual 100, 3) := by decide +kernel
theorem dX8_init_235 : decode cX8_init 235 = .ok (.return_, 1) := by decide +kernel
theorem dX8_thrown_0 : decode cX8_thrown 0 = .ok (.aload_n 0, 1) := by decide +kernel
theorem dX8_thrown_1 : decode cX8_thrown 1 = .ok (.getfield 103, 3) := by decide +kernel
theorem dX8_thrown_4 : decode cX8_thrown 4 = .ok (.ireturn, 1) := by decide +kernel
theorem dX8_isIn_0 : decode cX8_isIn 0 = .ok (.iload_n 0, 1) := by decide +kernel
theorem dX8_isIn_1 : decode cX8_isIn 1 = .ok (.iload_n 1, 1) := by decide +kernel
theorem dX8_isIn_2 : decode cX8_isIn 2 = .ok (.if_icmp .lt 12, 3) := by decide +kernel
theorem dX8_isIn_5 : decode cX8_isIn 5 = .ok (.iload_n 0, 1) := by decide +kernel
theorem dX8_isIn_6 : decode cX8_isIn 6 = .ok (.iload_n 2, 1) := by decide +kernel
theorem dX8_isIn_7 : decode cX8_isIn 7 = .ok (.if_icmp .gt 7, 3) := by decide +kernel
theorem dX8_isIn_10 : decode cX8_isIn 10 = .ok (.iconst 1, 1) := by decide +kernel
theorem dX8_isIn_11 : decode cX8_isIn 11 = .ok (.goto 4, 3) := by decide +kernel
theorem dX8_isIn_14 : decode cX8_isIn 14 = .ok (.iconst 0, 1) := by decide +kernel
theorem dX8_isIn_15 : decode cX8_isIn 15 = .ok (.ireturn, 1) := by decide +kernel
theorem dX8_isBlock_0 : decode cX8_isBlock 0 = .ok (.iload_n 1, 1) := by decide +kernel
theorem dX8_isBlock_1 : decode cX8_isBlock 1 = .ok (.iconst 0, 1) := by decide +kernel
theorem dX8_isBlock_2 : decode cX8_isBlock 2 = .ok (.aload_n 0, 1) := by decide +kernel
theorem dX8_isBlock_3 : decode cX8_isBlock 3 = .ok (.getfield 106, 3) := by decide +kernel
theorem dX8_isBlock_6 : decode cX8_isBlock 6 = .ok (.iconst 1, 1) := by decide +kernel
theorem dX8_isBlock_7 : decode cX8_isBlock 7 = .ok (.isub, 1) := by decide +kernel
theorem dX8_isBlock_8 : decode cX8_isBlock 8 = .ok (.invokestatic 109, 3) := by decide +kernel
theorem dX8_isBlock_11 : decode cX8_isBlock 11 = .ok (.ireturn, 1) := by decide +kernel
theorem dX8_begins_0 : decode cX8_begins 0 = .ok (.aload_n 0, 1) := by decide +kernel
theorem dX8_begins_1 : decode cX8_begins 1 = .ok (.iload_n 1, 1) := by decide +kernel
theorem dX8_begins_2 : decode cX8_begins 2 = .ok (.putfield 106, 3) := by decide +kernel
theorem dX8_begins_5 : decode cX8_begins 5 = .ok (.iconst 0, 1) := by decide +kernel
theorem dX8_begins_6 : decode cX8_begins 6 = .ok (.istore_n 2, 1) := by decide +kernel
theorem dX8_begins_7 : decode cX8_begins 7 = .ok (.iload_n 2, 1) := by decide +kernel
theorem dX8_begins_8 : decode cX8_begins 8 = .ok (.bipush 16, 2) := by decide +kernel
theorem dX8_begins_10 : decode cX8_begins 10 = .ok (.if_icmp .ge 65, 3) := by decide +kernel
theorem dX8_begins_13 : decode cX8_begins 13 = .ok (.aload_n 0, 1) := by decide +kernel
theorem dX8_begins_14 : decode cX8_begins 14 = .ok (.getfield 16, 3) := by decide +kernel
theorem dX8_begins_17 : decode cX8_begins 17 = .ok (.iload_n 2, 1) := by decide +kernel
theorem dX8_begins_18 : decode cX8_begins 18 = .ok (.iconst 0, 1) := by decide +kernel
theorem dX8_begins_19 : decode cX8_begins 19 = .ok (.iastore, 1) := by decide +kernel
theorem dX8_begins_20 : decode cX8_begins 20 = .ok (.aload_n 0, 1) := by decide +kernel
theorem dX8_begins_21 : decode cX8_begins 21 = .ok (.getfield 20, 3) := by decide +kernel
theorem dX8_begins_24 : decode cX8_begins 24 = .ok (.iload_n 2, 1) := by decide +kernel
theorem dX8_begins_25 : decode cX8_begins 25 = .ok (.iconst 2, 1) := by decide +kernel
theorem dX8_begins_26 : decode cX8_begins 26 = .ok (.iastore, 1) := by decide +kernel
theorem dX8_begins_27 : decode cX8_begins 27 = .ok (.aload_n 0, 1) := by decide +kernel
theorem dX8_begins_28 : decode cX8_begins 28 = .ok (.getfield 23, 3) := by decide +kernel
theorem dX8_begins_31 : decode cX8_begins 31 = .ok (.iload_n 2, 1) := by decide +kernel
theorem dX8_begins_32 : decode cX8_begins 32 = .ok (.iconst (-1), 1) := by decide +kernel
theorem dX8_begins_33 : decode cX8_begins 33 = .ok (.iastore, 1) := by decide +kernel
theorem dX8_begins_34 : decode cX8_begins 34 = .ok (.aload_n 0, 1) := by decide +kernel
theorem dX8_begins_35 : decode cX8_begins 35 = .ok (.getfield 26, 3) := by decide +kernel
theorem dX8_begins_38 : decode cX8_begins 38 = .ok (.iload_n 2, 1) := by decide +kernel
theorem dX8_begins_39 : decode cX8_begins 39 = .ok (.iconst (-1), 1) := by decide +kernel
theorem dX8_begins_40 : decode cX8_begins 40 = .ok (.iastore, 1) := by decide +kernel
theorem dX8_begins_41 : decode cX8_begins 41 = .ok (.aload_n 0, 1) := by decide +kernel
theorem dX8_begins_42 : decode cX8_begins 42 = .ok (.getfield 29, 3) := by decide +kernel
theorem dX8_begins_45 : decode cX8_begins 45 = .ok (.iload_n 2, 1) := by decide +kernel
theorem dX8_begins_46 : decode cX8_begins 46 = .ok (.iconst 0, 1) := by decide +kernel
theorem dX8_begins_47 : decode cX8_begins 47 = .ok (.iastore, 1) := by decide +kernel
theorem dX8_begins_48 : decode cX8_begins 48 = .ok (.aload_n 0, 1) := by decide +kernel
theorem dX8_begins_49 : decode cX8_begins 49 = .ok (.getfield 32, 3) := by decide +kernel
theorem dX8_begins_52 : decode cX8_begins 52 = .ok (.iload_n 2, 1) := by decide +kernel
theorem dX8_begins_53 : decode cX8_begins 53 = .ok (.iconst 0, 1) := by decide +kernel
theorem dX8_begins_54 : decode cX8_begins 54 = .ok (.iastore, 1) := by decide +kernel
theorem dX8_begins_55 : decode cX8_begins 55 = .ok (.aload_n 0, 1) := by decide +kernel
theorem dX8_begins_56 : decode cX8_begins 56 = .ok (.getfield 35, 3) := by decide +kernel
theorem dX8_begins_59 : decode cX8_begins 59 = .ok (.iload_n 2, 1) := by decide +kernel
theorem dX8_begins_60 : decode cX8_begins 60 = .ok (.iconst 0, 1) := by decide +kernel
theorem dX8_begins_61 : decode cX8_begins 61 = .ok (.iastore, 1) := by decide +kernel
theorem dX8_begins_62 : decode cX8_begins 62 = .ok (.aload_n 0, 1) := by decide +kernel
theorem dX8_begins_63 : decode cX8_begins 63 = .ok (.getfield 38, 3) := by decide +kernel
theorem dX8_begins_66 : decode cX8_begins 66 = .ok (.iload_n 2, 1) := by decide +kernel
theorem dX8_begins_67 : decode cX8_begins 67 = .ok (.iconst 0, 1) := by decide +kernel
theorem dX8_begins_68 : decode cX8_begins 68 = .ok (.iastore, 1) := by decide +kernel
theorem dX8_begins_69 : decode cX8_begins 69 = .ok (.iinc 2 1, 3) := by decide +kernel
theorem dX8_begins_72 : decode cX8_begins 72 = .ok (.goto (-65), 3) := by decide +kernel
theorem dX8_begins_75 : decode cX8_begins 75 = .ok (.return_, 1) := by decide +kernel
theorem dX8_ascends_0 : decode cX8_ascends 0 = .ok (.aload_n 0, 1) := by decide +kernel
theorem dX8_ascends_1 : decode cX8_ascends 1 = .ok (.aload_n 0, 1) := by decide +kernel
theorem dX8_ascends_2 : decode cX8_ascends 2 = .ok (.getfield 106, 3) := by decide +kernel
theorem dX8_ascends_5 : decode cX8_ascends 5 = .ok (.putfield 113, 3) := by decide +kernel
theorem dX8_ascends_8 : decode cX8_ascends 8 = .ok (.iconst 0, 1) := by decide +kernel
theorem dX8_ascends_9 : decode cX8_ascends 9 = .ok (.istore_n 1, 1) := by decide +kernel
theorem dX8_ascends_10 : decode cX8_ascends 10 = .ok (.iload_n 1, 1) := by decide +kernel
theorem dX8_ascends_11 : decode cX8_ascends 11 = .ok (.bipush 16, 2) := by decide +kernel
theorem dX8_ascends_13 : decode cX8_ascends 13 = .ok (.if_icmp .ge 16, 3) := by decide +kernel
theorem dX8_ascends_16 : decode cX8_ascends 16 = .ok (.aload_n 0, 1) := by decide +kernel
theorem dX8_ascends_17 : decode cX8_ascends 17 = .ok (.getfield 41, 3) := by decide +kernel
theorem dX8_ascends_20 : decode cX8_ascends 20 = .ok (.iload_n 1, 1) := by decide +kernel
theorem dX8_ascends_21 : decode cX8_ascends 21 = .ok (.iload_n 1, 1) := by decide +kernel
theorem dX8_ascends_22 : decode cX8_ascends 22 = .ok (.iastore, 1) := by decide +kernel
theorem dX8_ascends_23 : decode cX8_ascends 23 = .ok (.iinc 1 1, 3) := by decide +kernel
theorem dX8_ascends_26 : decode cX8_ascends 26 = .ok (.goto (-16), 3) := by decide +kernel
theorem dX8_ascends_29 : decode cX8_ascends 29 = .ok (.return_, 1) := by decide +kernel
theorem dX8_clear_0 : decode cX8_clear 0 = .ok (.aload_n 0, 1) := by decide +kernel
theorem dX8_clear_1 : decode cX8_clear 1 = .ok (.iload_n 1, 1) := by decide +kernel
theorem dX8_clear_2 : decode cX8_clear 2 = .ok (.iconst 1, 1) := by decide +kernel
theorem dX8_clear_3 : decode cX8_clear 3 = .ok (.bipush 16, 2) := by decide +kernel
theorem dX8_clear_5 : decode cX8_clear 5 = .ok (.invokestatic 109, 3) := by decide +kernel
theorem dX8_clear_8 : decode cX8_clear 8 = .ok (.ifCond .eq 7, 3) := by decide +kernel
theorem dX8_clear_11 : decode cX8_clear 11 = .ok (.iconst 0, 1) := by decide +kernel
theorem dX8_clear_12 : decode cX8_clear 12 = .ok (.goto 4, 3) := by decide +kernel
theorem dX8_clear_15 : decode cX8_clear 15 = .ok (.iconst 1, 1) := by decide +kernel
theorem dX8_clear_16 : decode cX8_clear 16 = .ok (.putfield 103, 3) := by decide +kernel
theorem dX8_clear_19 : decode cX8_clear 19 = .ok (.aload_n 0, 1) := by decide +kernel
theorem dX8_clear_20 : decode cX8_clear 20 = .ok (.getfield 103, 3) := by decide +kernel
theorem dX8_clear_23 : decode cX8_clear 23 = .ok (.ifCond .eq 5, 3) := by decide +kernel
theorem dX8_clear_26 : decode cX8_clear 26 = .ok (.iconst 0, 1) := by decide +kernel
theorem dX8_clear_27 : decode cX8_clear 27 = .ok (.ireturn, 1) := by decide +kernel
theorem dX8_clear_28 : decode cX8_clear 28 = .ok (.aload_n 0, 1) := by decide +kernel
theorem dX8_clear_29 : decode cX8_clear 29 = .ok (.getfield 106, 3) := by decide +kernel
theorem dX8_clear_32 : decode cX8_clear 32 = .ok (.istore_n 2, 1) := by decide +kernel
theorem dX8_clear_33 : decode cX8_clear 33 = .ok (.aload_n 0, 1) := by decide +kernel
theorem dX8_clear_34 : decode cX8_clear 34 = .ok (.iload_n 1, 1) := by decide +kernel
theorem dX8_clear_35 : decode cX8_clear 35 = .ok (.invokevirtual 96, 3) := by decide +kernel
theorem dX8_clear_38 : decode cX8_clear 38 = .ok (.aload_n 0, 1) := by decide +kernel
theorem dX8_clear_39 : decode cX8_clear 39 = .ok (.invokevirtual 100, 3) := by decide +kernel
theorem dX8_clear_42 : decode cX8_clear 42 = .ok (.aload_n 0, 1) := by decide +kernel
theorem dX8_clear_43 : decode cX8_clear 43 = .ok (.iconst 0, 1) := by decide +kernel
theorem dX8_clear_44 : decode cX8_clear 44 = .ok (.putfield 116, 3) := by decide +kernel
theorem dX8_clear_47 : decode cX8_clear 47 = .ok (.iload_n 2, 1) := by decide +kernel
theorem dX8_clear_48 : decode cX8_clear 48 = .ok (.ireturn, 1) := by decide +kernel
theorem dX8_setSize_0 : decode cX8_setSize 0 = .ok (.aload_n 0, 1) := by decide +kernel
theorem dX8_setSize_1 : decode cX8_setSize 1 = .ok (.aload_n 0, 1) := by decide +kernel
theorem dX8_setSize_2 : decode cX8_setSize 2 = .ok (.iload_n 1, 1) := by decide +kernel
theorem dX8_setSize_3 : decode cX8_setSize 3 = .ok (.invokevirtual 119, 3) := by decide +kernel
theorem dX8_setSize_6 : decode cX8_setSize 6 = .ok (.ifCond .ne 7, 3) := by decide +kernel
theorem dX8_setSize_9 : decode cX8_setSize 9 = .ok (.iconst 1, 1) := by decide +kernel
theorem dX8_setSize_10 : decode cX8_setSize 10 = .ok (.goto 18, 3) := by decide +kernel
theorem dX8_setSize_13 : decode cX8_setSize 13 = .ok (.iload_n 2, 1) := by decide +kernel
theorem dX8_setSize_14 : decode cX8_setSize 14 = .ok (.iconst 0, 1) := by decide +kernel
theorem dX8_setSize_15 : decode cX8_setSize 15 = .ok (.bipush 60, 2) := by decide +kernel
theorem dX8_setSize_17 : decode cX8_setSize 17 = .ok (.invokestatic 109, 3) := by decide +kernel
theorem dX8_setSize_20 : decode cX8_setSize 20 = .ok (.ifCond .eq 7, 3) := by decide +kernel
theorem dX8_setSize_23 : decode cX8_setSize 23 = .ok (.iconst 0, 1) := by decide +kernel
theorem dX8_setSize_24 : decode cX8_setSize 24 = .ok (.goto 4, 3) := by decide +kernel
theorem dX8_setSize_27 : decode cX8_setSize 27 = .ok (.iconst 2, 1) := by decide +kernel
theorem dX8_setSize_28 : decode cX8_setSize 28 = .ok (.putfield 103, 3) := by decide +kernel
theorem dX8_setSize_31 : decode cX8_setSize 31 = .ok (.aload_n 0, 1) := by decide +kernel
theorem dX8_setSize_32 : decode cX8_setSize 32 = .ok (.getfield 103, 3) := by decide +kernel
theorem dX8_setSize_35 : decode cX8_setSize 35 = .ok (.ifCond .eq 5, 3) := by decide +kernel
theorem dX8_setSize_38 : decode cX8_setSize 38 = .ok (.iconst 0, 1) := by decide +kernel
theorem dX8_setSize_39 : decode cX8_setSize 39 = .ok (.ireturn, 1) := by decide +kernel
theorem dX8_setSize_40 : decode cX8_setSize 40 = .ok (.aload_n 0, 1) := by decide +kernel
theorem dX8_setSize_41 : decode cX8_setSize 41 = .ok (.getfield 16, 3) := by decide +kernel
theorem dX8_setSize_44 : decode cX8_setSize 44 = .ok (.iload_n 1, 1) := by decide +kernel
theorem dX8_setSize_45 : decode cX8_setSize 45 = .ok (.iaload, 1) := by decide +kernel
theorem dX8_setSize_46 : decode cX8_setSize 46 = .ok (.istore_n 3, 1) := by decide +kernel
theorem dX8_setSize_47 : decode cX8_setSize 47 = .ok (.aload_n 0, 1) := by decide +kernel
theorem dX8_setSize_48 : decode cX8_setSize 48 = .ok (.getfield 16, 3) := by decide +kernel
theorem dX8_setSize_51 : decode cX8_setSize 51 = .ok (.iload_n 1, 1) := by decide +kernel
theorem dX8_setSize_52 : decode cX8_setSize 52 = .ok (.iload_n 2, 1) := by decide +kernel
theorem dX8_setSize_53 : decode cX8_setSize 53 = .ok (.iastore, 1) := by decide +kernel
theorem dX8_setSize_54 : decode cX8_setSize 54 = .ok (.iload_n 3, 1) := by decide +kernel
theorem dX8_setSize_55 : decode cX8_setSize 55 = .ok (.ireturn, 1) := by decide +kernel
theorem dX8_ends_0 : decode cX8_ends 0 = .ok (.aload_n 0, 1) := by decide +kernel
theorem dX8_ends_1 : decode cX8_ends 1 = .ok (.getfield 20, 3) := by decide +kernel
theorem dX8_ends_4 : decode cX8_ends 4 = .ok (.iload_n 1, 1) := by decide +kernel
theorem dX8_ends_5 : decode cX8_ends 5 = .ok (.iaload, 1) := by decide +kernel
theorem dX8_ends_6 : decode cX8_ends 6 = .ok (.istore 6, 2) := by decide +kernel
theorem dX8_ends_8 : decode cX8_ends 8 = .ok (.aload_n 0, 1) := by decide +kernel
theorem dX8_ends_9 : decode cX8_ends 9 = .ok (.getfield 20, 3) := by decide +kernel
theorem dX8_ends_12 : decode cX8_ends 12 = .ok (.iload_n 1, 1) := by decide +kernel
theorem dX8_ends_13 : decode cX8_ends 13 = .ok (.iload_n 2, 1) := by decide +kernel
theorem dX8_ends_14 : decode cX8_ends 14 = .ok (.iastore, 1) := by decide +kernel
theorem dX8_ends_15 : decode cX8_ends 15 = .ok (.aload_n 0, 1) := by decide +kernel
theorem dX8_ends_16 : decode cX8_ends 16 = .ok (.getfield 23, 3) := by decide +kernel
theorem dX8_ends_19 : decode cX8_ends 19 = .ok (.iload_n 1, 1) := by decide +kernel
theorem dX8_ends_20 : decode cX8_ends 20 = .ok (.iload_n 3, 1) := by decide +kernel
theorem dX8_ends_21 : decode cX8_ends 21 = .ok (.iastore, 1) := by decide +kernel
theorem dX8_ends_22 : decode cX8_ends 22 = .ok (.aload_n 0, 1) := by decide +kernel
theorem dX8_ends_23 : decode cX8_ends 23 = .ok (.getfield 26, 3) := by decide +kernel
theorem dX8_ends_26 : decode cX8_ends 26 = .ok (.iload_n 1, 1) := by decide +kernel
theorem dX8_ends_27 : decode cX8_ends 27 = .ok (.iload 4, 2) := by decide +kernel
theorem dX8_ends_29 : decode cX8_ends 29 = .ok (.iastore, 1) := by decide +kernel
theorem dX8_ends_30 : decode cX8_ends 30 = .ok (.aload_n 0, 1) := by decide +kernel
theorem dX8_ends_31 : decode cX8_ends 31 = .ok (.getfield 29, 3) := by decide +kernel
theorem dX8_ends_34 : decode cX8_ends 34 = .ok (.iload_n 1, 1) := by decide +kernel
theorem dX8_ends_35 : decode cX8_ends 35 = .ok (.iload 5, 2) := by decide +kernel
theorem dX8_ends_37 : decode cX8_ends 37 = .ok (.iastore, 1) := by decide +kernel
theorem dX8_ends_38 : decode cX8_ends 38 = .ok (.aload_n 0, 1) := by decide +kernel
theorem dX8_ends_39 : decode cX8_ends 39 = .ok (.getfield 35, 3) := by decide +kernel
theorem dX8_ends_42 : decode cX8_ends 42 = .ok (.iload_n 1, 1) := by decide +kernel
theorem dX8_ends_43 : decode cX8_ends 43 = .ok (.iconst 0, 1) := by decide +kernel
theorem dX8_ends_44 : decode cX8_ends 44 = .ok (.iastore, 1) := by decide +kernel
theorem dX8_ends_45 : decode cX8_ends 45 = .ok (.aload_n 0, 1) := by decide +kernel
theorem dX8_ends_46 : decode cX8_ends 46 = .ok (.getfield 38, 3) := by decide +kernel
theorem dX8_ends_49 : decode cX8_ends 49 = .ok (.iload_n 1, 1) := by decide +kernel
theorem dX8_ends_50 : decode cX8_ends 50 = .ok (.iconst 0, 1) := by decide +kernel
theorem dX8_ends_51 : decode cX8_ends 51 = .ok (.iastore, 1) := by decide +kernel
theorem dX8_ends_52 : decode cX8_ends 52 = .ok (.iload 6, 2) := by decide +kernel
theorem dX8_ends_54 : decode cX8_ends 54 = .ok (.ireturn, 1) := by decide +kernel
theorem dX8_setGo_0 : decode cX8_setGo 0 = .ok (.aload_n 0, 1) := by decide +kernel
theorem dX8_setGo_1 : decode cX8_setGo 1 = .ok (.aload_n 0, 1) := by decide +kernel
theorem dX8_setGo_2 : decode cX8_setGo 2 = .ok (.iload_n 1, 1) := by decide +kernel
theorem dX8_setGo_3 : decode cX8_setGo 3 = .ok (.invokevirtual 119, 3) := by decide +kernel
theorem dX8_setGo_6 : decode cX8_setGo 6 = .ok (.ifCond .eq 15, 3) := by decide +kernel
theorem dX8_setGo_9 : decode cX8_setGo 9 = .ok (.aload_n 0, 1) := by decide +kernel
theorem dX8_setGo_10 : decode cX8_setGo 10 = .ok (.iload_n 2, 1) := by decide +kernel
theorem dX8_setGo_11 : decode cX8_setGo 11 = .ok (.invokevirtual 119, 3) := by decide +kernel
theorem dX8_setGo_14 : decode cX8_setGo 14 = .ok (.ifCond .eq 7, 3) := by decide +kernel
theorem dX8_setGo_17 : decode cX8_setGo 17 = .ok (.iconst 0, 1) := by decide +kernel
theorem dX8_setGo_18 : decode cX8_setGo 18 = .ok (.goto 4, 3) := by decide +kernel
theorem dX8_setGo_21 : decode cX8_setGo 21 = .ok (.iconst 1, 1) := by decide +kernel
theorem dX8_setGo_22 : decode cX8_setGo 22 = .ok (.putfield 103, 3) := by decide +kernel
theorem dX8_setGo_25 : decode cX8_setGo 25 = .ok (.aload_n 0, 1) := by decide +kernel
theorem dX8_setGo_26 : decode cX8_setGo 26 = .ok (.getfield 103, 3) := by decide +kernel
theorem dX8_setGo_29 : decode cX8_setGo 29 = .ok (.ifCond .ne 15, 3) := by decide +kernel
theorem dX8_setGo_32 : decode cX8_setGo 32 = .ok (.aload_n 0, 1) := by decide +kernel
theorem dX8_setGo_33 : decode cX8_setGo 33 = .ok (.iload_n 1, 1) := by decide +kernel
theorem dX8_setGo_34 : decode cX8_setGo 34 = .ok (.iconst 0, 1) := by decide +kernel
theorem dX8_setGo_35 : decode cX8_setGo 35 = .ok (.iload_n 2, 1) := by decide +kernel
theorem dX8_setGo_36 : decode cX8_setGo 36 = .ok (.iconst (-1), 1) := by decide +kernel
theorem dX8_setGo_37 : decode cX8_setGo 37 = .ok (.iconst 0, 1) := by decide +kernel
theorem dX8_setGo_38 : decode cX8_setGo 38 = .ok (.invokevirtual 123, 3) := by decide +kernel
theorem dX8_setGo_41 : decode cX8_setGo 41 = .ok (.goto 4, 3) := by decide +kernel
theorem dX8_setGo_44 : decode cX8_setGo 44 = .ok (.iconst 0, 1) := by decide +kernel
theorem dX8_setGo_45 : decode cX8_setGo 45 = .ok (.ireturn, 1) := by decide +kernel
theorem dX8_setIf_0 : decode cX8_setIf 0 = .ok (.aload_n 0, 1) := by decide +kernel
theorem dX8_setIf_1 : decode cX8_setIf 1 = .ok (.aload_n 0, 1) := by decide +kernel
theorem dX8_setIf_2 : decode cX8_setIf 2 = .ok (.iload_n 1, 1) := by decide +kernel
theorem dX8_setIf_3 : decode cX8_setIf 3 = .ok (.invokevirtual 119, 3) := by decide +kernel
theorem dX8_setIf_6 : decode cX8_setIf 6 = .ok (.ifCond .eq 19, 3) := by decide +kernel
theorem dX8_setIf_9 : decode cX8_setIf 9 = .ok (.aload_n 0, 1) := by decide +kernel
theorem dX8_setIf_10 : decode cX8_setIf 10 = .ok (.iload_n 2, 1) := by decide +kernel
theorem dX8_setIf_11 : decode cX8_setIf 11 = .ok (.invokevirtual 119, 3) := by decide +kernel
theorem dX8_setIf_14 : decode cX8_setIf 14 = .ok (.ifCond .eq 11, 3) := by decide +kernel
theorem dX8_setIf_17 : decode cX8_setIf 17 = .ok (.aload_n 0, 1) := by decide +kernel
theorem dX8_setIf_18 : decode cX8_setIf 18 = .ok (.iload_n 3, 1) := by decide +kernel
theorem dX8_setIf_19 : decode cX8_setIf 19 = .ok (.invokevirtual 119, 3) := by decide +kernel
theorem dX8_setIf_22 : decode cX8_setIf 22 = .ok (.ifCond .ne 7, 3) := by decide +kernel
theorem dX8_setIf_25 : decode cX8_setIf 25 = .ok (.iconst 1, 1) := by decide +kernel
theorem dX8_setIf_26 : decode cX8_setIf 26 = .ok (.goto 13, 3) := by decide +kernel
theorem dX8_setIf_29 : decode cX8_setIf 29 = .ok (.iload_n 2, 1) := by decide +kernel
theorem dX8_setIf_30 : decode cX8_setIf 30 = .ok (.iload_n 3, 1) := by decide +kernel
theorem dX8_setIf_31 : decode cX8_setIf 31 = .ok (.if_icmp .ne 7, 3) := by decide +kernel
theorem dX8_setIf_34 : decode cX8_setIf 34 = .ok (.iconst 2, 1) := by decide +kernel
theorem dX8_setIf_35 : decode cX8_setIf 35 = .ok (.goto 4, 3) := by decide +kernel
theorem dX8_setIf_38 : decode cX8_setIf 38 = .ok (.iconst 0, 1) := by decide +kernel
theorem dX8_setIf_39 : decode cX8_setIf 39 = .ok (.putfield 103, 3) := by decide +kernel
theorem dX8_setIf_42 : decode cX8_setIf 42 = .ok (.aload_n 0, 1) := by decide +kernel
theorem dX8_setIf_43 : decode cX8_setIf 43 = .ok (.getfield 103, 3) := by decide +kernel
theorem dX8_setIf_46 : decode cX8_setIf 46 = .ok (.ifCond .ne 16, 3) := by decide +kernel
theorem dX8_setIf_49 : decode cX8_setIf 49 = .ok (.aload_n 0, 1) := by decide +kernel
theorem dX8_setIf_50 : decode cX8_setIf 50 = .ok (.iload_n 1, 1) := by decide +kernel
theorem dX8_setIf_51 : decode cX8_setIf 51 = .ok (.iconst 1, 1) := by decide +kernel
theorem dX8_setIf_52 : decode cX8_setIf 52 = .ok (.iload_n 2, 1) := by decide +kernel
theorem dX8_setIf_53 : decode cX8_setIf 53 = .ok (.iload_n 3, 1) := by decide +kernel
theorem dX8_setIf_54 : decode cX8_setIf 54 = .ok (.iload 4, 2) := by decide +kernel
theorem dX8_setIf_56 : decode cX8_setIf 56 = .ok (.invokevirtual 123, 3) := by decide +kernel
theorem dX8_setIf_59 : decode cX8_setIf 59 = .ok (.goto 4, 3) := by decide +kernel
theorem dX8_setIf_62 : decode cX8_setIf 62 = .ok (.iconst 0, 1) := by decide +kernel
theorem dX8_setIf_63 : decode cX8_setIf 63 = .ok (.ireturn, 1) := by decide +kernel
theorem dX8_setStop_0 : decode cX8_setStop 0 = .ok (.aload_n 0, 1) := by decide +kernel
theorem dX8_setStop_1 : decode cX8_setStop 1 = .ok (.aload_n 0, 1) := by decide +kernel
theorem dX8_setStop_2 : decode cX8_setStop 2 = .ok (.iload_n 1, 1) := by decide +kernel
theorem dX8_setStop_3 : decode cX8_setStop 3 = .ok (.invokevirtual 119, 3) := by decide +kernel
theorem dX8_setStop_6 : decode cX8_setStop 6 = .ok (.ifCond .eq 7, 3) := by decide +kernel
theorem dX8_setStop_9 : decode cX8_setStop 9 = .ok (.iconst 0, 1) := by decide +kernel
theorem dX8_setStop_10 : decode cX8_setStop 10 = .ok (.goto 4, 3) := by decide +kernel
theorem dX8_setStop_13 : decode cX8_setStop 13 = .ok (.iconst 1, 1) := by decide +kernel
theorem dX8_setStop_14 : decode cX8_setStop 14 = .ok (.putfield 103, 3) := by decide +kernel
theorem dX8_setStop_17 : decode cX8_setStop 17 = .ok (.aload_n 0, 1) := by decide +kernel
theorem dX8_setStop_18 : decode cX8_setStop 18 = .ok (.getfield 103, 3) := by decide +kernel
theorem dX8_setStop_21 : decode cX8_setStop 21 = .ok (.ifCond .ne 15, 3) := by decide +kernel
theorem dX8_setStop_24 : decode cX8_setStop 24 = .ok (.aload_n 0, 1) := by decide +kernel
theorem dX8_setStop_25 : decode cX8_setStop 25 = .ok (.iload_n 1, 1) := by decide +kernel
theorem dX8_setStop_26 : decode cX8_setStop 26 = .ok (.iconst 2, 1) := by decide +kernel
theorem dX8_setStop_27 : decode cX8_setStop 27 = .ok (.iconst (-1), 1) := by decide +kernel
theorem dX8_setStop_28 : decode cX8_setStop 28 = .ok (.iconst (-1), 1) := by decide +kernel
theorem dX8_setStop_29 : decode cX8_setStop 29 = .ok (.iconst 0, 1) := by decide +kernel
theorem dX8_setStop_30 : decode cX8_setStop 30 = .ok (.invokevirtual 123, 3) := by decide +kernel
theorem dX8_setStop_33 : decode cX8_setStop 33 = .ok (.goto 4, 3) := by decide +kernel
theorem dX8_setStop_36 : decode cX8_setStop 36 = .ok (.iconst 0, 1) := by decide +kernel
theorem dX8_setStop_37 : decode cX8_setStop 37 = .ok (.ireturn, 1) := by decide +kernel
theorem dX8_invert_0 : decode cX8_invert 0 = .ok (.aload_n 0, 1) := by decide +kernel
theorem dX8_invert_1 : decode cX8_invert 1 = .ok (.aload_n 0, 1) := by decide +kernel
theorem dX8_invert_2 : decode cX8_invert 2 = .ok (.iload_n 1, 1) := by decide +kernel
theorem dX8_invert_3 : decode cX8_invert 3 = .ok (.invokevirtual 119, 3) := by decide +kernel
theorem dX8_invert_6 : decode cX8_invert 6 = .ok (.ifCond .ne 7, 3) := by decide +kernel
theorem dX8_invert_9 : decode cX8_invert 9 = .ok (.iconst 1, 1) := by decide +kernel
theorem dX8_invert_10 : decode cX8_invert 10 = .ok (.goto 18, 3) := by decide +kernel
theorem dX8_invert_13 : decode cX8_invert 13 = .ok (.aload_n 0, 1) := by decide +kernel
theorem dX8_invert_14 : decode cX8_invert 14 = .ok (.getfield 20, 3) := by decide +kernel
theorem dX8_invert_17 : decode cX8_invert 17 = .ok (.iload_n 1, 1) := by decide +kernel
theorem dX8_invert_18 : decode cX8_invert 18 = .ok (.iaload, 1) := by decide +kernel
theorem dX8_invert_19 : decode cX8_invert 19 = .ok (.iconst 1, 1) := by decide +kernel
theorem dX8_invert_20 : decode cX8_invert 20 = .ok (.if_icmp .ne 7, 3) := by decide +kernel
theorem dX8_invert_23 : decode cX8_invert 23 = .ok (.iconst 0, 1) := by decide +kernel
theorem dX8_invert_24 : decode cX8_invert 24 = .ok (.goto 4, 3) := by decide +kernel
theorem dX8_invert_27 : decode cX8_invert 27 = .ok (.iconst 2, 1) := by decide +kernel
theorem dX8_invert_28 : decode cX8_invert 28 = .ok (.putfield 103, 3) := by decide +kernel
theorem dX8_invert_31 : decode cX8_invert 31 = .ok (.aload_n 0, 1) := by decide +kernel
theorem dX8_invert_32 : decode cX8_invert 32 = .ok (.getfield 103, 3) := by decide +kernel
theorem dX8_invert_35 : decode cX8_invert 35 = .ok (.ifCond .eq 5, 3) := by decide +kernel
theorem dX8_invert_38 : decode cX8_invert 38 = .ok (.iconst 0, 1) := by decide +kernel
theorem dX8_invert_39 : decode cX8_invert 39 = .ok (.ireturn, 1) := by decide +kernel
theorem dX8_invert_40 : decode cX8_invert 40 = .ok (.aload_n 0, 1) := by decide +kernel
theorem dX8_invert_41 : decode cX8_invert 41 = .ok (.getfield 23, 3) := by decide +kernel
theorem dX8_invert_44 : decode cX8_invert 44 = .ok (.iload_n 1, 1) := by decide +kernel
theorem dX8_invert_45 : decode cX8_invert 45 = .ok (.iaload, 1) := by decide +kernel
theorem dX8_invert_46 : decode cX8_invert 46 = .ok (.istore_n 2, 1) := by decide +kernel
theorem dX8_invert_47 : decode cX8_invert 47 = .ok (.aload_n 0, 1) := by decide +kernel
theorem dX8_invert_48 : decode cX8_invert 48 = .ok (.getfield 23, 3) := by decide +kernel
theorem dX8_invert_51 : decode cX8_invert 51 = .ok (.iload_n 1, 1) := by decide +kernel
theorem dX8_invert_52 : decode cX8_invert 52 = .ok (.aload_n 0, 1) := by decide +kernel
theorem dX8_invert_53 : decode cX8_invert 53 = .ok (.getfield 26, 3) := by decide +kernel
theorem dX8_invert_56 : decode cX8_invert 56 = .ok (.iload_n 1, 1) := by decide +kernel
theorem dX8_invert_57 : decode cX8_invert 57 = .ok (.iaload, 1) := by decide +kernel
theorem dX8_invert_58 : decode cX8_invert 58 = .ok (.iastore, 1) := by decide +kernel
theorem dX8_invert_59 : decode cX8_invert 59 = .ok (.aload_n 0, 1) := by decide +kernel
theorem dX8_invert_60 : decode cX8_invert 60 = .ok (.getfield 26, 3) := by decide +kernel
theorem dX8_invert_63 : decode cX8_invert 63 = .ok (.iload_n 1, 1) := by decide +kernel
theorem dX8_invert_64 : decode cX8_invert 64 = .ok (.iload_n 2, 1) := by decide +kernel
theorem dX8_invert_65 : decode cX8_invert 65 = .ok (.iastore, 1) := by decide +kernel
theorem dX8_invert_66 : decode cX8_invert 66 = .ok (.aload_n 0, 1) := by decide +kernel
theorem dX8_invert_67 : decode cX8_invert 67 = .ok (.getfield 35, 3) := by decide +kernel
theorem dX8_invert_70 : decode cX8_invert 70 = .ok (.iload_n 1, 1) := by decide +kernel
theorem dX8_invert_71 : decode cX8_invert 71 = .ok (.iaload, 1) := by decide +kernel
theorem dX8_invert_72 : decode cX8_invert 72 = .ok (.istore_n 3, 1) := by decide +kernel
theorem dX8_invert_73 : decode cX8_invert 73 = .ok (.aload_n 0, 1) := by decide +kernel
theorem dX8_invert_74 : decode cX8_invert 74 = .ok (.getfield 35, 3) := by decide +kernel
theorem dX8_invert_77 : decode cX8_invert 77 = .ok (.iload_n 1, 1) := by decide +kernel
theorem dX8_invert_78 : decode cX8_invert 78 = .ok (.aload_n 0, 1) := by decide +kernel
theorem dX8_invert_79 : decode cX8_invert 79 = .ok (.getfield 38, 3) := by decide +kernel
theorem dX8_invert_82 : decode cX8_invert 82 = .ok (.iload_n 1, 1) := by decide +kernel
theorem dX8_invert_83 : decode cX8_invert 83 = .ok (.iaload, 1) := by decide +kernel
theorem dX8_invert_84 : decode cX8_invert 84 = .ok (.iastore, 1) := by decide +kernel
theorem dX8_invert_85 : decode cX8_invert 85 = .ok (.aload_n 0, 1) := by decide +kernel
theorem dX8_invert_86 : decode cX8_invert 86 = .ok (.getfield 38, 3) := by decide +kernel
theorem dX8_invert_89 : decode cX8_invert 89 = .ok (.iload_n 1, 1) := by decide +kernel
theorem dX8_invert_90 : decode cX8_invert 90 = .ok (.iload_n 3, 1) := by decide +kernel
theorem dX8_invert_91 : decode cX8_invert 91 = .ok (.iastore, 1) := by decide +kernel
theorem dX8_invert_92 : decode cX8_invert 92 = .ok (.aload_n 0, 1) := by decide +kernel
theorem dX8_invert_93 : decode cX8_invert 93 = .ok (.getfield 29, 3) := by decide +kernel
theorem dX8_invert_96 : decode cX8_invert 96 = .ok (.iload_n 1, 1) := by decide +kernel
theorem dX8_invert_97 : decode cX8_invert 97 = .ok (.aload_n 0, 1) := by decide +kernel
theorem dX8_invert_98 : decode cX8_invert 98 = .ok (.getfield 29, 3) := by decide +kernel
theorem dX8_invert_101 : decode cX8_invert 101 = .ok (.iload_n 1, 1) := by decide +kernel
theorem dX8_invert_102 : decode cX8_invert 102 = .ok (.iaload, 1) := by decide +kernel
theorem dX8_invert_103 : decode cX8_invert 103 = .ok (.iconst (-1), 1) := by decide +kernel
theorem dX8_invert_104 : decode cX8_invert 104 = .ok (.ixor, 1) := by decide +kernel
theorem dX8_invert_105 : decode cX8_invert 105 = .ok (.iastore, 1) := by decide +kernel
theorem dX8_invert_106 : decode cX8_invert 106 = .ok (.aload_n 0, 1) := by decide +kernel
theorem dX8_invert_107 : decode cX8_invert 107 = .ok (.getfield 23, 3) := by decide +kernel
theorem dX8_invert_110 : decode cX8_invert 110 = .ok (.iload_n 1, 1) := by decide +kernel
theorem dX8_invert_111 : decode cX8_invert 111 = .ok (.iaload, 1) := by decide +kernel
theorem dX8_invert_112 : decode cX8_invert 112 = .ok (.ireturn, 1) := by decide +kernel
theorem dX8_block_0 : decode cX8_block 0 = .ok (.aload_n 0, 1) := by decide +kernel
theorem dX8_block_1 : decode cX8_block 1 = .ok (.aload_n 0, 1) := by decide +kernel
theorem dX8_block_2 : decode cX8_block 2 = .ok (.iload_n 1, 1) := by decide +kernel
theorem dX8_block_3 : decode cX8_block 3 = .ok (.invokevirtual 119, 3) := by decide +kernel
theorem dX8_block_6 : decode cX8_block 6 = .ok (.ifCond .ne 7, 3) := by decide +kernel
theorem dX8_block_9 : decode cX8_block 9 = .ok (.iconst 1, 1) := by decide +kernel
theorem dX8_block_10 : decode cX8_block 10 = .ok (.goto 18, 3) := by decide +kernel
theorem dX8_block_13 : decode cX8_block 13 = .ok (.iload_n 2, 1) := by decide +kernel
theorem dX8_block_14 : decode cX8_block 14 = .ok (.iconst 0, 1) := by decide +kernel
theorem dX8_block_15 : decode cX8_block 15 = .ok (.bipush 7, 2) := by decide +kernel
theorem dX8_block_17 : decode cX8_block 17 = .ok (.invokestatic 109, 3) := by decide +kernel
theorem dX8_block_20 : decode cX8_block 20 = .ok (.ifCond .eq 7, 3) := by decide +kernel
theorem dX8_block_23 : decode cX8_block 23 = .ok (.iconst 0, 1) := by decide +kernel
theorem dX8_block_24 : decode cX8_block 24 = .ok (.goto 4, 3) := by decide +kernel
theorem dX8_block_27 : decode cX8_block 27 = .ok (.iconst 2, 1) := by decide +kernel
theorem dX8_block_28 : decode cX8_block 28 = .ok (.putfield 103, 3) := by decide +kernel
theorem dX8_block_31 : decode cX8_block 31 = .ok (.aload_n 0, 1) := by decide +kernel
theorem dX8_block_32 : decode cX8_block 32 = .ok (.getfield 103, 3) := by decide +kernel
theorem dX8_block_35 : decode cX8_block 35 = .ok (.ifCond .eq 5, 3) := by decide +kernel
theorem dX8_block_38 : decode cX8_block 38 = .ok (.iconst 0, 1) := by decide +kernel
theorem dX8_block_39 : decode cX8_block 39 = .ok (.ireturn, 1) := by decide +kernel
theorem dX8_block_40 : decode cX8_block 40 = .ok (.iload_n 2, 1) := by decide +kernel
theorem dX8_block_41 : decode cX8_block 41 = .ok (.tableswitch 92 0 6 #[43, 50, 57, 64, 71, 78, 85], 43) := by decide +kernel
theorem dX8_block_84 : decode cX8_block 84 = .ok (.aload_n 0, 1) := by decide +kernel
theorem dX8_block_85 : decode cX8_block 85 = .ok (.getfield 16, 3) := by decide +kernel
theorem dX8_block_88 : decode cX8_block 88 = .ok (.iload_n 1, 1) := by decide +kernel
theorem dX8_block_89 : decode cX8_block 89 = .ok (.iaload, 1) := by decide +kernel
theorem dX8_block_90 : decode cX8_block 90 = .ok (.ireturn, 1) := by decide +kernel
theorem dX8_block_91 : decode cX8_block 91 = .ok (.aload_n 0, 1) := by decide +kernel
theorem dX8_block_92 : decode cX8_block 92 = .ok (.getfield 20, 3) := by decide +kernel
theorem dX8_block_95 : decode cX8_block 95 = .ok (.iload_n 1, 1) := by decide +kernel
theorem dX8_block_96 : decode cX8_block 96 = .ok (.iaload, 1) := by decide +kernel
theorem dX8_block_97 : decode cX8_block 97 = .ok (.ireturn, 1) := by decide +kernel
theorem dX8_block_98 : decode cX8_block 98 = .ok (.aload_n 0, 1) := by decide +kernel
theorem dX8_block_99 : decode cX8_block 99 = .ok (.getfield 23, 3) := by decide +kernel
theorem dX8_block_102 : decode cX8_block 102 = .ok (.iload_n 1, 1) := by decide +kernel
theorem dX8_block_103 : decode cX8_block 103 = .ok (.iaload, 1) := by decide +kernel
theorem dX8_block_104 : decode cX8_block 104 = .ok (.ireturn, 1) := by decide +kernel
theorem dX8_block_105 : decode cX8_block 105 = .ok (.aload_n 0, 1) := by decide +kernel
theorem dX8_block_106 : decode cX8_block 106 = .ok (.getfield 26, 3) := by decide +kernel
theorem dX8_block_109 : decode cX8_block 109 = .ok (.iload_n 1, 1) := by decide +kernel
theorem dX8_block_110 : decode cX8_block 110 = .ok (.iaload, 1) := by decide +kernel
theorem dX8_block_111 : decode cX8_block 111 = .ok (.ireturn, 1) := by decide +kernel
theorem dX8_block_112 : decode cX8_block 112 = .ok (.aload_n 0, 1) := by decide +kernel
theorem dX8_block_113 : decode cX8_block 113 = .ok (.getfield 32, 3) := by decide +kernel
theorem dX8_block_116 : decode cX8_block 116 = .ok (.iload_n 1, 1) := by decide +kernel
theorem dX8_block_117 : decode cX8_block 117 = .ok (.iaload, 1) := by decide +kernel
theorem dX8_block_118 : decode cX8_block 118 = .ok (.ireturn, 1) := by decide +kernel
theorem dX8_block_119 : decode cX8_block 119 = .ok (.aload_n 0, 1) := by decide +kernel
theorem dX8_block_120 : decode cX8_block 120 = .ok (.getfield 35, 3) := by decide +kernel
theorem dX8_block_123 : decode cX8_block 123 = .ok (.iload_n 1, 1) := by decide +kernel
theorem dX8_block_124 : decode cX8_block 124 = .ok (.iaload, 1) := by decide +kernel
theorem dX8_block_125 : decode cX8_block 125 = .ok (.ireturn, 1) := by decide +kernel
theorem dX8_block_126 : decode cX8_block 126 = .ok (.aload_n 0, 1) := by decide +kernel
theorem dX8_block_127 : decode cX8_block 127 = .ok (.getfield 38, 3) := by decide +kernel
theorem dX8_block_130 : decode cX8_block 130 = .ok (.iload_n 1, 1) := by decide +kernel
theorem dX8_block_131 : decode cX8_block 131 = .ok (.iaload, 1) := by decide +kernel
theorem dX8_block_132 : decode cX8_block 132 = .ok (.ireturn, 1) := by decide +kernel
theorem dX8_block_133 : decode cX8_block 133 = .ok (.aload_n 0, 1) := by decide +kernel
theorem dX8_block_134 : decode cX8_block 134 = .ok (.iload_n 1, 1) := by decide +kernel
theorem dX8_block_135 : decode cX8_block 135 = .ok (.invokevirtual 127, 3) := by decide +kernel
theorem dX8_block_138 : decode cX8_block 138 = .ok (.ifCond .eq 7, 3) := by decide +kernel
theorem dX8_block_141 : decode cX8_block 141 = .ok (.iconst 1, 1) := by decide +kernel
theorem dX8_block_142 : decode cX8_block 142 = .ok (.goto 4, 3) := by decide +kernel
theorem dX8_block_145 : decode cX8_block 145 = .ok (.iconst 0, 1) := by decide +kernel
theorem dX8_block_146 : decode cX8_block 146 = .ok (.ireturn, 1) := by decide +kernel
theorem dX8_reached_0 : decode cX8_reached 0 = .ok (.iload_n 1, 1) := by decide +kernel
theorem dX8_reached_1 : decode cX8_reached 1 = .ok (.ifCond .ne 7, 3) := by decide +kernel
theorem dX8_reached_4 : decode cX8_reached 4 = .ok (.iconst 0, 1) := by decide +kernel
theorem dX8_reached_5 : decode cX8_reached 5 = .ok (.goto 4, 3) := by decide +kernel
theorem dX8_reached_8 : decode cX8_reached 8 = .ok (.iconst 1, 1) := by decide +kernel
theorem dX8_reached_9 : decode cX8_reached 9 = .ok (.istore_n 2, 1) := by decide +kernel
theorem dX8_reached_10 : decode cX8_reached 10 = .ok (.iconst 1, 1) := by decide +kernel
theorem dX8_reached_11 : decode cX8_reached 11 = .ok (.istore_n 3, 1) := by decide +kernel
theorem dX8_reached_12 : decode cX8_reached 12 = .ok (.iload_n 3, 1) := by decide +kernel
theorem dX8_reached_13 : decode cX8_reached 13 = .ok (.ifCond .eq 127, 3) := by decide +kernel
theorem dX8_reached_16 : decode cX8_reached 16 = .ok (.iload_n 2, 1) := by decide +kernel
theorem dX8_reached_17 : decode cX8_reached 17 = .ok (.istore 4, 2) := by decide +kernel
theorem dX8_reached_19 : decode cX8_reached 19 = .ok (.iconst 0, 1) := by decide +kernel
theorem dX8_reached_20 : decode cX8_reached 20 = .ok (.istore 5, 2) := by decide +kernel
theorem dX8_reached_22 : decode cX8_reached 22 = .ok (.iload 5, 2) := by decide +kernel
theorem dX8_reached_24 : decode cX8_reached 24 = .ok (.aload_n 0, 1) := by decide +kernel
theorem dX8_reached_25 : decode cX8_reached 25 = .ok (.getfield 106, 3) := by decide +kernel
theorem dX8_reached_28 : decode cX8_reached 28 = .ok (.if_icmp .ge 97, 3) := by decide +kernel
theorem dX8_reached_31 : decode cX8_reached 31 = .ok (.iload_n 2, 1) := by decide +kernel
theorem dX8_reached_32 : decode cX8_reached 32 = .ok (.iload 5, 2) := by decide +kernel
theorem dX8_reached_34 : decode cX8_reached 34 = .ok (.ishr, 1) := by decide +kernel
theorem dX8_reached_35 : decode cX8_reached 35 = .ok (.iconst 1, 1) := by decide +kernel
theorem dX8_reached_36 : decode cX8_reached 36 = .ok (.iand, 1) := by decide +kernel
theorem dX8_reached_37 : decode cX8_reached 37 = .ok (.ifCond .ne 6, 3) := by decide +kernel
theorem dX8_reached_40 : decode cX8_reached 40 = .ok (.goto 79, 3) := by decide +kernel
theorem dX8_reached_43 : decode cX8_reached 43 = .ok (.iload_n 2, 1) := by decide +kernel
theorem dX8_reached_44 : decode cX8_reached 44 = .ok (.aload_n 0, 1) := by decide +kernel
theorem dX8_reached_45 : decode cX8_reached 45 = .ok (.getfield 20, 3) := by decide +kernel
theorem dX8_reached_48 : decode cX8_reached 48 = .ok (.iload 5, 2) := by decide +kernel
theorem dX8_reached_50 : decode cX8_reached 50 = .ok (.iaload, 1) := by decide +kernel
theorem dX8_reached_51 : decode cX8_reached 51 = .ok (.iconst 2, 1) := by decide +kernel
theorem dX8_reached_52 : decode cX8_reached 52 = .ok (.if_icmp .eq 26, 3) := by decide +kernel
theorem dX8_reached_55 : decode cX8_reached 55 = .ok (.aload_n 0, 1) := by decide +kernel
theorem dX8_reached_56 : decode cX8_reached 56 = .ok (.getfield 23, 3) := by decide +kernel
theorem dX8_reached_59 : decode cX8_reached 59 = .ok (.iload 5, 2) := by decide +kernel
theorem dX8_reached_61 : decode cX8_reached 61 = .ok (.iaload, 1) := by decide +kernel
theorem dX8_reached_62 : decode cX8_reached 62 = .ok (.iload_n 1, 1) := by decide +kernel
theorem dX8_reached_63 : decode cX8_reached 63 = .ok (.if_icmp .eq 15, 3) := by decide +kernel
theorem dX8_reached_66 : decode cX8_reached 66 = .ok (.iconst 1, 1) := by decide +kernel
theorem dX8_reached_67 : decode cX8_reached 67 = .ok (.aload_n 0, 1) := by decide +kernel
theorem dX8_reached_68 : decode cX8_reached 68 = .ok (.getfield 23, 3) := by decide +kernel
theorem dX8_reached_71 : decode cX8_reached 71 = .ok (.iload 5, 2) := by decide +kernel
theorem dX8_reached_73 : decode cX8_reached 73 = .ok (.iaload, 1) := by decide +kernel
theorem dX8_reached_74 : decode cX8_reached 74 = .ok (.ishl, 1) := by decide +kernel
theorem dX8_reached_75 : decode cX8_reached 75 = .ok (.goto 4, 3) := by decide +kernel
theorem dX8_reached_78 : decode cX8_reached 78 = .ok (.iconst 0, 1) := by decide +kernel
theorem dX8_reached_79 : decode cX8_reached 79 = .ok (.ior, 1) := by decide +kernel
theorem dX8_reached_80 : decode cX8_reached 80 = .ok (.istore_n 2, 1) := by decide +kernel
theorem dX8_reached_81 : decode cX8_reached 81 = .ok (.iload_n 2, 1) := by decide +kernel
theorem dX8_reached_82 : decode cX8_reached 82 = .ok (.aload_n 0, 1) := by decide +kernel
theorem dX8_reached_83 : decode cX8_reached 83 = .ok (.getfield 20, 3) := by decide +kernel
theorem dX8_reached_86 : decode cX8_reached 86 = .ok (.iload 5, 2) := by decide +kernel
theorem dX8_reached_88 : decode cX8_reached 88 = .ok (.iaload, 1) := by decide +kernel
theorem dX8_reached_89 : decode cX8_reached 89 = .ok (.iconst 1, 1) := by decide +kernel
theorem dX8_reached_90 : decode cX8_reached 90 = .ok (.if_icmp .ne 26, 3) := by decide +kernel
theorem dX8_reached_93 : decode cX8_reached 93 = .ok (.aload_n 0, 1) := by decide +kernel
theorem dX8_reached_94 : decode cX8_reached 94 = .ok (.getfield 26, 3) := by decide +kernel
theorem dX8_reached_97 : decode cX8_reached 97 = .ok (.iload 5, 2) := by decide +kernel
theorem dX8_reached_99 : decode cX8_reached 99 = .ok (.iaload, 1) := by decide +kernel
theorem dX8_reached_100 : decode cX8_reached 100 = .ok (.iload_n 1, 1) := by decide +kernel
theorem dX8_reached_101 : decode cX8_reached 101 = .ok (.if_icmp .eq 15, 3) := by decide +kernel
theorem dX8_reached_104 : decode cX8_reached 104 = .ok (.iconst 1, 1) := by decide +kernel
theorem dX8_reached_105 : decode cX8_reached 105 = .ok (.aload_n 0, 1) := by decide +kernel
theorem dX8_reached_106 : decode cX8_reached 106 = .ok (.getfield 26, 3) := by decide +kernel
theorem dX8_reached_109 : decode cX8_reached 109 = .ok (.iload 5, 2) := by decide +kernel
theorem dX8_reached_111 : decode cX8_reached 111 = .ok (.iaload, 1) := by decide +kernel
theorem dX8_reached_112 : decode cX8_reached 112 = .ok (.ishl, 1) := by decide +kernel
theorem dX8_reached_113 : decode cX8_reached 113 = .ok (.goto 4, 3) := by decide +kernel
theorem dX8_reached_116 : decode cX8_reached 116 = .ok (.iconst 0, 1) := by decide +kernel
theorem dX8_reached_117 : decode cX8_reached 117 = .ok (.ior, 1) := by decide +kernel
theorem dX8_reached_118 : decode cX8_reached 118 = .ok (.istore_n 2, 1) := by decide +kernel
theorem dX8_reached_119 : decode cX8_reached 119 = .ok (.iinc 5 1, 3) := by decide +kernel
theorem dX8_reached_122 : decode cX8_reached 122 = .ok (.goto (-100), 3) := by decide +kernel
theorem dX8_reached_125 : decode cX8_reached 125 = .ok (.iload_n 2, 1) := by decide +kernel
theorem dX8_reached_126 : decode cX8_reached 126 = .ok (.iload 4, 2) := by decide +kernel
theorem dX8_reached_128 : decode cX8_reached 128 = .ok (.if_icmp .eq 7, 3) := by decide +kernel
theorem dX8_reached_131 : decode cX8_reached 131 = .ok (.iconst 1, 1) := by decide +kernel
theorem dX8_reached_132 : decode cX8_reached 132 = .ok (.goto 4, 3) := by decide +kernel
theorem dX8_reached_135 : decode cX8_reached 135 = .ok (.iconst 0, 1) := by decide +kernel
theorem dX8_reached_136 : decode cX8_reached 136 = .ok (.istore_n 3, 1) := by decide +kernel
theorem dX8_reached_137 : decode cX8_reached 137 = .ok (.goto (-125), 3) := by decide +kernel
theorem dX8_reached_140 : decode cX8_reached 140 = .ok (.iload_n 2, 1) := by decide +kernel
theorem dX8_reached_141 : decode cX8_reached 141 = .ok (.ireturn, 1) := by decide +kernel
theorem dX8_doesGo_0 : decode cX8_doesGo 0 = .ok (.aload_n 0, 1) := by decide +kernel
theorem dX8_doesGo_1 : decode cX8_doesGo 1 = .ok (.getfield 20, 3) := by decide +kernel
theorem dX8_doesGo_4 : decode cX8_doesGo 4 = .ok (.iload_n 1, 1) := by decide +kernel
theorem dX8_doesGo_5 : decode cX8_doesGo 5 = .ok (.iaload, 1) := by decide +kernel
theorem dX8_doesGo_6 : decode cX8_doesGo 6 = .ok (.iconst 2, 1) := by decide +kernel
theorem dX8_doesGo_7 : decode cX8_doesGo 7 = .ok (.if_icmp .eq 13, 3) := by decide +kernel
theorem dX8_doesGo_10 : decode cX8_doesGo 10 = .ok (.aload_n 0, 1) := by decide +kernel
theorem dX8_doesGo_11 : decode cX8_doesGo 11 = .ok (.getfield 23, 3) := by decide +kernel
theorem dX8_doesGo_14 : decode cX8_doesGo 14 = .ok (.iload_n 1, 1) := by decide +kernel
theorem dX8_doesGo_15 : decode cX8_doesGo 15 = .ok (.iaload, 1) := by decide +kernel
theorem dX8_doesGo_16 : decode cX8_doesGo 16 = .ok (.iload_n 2, 1) := by decide +kernel
theorem dX8_doesGo_17 : decode cX8_doesGo 17 = .ok (.if_icmp .eq 23, 3) := by decide +kernel
theorem dX8_doesGo_20 : decode cX8_doesGo 20 = .ok (.aload_n 0, 1) := by decide +kernel
theorem dX8_doesGo_21 : decode cX8_doesGo 21 = .ok (.getfield 20, 3) := by decide +kernel
theorem dX8_doesGo_24 : decode cX8_doesGo 24 = .ok (.iload_n 1, 1) := by decide +kernel
theorem dX8_doesGo_25 : decode cX8_doesGo 25 = .ok (.iaload, 1) := by decide +kernel
theorem dX8_doesGo_26 : decode cX8_doesGo 26 = .ok (.iconst 1, 1) := by decide +kernel
theorem dX8_doesGo_27 : decode cX8_doesGo 27 = .ok (.if_icmp .ne 17, 3) := by decide +kernel
theorem dX8_doesGo_30 : decode cX8_doesGo 30 = .ok (.aload_n 0, 1) := by decide +kernel
theorem dX8_doesGo_31 : decode cX8_doesGo 31 = .ok (.getfield 26, 3) := by decide +kernel
theorem dX8_doesGo_34 : decode cX8_doesGo 34 = .ok (.iload_n 1, 1) := by decide +kernel
theorem dX8_doesGo_35 : decode cX8_doesGo 35 = .ok (.iaload, 1) := by decide +kernel
theorem dX8_doesGo_36 : decode cX8_doesGo 36 = .ok (.iload_n 2, 1) := by decide +kernel
theorem dX8_doesGo_37 : decode cX8_doesGo 37 = .ok (.if_icmp .ne 7, 3) := by decide +kernel
theorem dX8_doesGo_40 : decode cX8_doesGo 40 = .ok (.iconst 1, 1) := by decide +kernel
theorem dX8_doesGo_41 : decode cX8_doesGo 41 = .ok (.goto 4, 3) := by decide +kernel
theorem dX8_doesGo_44 : decode cX8_doesGo 44 = .ok (.iconst 0, 1) := by decide +kernel
theorem dX8_doesGo_45 : decode cX8_doesGo 45 = .ok (.ireturn, 1) := by decide +kernel
theorem dX8_isHead_0 : decode cX8_isHead 0 = .ok (.aload_n 0, 1) := by decide +kernel
theorem dX8_isHead_1 : decode cX8_isHead 1 = .ok (.iconst (-1), 1) := by decide +kernel
theorem dX8_isHead_2 : decode cX8_isHead 2 = .ok (.invokevirtual 130, 3) := by decide +kernel
theorem dX8_isHead_5 : decode cX8_isHead 5 = .ok (.istore_n 2, 1) := by decide +kernel
theorem dX8_isHead_6 : decode cX8_isHead 6 = .ok (.aload_n 0, 1) := by decide +kernel
theorem dX8_isHead_7 : decode cX8_isHead 7 = .ok (.iload_n 1, 1) := by decide +kernel
theorem dX8_isHead_8 : decode cX8_isHead 8 = .ok (.invokevirtual 130, 3) := by decide +kernel
theorem dX8_isHead_11 : decode cX8_isHead 11 = .ok (.istore_n 3, 1) := by decide +kernel
theorem dX8_isHead_12 : decode cX8_isHead 12 = .ok (.iconst 0, 1) := by decide +kernel
theorem dX8_isHead_13 : decode cX8_isHead 13 = .ok (.istore 4, 2) := by decide +kernel
theorem dX8_isHead_15 : decode cX8_isHead 15 = .ok (.iload 4, 2) := by decide +kernel
theorem dX8_isHead_17 : decode cX8_isHead 17 = .ok (.aload_n 0, 1) := by decide +kernel
theorem dX8_isHead_18 : decode cX8_isHead 18 = .ok (.getfield 106, 3) := by decide +kernel
theorem dX8_isHead_21 : decode cX8_isHead 21 = .ok (.if_icmp .ge 40, 3) := by decide +kernel
theorem dX8_isHead_24 : decode cX8_isHead 24 = .ok (.iload_n 2, 1) := by decide +kernel
theorem dX8_isHead_25 : decode cX8_isHead 25 = .ok (.iload 4, 2) := by decide +kernel
theorem dX8_isHead_27 : decode cX8_isHead 27 = .ok (.ishr, 1) := by decide +kernel
theorem dX8_isHead_28 : decode cX8_isHead 28 = .ok (.iconst 1, 1) := by decide +kernel
theorem dX8_isHead_29 : decode cX8_isHead 29 = .ok (.iand, 1) := by decide +kernel
theorem dX8_isHead_30 : decode cX8_isHead 30 = .ok (.iconst 1, 1) := by decide +kernel
theorem dX8_isHead_31 : decode cX8_isHead 31 = .ok (.if_icmp .ne 24, 3) := by decide +kernel
theorem dX8_isHead_34 : decode cX8_isHead 34 = .ok (.iload_n 3, 1) := by decide +kernel
theorem dX8_isHead_35 : decode cX8_isHead 35 = .ok (.iload 4, 2) := by decide +kernel
theorem dX8_isHead_37 : decode cX8_isHead 37 = .ok (.ishr, 1) := by decide +kernel
theorem dX8_isHead_38 : decode cX8_isHead 38 = .ok (.iconst 1, 1) := by decide +kernel
theorem dX8_isHead_39 : decode cX8_isHead 39 = .ok (.iand, 1) := by decide +kernel
theorem dX8_isHead_40 : decode cX8_isHead 40 = .ok (.ifCond .ne 15, 3) := by decide +kernel
theorem dX8_isHead_43 : decode cX8_isHead 43 = .ok (.aload_n 0, 1) := by decide +kernel
theorem dX8_isHead_44 : decode cX8_isHead 44 = .ok (.iload 4, 2) := by decide +kernel
theorem dX8_isHead_46 : decode cX8_isHead 46 = .ok (.iload_n 1, 1) := by decide +kernel
theorem dX8_isHead_47 : decode cX8_isHead 47 = .ok (.invokevirtual 134, 3) := by decide +kernel
theorem dX8_isHead_50 : decode cX8_isHead 50 = .ok (.ifCond .eq 5, 3) := by decide +kernel
theorem dX8_isHead_53 : decode cX8_isHead 53 = .ok (.iconst 1, 1) := by decide +kernel
theorem dX8_isHead_54 : decode cX8_isHead 54 = .ok (.ireturn, 1) := by decide +kernel
theorem dX8_isHead_55 : decode cX8_isHead 55 = .ok (.iinc 4 1, 3) := by decide +kernel
theorem dX8_isHead_58 : decode cX8_isHead 58 = .ok (.goto (-43), 3) := by decide +kernel
theorem dX8_isHead_61 : decode cX8_isHead 61 = .ok (.iconst 0, 1) := by decide +kernel
theorem dX8_isHead_62 : decode cX8_isHead 62 = .ok (.ireturn, 1) := by decide +kernel
theorem dX8_executes_0 : decode cX8_executes 0 = .ok (.iconst 0, 1) := by decide +kernel
theorem dX8_executes_1 : decode cX8_executes 1 = .ok (.istore_n 2, 1) := by decide +kernel
theorem dX8_executes_2 : decode cX8_executes 2 = .ok (.iload_n 2, 1) := by decide +kernel
theorem dX8_executes_3 : decode cX8_executes 3 = .ok (.bipush 16, 2) := by decide +kernel
theorem dX8_executes_5 : decode cX8_executes 5 = .ok (.if_icmp .ge 16, 3) := by decide +kernel
theorem dX8_executes_8 : decode cX8_executes 8 = .ok (.aload_n 0, 1) := by decide +kernel
theorem dX8_executes_9 : decode cX8_executes 9 = .ok (.getfield 50, 3) := by decide +kernel
theorem dX8_executes_12 : decode cX8_executes 12 = .ok (.iload_n 2, 1) := by decide +kernel
theorem dX8_executes_13 : decode cX8_executes 13 = .ok (.iconst 0, 1) := by decide +kernel
theorem dX8_executes_14 : decode cX8_executes 14 = .ok (.iastore, 1) := by decide +kernel
theorem dX8_executes_15 : decode cX8_executes 15 = .ok (.iinc 2 1, 3) := by decide +kernel
theorem dX8_executes_18 : decode cX8_executes 18 = .ok (.goto (-16), 3) := by decide +kernel
theorem dX8_executes_21 : decode cX8_executes 21 = .ok (.aload_n 0, 1) := by decide +kernel
theorem dX8_executes_22 : decode cX8_executes 22 = .ok (.iconst 0, 1) := by decide +kernel
theorem dX8_executes_23 : decode cX8_executes 23 = .ok (.putfield 138, 3) := by decide +kernel
theorem dX8_executes_26 : decode cX8_executes 26 = .ok (.iconst 0, 1) := by decide +kernel
theorem dX8_executes_27 : decode cX8_executes 27 = .ok (.istore_n 2, 1) := by decide +kernel
theorem dX8_executes_28 : decode cX8_executes 28 = .ok (.iload_n 2, 1) := by decide +kernel
theorem dX8_executes_29 : decode cX8_executes 29 = .ok (.ifCond .lt 137, 3) := by decide +kernel
theorem dX8_executes_32 : decode cX8_executes 32 = .ok (.aload_n 0, 1) := by decide +kernel
theorem dX8_executes_33 : decode cX8_executes 33 = .ok (.getfield 138, 3) := by decide +kernel
theorem dX8_executes_36 : decode cX8_executes 36 = .ok (.iload_n 1, 1) := by decide +kernel
theorem dX8_executes_37 : decode cX8_executes 37 = .ok (.if_icmp .ne 5, 3) := by decide +kernel
theorem dX8_executes_40 : decode cX8_executes 40 = .ok (.iconst 0, 1) := by decide +kernel
theorem dX8_executes_41 : decode cX8_executes 41 = .ok (.ireturn, 1) := by decide +kernel
theorem dX8_executes_42 : decode cX8_executes 42 = .ok (.aload_n 0, 1) := by decide +kernel
theorem dX8_executes_43 : decode cX8_executes 43 = .ok (.getfield 47, 3) := by decide +kernel
theorem dX8_executes_46 : decode cX8_executes 46 = .ok (.aload_n 0, 1) := by decide +kernel
theorem dX8_executes_47 : decode cX8_executes 47 = .ok (.getfield 138, 3) := by decide +kernel
theorem dX8_executes_50 : decode cX8_executes 50 = .ok (.iload_n 2, 1) := by decide +kernel
theorem dX8_executes_51 : decode cX8_executes 51 = .ok (.iastore, 1) := by decide +kernel
theorem dX8_executes_52 : decode cX8_executes 52 = .ok (.aload_n 0, 1) := by decide +kernel
theorem dX8_executes_53 : decode cX8_executes 53 = .ok (.getfield 20, 3) := by decide +kernel
theorem dX8_executes_56 : decode cX8_executes 56 = .ok (.iload_n 2, 1) := by decide +kernel
theorem dX8_executes_57 : decode cX8_executes 57 = .ok (.iaload, 1) := by decide +kernel
theorem dX8_executes_58 : decode cX8_executes 58 = .ok (.ifCond .eq 35, 3) := by decide +kernel
theorem dX8_executes_61 : decode cX8_executes 61 = .ok (.aload_n 0, 1) := by decide +kernel
theorem dX8_executes_62 : decode cX8_executes 62 = .ok (.getfield 20, 3) := by decide +kernel
theorem dX8_executes_65 : decode cX8_executes 65 = .ok (.iload_n 2, 1) := by decide +kernel
theorem dX8_executes_66 : decode cX8_executes 66 = .ok (.iaload, 1) := by decide +kernel
theorem dX8_executes_67 : decode cX8_executes 67 = .ok (.iconst 1, 1) := by decide +kernel
theorem dX8_executes_68 : decode cX8_executes 68 = .ok (.if_icmp .ne 29, 3) := by decide +kernel
theorem dX8_executes_71 : decode cX8_executes 71 = .ok (.aload_n 0, 1) := by decide +kernel
theorem dX8_executes_72 : decode cX8_executes 72 = .ok (.getfield 29, 3) := by decide +kernel
theorem dX8_executes_75 : decode cX8_executes 75 = .ok (.iload_n 2, 1) := by decide +kernel
theorem dX8_executes_76 : decode cX8_executes 76 = .ok (.iaload, 1) := by decide +kernel
theorem dX8_executes_77 : decode cX8_executes 77 = .ok (.aload_n 0, 1) := by decide +kernel
theorem dX8_executes_78 : decode cX8_executes 78 = .ok (.getfield 50, 3) := by decide +kernel
theorem dX8_executes_81 : decode cX8_executes 81 = .ok (.iload_n 2, 1) := by decide +kernel
theorem dX8_executes_82 : decode cX8_executes 82 = .ok (.iaload, 1) := by decide +kernel
theorem dX8_executes_83 : decode cX8_executes 83 = .ok (.bipush 32, 2) := by decide +kernel
theorem dX8_executes_85 : decode cX8_executes 85 = .ok (.irem, 1) := by decide +kernel
theorem dX8_executes_86 : decode cX8_executes 86 = .ok (.ishr, 1) := by decide +kernel
theorem dX8_executes_87 : decode cX8_executes 87 = .ok (.iconst 1, 1) := by decide +kernel
theorem dX8_executes_88 : decode cX8_executes 88 = .ok (.iand, 1) := by decide +kernel
theorem dX8_executes_89 : decode cX8_executes 89 = .ok (.iconst 1, 1) := by decide +kernel
theorem dX8_executes_90 : decode cX8_executes 90 = .ok (.if_icmp .ne 7, 3) := by decide +kernel
theorem dX8_executes_93 : decode cX8_executes 93 = .ok (.iconst 1, 1) := by decide +kernel
theorem dX8_executes_94 : decode cX8_executes 94 = .ok (.goto 4, 3) := by decide +kernel
theorem dX8_executes_97 : decode cX8_executes 97 = .ok (.iconst 0, 1) := by decide +kernel
theorem dX8_executes_98 : decode cX8_executes 98 = .ok (.istore_n 3, 1) := by decide +kernel
theorem dX8_executes_99 : decode cX8_executes 99 = .ok (.aload_n 0, 1) := by decide +kernel
theorem dX8_executes_100 : decode cX8_executes 100 = .ok (.getfield 53, 3) := by decide +kernel
theorem dX8_executes_103 : decode cX8_executes 103 = .ok (.aload_n 0, 1) := by decide +kernel
theorem dX8_executes_104 : decode cX8_executes 104 = .ok (.getfield 138, 3) := by decide +kernel
theorem dX8_executes_107 : decode cX8_executes 107 = .ok (.iload_n 3, 1) := by decide +kernel
theorem dX8_executes_108 : decode cX8_executes 108 = .ok (.bastore, 1) := by decide +kernel
theorem dX8_executes_109 : decode cX8_executes 109 = .ok (.aload_n 0, 1) := by decide +kernel
theorem dX8_executes_110 : decode cX8_executes 110 = .ok (.dup, 1) := by decide +kernel
theorem dX8_executes_111 : decode cX8_executes 111 = .ok (.getfield 138, 3) := by decide +kernel
theorem dX8_executes_114 : decode cX8_executes 114 = .ok (.iconst 1, 1) := by decide +kernel
theorem dX8_executes_115 : decode cX8_executes 115 = .ok (.iadd, 1) := by decide +kernel
theorem dX8_executes_116 : decode cX8_executes 116 = .ok (.putfield 138, 3) := by decide +kernel
theorem dX8_executes_119 : decode cX8_executes 119 = .ok (.aload_n 0, 1) := by decide +kernel
theorem dX8_executes_120 : decode cX8_executes 120 = .ok (.getfield 50, 3) := by decide +kernel
theorem dX8_executes_123 : decode cX8_executes 123 = .ok (.iload_n 2, 1) := by decide +kernel
theorem dX8_executes_124 : decode cX8_executes 124 = .ok (.dup2, 1) := by decide +kernel
theorem dX8_executes_125 : decode cX8_executes 125 = .ok (.iaload, 1) := by decide +kernel
theorem dX8_executes_126 : decode cX8_executes 126 = .ok (.iconst 1, 1) := by decide +kernel
theorem dX8_executes_127 : decode cX8_executes 127 = .ok (.iadd, 1) := by decide +kernel
theorem dX8_executes_128 : decode cX8_executes 128 = .ok (.iastore, 1) := by decide +kernel
theorem dX8_executes_129 : decode cX8_executes 129 = .ok (.aload_n 0, 1) := by decide +kernel
theorem dX8_executes_130 : decode cX8_executes 130 = .ok (.getfield 20, 3) := by decide +kernel
theorem dX8_executes_133 : decode cX8_executes 133 = .ok (.iload_n 2, 1) := by decide +kernel
theorem dX8_executes_134 : decode cX8_executes 134 = .ok (.iaload, 1) := by decide +kernel
theorem dX8_executes_135 : decode cX8_executes 135 = .ok (.iconst 2, 1) := by decide +kernel
theorem dX8_executes_136 : decode cX8_executes 136 = .ok (.if_icmp .ne 7, 3) := by decide +kernel
theorem dX8_executes_139 : decode cX8_executes 139 = .ok (.iconst (-1), 1) := by decide +kernel
theorem dX8_executes_140 : decode cX8_executes 140 = .ok (.goto 22, 3) := by decide +kernel
theorem dX8_executes_143 : decode cX8_executes 143 = .ok (.iload_n 3, 1) := by decide +kernel
theorem dX8_executes_144 : decode cX8_executes 144 = .ok (.ifCond .eq 12, 3) := by decide +kernel
theorem dX8_executes_147 : decode cX8_executes 147 = .ok (.aload_n 0, 1) := by decide +kernel
theorem dX8_executes_148 : decode cX8_executes 148 = .ok (.getfield 23, 3) := by decide +kernel
theorem dX8_executes_151 : decode cX8_executes 151 = .ok (.iload_n 2, 1) := by decide +kernel
theorem dX8_executes_152 : decode cX8_executes 152 = .ok (.iaload, 1) := by decide +kernel
theorem dX8_executes_153 : decode cX8_executes 153 = .ok (.goto 9, 3) := by decide +kernel
theorem dX8_executes_156 : decode cX8_executes 156 = .ok (.aload_n 0, 1) := by decide +kernel
theorem dX8_executes_157 : decode cX8_executes 157 = .ok (.getfield 26, 3) := by decide +kernel
theorem dX8_executes_160 : decode cX8_executes 160 = .ok (.iload_n 2, 1) := by decide +kernel
theorem dX8_executes_161 : decode cX8_executes 161 = .ok (.iaload, 1) := by decide +kernel
theorem dX8_executes_162 : decode cX8_executes 162 = .ok (.istore_n 2, 1) := by decide +kernel
theorem dX8_executes_163 : decode cX8_executes 163 = .ok (.goto (-135), 3) := by decide +kernel
theorem dX8_executes_166 : decode cX8_executes 166 = .ok (.aload_n 0, 1) := by decide +kernel
theorem dX8_executes_167 : decode cX8_executes 167 = .ok (.aload_n 0, 1) := by decide +kernel
theorem dX8_executes_168 : decode cX8_executes 168 = .ok (.getfield 138, 3) := by decide +kernel
theorem dX8_executes_171 : decode cX8_executes 171 = .ok (.putfield 141, 3) := by decide +kernel
theorem dX8_executes_174 : decode cX8_executes 174 = .ok (.iconst 0, 1) := by decide +kernel
theorem dX8_executes_175 : decode cX8_executes 175 = .ok (.istore_n 3, 1) := by decide +kernel
theorem dX8_executes_176 : decode cX8_executes 176 = .ok (.iload_n 3, 1) := by decide +kernel
theorem dX8_executes_177 : decode cX8_executes 177 = .ok (.aload_n 0, 1) := by decide +kernel
theorem dX8_executes_178 : decode cX8_executes 178 = .ok (.getfield 138, 3) := by decide +kernel
theorem dX8_executes_181 : decode cX8_executes 181 = .ok (.if_icmp .ge 21, 3) := by decide +kernel
theorem dX8_executes_184 : decode cX8_executes 184 = .ok (.aload_n 0, 1) := by decide +kernel
theorem dX8_executes_185 : decode cX8_executes 185 = .ok (.getfield 44, 3) := by decide +kernel
theorem dX8_executes_188 : decode cX8_executes 188 = .ok (.iload_n 3, 1) := by decide +kernel
theorem dX8_executes_189 : decode cX8_executes 189 = .ok (.aload_n 0, 1) := by decide +kernel
theorem dX8_executes_190 : decode cX8_executes 190 = .ok (.getfield 47, 3) := by decide +kernel
theorem dX8_executes_193 : decode cX8_executes 193 = .ok (.iload_n 3, 1) := by decide +kernel
theorem dX8_executes_194 : decode cX8_executes 194 = .ok (.iaload, 1) := by decide +kernel
theorem dX8_executes_195 : decode cX8_executes 195 = .ok (.iastore, 1) := by decide +kernel
theorem dX8_executes_196 : decode cX8_executes 196 = .ok (.iinc 3 1, 3) := by decide +kernel
theorem dX8_executes_199 : decode cX8_executes 199 = .ok (.goto (-23), 3) := by decide +kernel
theorem dX8_executes_202 : decode cX8_executes 202 = .ok (.iconst 1, 1) := by decide +kernel
theorem dX8_executes_203 : decode cX8_executes 203 = .ok (.ireturn, 1) := by decide +kernel
theorem dX8_mayRun_0 : decode cX8_mayRun 0 = .ok (.aload_n 0, 1) := by decide +kernel
theorem dX8_mayRun_1 : decode cX8_mayRun 1 = .ok (.iload_n 1, 1) := by decide +kernel
theorem dX8_mayRun_2 : decode cX8_mayRun 2 = .ok (.iconst 1, 1) := by decide +kernel
theorem dX8_mayRun_3 : decode cX8_mayRun 3 = .ok (.sipush 500, 3) := by decide +kernel
theorem dX8_mayRun_6 : decode cX8_mayRun 6 = .ok (.invokestatic 109, 3) := by decide +kernel
theorem dX8_mayRun_9 : decode cX8_mayRun 9 = .ok (.ifCond .ne 7, 3) := by decide +kernel
theorem dX8_mayRun_12 : decode cX8_mayRun 12 = .ok (.iconst 1, 1) := by decide +kernel
theorem dX8_mayRun_13 : decode cX8_mayRun 13 = .ok (.goto 16, 3) := by decide +kernel
theorem dX8_mayRun_16 : decode cX8_mayRun 16 = .ok (.aload_n 0, 1) := by decide +kernel
theorem dX8_mayRun_17 : decode cX8_mayRun 17 = .ok (.iload_n 1, 1) := by decide +kernel
theorem dX8_mayRun_18 : decode cX8_mayRun 18 = .ok (.invokevirtual 144, 3) := by decide +kernel
theorem dX8_mayRun_21 : decode cX8_mayRun 21 = .ok (.ifCond .eq 7, 3) := by decide +kernel
theorem dX8_mayRun_24 : decode cX8_mayRun 24 = .ok (.iconst 0, 1) := by decide +kernel
theorem dX8_mayRun_25 : decode cX8_mayRun 25 = .ok (.goto 4, 3) := by decide +kernel
theorem dX8_mayRun_28 : decode cX8_mayRun 28 = .ok (.iconst 2, 1) := by decide +kernel
theorem dX8_mayRun_29 : decode cX8_mayRun 29 = .ok (.putfield 103, 3) := by decide +kernel
theorem dX8_mayRun_32 : decode cX8_mayRun 32 = .ok (.aload_n 0, 1) := by decide +kernel
theorem dX8_mayRun_33 : decode cX8_mayRun 33 = .ok (.getfield 103, 3) := by decide +kernel
theorem dX8_mayRun_36 : decode cX8_mayRun 36 = .ok (.ifCond .ne 7, 3) := by decide +kernel
theorem dX8_mayRun_39 : decode cX8_mayRun 39 = .ok (.iconst 1, 1) := by decide +kernel
theorem dX8_mayRun_40 : decode cX8_mayRun 40 = .ok (.goto 4, 3) := by decide +kernel
theorem dX8_mayRun_43 : decode cX8_mayRun 43 = .ok (.iconst 0, 1) := by decide +kernel
theorem dX8_mayRun_44 : decode cX8_mayRun 44 = .ok (.ireturn, 1) := by decide +kernel
theorem dX8_run_0 : decode cX8_run 0 = .ok (.aload_n 0, 1) := by decide +kernel
theorem dX8_run_1 : decode cX8_run 1 = .ok (.iload_n 1, 1) := by decide +kernel
theorem dX8_run_2 : decode cX8_run 2 = .ok (.invokevirtual 147, 3) := by decide +kernel
theorem dX8_run_5 : decode cX8_run 5 = .ok (.ifCond .ne 5, 3) := by decide +kernel
theorem dX8_run_8 : decode cX8_run 8 = .ok (.iconst 0, 1) := by decide +kernel
theorem dX8_run_9 : decode cX8_run 9 = .ok (.ireturn, 1) := by decide +kernel
theorem dX8_run_10 : decode cX8_run 10 = .ok (.iconst 0, 1) := by decide +kernel
theorem dX8_run_11 : decode cX8_run 11 = .ok (.istore_n 2, 1) := by decide +kernel
theorem dX8_run_12 : decode cX8_run 12 = .ok (.iload_n 2, 1) := by decide +kernel
theorem dX8_run_13 : decode cX8_run 13 = .ok (.aload_n 0, 1) := by decide +kernel
theorem dX8_run_14 : decode cX8_run 14 = .ok (.getfield 138, 3) := by decide +kernel
theorem dX8_run_17 : decode cX8_run 17 = .ok (.if_icmp .ge 92, 3) := by decide +kernel
theorem dX8_run_20 : decode cX8_run 20 = .ok (.aload_n 0, 1) := by decide +kernel
theorem dX8_run_21 : decode cX8_run 21 = .ok (.getfield 47, 3) := by decide +kernel
theorem dX8_run_24 : decode cX8_run 24 = .ok (.iload_n 2, 1) := by decide +kernel
theorem dX8_run_25 : decode cX8_run 25 = .ok (.iaload, 1) := by decide +kernel
theorem dX8_run_26 : decode cX8_run 26 = .ok (.istore_n 3, 1) := by decide +kernel
theorem dX8_run_27 : decode cX8_run 27 = .ok (.aload_n 0, 1) := by decide +kernel
theorem dX8_run_28 : decode cX8_run 28 = .ok (.getfield 32, 3) := by decide +kernel
theorem dX8_run_31 : decode cX8_run 31 = .ok (.iload_n 3, 1) := by decide +kernel
theorem dX8_run_32 : decode cX8_run 32 = .ok (.dup2, 1) := by decide +kernel
theorem dX8_run_33 : decode cX8_run 33 = .ok (.iaload, 1) := by decide +kernel
theorem dX8_run_34 : decode cX8_run 34 = .ok (.iconst 1, 1) := by decide +kernel
theorem dX8_run_35 : decode cX8_run 35 = .ok (.iadd, 1) := by decide +kernel
theorem dX8_run_36 : decode cX8_run 36 = .ok (.iastore, 1) := by decide +kernel
theorem dX8_run_37 : decode cX8_run 37 = .ok (.aload_n 0, 1) := by decide +kernel
theorem dX8_run_38 : decode cX8_run 38 = .ok (.getfield 35, 3) := by decide +kernel
theorem dX8_run_41 : decode cX8_run 41 = .ok (.iload_n 3, 1) := by decide +kernel
theorem dX8_run_42 : decode cX8_run 42 = .ok (.dup2, 1) := by decide +kernel
theorem dX8_run_43 : decode cX8_run 43 = .ok (.iaload, 1) := by decide +kernel
theorem dX8_run_44 : decode cX8_run 44 = .ok (.aload_n 0, 1) := by decide +kernel
theorem dX8_run_45 : decode cX8_run 45 = .ok (.getfield 20, 3) := by decide +kernel
theorem dX8_run_48 : decode cX8_run 48 = .ok (.iload_n 3, 1) := by decide +kernel
theorem dX8_run_49 : decode cX8_run 49 = .ok (.iaload, 1) := by decide +kernel
theorem dX8_run_50 : decode cX8_run 50 = .ok (.iconst 2, 1) := by decide +kernel
theorem dX8_run_51 : decode cX8_run 51 = .ok (.if_icmp .eq 16, 3) := by decide +kernel
theorem dX8_run_54 : decode cX8_run 54 = .ok (.aload_n 0, 1) := by decide +kernel
theorem dX8_run_55 : decode cX8_run 55 = .ok (.getfield 53, 3) := by decide +kernel
theorem dX8_run_58 : decode cX8_run 58 = .ok (.iload_n 2, 1) := by decide +kernel
theorem dX8_run_59 : decode cX8_run 59 = .ok (.baload, 1) := by decide +kernel
theorem dX8_run_60 : decode cX8_run 60 = .ok (.ifCond .eq 7, 3) := by decide +kernel
theorem dX8_run_63 : decode cX8_run 63 = .ok (.iconst 1, 1) := by decide +kernel
theorem dX8_run_64 : decode cX8_run 64 = .ok (.goto 4, 3) := by decide +kernel
theorem dX8_run_67 : decode cX8_run 67 = .ok (.iconst 0, 1) := by decide +kernel
theorem dX8_run_68 : decode cX8_run 68 = .ok (.iadd, 1) := by decide +kernel
theorem dX8_run_69 : decode cX8_run 69 = .ok (.iastore, 1) := by decide +kernel
theorem dX8_run_70 : decode cX8_run 70 = .ok (.aload_n 0, 1) := by decide +kernel
theorem dX8_run_71 : decode cX8_run 71 = .ok (.getfield 38, 3) := by decide +kernel
theorem dX8_run_74 : decode cX8_run 74 = .ok (.iload_n 3, 1) := by decide +kernel
theorem dX8_run_75 : decode cX8_run 75 = .ok (.dup2, 1) := by decide +kernel
theorem dX8_run_76 : decode cX8_run 76 = .ok (.iaload, 1) := by decide +kernel
theorem dX8_run_77 : decode cX8_run 77 = .ok (.aload_n 0, 1) := by decide +kernel
theorem dX8_run_78 : decode cX8_run 78 = .ok (.getfield 20, 3) := by decide +kernel
theorem dX8_run_81 : decode cX8_run 81 = .ok (.iload_n 3, 1) := by decide +kernel
theorem dX8_run_82 : decode cX8_run 82 = .ok (.iaload, 1) := by decide +kernel
theorem dX8_run_83 : decode cX8_run 83 = .ok (.iconst 1, 1) := by decide +kernel
theorem dX8_run_84 : decode cX8_run 84 = .ok (.if_icmp .ne 16, 3) := by decide +kernel
theorem dX8_run_87 : decode cX8_run 87 = .ok (.aload_n 0, 1) := by decide +kernel
theorem dX8_run_88 : decode cX8_run 88 = .ok (.getfield 53, 3) := by decide +kernel
theorem dX8_run_91 : decode cX8_run 91 = .ok (.iload_n 2, 1) := by decide +kernel
theorem dX8_run_92 : decode cX8_run 92 = .ok (.baload, 1) := by decide +kernel
theorem dX8_run_93 : decode cX8_run 93 = .ok (.ifCond .ne 7, 3) := by decide +kernel
theorem dX8_run_96 : decode cX8_run 96 = .ok (.iconst 1, 1) := by decide +kernel
theorem dX8_run_97 : decode cX8_run 97 = .ok (.goto 4, 3) := by decide +kernel
theorem dX8_run_100 : decode cX8_run 100 = .ok (.iconst 0, 1) := by decide +kernel
theorem dX8_run_101 : decode cX8_run 101 = .ok (.iadd, 1) := by decide +kernel
theorem dX8_run_102 : decode cX8_run 102 = .ok (.iastore, 1) := by decide +kernel
theorem dX8_run_103 : decode cX8_run 103 = .ok (.iinc 2 1, 3) := by decide +kernel
theorem dX8_run_106 : decode cX8_run 106 = .ok (.goto (-94), 3) := by decide +kernel
theorem dX8_run_109 : decode cX8_run 109 = .ok (.aload_n 0, 1) := by decide +kernel
theorem dX8_run_110 : decode cX8_run 110 = .ok (.getfield 138, 3) := by decide +kernel
theorem dX8_run_113 : decode cX8_run 113 = .ok (.ireturn, 1) := by decide +kernel
theorem dX8_runLayout_0 : decode cX8_runLayout 0 = .ok (.aload_n 0, 1) := by decide +kernel
theorem dX8_runLayout_1 : decode cX8_runLayout 1 = .ok (.iload_n 1, 1) := by decide +kernel
theorem dX8_runLayout_2 : decode cX8_runLayout 2 = .ok (.invokevirtual 147, 3) := by decide +kernel
theorem dX8_runLayout_5 : decode cX8_runLayout 5 = .ok (.ifCond .ne 5, 3) := by decide +kernel
theorem dX8_runLayout_8 : decode cX8_runLayout 8 = .ok (.iconst 0, 1) := by decide +kernel
theorem dX8_runLayout_9 : decode cX8_runLayout 9 = .ok (.ireturn, 1) := by decide +kernel
theorem dX8_runLayout_10 : decode cX8_runLayout 10 = .ok (.aload_n 0, 1) := by decide +kernel
theorem dX8_runLayout_11 : decode cX8_runLayout 11 = .ok (.invokevirtual 150, 3) := by decide +kernel
theorem dX8_runLayout_14 : decode cX8_runLayout 14 = .ok (.iconst 0, 1) := by decide +kernel
theorem dX8_runLayout_15 : decode cX8_runLayout 15 = .ok (.istore_n 2, 1) := by decide +kernel
theorem dX8_runLayout_16 : decode cX8_runLayout 16 = .ok (.iconst 0, 1) := by decide +kernel
theorem dX8_runLayout_17 : decode cX8_runLayout 17 = .ok (.istore_n 3, 1) := by decide +kernel
theorem dX8_runLayout_18 : decode cX8_runLayout 18 = .ok (.iload_n 3, 1) := by decide +kernel
theorem dX8_runLayout_19 : decode cX8_runLayout 19 = .ok (.aload_n 0, 1) := by decide +kernel
theorem dX8_runLayout_20 : decode cX8_runLayout 20 = .ok (.getfield 138, 3) := by decide +kernel
theorem dX8_runLayout_23 : decode cX8_runLayout 23 = .ok (.if_icmp .ge 153, 3) := by decide +kernel
theorem dX8_runLayout_26 : decode cX8_runLayout 26 = .ok (.aload_n 0, 1) := by decide +kernel
theorem dX8_runLayout_27 : decode cX8_runLayout 27 = .ok (.getfield 47, 3) := by decide +kernel
theorem dX8_runLayout_30 : decode cX8_runLayout 30 = .ok (.iload_n 3, 1) := by decide +kernel
theorem dX8_runLayout_31 : decode cX8_runLayout 31 = .ok (.iaload, 1) := by decide +kernel
theorem dX8_runLayout_32 : decode cX8_runLayout 32 = .ok (.istore 4, 2) := by decide +kernel
theorem dX8_runLayout_34 : decode cX8_runLayout 34 = .ok (.aload_n 0, 1) := by decide +kernel
theorem dX8_runLayout_35 : decode cX8_runLayout 35 = .ok (.iload 4, 2) := by decide +kernel
theorem dX8_runLayout_37 : decode cX8_runLayout 37 = .ok (.invokevirtual 153, 3) := by decide +kernel
theorem dX8_runLayout_40 : decode cX8_runLayout 40 = .ok (.istore 5, 2) := by decide +kernel
theorem dX8_runLayout_42 : decode cX8_runLayout 42 = .ok (.aload_n 0, 1) := by decide +kernel
theorem dX8_runLayout_43 : decode cX8_runLayout 43 = .ok (.getfield 20, 3) := by decide +kernel
theorem dX8_runLayout_46 : decode cX8_runLayout 46 = .ok (.iload 4, 2) := by decide +kernel
theorem dX8_runLayout_48 : decode cX8_runLayout 48 = .ok (.iaload, 1) := by decide +kernel
theorem dX8_runLayout_49 : decode cX8_runLayout 49 = .ok (.iconst 2, 1) := by decide +kernel
theorem dX8_runLayout_50 : decode cX8_runLayout 50 = .ok (.if_icmp .ne 6, 3) := by decide +kernel
theorem dX8_runLayout_53 : decode cX8_runLayout 53 = .ok (.goto 117, 3) := by decide +kernel
theorem dX8_runLayout_56 : decode cX8_runLayout 56 = .ok (.aload_n 0, 1) := by decide +kernel
theorem dX8_runLayout_57 : decode cX8_runLayout 57 = .ok (.getfield 53, 3) := by decide +kernel
theorem dX8_runLayout_60 : decode cX8_runLayout 60 = .ok (.iload_n 3, 1) := by decide +kernel
theorem dX8_runLayout_61 : decode cX8_runLayout 61 = .ok (.baload, 1) := by decide +kernel
theorem dX8_runLayout_62 : decode cX8_runLayout 62 = .ok (.ifCond .eq 13, 3) := by decide +kernel
theorem dX8_runLayout_65 : decode cX8_runLayout 65 = .ok (.aload_n 0, 1) := by decide +kernel
theorem dX8_runLayout_66 : decode cX8_runLayout 66 = .ok (.getfield 23, 3) := by decide +kernel
theorem dX8_runLayout_69 : decode cX8_runLayout 69 = .ok (.iload 4, 2) := by decide +kernel
theorem dX8_runLayout_71 : decode cX8_runLayout 71 = .ok (.iaload, 1) := by decide +kernel
theorem dX8_runLayout_72 : decode cX8_runLayout 72 = .ok (.goto 10, 3) := by decide +kernel
theorem dX8_runLayout_75 : decode cX8_runLayout 75 = .ok (.aload_n 0, 1) := by decide +kernel
theorem dX8_runLayout_76 : decode cX8_runLayout 76 = .ok (.getfield 26, 3) := by decide +kernel
theorem dX8_runLayout_79 : decode cX8_runLayout 79 = .ok (.iload 4, 2) := by decide +kernel
theorem dX8_runLayout_81 : decode cX8_runLayout 81 = .ok (.iaload, 1) := by decide +kernel
theorem dX8_runLayout_82 : decode cX8_runLayout 82 = .ok (.istore 6, 2) := by decide +kernel
theorem dX8_runLayout_84 : decode cX8_runLayout 84 = .ok (.aload_n 0, 1) := by decide +kernel
theorem dX8_runLayout_85 : decode cX8_runLayout 85 = .ok (.iload 4, 2) := by decide +kernel
theorem dX8_runLayout_87 : decode cX8_runLayout 87 = .ok (.iload 5, 2) := by decide +kernel
theorem dX8_runLayout_89 : decode cX8_runLayout 89 = .ok (.invokevirtual 156, 3) := by decide +kernel
theorem dX8_runLayout_92 : decode cX8_runLayout 92 = .ok (.istore 7, 2) := by decide +kernel
theorem dX8_runLayout_94 : decode cX8_runLayout 94 = .ok (.iload 7, 2) := by decide +kernel
theorem dX8_runLayout_96 : decode cX8_runLayout 96 = .ok (.iconst 1, 1) := by decide +kernel
theorem dX8_runLayout_97 : decode cX8_runLayout 97 = .ok (.if_icmp .ne 9, 3) := by decide +kernel
theorem dX8_runLayout_100 : decode cX8_runLayout 100 = .ok (.iinc 2 2, 3) := by decide +kernel
theorem dX8_runLayout_103 : decode cX8_runLayout 103 = .ok (.goto 42, 3) := by decide +kernel
theorem dX8_runLayout_106 : decode cX8_runLayout 106 = .ok (.iload 7, 2) := by decide +kernel
theorem dX8_runLayout_108 : decode cX8_runLayout 108 = .ok (.iconst 4, 1) := by decide +kernel
theorem dX8_runLayout_109 : decode cX8_runLayout 109 = .ok (.if_icmp .ne 9, 3) := by decide +kernel
theorem dX8_runLayout_112 : decode cX8_runLayout 112 = .ok (.iinc 2 3, 3) := by decide +kernel
theorem dX8_runLayout_115 : decode cX8_runLayout 115 = .ok (.goto 30, 3) := by decide +kernel
theorem dX8_runLayout_118 : decode cX8_runLayout 118 = .ok (.iload 7, 2) := by decide +kernel
theorem dX8_runLayout_120 : decode cX8_runLayout 120 = .ok (.iconst 2, 1) := by decide +kernel
theorem dX8_runLayout_121 : decode cX8_runLayout 121 = .ok (.if_icmp .eq 9, 3) := by decide +kernel
theorem dX8_runLayout_124 : decode cX8_runLayout 124 = .ok (.iload 7, 2) := by decide +kernel
theorem dX8_runLayout_126 : decode cX8_runLayout 126 = .ok (.iconst 3, 1) := by decide +kernel
theorem dX8_runLayout_127 : decode cX8_runLayout 127 = .ok (.if_icmp .ne 18, 3) := by decide +kernel
theorem dX8_runLayout_130 : decode cX8_runLayout 130 = .ok (.iload_n 2, 1) := by decide +kernel
theorem dX8_runLayout_131 : decode cX8_runLayout 131 = .ok (.iload 6, 2) := by decide +kernel
theorem dX8_runLayout_133 : decode cX8_runLayout 133 = .ok (.iload 5, 2) := by decide +kernel
theorem dX8_runLayout_135 : decode cX8_runLayout 135 = .ok (.if_icmp .ne 7, 3) := by decide +kernel
theorem dX8_runLayout_138 : decode cX8_runLayout 138 = .ok (.iconst 1, 1) := by decide +kernel
theorem dX8_runLayout_139 : decode cX8_runLayout 139 = .ok (.goto 4, 3) := by decide +kernel
theorem dX8_runLayout_142 : decode cX8_runLayout 142 = .ok (.iconst 3, 1) := by decide +kernel
theorem dX8_runLayout_143 : decode cX8_runLayout 143 = .ok (.iadd, 1) := by decide +kernel
theorem dX8_runLayout_144 : decode cX8_runLayout 144 = .ok (.istore_n 2, 1) := by decide +kernel
theorem dX8_runLayout_145 : decode cX8_runLayout 145 = .ok (.iload_n 2, 1) := by decide +kernel
theorem dX8_runLayout_146 : decode cX8_runLayout 146 = .ok (.iload 6, 2) := by decide +kernel
theorem dX8_runLayout_148 : decode cX8_runLayout 148 = .ok (.iload 5, 2) := by decide +kernel
theorem dX8_runLayout_150 : decode cX8_runLayout 150 = .ok (.if_icmp .ne 17, 3) := by decide +kernel
theorem dX8_runLayout_153 : decode cX8_runLayout 153 = .ok (.aload_n 0, 1) := by decide +kernel
theorem dX8_runLayout_154 : decode cX8_runLayout 154 = .ok (.getfield 60, 3) := by decide +kernel
theorem dX8_runLayout_157 : decode cX8_runLayout 157 = .ok (.iload 6, 2) := by decide +kernel
theorem dX8_runLayout_159 : decode cX8_runLayout 159 = .ok (.iaload, 1) := by decide +kernel
theorem dX8_runLayout_160 : decode cX8_runLayout 160 = .ok (.ifCond .le 7, 3) := by decide +kernel
theorem dX8_runLayout_163 : decode cX8_runLayout 163 = .ok (.iconst 1, 1) := by decide +kernel
theorem dX8_runLayout_164 : decode cX8_runLayout 164 = .ok (.goto 4, 3) := by decide +kernel
theorem dX8_runLayout_167 : decode cX8_runLayout 167 = .ok (.iconst 0, 1) := by decide +kernel
theorem dX8_runLayout_168 : decode cX8_runLayout 168 = .ok (.iadd, 1) := by decide +kernel
theorem dX8_runLayout_169 : decode cX8_runLayout 169 = .ok (.istore_n 2, 1) := by decide +kernel
theorem dX8_runLayout_170 : decode cX8_runLayout 170 = .ok (.iinc 3 1, 3) := by decide +kernel
theorem dX8_runLayout_173 : decode cX8_runLayout 173 = .ok (.goto (-155), 3) := by decide +kernel
theorem dX8_runLayout_176 : decode cX8_runLayout 176 = .ok (.iload_n 2, 1) := by decide +kernel
theorem dX8_runLayout_177 : decode cX8_runLayout 177 = .ok (.ireturn, 1) := by decide +kernel
theorem dX8_pathLength_0 : decode cX8_pathLength 0 = .ok (.aload_n 0, 1) := by decide +kernel
theorem dX8_pathLength_1 : decode cX8_pathLength 1 = .ok (.iconst 0, 1) := by decide +kernel
theorem dX8_pathLength_2 : decode cX8_pathLength 2 = .ok (.putfield 103, 3) := by decide +kernel
theorem dX8_pathLength_5 : decode cX8_pathLength 5 = .ok (.aload_n 0, 1) := by decide +kernel
theorem dX8_pathLength_6 : decode cX8_pathLength 6 = .ok (.getfield 141, 3) := by decide +kernel
theorem dX8_pathLength_9 : decode cX8_pathLength 9 = .ok (.ireturn, 1) := by decide +kernel
theorem dX8_pathBlock_0 : decode cX8_pathBlock 0 = .ok (.aload_n 0, 1) := by decide +kernel
theorem dX8_pathBlock_1 : decode cX8_pathBlock 1 = .ok (.iload_n 1, 1) := by decide +kernel
theorem dX8_pathBlock_2 : decode cX8_pathBlock 2 = .ok (.iconst 0, 1) := by decide +kernel
theorem dX8_pathBlock_3 : decode cX8_pathBlock 3 = .ok (.aload_n 0, 1) := by decide +kernel
theorem dX8_pathBlock_4 : decode cX8_pathBlock 4 = .ok (.getfield 141, 3) := by decide +kernel
theorem dX8_pathBlock_7 : decode cX8_pathBlock 7 = .ok (.iconst 1, 1) := by decide +kernel
theorem dX8_pathBlock_8 : decode cX8_pathBlock 8 = .ok (.isub, 1) := by decide +kernel
theorem dX8_pathBlock_9 : decode cX8_pathBlock 9 = .ok (.invokestatic 109, 3) := by decide +kernel
theorem dX8_pathBlock_12 : decode cX8_pathBlock 12 = .ok (.ifCond .eq 7, 3) := by decide +kernel
theorem dX8_pathBlock_15 : decode cX8_pathBlock 15 = .ok (.iconst 0, 1) := by decide +kernel
theorem dX8_pathBlock_16 : decode cX8_pathBlock 16 = .ok (.goto 4, 3) := by decide +kernel
theorem dX8_pathBlock_19 : decode cX8_pathBlock 19 = .ok (.iconst 1, 1) := by decide +kernel
theorem dX8_pathBlock_20 : decode cX8_pathBlock 20 = .ok (.putfield 103, 3) := by decide +kernel
theorem dX8_pathBlock_23 : decode cX8_pathBlock 23 = .ok (.aload_n 0, 1) := by decide +kernel
theorem dX8_pathBlock_24 : decode cX8_pathBlock 24 = .ok (.getfield 103, 3) := by decide +kernel
theorem dX8_pathBlock_27 : decode cX8_pathBlock 27 = .ok (.ifCond .ne 12, 3) := by decide +kernel
theorem dX8_pathBlock_30 : decode cX8_pathBlock 30 = .ok (.aload_n 0, 1) := by decide +kernel
theorem dX8_pathBlock_31 : decode cX8_pathBlock 31 = .ok (.getfield 44, 3) := by decide +kernel
theorem dX8_pathBlock_34 : decode cX8_pathBlock 34 = .ok (.iload_n 1, 1) := by decide +kernel
theorem dX8_pathBlock_35 : decode cX8_pathBlock 35 = .ok (.iaload, 1) := by decide +kernel
theorem dX8_pathBlock_36 : decode cX8_pathBlock 36 = .ok (.goto 4, 3) := by decide +kernel
theorem dX8_pathBlock_39 : decode cX8_pathBlock 39 = .ok (.iconst 0, 1) := by decide +kernel
theorem dX8_pathBlock_40 : decode cX8_pathBlock 40 = .ok (.ireturn, 1) := by decide +kernel
theorem dX8_counts_0 : decode cX8_counts 0 = .ok (.iconst 0, 1) := by decide +kernel
theorem dX8_counts_1 : decode cX8_counts 1 = .ok (.istore_n 1, 1) := by decide +kernel
theorem dX8_counts_2 : decode cX8_counts 2 = .ok (.iconst 0, 1) := by decide +kernel
theorem dX8_counts_3 : decode cX8_counts 3 = .ok (.istore_n 2, 1) := by decide +kernel
theorem dX8_counts_4 : decode cX8_counts 4 = .ok (.iload_n 2, 1) := by decide +kernel
theorem dX8_counts_5 : decode cX8_counts 5 = .ok (.aload_n 0, 1) := by decide +kernel
theorem dX8_counts_6 : decode cX8_counts 6 = .ok (.getfield 106, 3) := by decide +kernel
theorem dX8_counts_9 : decode cX8_counts 9 = .ok (.if_icmp .ge 18, 3) := by decide +kernel
theorem dX8_counts_12 : decode cX8_counts 12 = .ok (.iload_n 1, 1) := by decide +kernel
theorem dX8_counts_13 : decode cX8_counts 13 = .ok (.aload_n 0, 1) := by decide +kernel
theorem dX8_counts_14 : decode cX8_counts 14 = .ok (.getfield 32, 3) := by decide +kernel
theorem dX8_counts_17 : decode cX8_counts 17 = .ok (.iload_n 2, 1) := by decide +kernel
theorem dX8_counts_18 : decode cX8_counts 18 = .ok (.iaload, 1) := by decide +kernel
theorem dX8_counts_19 : decode cX8_counts 19 = .ok (.iadd, 1) := by decide +kernel
theorem dX8_counts_20 : decode cX8_counts 20 = .ok (.istore_n 1, 1) := by decide +kernel
theorem dX8_counts_21 : decode cX8_counts 21 = .ok (.iinc 2 1, 3) := by decide +kernel
theorem dX8_counts_24 : decode cX8_counts 24 = .ok (.goto (-20), 3) := by decide +kernel
theorem dX8_counts_27 : decode cX8_counts 27 = .ok (.iload_n 1, 1) := by decide +kernel
theorem dX8_counts_28 : decode cX8_counts 28 = .ok (.ireturn, 1) := by decide +kernel
theorem dX8_clearProfile_0 : decode cX8_clearProfile 0 = .ok (.aload_n 0, 1) := by decide +kernel
theorem dX8_clearProfile_1 : decode cX8_clearProfile 1 = .ok (.iconst 0, 1) := by decide +kernel
theorem dX8_clearProfile_2 : decode cX8_clearProfile 2 = .ok (.putfield 103, 3) := by decide +kernel
theorem dX8_clearProfile_5 : decode cX8_clearProfile 5 = .ok (.aload_n 0, 1) := by decide +kernel
theorem dX8_clearProfile_6 : decode cX8_clearProfile 6 = .ok (.invokevirtual 160, 3) := by decide +kernel
theorem dX8_clearProfile_9 : decode cX8_clearProfile 9 = .ok (.istore_n 1, 1) := by decide +kernel
theorem dX8_clearProfile_10 : decode cX8_clearProfile 10 = .ok (.iconst 0, 1) := by decide +kernel
theorem dX8_clearProfile_11 : decode cX8_clearProfile 11 = .ok (.istore_n 2, 1) := by decide +kernel
theorem dX8_clearProfile_12 : decode cX8_clearProfile 12 = .ok (.iload_n 2, 1) := by decide +kernel
theorem dX8_clearProfile_13 : decode cX8_clearProfile 13 = .ok (.bipush 16, 2) := by decide +kernel
theorem dX8_clearProfile_15 : decode cX8_clearProfile 15 = .ok (.if_icmp .ge 30, 3) := by decide +kernel
theorem dX8_clearProfile_18 : decode cX8_clearProfile 18 = .ok (.aload_n 0, 1) := by decide +kernel
theorem dX8_clearProfile_19 : decode cX8_clearProfile 19 = .ok (.getfield 32, 3) := by decide +kernel
theorem dX8_clearProfile_22 : decode cX8_clearProfile 22 = .ok (.iload_n 2, 1) := by decide +kernel
theorem dX8_clearProfile_23 : decode cX8_clearProfile 23 = .ok (.iconst 0, 1) := by decide +kernel
theorem dX8_clearProfile_24 : decode cX8_clearProfile 24 = .ok (.iastore, 1) := by decide +kernel
theorem dX8_clearProfile_25 : decode cX8_clearProfile 25 = .ok (.aload_n 0, 1) := by decide +kernel
theorem dX8_clearProfile_26 : decode cX8_clearProfile 26 = .ok (.getfield 35, 3) := by decide +kernel
theorem dX8_clearProfile_29 : decode cX8_clearProfile 29 = .ok (.iload_n 2, 1) := by decide +kernel
theorem dX8_clearProfile_30 : decode cX8_clearProfile 30 = .ok (.iconst 0, 1) := by decide +kernel
theorem dX8_clearProfile_31 : decode cX8_clearProfile 31 = .ok (.iastore, 1) := by decide +kernel
theorem dX8_clearProfile_32 : decode cX8_clearProfile 32 = .ok (.aload_n 0, 1) := by decide +kernel
theorem dX8_clearProfile_33 : decode cX8_clearProfile 33 = .ok (.getfield 38, 3) := by decide +kernel
theorem dX8_clearProfile_36 : decode cX8_clearProfile 36 = .ok (.iload_n 2, 1) := by decide +kernel
theorem dX8_clearProfile_37 : decode cX8_clearProfile 37 = .ok (.iconst 0, 1) := by decide +kernel
theorem dX8_clearProfile_38 : decode cX8_clearProfile 38 = .ok (.iastore, 1) := by decide +kernel
theorem dX8_clearProfile_39 : decode cX8_clearProfile 39 = .ok (.iinc 2 1, 3) := by decide +kernel
theorem dX8_clearProfile_42 : decode cX8_clearProfile 42 = .ok (.goto (-30), 3) := by decide +kernel
theorem dX8_clearProfile_45 : decode cX8_clearProfile 45 = .ok (.iload_n 1, 1) := by decide +kernel
theorem dX8_clearProfile_46 : decode cX8_clearProfile 46 = .ok (.ireturn, 1) := by decide +kernel
theorem dX8_position_0 : decode cX8_position 0 = .ok (.iconst 0, 1) := by decide +kernel
theorem dX8_position_1 : decode cX8_position 1 = .ok (.istore_n 2, 1) := by decide +kernel
theorem dX8_position_2 : decode cX8_position 2 = .ok (.aload_n 0, 1) := by decide +kernel
theorem dX8_position_3 : decode cX8_position 3 = .ok (.getfield 41, 3) := by decide +kernel
theorem dX8_position_6 : decode cX8_position 6 = .ok (.iload_n 2, 1) := by decide +kernel
theorem dX8_position_7 : decode cX8_position 7 = .ok (.iaload, 1) := by decide +kernel
theorem dX8_position_8 : decode cX8_position 8 = .ok (.iload_n 1, 1) := by decide +kernel
theorem dX8_position_9 : decode cX8_position 9 = .ok (.if_icmp .eq 9, 3) := by decide +kernel
theorem dX8_position_12 : decode cX8_position 12 = .ok (.iinc 2 1, 3) := by decide +kernel
theorem dX8_position_15 : decode cX8_position 15 = .ok (.goto (-13), 3) := by decide +kernel
theorem dX8_position_18 : decode cX8_position 18 = .ok (.iload_n 2, 1) := by decide +kernel
theorem dX8_position_19 : decode cX8_position 19 = .ok (.ireturn, 1) := by decide +kernel
theorem dX8_next_0 : decode cX8_next 0 = .ok (.aload_n 0, 1) := by decide +kernel
theorem dX8_next_1 : decode cX8_next 1 = .ok (.iload_n 1, 1) := by decide +kernel
theorem dX8_next_2 : decode cX8_next 2 = .ok (.invokevirtual 164, 3) := by decide +kernel
theorem dX8_next_5 : decode cX8_next 5 = .ok (.istore_n 2, 1) := by decide +kernel
theorem dX8_next_6 : decode cX8_next 6 = .ok (.iload_n 2, 1) := by decide +kernel
theorem dX8_next_7 : decode cX8_next 7 = .ok (.iconst 1, 1) := by decide +kernel
theorem dX8_next_8 : decode cX8_next 8 = .ok (.iadd, 1) := by decide +kernel
theorem dX8_next_9 : decode cX8_next 9 = .ok (.aload_n 0, 1) := by decide +kernel
theorem dX8_next_10 : decode cX8_next 10 = .ok (.getfield 106, 3) := by decide +kernel
theorem dX8_next_13 : decode cX8_next 13 = .ok (.if_icmp .eq 13, 3) := by decide +kernel
theorem dX8_next_16 : decode cX8_next 16 = .ok (.iload_n 2, 1) := by decide +kernel
theorem dX8_next_17 : decode cX8_next 17 = .ok (.iconst 1, 1) := by decide +kernel
theorem dX8_next_18 : decode cX8_next 18 = .ok (.iadd, 1) := by decide +kernel
theorem dX8_next_19 : decode cX8_next 19 = .ok (.aload_n 0, 1) := by decide +kernel
theorem dX8_next_20 : decode cX8_next 20 = .ok (.getfield 113, 3) := by decide +kernel
theorem dX8_next_23 : decode cX8_next 23 = .ok (.if_icmp .ne 7, 3) := by decide +kernel
theorem dX8_next_26 : decode cX8_next 26 = .ok (.iconst (-1), 1) := by decide +kernel
theorem dX8_next_27 : decode cX8_next 27 = .ok (.goto 11, 3) := by decide +kernel
theorem dX8_next_30 : decode cX8_next 30 = .ok (.aload_n 0, 1) := by decide +kernel
theorem dX8_next_31 : decode cX8_next 31 = .ok (.getfield 41, 3) := by decide +kernel
theorem dX8_next_34 : decode cX8_next 34 = .ok (.iload_n 2, 1) := by decide +kernel
theorem dX8_next_35 : decode cX8_next 35 = .ok (.iconst 1, 1) := by decide +kernel
theorem dX8_next_36 : decode cX8_next 36 = .ok (.iadd, 1) := by decide +kernel
theorem dX8_next_37 : decode cX8_next 37 = .ok (.iaload, 1) := by decide +kernel
theorem dX8_next_38 : decode cX8_next 38 = .ok (.ireturn, 1) := by decide +kernel
theorem dX8_form_0 : decode cX8_form 0 = .ok (.aload_n 0, 1) := by decide +kernel
theorem dX8_form_1 : decode cX8_form 1 = .ok (.getfield 20, 3) := by decide +kernel
theorem dX8_form_4 : decode cX8_form 4 = .ok (.iload_n 1, 1) := by decide +kernel
theorem dX8_form_5 : decode cX8_form 5 = .ok (.iaload, 1) := by decide +kernel
theorem dX8_form_6 : decode cX8_form 6 = .ok (.lookupswitch 72 #[(0, 26), (1, 42)], 26) := by decide +kernel
theorem dX8_form_32 : decode cX8_form 32 = .ok (.aload_n 0, 1) := by decide +kernel
theorem dX8_form_33 : decode cX8_form 33 = .ok (.getfield 23, 3) := by decide +kernel
theorem dX8_form_36 : decode cX8_form 36 = .ok (.iload_n 1, 1) := by decide +kernel
theorem dX8_form_37 : decode cX8_form 37 = .ok (.iaload, 1) := by decide +kernel
theorem dX8_form_38 : decode cX8_form 38 = .ok (.iload_n 2, 1) := by decide +kernel
theorem dX8_form_39 : decode cX8_form 39 = .ok (.if_icmp .ne 7, 3) := by decide +kernel
theorem dX8_form_42 : decode cX8_form 42 = .ok (.iconst 0, 1) := by decide +kernel
theorem dX8_form_43 : decode cX8_form 43 = .ok (.goto 4, 3) := by decide +kernel
theorem dX8_form_46 : decode cX8_form 46 = .ok (.iconst 1, 1) := by decide +kernel
theorem dX8_form_47 : decode cX8_form 47 = .ok (.ireturn, 1) := by decide +kernel
theorem dX8_form_48 : decode cX8_form 48 = .ok (.aload_n 0, 1) := by decide +kernel
theorem dX8_form_49 : decode cX8_form 49 = .ok (.getfield 26, 3) := by decide +kernel
theorem dX8_form_52 : decode cX8_form 52 = .ok (.iload_n 1, 1) := by decide +kernel
theorem dX8_form_53 : decode cX8_form 53 = .ok (.iaload, 1) := by decide +kernel
theorem dX8_form_54 : decode cX8_form 54 = .ok (.iload_n 2, 1) := by decide +kernel
theorem dX8_form_55 : decode cX8_form 55 = .ok (.if_icmp .ne 7, 3) := by decide +kernel
theorem dX8_form_58 : decode cX8_form 58 = .ok (.iconst 2, 1) := by decide +kernel
theorem dX8_form_59 : decode cX8_form 59 = .ok (.goto 18, 3) := by decide +kernel
theorem dX8_form_62 : decode cX8_form 62 = .ok (.aload_n 0, 1) := by decide +kernel
theorem dX8_form_63 : decode cX8_form 63 = .ok (.getfield 23, 3) := by decide +kernel
theorem dX8_form_66 : decode cX8_form 66 = .ok (.iload_n 1, 1) := by decide +kernel
theorem dX8_form_67 : decode cX8_form 67 = .ok (.iaload, 1) := by decide +kernel
theorem dX8_form_68 : decode cX8_form 68 = .ok (.iload_n 2, 1) := by decide +kernel
theorem dX8_form_69 : decode cX8_form 69 = .ok (.if_icmp .ne 7, 3) := by decide +kernel
theorem dX8_form_72 : decode cX8_form 72 = .ok (.iconst 3, 1) := by decide +kernel
theorem dX8_form_73 : decode cX8_form 73 = .ok (.goto 4, 3) := by decide +kernel
theorem dX8_form_76 : decode cX8_form 76 = .ok (.iconst 4, 1) := by decide +kernel
theorem dX8_form_77 : decode cX8_form 77 = .ok (.ireturn, 1) := by decide +kernel
theorem dX8_form_78 : decode cX8_form 78 = .ok (.iconst 5, 1) := by decide +kernel
theorem dX8_form_79 : decode cX8_form 79 = .ok (.ireturn, 1) := by decide +kernel
theorem dX8_branchBytes_0 : decode cX8_branchBytes 0 = .ok (.aload_n 0, 1) := by decide +kernel
theorem dX8_branchBytes_1 : decode cX8_branchBytes 1 = .ok (.getfield 63, 3) := by decide +kernel
theorem dX8_branchBytes_4 : decode cX8_branchBytes 4 = .ok (.iload_n 1, 1) := by decide +kernel
theorem dX8_branchBytes_5 : decode cX8_branchBytes 5 = .ok (.iaload, 1) := by decide +kernel
theorem dX8_branchBytes_6 : decode cX8_branchBytes 6 = .ok (.iconst 2, 1) := by decide +kernel
theorem dX8_branchBytes_7 : decode cX8_branchBytes 7 = .ok (.if_icmp .lt 13, 3) := by decide +kernel
theorem dX8_branchBytes_10 : decode cX8_branchBytes 10 = .ok (.aload_n 0, 1) := by decide +kernel
theorem dX8_branchBytes_11 : decode cX8_branchBytes 11 = .ok (.getfield 63, 3) := by decide +kernel
theorem dX8_branchBytes_14 : decode cX8_branchBytes 14 = .ok (.iload_n 1, 1) := by decide +kernel
theorem dX8_branchBytes_15 : decode cX8_branchBytes 15 = .ok (.iaload, 1) := by decide +kernel
theorem dX8_branchBytes_16 : decode cX8_branchBytes 16 = .ok (.iconst 4, 1) := by decide +kernel
theorem dX8_branchBytes_17 : decode cX8_branchBytes 17 = .ok (.if_icmp .le 7, 3) := by decide +kernel
theorem dX8_branchBytes_20 : decode cX8_branchBytes 20 = .ok (.iconst 0, 1) := by decide +kernel
theorem dX8_branchBytes_21 : decode cX8_branchBytes 21 = .ok (.goto 18, 3) := by decide +kernel
theorem dX8_branchBytes_24 : decode cX8_branchBytes 24 = .ok (.aload_n 0, 1) := by decide +kernel
theorem dX8_branchBytes_25 : decode cX8_branchBytes 25 = .ok (.getfield 66, 3) := by decide +kernel
theorem dX8_branchBytes_28 : decode cX8_branchBytes 28 = .ok (.iload_n 1, 1) := by decide +kernel
theorem dX8_branchBytes_29 : decode cX8_branchBytes 29 = .ok (.baload, 1) := by decide +kernel
theorem dX8_branchBytes_30 : decode cX8_branchBytes 30 = .ok (.ifCond .eq 8, 3) := by decide +kernel
theorem dX8_branchBytes_33 : decode cX8_branchBytes 33 = .ok (.bipush 6, 2) := by decide +kernel
theorem dX8_branchBytes_35 : decode cX8_branchBytes 35 = .ok (.goto 4, 3) := by decide +kernel
theorem dX8_branchBytes_38 : decode cX8_branchBytes 38 = .ok (.iconst 2, 1) := by decide +kernel
theorem dX8_branchBytes_39 : decode cX8_branchBytes 39 = .ok (.ireturn, 1) := by decide +kernel
theorem dX8_jumpBytes_0 : decode cX8_jumpBytes 0 = .ok (.aload_n 0, 1) := by decide +kernel
theorem dX8_jumpBytes_1 : decode cX8_jumpBytes 1 = .ok (.getfield 63, 3) := by decide +kernel
theorem dX8_jumpBytes_4 : decode cX8_jumpBytes 4 = .ok (.iload_n 1, 1) := by decide +kernel
theorem dX8_jumpBytes_5 : decode cX8_jumpBytes 5 = .ok (.iaload, 1) := by decide +kernel
theorem dX8_jumpBytes_6 : decode cX8_jumpBytes 6 = .ok (.iconst 1, 1) := by decide +kernel
theorem dX8_jumpBytes_7 : decode cX8_jumpBytes 7 = .ok (.if_icmp .eq 17, 3) := by decide +kernel
theorem dX8_jumpBytes_10 : decode cX8_jumpBytes 10 = .ok (.aload_n 0, 1) := by decide +kernel
theorem dX8_jumpBytes_11 : decode cX8_jumpBytes 11 = .ok (.getfield 63, 3) := by decide +kernel
theorem dX8_jumpBytes_14 : decode cX8_jumpBytes 14 = .ok (.iload_n 1, 1) := by decide +kernel
theorem dX8_jumpBytes_15 : decode cX8_jumpBytes 15 = .ok (.iaload, 1) := by decide +kernel
theorem dX8_jumpBytes_16 : decode cX8_jumpBytes 16 = .ok (.iconst 4, 1) := by decide +kernel
theorem dX8_jumpBytes_17 : decode cX8_jumpBytes 17 = .ok (.if_icmp .eq 7, 3) := by decide +kernel
theorem dX8_jumpBytes_20 : decode cX8_jumpBytes 20 = .ok (.iconst 0, 1) := by decide +kernel
theorem dX8_jumpBytes_21 : decode cX8_jumpBytes 21 = .ok (.goto 17, 3) := by decide +kernel
theorem dX8_jumpBytes_24 : decode cX8_jumpBytes 24 = .ok (.aload_n 0, 1) := by decide +kernel
theorem dX8_jumpBytes_25 : decode cX8_jumpBytes 25 = .ok (.getfield 69, 3) := by decide +kernel
theorem dX8_jumpBytes_28 : decode cX8_jumpBytes 28 = .ok (.iload_n 1, 1) := by decide +kernel
theorem dX8_jumpBytes_29 : decode cX8_jumpBytes 29 = .ok (.baload, 1) := by decide +kernel
theorem dX8_jumpBytes_30 : decode cX8_jumpBytes 30 = .ok (.ifCond .eq 7, 3) := by decide +kernel
theorem dX8_jumpBytes_33 : decode cX8_jumpBytes 33 = .ok (.iconst 5, 1) := by decide +kernel
theorem dX8_jumpBytes_34 : decode cX8_jumpBytes 34 = .ok (.goto 4, 3) := by decide +kernel
theorem dX8_jumpBytes_37 : decode cX8_jumpBytes 37 = .ok (.iconst 2, 1) := by decide +kernel
theorem dX8_jumpBytes_38 : decode cX8_jumpBytes 38 = .ok (.ireturn, 1) := by decide +kernel
theorem dX8_bytes_0 : decode cX8_bytes 0 = .ok (.aload_n 0, 1) := by decide +kernel
theorem dX8_bytes_1 : decode cX8_bytes 1 = .ok (.getfield 63, 3) := by decide +kernel
theorem dX8_bytes_4 : decode cX8_bytes 4 = .ok (.iload_n 1, 1) := by decide +kernel
theorem dX8_bytes_5 : decode cX8_bytes 5 = .ok (.iaload, 1) := by decide +kernel
theorem dX8_bytes_6 : decode cX8_bytes 6 = .ok (.iconst 5, 1) := by decide +kernel
theorem dX8_bytes_7 : decode cX8_bytes 7 = .ok (.if_icmp .ne 7, 3) := by decide +kernel
theorem dX8_bytes_10 : decode cX8_bytes 10 = .ok (.iconst 1, 1) := by decide +kernel
theorem dX8_bytes_11 : decode cX8_bytes 11 = .ok (.goto 14, 3) := by decide +kernel
theorem dX8_bytes_14 : decode cX8_bytes 14 = .ok (.aload_n 0, 1) := by decide +kernel
theorem dX8_bytes_15 : decode cX8_bytes 15 = .ok (.iload_n 1, 1) := by decide +kernel
theorem dX8_bytes_16 : decode cX8_bytes 16 = .ok (.invokevirtual 167, 3) := by decide +kernel
theorem dX8_bytes_19 : decode cX8_bytes 19 = .ok (.aload_n 0, 1) := by decide +kernel
theorem dX8_bytes_20 : decode cX8_bytes 20 = .ok (.iload_n 1, 1) := by decide +kernel
theorem dX8_bytes_21 : decode cX8_bytes 21 = .ok (.invokevirtual 170, 3) := by decide +kernel
theorem dX8_bytes_24 : decode cX8_bytes 24 = .ok (.iadd, 1) := by decide +kernel
theorem dX8_bytes_25 : decode cX8_bytes 25 = .ok (.ireturn, 1) := by decide +kernel
theorem dX8_lifted_0 : decode cX8_lifted 0 = .ok (.iload_n 0, 1) := by decide +kernel
theorem dX8_lifted_1 : decode cX8_lifted 1 = .ok (.iload_n 1, 1) := by decide +kernel
theorem dX8_lifted_2 : decode cX8_lifted 2 = .ok (.iadd, 1) := by decide +kernel
theorem dX8_lifted_3 : decode cX8_lifted 3 = .ok (.iconst 1, 1) := by decide +kernel
theorem dX8_lifted_4 : decode cX8_lifted 4 = .ok (.isub, 1) := by decide +kernel
theorem dX8_lifted_5 : decode cX8_lifted 5 = .ok (.iload_n 1, 1) := by decide +kernel
theorem dX8_lifted_6 : decode cX8_lifted 6 = .ok (.idiv, 1) := by decide +kernel
theorem dX8_lifted_7 : decode cX8_lifted 7 = .ok (.iload_n 1, 1) := by decide +kernel
theorem dX8_lifted_8 : decode cX8_lifted 8 = .ok (.imul, 1) := by decide +kernel
theorem dX8_lifted_9 : decode cX8_lifted 9 = .ok (.ireturn, 1) := by decide +kernel
theorem dX8_places_0 : decode cX8_places 0 = .ok (.iconst 0, 1) := by decide +kernel
theorem dX8_places_1 : decode cX8_places 1 = .ok (.istore_n 2, 1) := by decide +kernel
theorem dX8_places_2 : decode cX8_places 2 = .ok (.iconst 0, 1) := by decide +kernel
theorem dX8_places_3 : decode cX8_places 3 = .ok (.istore_n 3, 1) := by decide +kernel
theorem dX8_places_4 : decode cX8_places 4 = .ok (.iload_n 3, 1) := by decide +kernel
theorem dX8_places_5 : decode cX8_places 5 = .ok (.aload_n 0, 1) := by decide +kernel
theorem dX8_places_6 : decode cX8_places 6 = .ok (.getfield 106, 3) := by decide +kernel
theorem dX8_places_9 : decode cX8_places 9 = .ok (.if_icmp .ge 119, 3) := by decide +kernel
theorem dX8_places_12 : decode cX8_places 12 = .ok (.aload_n 0, 1) := by decide +kernel
theorem dX8_places_13 : decode cX8_places 13 = .ok (.getfield 41, 3) := by decide +kernel
theorem dX8_places_16 : decode cX8_places 16 = .ok (.iload_n 3, 1) := by decide +kernel
theorem dX8_places_17 : decode cX8_places 17 = .ok (.iaload, 1) := by decide +kernel
theorem dX8_places_18 : decode cX8_places 18 = .ok (.istore 4, 2) := by decide +kernel
theorem dX8_places_20 : decode cX8_places 20 = .ok (.iload_n 2, 1) := by decide +kernel
theorem dX8_places_21 : decode cX8_places 21 = .ok (.istore 5, 2) := by decide +kernel
theorem dX8_places_23 : decode cX8_places 23 = .ok (.iload_n 3, 1) := by decide +kernel
theorem dX8_places_24 : decode cX8_places 24 = .ok (.aload_n 0, 1) := by decide +kernel
theorem dX8_places_25 : decode cX8_places 25 = .ok (.getfield 113, 3) := by decide +kernel
theorem dX8_places_28 : decode cX8_places 28 = .ok (.if_icmp .ne 10, 3) := by decide +kernel
theorem dX8_places_31 : decode cX8_places 31 = .ok (.iload_n 2, 1) := by decide +kernel
theorem dX8_places_32 : decode cX8_places 32 = .ok (.bipush 64, 2) := by decide +kernel
theorem dX8_places_34 : decode cX8_places 34 = .ok (.invokestatic 173, 3) := by decide +kernel
theorem dX8_places_37 : decode cX8_places 37 = .ok (.istore_n 2, 1) := by decide +kernel
theorem dX8_places_38 : decode cX8_places 38 = .ok (.iload_n 1, 1) := by decide +kernel
theorem dX8_places_39 : decode cX8_places 39 = .ok (.iload 4, 2) := by decide +kernel
theorem dX8_places_41 : decode cX8_places 41 = .ok (.ishr, 1) := by decide +kernel
theorem dX8_places_42 : decode cX8_places 42 = .ok (.iconst 1, 1) := by decide +kernel
theorem dX8_places_43 : decode cX8_places 43 = .ok (.iand, 1) := by decide +kernel
theorem dX8_places_44 : decode cX8_places 44 = .ok (.iconst 1, 1) := by decide +kernel
theorem dX8_places_45 : decode cX8_places 45 = .ok (.if_icmp .ne 26, 3) := by decide +kernel
theorem dX8_places_48 : decode cX8_places 48 = .ok (.aload_n 0, 1) := by decide +kernel
theorem dX8_places_49 : decode cX8_places 49 = .ok (.getfield 32, 3) := by decide +kernel
theorem dX8_places_52 : decode cX8_places 52 = .ok (.iload 4, 2) := by decide +kernel
theorem dX8_places_54 : decode cX8_places 54 = .ok (.iaload, 1) := by decide +kernel
theorem dX8_places_55 : decode cX8_places 55 = .ok (.aload_n 0, 1) := by decide +kernel
theorem dX8_places_56 : decode cX8_places 56 = .ok (.getfield 13, 3) := by decide +kernel
theorem dX8_places_59 : decode cX8_places 59 = .ok (.if_icmp .lt 12, 3) := by decide +kernel
theorem dX8_places_62 : decode cX8_places 62 = .ok (.iload_n 2, 1) := by decide +kernel
theorem dX8_places_63 : decode cX8_places 63 = .ok (.aload_n 0, 1) := by decide +kernel
theorem dX8_places_64 : decode cX8_places 64 = .ok (.getfield 7, 3) := by decide +kernel
theorem dX8_places_67 : decode cX8_places 67 = .ok (.invokestatic 173, 3) := by decide +kernel
theorem dX8_places_70 : decode cX8_places 70 = .ok (.istore_n 2, 1) := by decide +kernel
theorem dX8_places_71 : decode cX8_places 71 = .ok (.aload_n 0, 1) := by decide +kernel
theorem dX8_places_72 : decode cX8_places 72 = .ok (.getfield 57, 3) := by decide +kernel
theorem dX8_places_75 : decode cX8_places 75 = .ok (.iload 4, 2) := by decide +kernel
theorem dX8_places_77 : decode cX8_places 77 = .ok (.iload_n 2, 1) := by decide +kernel
theorem dX8_places_78 : decode cX8_places 78 = .ok (.iastore, 1) := by decide +kernel
theorem dX8_places_79 : decode cX8_places 79 = .ok (.aload_n 0, 1) := by decide +kernel
theorem dX8_places_80 : decode cX8_places 80 = .ok (.getfield 60, 3) := by decide +kernel
theorem dX8_places_83 : decode cX8_places 83 = .ok (.iload 4, 2) := by decide +kernel
theorem dX8_places_85 : decode cX8_places 85 = .ok (.iload_n 2, 1) := by decide +kernel
theorem dX8_places_86 : decode cX8_places 86 = .ok (.iload 5, 2) := by decide +kernel
theorem dX8_places_88 : decode cX8_places 88 = .ok (.isub, 1) := by decide +kernel
theorem dX8_places_89 : decode cX8_places 89 = .ok (.iastore, 1) := by decide +kernel
theorem dX8_places_90 : decode cX8_places 90 = .ok (.iload_n 2, 1) := by decide +kernel
theorem dX8_places_91 : decode cX8_places 91 = .ok (.aload_n 0, 1) := by decide +kernel
theorem dX8_places_92 : decode cX8_places 92 = .ok (.getfield 16, 3) := by decide +kernel
theorem dX8_places_95 : decode cX8_places 95 = .ok (.iload 4, 2) := by decide +kernel
theorem dX8_places_97 : decode cX8_places 97 = .ok (.iaload, 1) := by decide +kernel
theorem dX8_places_98 : decode cX8_places 98 = .ok (.aload_n 0, 1) := by decide +kernel
theorem dX8_places_99 : decode cX8_places 99 = .ok (.iload 4, 2) := by decide +kernel
theorem dX8_places_101 : decode cX8_places 101 = .ok (.invokevirtual 176, 3) := by decide +kernel
theorem dX8_places_104 : decode cX8_places 104 = .ok (.iadd, 1) := by decide +kernel
theorem dX8_places_105 : decode cX8_places 105 = .ok (.iadd, 1) := by decide +kernel
theorem dX8_places_106 : decode cX8_places 106 = .ok (.istore_n 2, 1) := by decide +kernel
theorem dX8_places_107 : decode cX8_places 107 = .ok (.iload_n 3, 1) := by decide +kernel
theorem dX8_places_108 : decode cX8_places 108 = .ok (.aload_n 0, 1) := by decide +kernel
theorem dX8_places_109 : decode cX8_places 109 = .ok (.getfield 113, 3) := by decide +kernel
theorem dX8_places_112 : decode cX8_places 112 = .ok (.iconst 1, 1) := by decide +kernel
theorem dX8_places_113 : decode cX8_places 113 = .ok (.isub, 1) := by decide +kernel
theorem dX8_places_114 : decode cX8_places 114 = .ok (.if_icmp .ne 8, 3) := by decide +kernel
theorem dX8_places_117 : decode cX8_places 117 = .ok (.aload_n 0, 1) := by decide +kernel
theorem dX8_places_118 : decode cX8_places 118 = .ok (.iload_n 2, 1) := by decide +kernel
theorem dX8_places_119 : decode cX8_places 119 = .ok (.putfield 179, 3) := by decide +kernel
theorem dX8_places_122 : decode cX8_places 122 = .ok (.iinc 3 1, 3) := by decide +kernel
theorem dX8_places_125 : decode cX8_places 125 = .ok (.goto (-121), 3) := by decide +kernel
theorem dX8_places_128 : decode cX8_places 128 = .ok (.aload_n 0, 1) := by decide +kernel
theorem dX8_places_129 : decode cX8_places 129 = .ok (.iload_n 2, 1) := by decide +kernel
theorem dX8_places_130 : decode cX8_places 130 = .ok (.putfield 182, 3) := by decide +kernel
theorem dX8_places_133 : decode cX8_places 133 = .ok (.return_, 1) := by decide +kernel
theorem dX8_isFar_0 : decode cX8_isFar 0 = .ok (.iload_n 1, 1) := by decide +kernel
theorem dX8_isFar_1 : decode cX8_isFar 1 = .ok (.iload_n 0, 1) := by decide +kernel
theorem dX8_isFar_2 : decode cX8_isFar 2 = .ok (.isub, 1) := by decide +kernel
theorem dX8_isFar_3 : decode cX8_isFar 3 = .ok (.bipush (-128), 2) := by decide +kernel
theorem dX8_isFar_5 : decode cX8_isFar 5 = .ok (.bipush 127, 2) := by decide +kernel
theorem dX8_isFar_7 : decode cX8_isFar 7 = .ok (.invokestatic 109, 3) := by decide +kernel
theorem dX8_isFar_10 : decode cX8_isFar 10 = .ok (.ifCond .ne 7, 3) := by decide +kernel
theorem dX8_isFar_13 : decode cX8_isFar 13 = .ok (.iconst 1, 1) := by decide +kernel
theorem dX8_isFar_14 : decode cX8_isFar 14 = .ok (.goto 4, 3) := by decide +kernel
theorem dX8_isFar_17 : decode cX8_isFar 17 = .ok (.iconst 0, 1) := by decide +kernel
theorem dX8_isFar_18 : decode cX8_isFar 18 = .ok (.ireturn, 1) := by decide +kernel
theorem dX8_widens_0 : decode cX8_widens 0 = .ok (.iconst 0, 1) := by decide +kernel
theorem dX8_widens_1 : decode cX8_widens 1 = .ok (.istore_n 1, 1) := by decide +kernel
theorem dX8_widens_2 : decode cX8_widens 2 = .ok (.iconst 0, 1) := by decide +kernel
theorem dX8_widens_3 : decode cX8_widens 3 = .ok (.istore_n 2, 1) := by decide +kernel
theorem dX8_widens_4 : decode cX8_widens 4 = .ok (.iload_n 2, 1) := by decide +kernel
theorem dX8_widens_5 : decode cX8_widens 5 = .ok (.aload_n 0, 1) := by decide +kernel
theorem dX8_widens_6 : decode cX8_widens 6 = .ok (.getfield 106, 3) := by decide +kernel
theorem dX8_widens_9 : decode cX8_widens 9 = .ok (.if_icmp .ge 193, 3) := by decide +kernel
theorem dX8_widens_12 : decode cX8_widens 12 = .ok (.aload_n 0, 1) := by decide +kernel
theorem dX8_widens_13 : decode cX8_widens 13 = .ok (.getfield 57, 3) := by decide +kernel
theorem dX8_widens_16 : decode cX8_widens 16 = .ok (.iload_n 2, 1) := by decide +kernel
theorem dX8_widens_17 : decode cX8_widens 17 = .ok (.iaload, 1) := by decide +kernel
theorem dX8_widens_18 : decode cX8_widens 18 = .ok (.aload_n 0, 1) := by decide +kernel
theorem dX8_widens_19 : decode cX8_widens 19 = .ok (.getfield 16, 3) := by decide +kernel
theorem dX8_widens_22 : decode cX8_widens 22 = .ok (.iload_n 2, 1) := by decide +kernel
theorem dX8_widens_23 : decode cX8_widens 23 = .ok (.iaload, 1) := by decide +kernel
theorem dX8_widens_24 : decode cX8_widens 24 = .ok (.iadd, 1) := by decide +kernel
theorem dX8_widens_25 : decode cX8_widens 25 = .ok (.aload_n 0, 1) := by decide +kernel
theorem dX8_widens_26 : decode cX8_widens 26 = .ok (.iload_n 2, 1) := by decide +kernel
theorem dX8_widens_27 : decode cX8_widens 27 = .ok (.invokevirtual 167, 3) := by decide +kernel
theorem dX8_widens_30 : decode cX8_widens 30 = .ok (.iadd, 1) := by decide +kernel
theorem dX8_widens_31 : decode cX8_widens 31 = .ok (.istore_n 3, 1) := by decide +kernel
theorem dX8_widens_32 : decode cX8_widens 32 = .ok (.iload_n 3, 1) := by decide +kernel
theorem dX8_widens_33 : decode cX8_widens 33 = .ok (.aload_n 0, 1) := by decide +kernel
theorem dX8_widens_34 : decode cX8_widens 34 = .ok (.iload_n 2, 1) := by decide +kernel
theorem dX8_widens_35 : decode cX8_widens 35 = .ok (.invokevirtual 170, 3) := by decide +kernel
theorem dX8_widens_38 : decode cX8_widens 38 = .ok (.iadd, 1) := by decide +kernel
theorem dX8_widens_39 : decode cX8_widens 39 = .ok (.istore 4, 2) := by decide +kernel
theorem dX8_widens_41 : decode cX8_widens 41 = .ok (.aload_n 0, 1) := by decide +kernel
theorem dX8_widens_42 : decode cX8_widens 42 = .ok (.getfield 63, 3) := by decide +kernel
theorem dX8_widens_45 : decode cX8_widens 45 = .ok (.iload_n 2, 1) := by decide +kernel
theorem dX8_widens_46 : decode cX8_widens 46 = .ok (.iaload, 1) := by decide +kernel
theorem dX8_widens_47 : decode cX8_widens 47 = .ok (.iconst 3, 1) := by decide +kernel
theorem dX8_widens_48 : decode cX8_widens 48 = .ok (.if_icmp .ne 12, 3) := by decide +kernel
theorem dX8_widens_51 : decode cX8_widens 51 = .ok (.aload_n 0, 1) := by decide +kernel
theorem dX8_widens_52 : decode cX8_widens 52 = .ok (.getfield 26, 3) := by decide +kernel
theorem dX8_widens_55 : decode cX8_widens 55 = .ok (.iload_n 2, 1) := by decide +kernel
theorem dX8_widens_56 : decode cX8_widens 56 = .ok (.iaload, 1) := by decide +kernel
theorem dX8_widens_57 : decode cX8_widens 57 = .ok (.goto 9, 3) := by decide +kernel
theorem dX8_widens_60 : decode cX8_widens 60 = .ok (.aload_n 0, 1) := by decide +kernel
theorem dX8_widens_61 : decode cX8_widens 61 = .ok (.getfield 23, 3) := by decide +kernel
theorem dX8_widens_64 : decode cX8_widens 64 = .ok (.iload_n 2, 1) := by decide +kernel
theorem dX8_widens_65 : decode cX8_widens 65 = .ok (.iaload, 1) := by decide +kernel
theorem dX8_widens_66 : decode cX8_widens 66 = .ok (.istore 5, 2) := by decide +kernel
theorem dX8_widens_68 : decode cX8_widens 68 = .ok (.aload_n 0, 1) := by decide +kernel
theorem dX8_widens_69 : decode cX8_widens 69 = .ok (.getfield 63, 3) := by decide +kernel
theorem dX8_widens_72 : decode cX8_widens 72 = .ok (.iload_n 2, 1) := by decide +kernel
theorem dX8_widens_73 : decode cX8_widens 73 = .ok (.iaload, 1) := by decide +kernel
theorem dX8_widens_74 : decode cX8_widens 74 = .ok (.iconst 1, 1) := by decide +kernel
theorem dX8_widens_75 : decode cX8_widens 75 = .ok (.if_icmp .ne 12, 3) := by decide +kernel
theorem dX8_widens_78 : decode cX8_widens 78 = .ok (.aload_n 0, 1) := by decide +kernel
theorem dX8_widens_79 : decode cX8_widens 79 = .ok (.getfield 23, 3) := by decide +kernel
theorem dX8_widens_82 : decode cX8_widens 82 = .ok (.iload_n 2, 1) := by decide +kernel
theorem dX8_widens_83 : decode cX8_widens 83 = .ok (.iaload, 1) := by decide +kernel
theorem dX8_widens_84 : decode cX8_widens 84 = .ok (.goto 9, 3) := by decide +kernel
theorem dX8_widens_87 : decode cX8_widens 87 = .ok (.aload_n 0, 1) := by decide +kernel
theorem dX8_widens_88 : decode cX8_widens 88 = .ok (.getfield 26, 3) := by decide +kernel
theorem dX8_widens_91 : decode cX8_widens 91 = .ok (.iload_n 2, 1) := by decide +kernel
theorem dX8_widens_92 : decode cX8_widens 92 = .ok (.iaload, 1) := by decide +kernel
theorem dX8_widens_93 : decode cX8_widens 93 = .ok (.istore 6, 2) := by decide +kernel
theorem dX8_widens_95 : decode cX8_widens 95 = .ok (.aload_n 0, 1) := by decide +kernel
theorem dX8_widens_96 : decode cX8_widens 96 = .ok (.iload_n 2, 1) := by decide +kernel
theorem dX8_widens_97 : decode cX8_widens 97 = .ok (.invokevirtual 167, 3) := by decide +kernel
theorem dX8_widens_100 : decode cX8_widens 100 = .ok (.iconst 2, 1) := by decide +kernel
theorem dX8_widens_101 : decode cX8_widens 101 = .ok (.if_icmp .ne 21, 3) := by decide +kernel
theorem dX8_widens_104 : decode cX8_widens 104 = .ok (.iload_n 3, 1) := by decide +kernel
theorem dX8_widens_105 : decode cX8_widens 105 = .ok (.aload_n 0, 1) := by decide +kernel
theorem dX8_widens_106 : decode cX8_widens 106 = .ok (.getfield 57, 3) := by decide +kernel
theorem dX8_widens_109 : decode cX8_widens 109 = .ok (.iload 5, 2) := by decide +kernel
theorem dX8_widens_111 : decode cX8_widens 111 = .ok (.iaload, 1) := by decide +kernel
theorem dX8_widens_112 : decode cX8_widens 112 = .ok (.invokestatic 185, 3) := by decide +kernel
theorem dX8_widens_115 : decode cX8_widens 115 = .ok (.ifCond .eq 7, 3) := by decide +kernel
theorem dX8_widens_118 : decode cX8_widens 118 = .ok (.iconst 1, 1) := by decide +kernel
theorem dX8_widens_119 : decode cX8_widens 119 = .ok (.goto 4, 3) := by decide +kernel
theorem dX8_widens_122 : decode cX8_widens 122 = .ok (.iconst 0, 1) := by decide +kernel
theorem dX8_widens_123 : decode cX8_widens 123 = .ok (.istore 7, 2) := by decide +kernel
theorem dX8_widens_125 : decode cX8_widens 125 = .ok (.aload_n 0, 1) := by decide +kernel
theorem dX8_widens_126 : decode cX8_widens 126 = .ok (.iload_n 2, 1) := by decide +kernel
theorem dX8_widens_127 : decode cX8_widens 127 = .ok (.invokevirtual 170, 3) := by decide +kernel
theorem dX8_widens_130 : decode cX8_widens 130 = .ok (.iconst 2, 1) := by decide +kernel
theorem dX8_widens_131 : decode cX8_widens 131 = .ok (.if_icmp .ne 22, 3) := by decide +kernel
theorem dX8_widens_134 : decode cX8_widens 134 = .ok (.iload 4, 2) := by decide +kernel
theorem dX8_widens_136 : decode cX8_widens 136 = .ok (.aload_n 0, 1) := by decide +kernel
theorem dX8_widens_137 : decode cX8_widens 137 = .ok (.getfield 57, 3) := by decide +kernel
theorem dX8_widens_140 : decode cX8_widens 140 = .ok (.iload 6, 2) := by decide +kernel
theorem dX8_widens_142 : decode cX8_widens 142 = .ok (.iaload, 1) := by decide +kernel
theorem dX8_widens_143 : decode cX8_widens 143 = .ok (.invokestatic 185, 3) := by decide +kernel
theorem dX8_widens_146 : decode cX8_widens 146 = .ok (.ifCond .eq 7, 3) := by decide +kernel
theorem dX8_widens_149 : decode cX8_widens 149 = .ok (.iconst 1, 1) := by decide +kernel
theorem dX8_widens_150 : decode cX8_widens 150 = .ok (.goto 4, 3) := by decide +kernel
theorem dX8_widens_153 : decode cX8_widens 153 = .ok (.iconst 0, 1) := by decide +kernel
theorem dX8_widens_154 : decode cX8_widens 154 = .ok (.istore 8, 2) := by decide +kernel
theorem dX8_widens_156 : decode cX8_widens 156 = .ok (.aload_n 0, 1) := by decide +kernel
theorem dX8_widens_157 : decode cX8_widens 157 = .ok (.getfield 66, 3) := by decide +kernel
theorem dX8_widens_160 : decode cX8_widens 160 = .ok (.iload_n 2, 1) := by decide +kernel
theorem dX8_widens_161 : decode cX8_widens 161 = .ok (.dup2, 1) := by decide +kernel
theorem dX8_widens_162 : decode cX8_widens 162 = .ok (.baload, 1) := by decide +kernel
theorem dX8_widens_163 : decode cX8_widens 163 = .ok (.iload 7, 2) := by decide +kernel
theorem dX8_widens_165 : decode cX8_widens 165 = .ok (.ior, 1) := by decide +kernel
theorem dX8_widens_166 : decode cX8_widens 166 = .ok (.bastore, 1) := by decide +kernel
theorem dX8_widens_167 : decode cX8_widens 167 = .ok (.aload_n 0, 1) := by decide +kernel
theorem dX8_widens_168 : decode cX8_widens 168 = .ok (.getfield 69, 3) := by decide +kernel
theorem dX8_widens_171 : decode cX8_widens 171 = .ok (.iload_n 2, 1) := by decide +kernel
theorem dX8_widens_172 : decode cX8_widens 172 = .ok (.dup2, 1) := by decide +kernel
theorem dX8_widens_173 : decode cX8_widens 173 = .ok (.baload, 1) := by decide +kernel
theorem dX8_widens_174 : decode cX8_widens 174 = .ok (.iload 8, 2) := by decide +kernel
theorem dX8_widens_176 : decode cX8_widens 176 = .ok (.ior, 1) := by decide +kernel
theorem dX8_widens_177 : decode cX8_widens 177 = .ok (.bastore, 1) := by decide +kernel
theorem dX8_widens_178 : decode cX8_widens 178 = .ok (.iload_n 1, 1) := by decide +kernel
theorem dX8_widens_179 : decode cX8_widens 179 = .ok (.iload 7, 2) := by decide +kernel
theorem dX8_widens_181 : decode cX8_widens 181 = .ok (.ifCond .ne 8, 3) := by decide +kernel
theorem dX8_widens_184 : decode cX8_widens 184 = .ok (.iload 8, 2) := by decide +kernel
theorem dX8_widens_186 : decode cX8_widens 186 = .ok (.ifCond .eq 7, 3) := by decide +kernel
theorem dX8_widens_189 : decode cX8_widens 189 = .ok (.iconst 1, 1) := by decide +kernel
theorem dX8_widens_190 : decode cX8_widens 190 = .ok (.goto 4, 3) := by decide +kernel
theorem dX8_widens_193 : decode cX8_widens 193 = .ok (.iconst 0, 1) := by decide +kernel
theorem dX8_widens_194 : decode cX8_widens 194 = .ok (.ior, 1) := by decide +kernel
theorem dX8_widens_195 : decode cX8_widens 195 = .ok (.istore_n 1, 1) := by decide +kernel
theorem dX8_widens_196 : decode cX8_widens 196 = .ok (.iinc 2 1, 3) := by decide +kernel
theorem dX8_widens_199 : decode cX8_widens 199 = .ok (.goto (-195), 3) := by decide +kernel
theorem dX8_widens_202 : decode cX8_widens 202 = .ok (.iload_n 1, 1) := by decide +kernel
theorem dX8_widens_203 : decode cX8_widens 203 = .ok (.ireturn, 1) := by decide +kernel
theorem dX8_lays_0 : decode cX8_lays 0 = .ok (.iconst 0, 1) := by decide +kernel
theorem dX8_lays_1 : decode cX8_lays 1 = .ok (.istore_n 1, 1) := by decide +kernel
theorem dX8_lays_2 : decode cX8_lays 2 = .ok (.iconst 0, 1) := by decide +kernel
theorem dX8_lays_3 : decode cX8_lays 3 = .ok (.istore_n 2, 1) := by decide +kernel
theorem dX8_lays_4 : decode cX8_lays 4 = .ok (.iload_n 2, 1) := by decide +kernel
theorem dX8_lays_5 : decode cX8_lays 5 = .ok (.aload_n 0, 1) := by decide +kernel
theorem dX8_lays_6 : decode cX8_lays 6 = .ok (.getfield 106, 3) := by decide +kernel
theorem dX8_lays_9 : decode cX8_lays 9 = .ok (.if_icmp .ge 57, 3) := by decide +kernel
theorem dX8_lays_12 : decode cX8_lays 12 = .ok (.aload_n 0, 1) := by decide +kernel
theorem dX8_lays_13 : decode cX8_lays 13 = .ok (.getfield 63, 3) := by decide +kernel
theorem dX8_lays_16 : decode cX8_lays 16 = .ok (.iload_n 2, 1) := by decide +kernel
theorem dX8_lays_17 : decode cX8_lays 17 = .ok (.aload_n 0, 1) := by decide +kernel
theorem dX8_lays_18 : decode cX8_lays 18 = .ok (.iload_n 2, 1) := by decide +kernel
theorem dX8_lays_19 : decode cX8_lays 19 = .ok (.aload_n 0, 1) := by decide +kernel
theorem dX8_lays_20 : decode cX8_lays 20 = .ok (.iload_n 2, 1) := by decide +kernel
theorem dX8_lays_21 : decode cX8_lays 21 = .ok (.invokevirtual 153, 3) := by decide +kernel
theorem dX8_lays_24 : decode cX8_lays 24 = .ok (.invokevirtual 156, 3) := by decide +kernel
theorem dX8_lays_27 : decode cX8_lays 27 = .ok (.iastore, 1) := by decide +kernel
theorem dX8_lays_28 : decode cX8_lays 28 = .ok (.aload_n 0, 1) := by decide +kernel
theorem dX8_lays_29 : decode cX8_lays 29 = .ok (.getfield 66, 3) := by decide +kernel
theorem dX8_lays_32 : decode cX8_lays 32 = .ok (.iload_n 2, 1) := by decide +kernel
theorem dX8_lays_33 : decode cX8_lays 33 = .ok (.iconst 0, 1) := by decide +kernel
theorem dX8_lays_34 : decode cX8_lays 34 = .ok (.bastore, 1) := by decide +kernel
theorem dX8_lays_35 : decode cX8_lays 35 = .ok (.aload_n 0, 1) := by decide +kernel
theorem dX8_lays_36 : decode cX8_lays 36 = .ok (.getfield 69, 3) := by decide +kernel
theorem dX8_lays_39 : decode cX8_lays 39 = .ok (.iload_n 2, 1) := by decide +kernel
theorem dX8_lays_40 : decode cX8_lays 40 = .ok (.iconst 0, 1) := by decide +kernel
theorem dX8_lays_41 : decode cX8_lays 41 = .ok (.bastore, 1) := by decide +kernel
theorem dX8_lays_42 : decode cX8_lays 42 = .ok (.iload_n 1, 1) := by decide +kernel
theorem dX8_lays_43 : decode cX8_lays 43 = .ok (.aload_n 0, 1) := by decide +kernel
theorem dX8_lays_44 : decode cX8_lays 44 = .ok (.iload_n 2, 1) := by decide +kernel
theorem dX8_lays_45 : decode cX8_lays 45 = .ok (.invokevirtual 127, 3) := by decide +kernel
theorem dX8_lays_48 : decode cX8_lays 48 = .ok (.ifCond .eq 9, 3) := by decide +kernel
theorem dX8_lays_51 : decode cX8_lays 51 = .ok (.iconst 1, 1) := by decide +kernel
theorem dX8_lays_52 : decode cX8_lays 52 = .ok (.iload_n 2, 1) := by decide +kernel
theorem dX8_lays_53 : decode cX8_lays 53 = .ok (.ishl, 1) := by decide +kernel
theorem dX8_lays_54 : decode cX8_lays 54 = .ok (.goto 4, 3) := by decide +kernel
theorem dX8_lays_57 : decode cX8_lays 57 = .ok (.iconst 0, 1) := by decide +kernel
theorem dX8_lays_58 : decode cX8_lays 58 = .ok (.ior, 1) := by decide +kernel
theorem dX8_lays_59 : decode cX8_lays 59 = .ok (.istore_n 1, 1) := by decide +kernel
theorem dX8_lays_60 : decode cX8_lays 60 = .ok (.iinc 2 1, 3) := by decide +kernel
theorem dX8_lays_63 : decode cX8_lays 63 = .ok (.goto (-59), 3) := by decide +kernel
theorem dX8_lays_66 : decode cX8_lays 66 = .ok (.aload_n 0, 1) := by decide +kernel
theorem dX8_lays_67 : decode cX8_lays 67 = .ok (.iload_n 1, 1) := by decide +kernel
theorem dX8_lays_68 : decode cX8_lays 68 = .ok (.invokevirtual 188, 3) := by decide +kernel
theorem dX8_lays_71 : decode cX8_lays 71 = .ok (.aload_n 0, 1) := by decide +kernel
theorem dX8_lays_72 : decode cX8_lays 72 = .ok (.invokevirtual 191, 3) := by decide +kernel
theorem dX8_lays_75 : decode cX8_lays 75 = .ok (.ifCond .ne (-9), 3) := by decide +kernel
theorem dX8_lays_78 : decode cX8_lays 78 = .ok (.return_, 1) := by decide +kernel
theorem dX8_cost_0 : decode cX8_cost 0 = .ok (.aload_n 0, 1) := by decide +kernel
theorem dX8_cost_1 : decode cX8_cost 1 = .ok (.iload_n 1, 1) := by decide +kernel
theorem dX8_cost_2 : decode cX8_cost 2 = .ok (.iload_n 2, 1) := by decide +kernel
theorem dX8_cost_3 : decode cX8_cost 3 = .ok (.invokevirtual 156, 3) := by decide +kernel
theorem dX8_cost_6 : decode cX8_cost 6 = .ok (.tableswitch 89 1 4 #[30, 39, 55, 71], 30) := by decide +kernel
theorem dX8_cost_36 : decode cX8_cost 36 = .ok (.iconst 2, 1) := by decide +kernel
theorem dX8_cost_37 : decode cX8_cost 37 = .ok (.aload_n 0, 1) := by decide +kernel
theorem dX8_cost_38 : decode cX8_cost 38 = .ok (.getfield 35, 3) := by decide +kernel
theorem dX8_cost_41 : decode cX8_cost 41 = .ok (.iload_n 1, 1) := by decide +kernel
theorem dX8_cost_42 : decode cX8_cost 42 = .ok (.iaload, 1) := by decide +kernel
theorem dX8_cost_43 : decode cX8_cost 43 = .ok (.imul, 1) := by decide +kernel
theorem dX8_cost_44 : decode cX8_cost 44 = .ok (.ireturn, 1) := by decide +kernel
theorem dX8_cost_45 : decode cX8_cost 45 = .ok (.iconst 3, 1) := by decide +kernel
theorem dX8_cost_46 : decode cX8_cost 46 = .ok (.aload_n 0, 1) := by decide +kernel
theorem dX8_cost_47 : decode cX8_cost 47 = .ok (.getfield 35, 3) := by decide +kernel
theorem dX8_cost_50 : decode cX8_cost 50 = .ok (.iload_n 1, 1) := by decide +kernel
theorem dX8_cost_51 : decode cX8_cost 51 = .ok (.iaload, 1) := by decide +kernel
theorem dX8_cost_52 : decode cX8_cost 52 = .ok (.imul, 1) := by decide +kernel
theorem dX8_cost_53 : decode cX8_cost 53 = .ok (.aload_n 0, 1) := by decide +kernel
theorem dX8_cost_54 : decode cX8_cost 54 = .ok (.getfield 38, 3) := by decide +kernel
theorem dX8_cost_57 : decode cX8_cost 57 = .ok (.iload_n 1, 1) := by decide +kernel
theorem dX8_cost_58 : decode cX8_cost 58 = .ok (.iaload, 1) := by decide +kernel
theorem dX8_cost_59 : decode cX8_cost 59 = .ok (.iadd, 1) := by decide +kernel
theorem dX8_cost_60 : decode cX8_cost 60 = .ok (.ireturn, 1) := by decide +kernel
theorem dX8_cost_61 : decode cX8_cost 61 = .ok (.aload_n 0, 1) := by decide +kernel
theorem dX8_cost_62 : decode cX8_cost 62 = .ok (.getfield 35, 3) := by decide +kernel
theorem dX8_cost_65 : decode cX8_cost 65 = .ok (.iload_n 1, 1) := by decide +kernel
theorem dX8_cost_66 : decode cX8_cost 66 = .ok (.iaload, 1) := by decide +kernel
theorem dX8_cost_67 : decode cX8_cost 67 = .ok (.iconst 3, 1) := by decide +kernel
theorem dX8_cost_68 : decode cX8_cost 68 = .ok (.aload_n 0, 1) := by decide +kernel
theorem dX8_cost_69 : decode cX8_cost 69 = .ok (.getfield 38, 3) := by decide +kernel
theorem dX8_cost_72 : decode cX8_cost 72 = .ok (.iload_n 1, 1) := by decide +kernel
theorem dX8_cost_73 : decode cX8_cost 73 = .ok (.iaload, 1) := by decide +kernel
theorem dX8_cost_74 : decode cX8_cost 74 = .ok (.imul, 1) := by decide +kernel
theorem dX8_cost_75 : decode cX8_cost 75 = .ok (.iadd, 1) := by decide +kernel
theorem dX8_cost_76 : decode cX8_cost 76 = .ok (.ireturn, 1) := by decide +kernel
theorem dX8_cost_77 : decode cX8_cost 77 = .ok (.iconst 3, 1) := by decide +kernel
theorem dX8_cost_78 : decode cX8_cost 78 = .ok (.aload_n 0, 1) := by decide +kernel
theorem dX8_cost_79 : decode cX8_cost 79 = .ok (.getfield 35, 3) := by decide +kernel
theorem dX8_cost_82 : decode cX8_cost 82 = .ok (.iload_n 1, 1) := by decide +kernel
theorem dX8_cost_83 : decode cX8_cost 83 = .ok (.iaload, 1) := by decide +kernel
theorem dX8_cost_84 : decode cX8_cost 84 = .ok (.imul, 1) := by decide +kernel
theorem dX8_cost_85 : decode cX8_cost 85 = .ok (.iconst 3, 1) := by decide +kernel
theorem dX8_cost_86 : decode cX8_cost 86 = .ok (.aload_n 0, 1) := by decide +kernel
theorem dX8_cost_87 : decode cX8_cost 87 = .ok (.getfield 38, 3) := by decide +kernel
theorem dX8_cost_90 : decode cX8_cost 90 = .ok (.iload_n 1, 1) := by decide +kernel
theorem dX8_cost_91 : decode cX8_cost 91 = .ok (.iaload, 1) := by decide +kernel
theorem dX8_cost_92 : decode cX8_cost 92 = .ok (.imul, 1) := by decide +kernel
theorem dX8_cost_93 : decode cX8_cost 93 = .ok (.iadd, 1) := by decide +kernel
theorem dX8_cost_94 : decode cX8_cost 94 = .ok (.ireturn, 1) := by decide +kernel
theorem dX8_cost_95 : decode cX8_cost 95 = .ok (.iconst 0, 1) := by decide +kernel
theorem dX8_cost_96 : decode cX8_cost 96 = .ok (.ireturn, 1) := by decide +kernel
theorem dX8_costs_0 : decode cX8_costs 0 = .ok (.iconst 0, 1) := by decide +kernel
theorem dX8_costs_1 : decode cX8_costs 1 = .ok (.istore_n 2, 1) := by decide +kernel
theorem dX8_costs_2 : decode cX8_costs 2 = .ok (.iconst 0, 1) := by decide +kernel
theorem dX8_costs_3 : decode cX8_costs 3 = .ok (.istore_n 3, 1) := by decide +kernel
theorem dX8_costs_4 : decode cX8_costs 4 = .ok (.iload_n 3, 1) := by decide +kernel
theorem dX8_costs_5 : decode cX8_costs 5 = .ok (.iload_n 1, 1) := by decide +kernel
theorem dX8_costs_6 : decode cX8_costs 6 = .ok (.if_icmp .ge 32, 3) := by decide +kernel
theorem dX8_costs_9 : decode cX8_costs 9 = .ok (.iload_n 2, 1) := by decide +kernel
theorem dX8_costs_10 : decode cX8_costs 10 = .ok (.aload_n 0, 1) := by decide +kernel
theorem dX8_costs_11 : decode cX8_costs 11 = .ok (.aload_n 0, 1) := by decide +kernel
theorem dX8_costs_12 : decode cX8_costs 12 = .ok (.getfield 41, 3) := by decide +kernel
theorem dX8_costs_15 : decode cX8_costs 15 = .ok (.iload_n 3, 1) := by decide +kernel
theorem dX8_costs_16 : decode cX8_costs 16 = .ok (.iaload, 1) := by decide +kernel
theorem dX8_costs_17 : decode cX8_costs 17 = .ok (.aload_n 0, 1) := by decide +kernel
theorem dX8_costs_18 : decode cX8_costs 18 = .ok (.aload_n 0, 1) := by decide +kernel
theorem dX8_costs_19 : decode cX8_costs 19 = .ok (.getfield 41, 3) := by decide +kernel
theorem dX8_costs_22 : decode cX8_costs 22 = .ok (.iload_n 3, 1) := by decide +kernel
theorem dX8_costs_23 : decode cX8_costs 23 = .ok (.iaload, 1) := by decide +kernel
theorem dX8_costs_24 : decode cX8_costs 24 = .ok (.invokevirtual 153, 3) := by decide +kernel
theorem dX8_costs_27 : decode cX8_costs 27 = .ok (.invokevirtual 195, 3) := by decide +kernel
theorem dX8_costs_30 : decode cX8_costs 30 = .ok (.iadd, 1) := by decide +kernel
theorem dX8_costs_31 : decode cX8_costs 31 = .ok (.istore_n 2, 1) := by decide +kernel
theorem dX8_costs_32 : decode cX8_costs 32 = .ok (.iinc 3 1, 3) := by decide +kernel
theorem dX8_costs_35 : decode cX8_costs 35 = .ok (.goto (-31), 3) := by decide +kernel
theorem dX8_costs_38 : decode cX8_costs 38 = .ok (.iload_n 2, 1) := by decide +kernel
theorem dX8_costs_39 : decode cX8_costs 39 = .ok (.ireturn, 1) := by decide +kernel
theorem dX8_keeps_0 : decode cX8_keeps 0 = .ok (.aload_n 0, 1) := by decide +kernel
theorem dX8_keeps_1 : decode cX8_keeps 1 = .ok (.getfield 116, 3) := by decide +kernel
theorem dX8_keeps_4 : decode cX8_keeps 4 = .ok (.bipush 10, 2) := by decide +kernel
theorem dX8_keeps_6 : decode cX8_keeps 6 = .ok (.if_icmp .ne 93, 3) := by decide +kernel
theorem dX8_keeps_9 : decode cX8_keeps 9 = .ok (.iconst 1, 1) := by decide +kernel
theorem dX8_keeps_10 : decode cX8_keeps 10 = .ok (.istore_n 1, 1) := by decide +kernel
theorem dX8_keeps_11 : decode cX8_keeps 11 = .ok (.iload_n 1, 1) := by decide +kernel
theorem dX8_keeps_12 : decode cX8_keeps 12 = .ok (.bipush 10, 2) := by decide +kernel
theorem dX8_keeps_14 : decode cX8_keeps 14 = .ok (.if_icmp .ge 75, 3) := by decide +kernel
theorem dX8_keeps_17 : decode cX8_keeps 17 = .ok (.aload_n 0, 1) := by decide +kernel
theorem dX8_keeps_18 : decode cX8_keeps 18 = .ok (.getfield 75, 3) := by decide +kernel
theorem dX8_keeps_21 : decode cX8_keeps 21 = .ok (.iload_n 1, 1) := by decide +kernel
theorem dX8_keeps_22 : decode cX8_keeps 22 = .ok (.iconst 1, 1) := by decide +kernel
theorem dX8_keeps_23 : decode cX8_keeps 23 = .ok (.isub, 1) := by decide +kernel
theorem dX8_keeps_24 : decode cX8_keeps 24 = .ok (.aload_n 0, 1) := by decide +kernel
theorem dX8_keeps_25 : decode cX8_keeps 25 = .ok (.getfield 75, 3) := by decide +kernel
theorem dX8_keeps_28 : decode cX8_keeps 28 = .ok (.iload_n 1, 1) := by decide +kernel
theorem dX8_keeps_29 : decode cX8_keeps 29 = .ok (.iaload, 1) := by decide +kernel
theorem dX8_keeps_30 : decode cX8_keeps 30 = .ok (.iastore, 1) := by decide +kernel
theorem dX8_keeps_31 : decode cX8_keeps 31 = .ok (.aload_n 0, 1) := by decide +kernel
theorem dX8_keeps_32 : decode cX8_keeps 32 = .ok (.getfield 78, 3) := by decide +kernel
theorem dX8_keeps_35 : decode cX8_keeps 35 = .ok (.iload_n 1, 1) := by decide +kernel
theorem dX8_keeps_36 : decode cX8_keeps 36 = .ok (.iconst 1, 1) := by decide +kernel
theorem dX8_keeps_37 : decode cX8_keeps 37 = .ok (.isub, 1) := by decide +kernel
theorem dX8_keeps_38 : decode cX8_keeps 38 = .ok (.aload_n 0, 1) := by decide +kernel
theorem dX8_keeps_39 : decode cX8_keeps 39 = .ok (.getfield 78, 3) := by decide +kernel
theorem dX8_keeps_42 : decode cX8_keeps 42 = .ok (.iload_n 1, 1) := by decide +kernel
theorem dX8_keeps_43 : decode cX8_keeps 43 = .ok (.iaload, 1) := by decide +kernel
theorem dX8_keeps_44 : decode cX8_keeps 44 = .ok (.iastore, 1) := by decide +kernel
theorem dX8_keeps_45 : decode cX8_keeps 45 = .ok (.iconst 0, 1) := by decide +kernel
theorem dX8_keeps_46 : decode cX8_keeps 46 = .ok (.istore_n 2, 1) := by decide +kernel
theorem dX8_keeps_47 : decode cX8_keeps 47 = .ok (.iload_n 2, 1) := by decide +kernel
theorem dX8_keeps_48 : decode cX8_keeps 48 = .ok (.bipush 16, 2) := by decide +kernel
theorem dX8_keeps_50 : decode cX8_keeps 50 = .ok (.if_icmp .ge 33, 3) := by decide +kernel
theorem dX8_keeps_53 : decode cX8_keeps 53 = .ok (.aload_n 0, 1) := by decide +kernel
theorem dX8_keeps_54 : decode cX8_keeps 54 = .ok (.getfield 72, 3) := by decide +kernel
theorem dX8_keeps_57 : decode cX8_keeps 57 = .ok (.bipush 16, 2) := by decide +kernel
theorem dX8_keeps_59 : decode cX8_keeps 59 = .ok (.iload_n 1, 1) := by decide +kernel
theorem dX8_keeps_60 : decode cX8_keeps 60 = .ok (.iconst 1, 1) := by decide +kernel
theorem dX8_keeps_61 : decode cX8_keeps 61 = .ok (.isub, 1) := by decide +kernel
theorem dX8_keeps_62 : decode cX8_keeps 62 = .ok (.imul, 1) := by decide +kernel
theorem dX8_keeps_63 : decode cX8_keeps 63 = .ok (.iload_n 2, 1) := by decide +kernel
theorem dX8_keeps_64 : decode cX8_keeps 64 = .ok (.iadd, 1) := by decide +kernel
theorem dX8_keeps_65 : decode cX8_keeps 65 = .ok (.aload_n 0, 1) := by decide +kernel
theorem dX8_keeps_66 : decode cX8_keeps 66 = .ok (.getfield 72, 3) := by decide +kernel
theorem dX8_keeps_69 : decode cX8_keeps 69 = .ok (.bipush 16, 2) := by decide +kernel
theorem dX8_keeps_71 : decode cX8_keeps 71 = .ok (.iload_n 1, 1) := by decide +kernel
theorem dX8_keeps_72 : decode cX8_keeps 72 = .ok (.imul, 1) := by decide +kernel
theorem dX8_keeps_73 : decode cX8_keeps 73 = .ok (.iload_n 2, 1) := by decide +kernel
theorem dX8_keeps_74 : decode cX8_keeps 74 = .ok (.iadd, 1) := by decide +kernel
theorem dX8_keeps_75 : decode cX8_keeps 75 = .ok (.iaload, 1) := by decide +kernel
theorem dX8_keeps_76 : decode cX8_keeps 76 = .ok (.iastore, 1) := by decide +kernel
theorem dX8_keeps_77 : decode cX8_keeps 77 = .ok (.iinc 2 1, 3) := by decide +kernel
theorem dX8_keeps_80 : decode cX8_keeps 80 = .ok (.goto (-33), 3) := by decide +kernel
theorem dX8_keeps_83 : decode cX8_keeps 83 = .ok (.iinc 1 1, 3) := by decide +kernel
theorem dX8_keeps_86 : decode cX8_keeps 86 = .ok (.goto (-75), 3) := by decide +kernel
theorem dX8_keeps_89 : decode cX8_keeps 89 = .ok (.aload_n 0, 1) := by decide +kernel
theorem dX8_keeps_90 : decode cX8_keeps 90 = .ok (.dup, 1) := by decide +kernel
theorem dX8_keeps_91 : decode cX8_keeps 91 = .ok (.getfield 116, 3) := by decide +kernel
theorem dX8_keeps_94 : decode cX8_keeps 94 = .ok (.iconst 1, 1) := by decide +kernel
theorem dX8_keeps_95 : decode cX8_keeps 95 = .ok (.isub, 1) := by decide +kernel
theorem dX8_keeps_96 : decode cX8_keeps 96 = .ok (.putfield 116, 3) := by decide +kernel
theorem dX8_keeps_99 : decode cX8_keeps 99 = .ok (.aload_n 0, 1) := by decide +kernel
theorem dX8_keeps_100 : decode cX8_keeps 100 = .ok (.getfield 75, 3) := by decide +kernel
theorem dX8_keeps_103 : decode cX8_keeps 103 = .ok (.aload_n 0, 1) := by decide +kernel
theorem dX8_keeps_104 : decode cX8_keeps 104 = .ok (.getfield 116, 3) := by decide +kernel
theorem dX8_keeps_107 : decode cX8_keeps 107 = .ok (.aload_n 0, 1) := by decide +kernel
theorem dX8_keeps_108 : decode cX8_keeps 108 = .ok (.getfield 113, 3) := by decide +kernel
theorem dX8_keeps_111 : decode cX8_keeps 111 = .ok (.iastore, 1) := by decide +kernel
theorem dX8_keeps_112 : decode cX8_keeps 112 = .ok (.aload_n 0, 1) := by decide +kernel
theorem dX8_keeps_113 : decode cX8_keeps 113 = .ok (.getfield 78, 3) := by decide +kernel
theorem dX8_keeps_116 : decode cX8_keeps 116 = .ok (.aload_n 0, 1) := by decide +kernel
theorem dX8_keeps_117 : decode cX8_keeps 117 = .ok (.getfield 116, 3) := by decide +kernel
theorem dX8_keeps_120 : decode cX8_keeps 120 = .ok (.aload_n 0, 1) := by decide +kernel
theorem dX8_keeps_121 : decode cX8_keeps 121 = .ok (.getfield 7, 3) := by decide +kernel
theorem dX8_keeps_124 : decode cX8_keeps 124 = .ok (.iastore, 1) := by decide +kernel
theorem dX8_keeps_125 : decode cX8_keeps 125 = .ok (.iconst 0, 1) := by decide +kernel
theorem dX8_keeps_126 : decode cX8_keeps 126 = .ok (.istore_n 1, 1) := by decide +kernel
theorem dX8_keeps_127 : decode cX8_keeps 127 = .ok (.iload_n 1, 1) := by decide +kernel
theorem dX8_keeps_128 : decode cX8_keeps 128 = .ok (.bipush 16, 2) := by decide +kernel
theorem dX8_keeps_130 : decode cX8_keeps 130 = .ok (.if_icmp .ge 29, 3) := by decide +kernel
theorem dX8_keeps_133 : decode cX8_keeps 133 = .ok (.aload_n 0, 1) := by decide +kernel
theorem dX8_keeps_134 : decode cX8_keeps 134 = .ok (.getfield 72, 3) := by decide +kernel
theorem dX8_keeps_137 : decode cX8_keeps 137 = .ok (.bipush 16, 2) := by decide +kernel
theorem dX8_keeps_139 : decode cX8_keeps 139 = .ok (.aload_n 0, 1) := by decide +kernel
theorem dX8_keeps_140 : decode cX8_keeps 140 = .ok (.getfield 116, 3) := by decide +kernel
theorem dX8_keeps_143 : decode cX8_keeps 143 = .ok (.imul, 1) := by decide +kernel
theorem dX8_keeps_144 : decode cX8_keeps 144 = .ok (.iload_n 1, 1) := by decide +kernel
theorem dX8_keeps_145 : decode cX8_keeps 145 = .ok (.iadd, 1) := by decide +kernel
theorem dX8_keeps_146 : decode cX8_keeps 146 = .ok (.aload_n 0, 1) := by decide +kernel
theorem dX8_keeps_147 : decode cX8_keeps 147 = .ok (.getfield 41, 3) := by decide +kernel
theorem dX8_keeps_150 : decode cX8_keeps 150 = .ok (.iload_n 1, 1) := by decide +kernel
theorem dX8_keeps_151 : decode cX8_keeps 151 = .ok (.iaload, 1) := by decide +kernel
theorem dX8_keeps_152 : decode cX8_keeps 152 = .ok (.iastore, 1) := by decide +kernel
theorem dX8_keeps_153 : decode cX8_keeps 153 = .ok (.iinc 1 1, 3) := by decide +kernel
theorem dX8_keeps_156 : decode cX8_keeps 156 = .ok (.goto (-29), 3) := by decide +kernel
theorem dX8_keeps_159 : decode cX8_keeps 159 = .ok (.aload_n 0, 1) := by decide +kernel
theorem dX8_keeps_160 : decode cX8_keeps 160 = .ok (.dup, 1) := by decide +kernel
theorem dX8_keeps_161 : decode cX8_keeps 161 = .ok (.getfield 116, 3) := by decide +kernel
theorem dX8_keeps_164 : decode cX8_keeps 164 = .ok (.iconst 1, 1) := by decide +kernel
theorem dX8_keeps_165 : decode cX8_keeps 165 = .ok (.iadd, 1) := by decide +kernel
theorem dX8_keeps_166 : decode cX8_keeps 166 = .ok (.putfield 116, 3) := by decide +kernel
theorem dX8_keeps_169 : decode cX8_keeps 169 = .ok (.return_, 1) := by decide +kernel
theorem dX8_undo_0 : decode cX8_undo 0 = .ok (.aload_n 0, 1) := by decide +kernel
theorem dX8_undo_1 : decode cX8_undo 1 = .ok (.aload_n 0, 1) := by decide +kernel
theorem dX8_undo_2 : decode cX8_undo 2 = .ok (.getfield 116, 3) := by decide +kernel
theorem dX8_undo_5 : decode cX8_undo 5 = .ok (.ifCond .ne 7, 3) := by decide +kernel
theorem dX8_undo_8 : decode cX8_undo 8 = .ok (.iconst 1, 1) := by decide +kernel
theorem dX8_undo_9 : decode cX8_undo 9 = .ok (.goto 4, 3) := by decide +kernel
theorem dX8_undo_12 : decode cX8_undo 12 = .ok (.iconst 0, 1) := by decide +kernel
theorem dX8_undo_13 : decode cX8_undo 13 = .ok (.putfield 103, 3) := by decide +kernel
theorem dX8_undo_16 : decode cX8_undo 16 = .ok (.aload_n 0, 1) := by decide +kernel
theorem dX8_undo_17 : decode cX8_undo 17 = .ok (.getfield 103, 3) := by decide +kernel
theorem dX8_undo_20 : decode cX8_undo 20 = .ok (.ifCond .eq 5, 3) := by decide +kernel
theorem dX8_undo_23 : decode cX8_undo 23 = .ok (.iconst 0, 1) := by decide +kernel
theorem dX8_undo_24 : decode cX8_undo 24 = .ok (.ireturn, 1) := by decide +kernel
theorem dX8_undo_25 : decode cX8_undo 25 = .ok (.aload_n 0, 1) := by decide +kernel
theorem dX8_undo_26 : decode cX8_undo 26 = .ok (.dup, 1) := by decide +kernel
theorem dX8_undo_27 : decode cX8_undo 27 = .ok (.getfield 116, 3) := by decide +kernel
theorem dX8_undo_30 : decode cX8_undo 30 = .ok (.iconst 1, 1) := by decide +kernel
theorem dX8_undo_31 : decode cX8_undo 31 = .ok (.isub, 1) := by decide +kernel
theorem dX8_undo_32 : decode cX8_undo 32 = .ok (.putfield 116, 3) := by decide +kernel
theorem dX8_undo_35 : decode cX8_undo 35 = .ok (.aload_n 0, 1) := by decide +kernel
theorem dX8_undo_36 : decode cX8_undo 36 = .ok (.aload_n 0, 1) := by decide +kernel
theorem dX8_undo_37 : decode cX8_undo 37 = .ok (.getfield 75, 3) := by decide +kernel
theorem dX8_undo_40 : decode cX8_undo 40 = .ok (.aload_n 0, 1) := by decide +kernel
theorem dX8_undo_41 : decode cX8_undo 41 = .ok (.getfield 116, 3) := by decide +kernel
theorem dX8_undo_44 : decode cX8_undo 44 = .ok (.iaload, 1) := by decide +kernel
theorem dX8_undo_45 : decode cX8_undo 45 = .ok (.putfield 113, 3) := by decide +kernel
theorem dX8_undo_48 : decode cX8_undo 48 = .ok (.aload_n 0, 1) := by decide +kernel
theorem dX8_undo_49 : decode cX8_undo 49 = .ok (.aload_n 0, 1) := by decide +kernel
theorem dX8_undo_50 : decode cX8_undo 50 = .ok (.getfield 78, 3) := by decide +kernel
theorem dX8_undo_53 : decode cX8_undo 53 = .ok (.aload_n 0, 1) := by decide +kernel
theorem dX8_undo_54 : decode cX8_undo 54 = .ok (.getfield 116, 3) := by decide +kernel
theorem dX8_undo_57 : decode cX8_undo 57 = .ok (.iaload, 1) := by decide +kernel
theorem dX8_undo_58 : decode cX8_undo 58 = .ok (.putfield 7, 3) := by decide +kernel
theorem dX8_undo_61 : decode cX8_undo 61 = .ok (.iconst 0, 1) := by decide +kernel
theorem dX8_undo_62 : decode cX8_undo 62 = .ok (.istore_n 1, 1) := by decide +kernel
theorem dX8_undo_63 : decode cX8_undo 63 = .ok (.iload_n 1, 1) := by decide +kernel
theorem dX8_undo_64 : decode cX8_undo 64 = .ok (.bipush 16, 2) := by decide +kernel
theorem dX8_undo_66 : decode cX8_undo 66 = .ok (.if_icmp .ge 29, 3) := by decide +kernel
theorem dX8_undo_69 : decode cX8_undo 69 = .ok (.aload_n 0, 1) := by decide +kernel
theorem dX8_undo_70 : decode cX8_undo 70 = .ok (.getfield 41, 3) := by decide +kernel
theorem dX8_undo_73 : decode cX8_undo 73 = .ok (.iload_n 1, 1) := by decide +kernel
theorem dX8_undo_74 : decode cX8_undo 74 = .ok (.aload_n 0, 1) := by decide +kernel
theorem dX8_undo_75 : decode cX8_undo 75 = .ok (.getfield 72, 3) := by decide +kernel
theorem dX8_undo_78 : decode cX8_undo 78 = .ok (.bipush 16, 2) := by decide +kernel
theorem dX8_undo_80 : decode cX8_undo 80 = .ok (.aload_n 0, 1) := by decide +kernel
theorem dX8_undo_81 : decode cX8_undo 81 = .ok (.getfield 116, 3) := by decide +kernel
theorem dX8_undo_84 : decode cX8_undo 84 = .ok (.imul, 1) := by decide +kernel
theorem dX8_undo_85 : decode cX8_undo 85 = .ok (.iload_n 1, 1) := by decide +kernel
theorem dX8_undo_86 : decode cX8_undo 86 = .ok (.iadd, 1) := by decide +kernel
theorem dX8_undo_87 : decode cX8_undo 87 = .ok (.iaload, 1) := by decide +kernel
theorem dX8_undo_88 : decode cX8_undo 88 = .ok (.iastore, 1) := by decide +kernel
theorem dX8_undo_89 : decode cX8_undo 89 = .ok (.iinc 1 1, 3) := by decide +kernel
theorem dX8_undo_92 : decode cX8_undo 92 = .ok (.goto (-29), 3) := by decide +kernel
theorem dX8_undo_95 : decode cX8_undo 95 = .ok (.aload_n 0, 1) := by decide +kernel
theorem dX8_undo_96 : decode cX8_undo 96 = .ok (.getfield 116, 3) := by decide +kernel
theorem dX8_undo_99 : decode cX8_undo 99 = .ok (.ireturn, 1) := by decide +kernel
theorem dX8_isAlignment_0 : decode cX8_isAlignment 0 = .ok (.iload_n 0, 1) := by decide +kernel
theorem dX8_isAlignment_1 : decode cX8_isAlignment 1 = .ok (.iconst 1, 1) := by decide +kernel
theorem dX8_isAlignment_2 : decode cX8_isAlignment 2 = .ok (.bipush 32, 2) := by decide +kernel
theorem dX8_isAlignment_4 : decode cX8_isAlignment 4 = .ok (.invokestatic 109, 3) := by decide +kernel
theorem dX8_isAlignment_7 : decode cX8_isAlignment 7 = .ok (.ifCond .eq 15, 3) := by decide +kernel
theorem dX8_isAlignment_10 : decode cX8_isAlignment 10 = .ok (.iload_n 0, 1) := by decide +kernel
theorem dX8_isAlignment_11 : decode cX8_isAlignment 11 = .ok (.iload_n 0, 1) := by decide +kernel
theorem dX8_isAlignment_12 : decode cX8_isAlignment 12 = .ok (.iconst 1, 1) := by decide +kernel
theorem dX8_isAlignment_13 : decode cX8_isAlignment 13 = .ok (.isub, 1) := by decide +kernel
theorem dX8_isAlignment_14 : decode cX8_isAlignment 14 = .ok (.iand, 1) := by decide +kernel
theorem dX8_isAlignment_15 : decode cX8_isAlignment 15 = .ok (.ifCond .ne 7, 3) := by decide +kernel
theorem dX8_isAlignment_18 : decode cX8_isAlignment 18 = .ok (.iconst 1, 1) := by decide +kernel
theorem dX8_isAlignment_19 : decode cX8_isAlignment 19 = .ok (.goto 4, 3) := by decide +kernel
theorem dX8_isAlignment_22 : decode cX8_isAlignment 22 = .ok (.iconst 0, 1) := by decide +kernel
theorem dX8_isAlignment_23 : decode cX8_isAlignment 23 = .ok (.ireturn, 1) := by decide +kernel
theorem dX8_setAlignment_0 : decode cX8_setAlignment 0 = .ok (.aload_n 0, 1) := by decide +kernel
theorem dX8_setAlignment_1 : decode cX8_setAlignment 1 = .ok (.iload_n 1, 1) := by decide +kernel
theorem dX8_setAlignment_2 : decode cX8_setAlignment 2 = .ok (.invokestatic 198, 3) := by decide +kernel
theorem dX8_setAlignment_5 : decode cX8_setAlignment 5 = .ok (.ifCond .eq 7, 3) := by decide +kernel
theorem dX8_setAlignment_8 : decode cX8_setAlignment 8 = .ok (.iconst 0, 1) := by decide +kernel
theorem dX8_setAlignment_9 : decode cX8_setAlignment 9 = .ok (.goto 4, 3) := by decide +kernel
theorem dX8_setAlignment_12 : decode cX8_setAlignment 12 = .ok (.iconst 1, 1) := by decide +kernel
theorem dX8_setAlignment_13 : decode cX8_setAlignment 13 = .ok (.putfield 103, 3) := by decide +kernel
theorem dX8_setAlignment_16 : decode cX8_setAlignment 16 = .ok (.aload_n 0, 1) := by decide +kernel
theorem dX8_setAlignment_17 : decode cX8_setAlignment 17 = .ok (.getfield 103, 3) := by decide +kernel
theorem dX8_setAlignment_20 : decode cX8_setAlignment 20 = .ok (.ifCond .eq 5, 3) := by decide +kernel
theorem dX8_setAlignment_23 : decode cX8_setAlignment 23 = .ok (.iconst 0, 1) := by decide +kernel
theorem dX8_setAlignment_24 : decode cX8_setAlignment 24 = .ok (.ireturn, 1) := by decide +kernel
theorem dX8_setAlignment_25 : decode cX8_setAlignment 25 = .ok (.aload_n 0, 1) := by decide +kernel
theorem dX8_setAlignment_26 : decode cX8_setAlignment 26 = .ok (.invokevirtual 201, 3) := by decide +kernel
theorem dX8_setAlignment_29 : decode cX8_setAlignment 29 = .ok (.aload_n 0, 1) := by decide +kernel
theorem dX8_setAlignment_30 : decode cX8_setAlignment 30 = .ok (.getfield 7, 3) := by decide +kernel
theorem dX8_setAlignment_33 : decode cX8_setAlignment 33 = .ok (.istore_n 2, 1) := by decide +kernel
theorem dX8_setAlignment_34 : decode cX8_setAlignment 34 = .ok (.aload_n 0, 1) := by decide +kernel
theorem dX8_setAlignment_35 : decode cX8_setAlignment 35 = .ok (.iload_n 1, 1) := by decide +kernel
theorem dX8_setAlignment_36 : decode cX8_setAlignment 36 = .ok (.putfield 7, 3) := by decide +kernel
theorem dX8_setAlignment_39 : decode cX8_setAlignment 39 = .ok (.iload_n 2, 1) := by decide +kernel
theorem dX8_setAlignment_40 : decode cX8_setAlignment 40 = .ok (.ireturn, 1) := by decide +kernel
theorem dX8_setLoopLimit_0 : decode cX8_setLoopLimit 0 = .ok (.aload_n 0, 1) := by decide +kernel
theorem dX8_setLoopLimit_1 : decode cX8_setLoopLimit 1 = .ok (.iload_n 1, 1) := by decide +kernel
theorem dX8_setLoopLimit_2 : decode cX8_setLoopLimit 2 = .ok (.iconst 0, 1) := by decide +kernel
theorem dX8_setLoopLimit_3 : decode cX8_setLoopLimit 3 = .ok (.sipush 9999, 3) := by decide +kernel
theorem dX8_setLoopLimit_6 : decode cX8_setLoopLimit 6 = .ok (.invokestatic 109, 3) := by decide +kernel
theorem dX8_setLoopLimit_9 : decode cX8_setLoopLimit 9 = .ok (.ifCond .eq 7, 3) := by decide +kernel
theorem dX8_setLoopLimit_12 : decode cX8_setLoopLimit 12 = .ok (.iconst 0, 1) := by decide +kernel
theorem dX8_setLoopLimit_13 : decode cX8_setLoopLimit 13 = .ok (.goto 4, 3) := by decide +kernel
theorem dX8_setLoopLimit_16 : decode cX8_setLoopLimit 16 = .ok (.iconst 1, 1) := by decide +kernel
theorem dX8_setLoopLimit_17 : decode cX8_setLoopLimit 17 = .ok (.putfield 103, 3) := by decide +kernel
theorem dX8_setLoopLimit_20 : decode cX8_setLoopLimit 20 = .ok (.aload_n 0, 1) := by decide +kernel
theorem dX8_setLoopLimit_21 : decode cX8_setLoopLimit 21 = .ok (.getfield 103, 3) := by decide +kernel
theorem dX8_setLoopLimit_24 : decode cX8_setLoopLimit 24 = .ok (.ifCond .eq 5, 3) := by decide +kernel
theorem dX8_setLoopLimit_27 : decode cX8_setLoopLimit 27 = .ok (.iconst 0, 1) := by decide +kernel
theorem dX8_setLoopLimit_28 : decode cX8_setLoopLimit 28 = .ok (.ireturn, 1) := by decide +kernel
theorem dX8_setLoopLimit_29 : decode cX8_setLoopLimit 29 = .ok (.aload_n 0, 1) := by decide +kernel
theorem dX8_setLoopLimit_30 : decode cX8_setLoopLimit 30 = .ok (.getfield 13, 3) := by decide +kernel
theorem dX8_setLoopLimit_33 : decode cX8_setLoopLimit 33 = .ok (.istore_n 2, 1) := by decide +kernel
theorem dX8_setLoopLimit_34 : decode cX8_setLoopLimit 34 = .ok (.aload_n 0, 1) := by decide +kernel
theorem dX8_setLoopLimit_35 : decode cX8_setLoopLimit 35 = .ok (.iload_n 1, 1) := by decide +kernel
theorem dX8_setLoopLimit_36 : decode cX8_setLoopLimit 36 = .ok (.putfield 13, 3) := by decide +kernel
theorem dX8_setLoopLimit_39 : decode cX8_setLoopLimit 39 = .ok (.iload_n 2, 1) := by decide +kernel
theorem dX8_setLoopLimit_40 : decode cX8_setLoopLimit 40 = .ok (.ireturn, 1) := by decide +kernel
theorem dX8_exchange_0 : decode cX8_exchange 0 = .ok (.aload_n 0, 1) := by decide +kernel
theorem dX8_exchange_1 : decode cX8_exchange 1 = .ok (.aload_n 0, 1) := by decide +kernel
theorem dX8_exchange_2 : decode cX8_exchange 2 = .ok (.iload_n 1, 1) := by decide +kernel
theorem dX8_exchange_3 : decode cX8_exchange 3 = .ok (.invokevirtual 119, 3) := by decide +kernel
theorem dX8_exchange_6 : decode cX8_exchange 6 = .ok (.ifCond .eq 11, 3) := by decide +kernel
theorem dX8_exchange_9 : decode cX8_exchange 9 = .ok (.aload_n 0, 1) := by decide +kernel
theorem dX8_exchange_10 : decode cX8_exchange 10 = .ok (.iload_n 2, 1) := by decide +kernel
theorem dX8_exchange_11 : decode cX8_exchange 11 = .ok (.invokevirtual 119, 3) := by decide +kernel
theorem dX8_exchange_14 : decode cX8_exchange 14 = .ok (.ifCond .ne 7, 3) := by decide +kernel
theorem dX8_exchange_17 : decode cX8_exchange 17 = .ok (.iconst 1, 1) := by decide +kernel
theorem dX8_exchange_18 : decode cX8_exchange 18 = .ok (.goto 16, 3) := by decide +kernel
theorem dX8_exchange_21 : decode cX8_exchange 21 = .ok (.iload_n 1, 1) := by decide +kernel
theorem dX8_exchange_22 : decode cX8_exchange 22 = .ok (.ifCond .eq 7, 3) := by decide +kernel
theorem dX8_exchange_25 : decode cX8_exchange 25 = .ok (.iload_n 2, 1) := by decide +kernel
theorem dX8_exchange_26 : decode cX8_exchange 26 = .ok (.ifCond .ne 7, 3) := by decide +kernel
theorem dX8_exchange_29 : decode cX8_exchange 29 = .ok (.iconst 2, 1) := by decide +kernel
theorem dX8_exchange_30 : decode cX8_exchange 30 = .ok (.goto 4, 3) := by decide +kernel
theorem dX8_exchange_33 : decode cX8_exchange 33 = .ok (.iconst 0, 1) := by decide +kernel
theorem dX8_exchange_34 : decode cX8_exchange 34 = .ok (.putfield 103, 3) := by decide +kernel
theorem dX8_exchange_37 : decode cX8_exchange 37 = .ok (.aload_n 0, 1) := by decide +kernel
theorem dX8_exchange_38 : decode cX8_exchange 38 = .ok (.getfield 103, 3) := by decide +kernel
theorem dX8_exchange_41 : decode cX8_exchange 41 = .ok (.ifCond .eq 5, 3) := by decide +kernel
theorem dX8_exchange_44 : decode cX8_exchange 44 = .ok (.iconst 0, 1) := by decide +kernel
theorem dX8_exchange_45 : decode cX8_exchange 45 = .ok (.ireturn, 1) := by decide +kernel
theorem dX8_exchange_46 : decode cX8_exchange 46 = .ok (.aload_n 0, 1) := by decide +kernel
theorem dX8_exchange_47 : decode cX8_exchange 47 = .ok (.invokevirtual 201, 3) := by decide +kernel
theorem dX8_exchange_50 : decode cX8_exchange 50 = .ok (.aload_n 0, 1) := by decide +kernel
theorem dX8_exchange_51 : decode cX8_exchange 51 = .ok (.getfield 41, 3) := by decide +kernel
theorem dX8_exchange_54 : decode cX8_exchange 54 = .ok (.iload_n 1, 1) := by decide +kernel
theorem dX8_exchange_55 : decode cX8_exchange 55 = .ok (.iaload, 1) := by decide +kernel
theorem dX8_exchange_56 : decode cX8_exchange 56 = .ok (.istore_n 3, 1) := by decide +kernel
theorem dX8_exchange_57 : decode cX8_exchange 57 = .ok (.aload_n 0, 1) := by decide +kernel
theorem dX8_exchange_58 : decode cX8_exchange 58 = .ok (.getfield 41, 3) := by decide +kernel
theorem dX8_exchange_61 : decode cX8_exchange 61 = .ok (.iload_n 1, 1) := by decide +kernel
theorem dX8_exchange_62 : decode cX8_exchange 62 = .ok (.aload_n 0, 1) := by decide +kernel
theorem dX8_exchange_63 : decode cX8_exchange 63 = .ok (.getfield 41, 3) := by decide +kernel
theorem dX8_exchange_66 : decode cX8_exchange 66 = .ok (.iload_n 2, 1) := by decide +kernel
theorem dX8_exchange_67 : decode cX8_exchange 67 = .ok (.iaload, 1) := by decide +kernel
theorem dX8_exchange_68 : decode cX8_exchange 68 = .ok (.iastore, 1) := by decide +kernel
theorem dX8_exchange_69 : decode cX8_exchange 69 = .ok (.aload_n 0, 1) := by decide +kernel
theorem dX8_exchange_70 : decode cX8_exchange 70 = .ok (.getfield 41, 3) := by decide +kernel
theorem dX8_exchange_73 : decode cX8_exchange 73 = .ok (.iload_n 2, 1) := by decide +kernel
theorem dX8_exchange_74 : decode cX8_exchange 74 = .ok (.iload_n 3, 1) := by decide +kernel
theorem dX8_exchange_75 : decode cX8_exchange 75 = .ok (.iastore, 1) := by decide +kernel
theorem dX8_exchange_76 : decode cX8_exchange 76 = .ok (.aload_n 0, 1) := by decide +kernel
theorem dX8_exchange_77 : decode cX8_exchange 77 = .ok (.getfield 41, 3) := by decide +kernel
theorem dX8_exchange_80 : decode cX8_exchange 80 = .ok (.iload_n 1, 1) := by decide +kernel
theorem dX8_exchange_81 : decode cX8_exchange 81 = .ok (.iaload, 1) := by decide +kernel
theorem dX8_exchange_82 : decode cX8_exchange 82 = .ok (.ireturn, 1) := by decide +kernel
theorem dX8_setHot_0 : decode cX8_setHot 0 = .ok (.aload_n 0, 1) := by decide +kernel
theorem dX8_setHot_1 : decode cX8_setHot 1 = .ok (.iload_n 1, 1) := by decide +kernel
theorem dX8_setHot_2 : decode cX8_setHot 2 = .ok (.iconst 1, 1) := by decide +kernel
theorem dX8_setHot_3 : decode cX8_setHot 3 = .ok (.aload_n 0, 1) := by decide +kernel
theorem dX8_setHot_4 : decode cX8_setHot 4 = .ok (.getfield 106, 3) := by decide +kernel
theorem dX8_setHot_7 : decode cX8_setHot 7 = .ok (.invokestatic 109, 3) := by decide +kernel
theorem dX8_setHot_10 : decode cX8_setHot 10 = .ok (.ifCond .eq 7, 3) := by decide +kernel
theorem dX8_setHot_13 : decode cX8_setHot 13 = .ok (.iconst 0, 1) := by decide +kernel
theorem dX8_setHot_14 : decode cX8_setHot 14 = .ok (.goto 4, 3) := by decide +kernel
theorem dX8_setHot_17 : decode cX8_setHot 17 = .ok (.iconst 1, 1) := by decide +kernel
theorem dX8_setHot_18 : decode cX8_setHot 18 = .ok (.putfield 103, 3) := by decide +kernel
theorem dX8_setHot_21 : decode cX8_setHot 21 = .ok (.aload_n 0, 1) := by decide +kernel
theorem dX8_setHot_22 : decode cX8_setHot 22 = .ok (.getfield 103, 3) := by decide +kernel
theorem dX8_setHot_25 : decode cX8_setHot 25 = .ok (.ifCond .eq 5, 3) := by decide +kernel
theorem dX8_setHot_28 : decode cX8_setHot 28 = .ok (.iconst 0, 1) := by decide +kernel
theorem dX8_setHot_29 : decode cX8_setHot 29 = .ok (.ireturn, 1) := by decide +kernel
theorem dX8_setHot_30 : decode cX8_setHot 30 = .ok (.aload_n 0, 1) := by decide +kernel
theorem dX8_setHot_31 : decode cX8_setHot 31 = .ok (.invokevirtual 201, 3) := by decide +kernel
theorem dX8_setHot_34 : decode cX8_setHot 34 = .ok (.aload_n 0, 1) := by decide +kernel
theorem dX8_setHot_35 : decode cX8_setHot 35 = .ok (.getfield 113, 3) := by decide +kernel
theorem dX8_setHot_38 : decode cX8_setHot 38 = .ok (.istore_n 2, 1) := by decide +kernel
theorem dX8_setHot_39 : decode cX8_setHot 39 = .ok (.aload_n 0, 1) := by decide +kernel
theorem dX8_setHot_40 : decode cX8_setHot 40 = .ok (.iload_n 1, 1) := by decide +kernel
theorem dX8_setHot_41 : decode cX8_setHot 41 = .ok (.putfield 113, 3) := by decide +kernel
theorem dX8_setHot_44 : decode cX8_setHot 44 = .ok (.iload_n 2, 1) := by decide +kernel
theorem dX8_setHot_45 : decode cX8_setHot 45 = .ok (.ireturn, 1) := by decide +kernel
theorem dX8_isHot_0 : decode cX8_isHot 0 = .ok (.aload_n 0, 1) := by decide +kernel
theorem dX8_isHot_1 : decode cX8_isHot 1 = .ok (.getfield 204, 3) := by decide +kernel
theorem dX8_isHot_4 : decode cX8_isHot 4 = .ok (.iload_n 1, 1) := by decide +kernel
theorem dX8_isHot_5 : decode cX8_isHot 5 = .ok (.ishr, 1) := by decide +kernel
theorem dX8_isHot_6 : decode cX8_isHot 6 = .ok (.iconst 1, 1) := by decide +kernel
theorem dX8_isHot_7 : decode cX8_isHot 7 = .ok (.iand, 1) := by decide +kernel
theorem dX8_isHot_8 : decode cX8_isHot 8 = .ok (.iconst 1, 1) := by decide +kernel
theorem dX8_isHot_9 : decode cX8_isHot 9 = .ok (.if_icmp .ne 7, 3) := by decide +kernel
theorem dX8_isHot_12 : decode cX8_isHot 12 = .ok (.iconst 1, 1) := by decide +kernel
theorem dX8_isHot_13 : decode cX8_isHot 13 = .ok (.goto 4, 3) := by decide +kernel
theorem dX8_isHot_16 : decode cX8_isHot 16 = .ok (.iconst 0, 1) := by decide +kernel
theorem dX8_isHot_17 : decode cX8_isHot 17 = .ok (.ireturn, 1) := by decide +kernel
theorem dX8_firstOf_0 : decode cX8_firstOf 0 = .ok (.iload_n 1, 1) := by decide +kernel
theorem dX8_firstOf_1 : decode cX8_firstOf 1 = .ok (.istore_n 2, 1) := by decide +kernel
theorem dX8_firstOf_2 : decode cX8_firstOf 2 = .ok (.aload_n 0, 1) := by decide +kernel
theorem dX8_firstOf_3 : decode cX8_firstOf 3 = .ok (.getfield 84, 3) := by decide +kernel
theorem dX8_firstOf_6 : decode cX8_firstOf 6 = .ok (.iload_n 2, 1) := by decide +kernel
theorem dX8_firstOf_7 : decode cX8_firstOf 7 = .ok (.iaload, 1) := by decide +kernel
theorem dX8_firstOf_8 : decode cX8_firstOf 8 = .ok (.ifCond .lt 13, 3) := by decide +kernel
theorem dX8_firstOf_11 : decode cX8_firstOf 11 = .ok (.aload_n 0, 1) := by decide +kernel
theorem dX8_firstOf_12 : decode cX8_firstOf 12 = .ok (.getfield 84, 3) := by decide +kernel
theorem dX8_firstOf_15 : decode cX8_firstOf 15 = .ok (.iload_n 2, 1) := by decide +kernel
theorem dX8_firstOf_16 : decode cX8_firstOf 16 = .ok (.iaload, 1) := by decide +kernel
theorem dX8_firstOf_17 : decode cX8_firstOf 17 = .ok (.istore_n 2, 1) := by decide +kernel
theorem dX8_firstOf_18 : decode cX8_firstOf 18 = .ok (.goto (-16), 3) := by decide +kernel
theorem dX8_firstOf_21 : decode cX8_firstOf 21 = .ok (.iload_n 2, 1) := by decide +kernel
theorem dX8_firstOf_22 : decode cX8_firstOf 22 = .ok (.ireturn, 1) := by decide +kernel
theorem dX8_canJoin_0 : decode cX8_canJoin 0 = .ok (.iload_n 2, 1) := by decide +kernel
theorem dX8_canJoin_1 : decode cX8_canJoin 1 = .ok (.ifCond .eq 50, 3) := by decide +kernel
theorem dX8_canJoin_4 : decode cX8_canJoin 4 = .ok (.aload_n 0, 1) := by decide +kernel
theorem dX8_canJoin_5 : decode cX8_canJoin 5 = .ok (.iload_n 1, 1) := by decide +kernel
theorem dX8_canJoin_6 : decode cX8_canJoin 6 = .ok (.invokevirtual 207, 3) := by decide +kernel
theorem dX8_canJoin_9 : decode cX8_canJoin 9 = .ok (.ifCond .eq 42, 3) := by decide +kernel
theorem dX8_canJoin_12 : decode cX8_canJoin 12 = .ok (.aload_n 0, 1) := by decide +kernel
theorem dX8_canJoin_13 : decode cX8_canJoin 13 = .ok (.iload_n 2, 1) := by decide +kernel
theorem dX8_canJoin_14 : decode cX8_canJoin 14 = .ok (.invokevirtual 207, 3) := by decide +kernel
theorem dX8_canJoin_17 : decode cX8_canJoin 17 = .ok (.ifCond .eq 34, 3) := by decide +kernel
theorem dX8_canJoin_20 : decode cX8_canJoin 20 = .ok (.aload_n 0, 1) := by decide +kernel
theorem dX8_canJoin_21 : decode cX8_canJoin 21 = .ok (.getfield 81, 3) := by decide +kernel
theorem dX8_canJoin_24 : decode cX8_canJoin 24 = .ok (.iload_n 1, 1) := by decide +kernel
theorem dX8_canJoin_25 : decode cX8_canJoin 25 = .ok (.iaload, 1) := by decide +kernel
theorem dX8_canJoin_26 : decode cX8_canJoin 26 = .ok (.ifCond .ge 25, 3) := by decide +kernel
theorem dX8_canJoin_29 : decode cX8_canJoin 29 = .ok (.aload_n 0, 1) := by decide +kernel
theorem dX8_canJoin_30 : decode cX8_canJoin 30 = .ok (.getfield 84, 3) := by decide +kernel
theorem dX8_canJoin_33 : decode cX8_canJoin 33 = .ok (.iload_n 2, 1) := by decide +kernel
theorem dX8_canJoin_34 : decode cX8_canJoin 34 = .ok (.iaload, 1) := by decide +kernel
theorem dX8_canJoin_35 : decode cX8_canJoin 35 = .ok (.ifCond .ge 16, 3) := by decide +kernel
theorem dX8_canJoin_38 : decode cX8_canJoin 38 = .ok (.aload_n 0, 1) := by decide +kernel
theorem dX8_canJoin_39 : decode cX8_canJoin 39 = .ok (.iload_n 1, 1) := by decide +kernel
theorem dX8_canJoin_40 : decode cX8_canJoin 40 = .ok (.invokevirtual 210, 3) := by decide +kernel
theorem dX8_canJoin_43 : decode cX8_canJoin 43 = .ok (.iload_n 2, 1) := by decide +kernel
theorem dX8_canJoin_44 : decode cX8_canJoin 44 = .ok (.if_icmp .eq 7, 3) := by decide +kernel
theorem dX8_canJoin_47 : decode cX8_canJoin 47 = .ok (.iconst 1, 1) := by decide +kernel
theorem dX8_canJoin_48 : decode cX8_canJoin 48 = .ok (.goto 4, 3) := by decide +kernel
theorem dX8_canJoin_51 : decode cX8_canJoin 51 = .ok (.iconst 0, 1) := by decide +kernel
theorem dX8_canJoin_52 : decode cX8_canJoin 52 = .ok (.ireturn, 1) := by decide +kernel
theorem dX8_joins_0 : decode cX8_joins 0 = .ok (.aload_n 0, 1) := by decide +kernel
theorem dX8_joins_1 : decode cX8_joins 1 = .ok (.getfield 81, 3) := by decide +kernel
theorem dX8_joins_4 : decode cX8_joins 4 = .ok (.iload_n 1, 1) := by decide +kernel
theorem dX8_joins_5 : decode cX8_joins 5 = .ok (.iload_n 2, 1) := by decide +kernel
theorem dX8_joins_6 : decode cX8_joins 6 = .ok (.iastore, 1) := by decide +kernel
theorem dX8_joins_7 : decode cX8_joins 7 = .ok (.aload_n 0, 1) := by decide +kernel
theorem dX8_joins_8 : decode cX8_joins 8 = .ok (.getfield 84, 3) := by decide +kernel
theorem dX8_joins_11 : decode cX8_joins 11 = .ok (.iload_n 2, 1) := by decide +kernel
theorem dX8_joins_12 : decode cX8_joins 12 = .ok (.iload_n 1, 1) := by decide +kernel
theorem dX8_joins_13 : decode cX8_joins 13 = .ok (.iastore, 1) := by decide +kernel
theorem dX8_joins_14 : decode cX8_joins 14 = .ok (.return_, 1) := by decide +kernel
theorem dX8_weightOf_0 : decode cX8_weightOf 0 = .ok (.iload_n 1, 1) := by decide +kernel
theorem dX8_weightOf_1 : decode cX8_weightOf 1 = .ok (.iconst 2, 1) := by decide +kernel
theorem dX8_weightOf_2 : decode cX8_weightOf 2 = .ok (.idiv, 1) := by decide +kernel
theorem dX8_weightOf_3 : decode cX8_weightOf 3 = .ok (.istore_n 2, 1) := by decide +kernel
theorem dX8_weightOf_4 : decode cX8_weightOf 4 = .ok (.iload_n 1, 1) := by decide +kernel
theorem dX8_weightOf_5 : decode cX8_weightOf 5 = .ok (.iconst 2, 1) := by decide +kernel
theorem dX8_weightOf_6 : decode cX8_weightOf 6 = .ok (.irem, 1) := by decide +kernel
theorem dX8_weightOf_7 : decode cX8_weightOf 7 = .ok (.ifCond .ne 26, 3) := by decide +kernel
theorem dX8_weightOf_10 : decode cX8_weightOf 10 = .ok (.aload_n 0, 1) := by decide +kernel
theorem dX8_weightOf_11 : decode cX8_weightOf 11 = .ok (.getfield 20, 3) := by decide +kernel
theorem dX8_weightOf_14 : decode cX8_weightOf 14 = .ok (.iload_n 2, 1) := by decide +kernel
theorem dX8_weightOf_15 : decode cX8_weightOf 15 = .ok (.iaload, 1) := by decide +kernel
theorem dX8_weightOf_16 : decode cX8_weightOf 16 = .ok (.iconst 2, 1) := by decide +kernel
theorem dX8_weightOf_17 : decode cX8_weightOf 17 = .ok (.if_icmp .ne 7, 3) := by decide +kernel
theorem dX8_weightOf_20 : decode cX8_weightOf 20 = .ok (.iconst 0, 1) := by decide +kernel
theorem dX8_weightOf_21 : decode cX8_weightOf 21 = .ok (.goto 32, 3) := by decide +kernel
theorem dX8_weightOf_24 : decode cX8_weightOf 24 = .ok (.aload_n 0, 1) := by decide +kernel
theorem dX8_weightOf_25 : decode cX8_weightOf 25 = .ok (.getfield 35, 3) := by decide +kernel
theorem dX8_weightOf_28 : decode cX8_weightOf 28 = .ok (.iload_n 2, 1) := by decide +kernel
theorem dX8_weightOf_29 : decode cX8_weightOf 29 = .ok (.iaload, 1) := by decide +kernel
theorem dX8_weightOf_30 : decode cX8_weightOf 30 = .ok (.goto 23, 3) := by decide +kernel
theorem dX8_weightOf_33 : decode cX8_weightOf 33 = .ok (.aload_n 0, 1) := by decide +kernel
theorem dX8_weightOf_34 : decode cX8_weightOf 34 = .ok (.getfield 20, 3) := by decide +kernel
theorem dX8_weightOf_37 : decode cX8_weightOf 37 = .ok (.iload_n 2, 1) := by decide +kernel
theorem dX8_weightOf_38 : decode cX8_weightOf 38 = .ok (.iaload, 1) := by decide +kernel
theorem dX8_weightOf_39 : decode cX8_weightOf 39 = .ok (.iconst 1, 1) := by decide +kernel
theorem dX8_weightOf_40 : decode cX8_weightOf 40 = .ok (.if_icmp .ne 12, 3) := by decide +kernel
theorem dX8_weightOf_43 : decode cX8_weightOf 43 = .ok (.aload_n 0, 1) := by decide +kernel
theorem dX8_weightOf_44 : decode cX8_weightOf 44 = .ok (.getfield 38, 3) := by decide +kernel
theorem dX8_weightOf_47 : decode cX8_weightOf 47 = .ok (.iload_n 2, 1) := by decide +kernel
theorem dX8_weightOf_48 : decode cX8_weightOf 48 = .ok (.iaload, 1) := by decide +kernel
theorem dX8_weightOf_49 : decode cX8_weightOf 49 = .ok (.goto 4, 3) := by decide +kernel
theorem dX8_weightOf_52 : decode cX8_weightOf 52 = .ok (.iconst 0, 1) := by decide +kernel
theorem dX8_weightOf_53 : decode cX8_weightOf 53 = .ok (.ireturn, 1) := by decide +kernel
theorem dX8_targetOf_0 : decode cX8_targetOf 0 = .ok (.iload_n 1, 1) := by decide +kernel
theorem dX8_targetOf_1 : decode cX8_targetOf 1 = .ok (.iconst 2, 1) := by decide +kernel
theorem dX8_targetOf_2 : decode cX8_targetOf 2 = .ok (.irem, 1) := by decide +kernel
theorem dX8_targetOf_3 : decode cX8_targetOf 3 = .ok (.ifCond .ne 14, 3) := by decide +kernel
theorem dX8_targetOf_6 : decode cX8_targetOf 6 = .ok (.aload_n 0, 1) := by decide +kernel
theorem dX8_targetOf_7 : decode cX8_targetOf 7 = .ok (.getfield 23, 3) := by decide +kernel
theorem dX8_targetOf_10 : decode cX8_targetOf 10 = .ok (.iload_n 1, 1) := by decide +kernel
theorem dX8_targetOf_11 : decode cX8_targetOf 11 = .ok (.iconst 2, 1) := by decide +kernel
theorem dX8_targetOf_12 : decode cX8_targetOf 12 = .ok (.idiv, 1) := by decide +kernel
theorem dX8_targetOf_13 : decode cX8_targetOf 13 = .ok (.iaload, 1) := by decide +kernel
theorem dX8_targetOf_14 : decode cX8_targetOf 14 = .ok (.goto 11, 3) := by decide +kernel
theorem dX8_targetOf_17 : decode cX8_targetOf 17 = .ok (.aload_n 0, 1) := by decide +kernel
theorem dX8_targetOf_18 : decode cX8_targetOf 18 = .ok (.getfield 26, 3) := by decide +kernel
theorem dX8_targetOf_21 : decode cX8_targetOf 21 = .ok (.iload_n 1, 1) := by decide +kernel
theorem dX8_targetOf_22 : decode cX8_targetOf 22 = .ok (.iconst 2, 1) := by decide +kernel
theorem dX8_targetOf_23 : decode cX8_targetOf 23 = .ok (.idiv, 1) := by decide +kernel
theorem dX8_targetOf_24 : decode cX8_targetOf 24 = .ok (.iaload, 1) := by decide +kernel
theorem dX8_targetOf_25 : decode cX8_targetOf 25 = .ok (.ireturn, 1) := by decide +kernel
theorem dX8_nextEdge_0 : decode cX8_nextEdge 0 = .ok (.iconst (-1), 1) := by decide +kernel
theorem dX8_nextEdge_1 : decode cX8_nextEdge 1 = .ok (.istore_n 2, 1) := by decide +kernel
theorem dX8_nextEdge_2 : decode cX8_nextEdge 2 = .ok (.iconst 0, 1) := by decide +kernel
theorem dX8_nextEdge_3 : decode cX8_nextEdge 3 = .ok (.istore_n 3, 1) := by decide +kernel
theorem dX8_nextEdge_4 : decode cX8_nextEdge 4 = .ok (.iload_n 3, 1) := by decide +kernel
theorem dX8_nextEdge_5 : decode cX8_nextEdge 5 = .ok (.iconst 2, 1) := by decide +kernel
theorem dX8_nextEdge_6 : decode cX8_nextEdge 6 = .ok (.aload_n 0, 1) := by decide +kernel
theorem dX8_nextEdge_7 : decode cX8_nextEdge 7 = .ok (.getfield 106, 3) := by decide +kernel
theorem dX8_nextEdge_10 : decode cX8_nextEdge 10 = .ok (.imul, 1) := by decide +kernel
theorem dX8_nextEdge_11 : decode cX8_nextEdge 11 = .ok (.if_icmp .ge 78, 3) := by decide +kernel
theorem dX8_nextEdge_14 : decode cX8_nextEdge 14 = .ok (.aload_n 0, 1) := by decide +kernel
theorem dX8_nextEdge_15 : decode cX8_nextEdge 15 = .ok (.iload_n 3, 1) := by decide +kernel
theorem dX8_nextEdge_16 : decode cX8_nextEdge 16 = .ok (.invokevirtual 213, 3) := by decide +kernel
theorem dX8_nextEdge_19 : decode cX8_nextEdge 19 = .ok (.istore 4, 2) := by decide +kernel
theorem dX8_nextEdge_21 : decode cX8_nextEdge 21 = .ok (.iload_n 1, 1) := by decide +kernel
theorem dX8_nextEdge_22 : decode cX8_nextEdge 22 = .ok (.ifCond .lt 28, 3) := by decide +kernel
theorem dX8_nextEdge_25 : decode cX8_nextEdge 25 = .ok (.iload 4, 2) := by decide +kernel
theorem dX8_nextEdge_27 : decode cX8_nextEdge 27 = .ok (.aload_n 0, 1) := by decide +kernel
theorem dX8_nextEdge_28 : decode cX8_nextEdge 28 = .ok (.iload_n 1, 1) := by decide +kernel
theorem dX8_nextEdge_29 : decode cX8_nextEdge 29 = .ok (.invokevirtual 213, 3) := by decide +kernel
theorem dX8_nextEdge_32 : decode cX8_nextEdge 32 = .ok (.if_icmp .lt 18, 3) := by decide +kernel
theorem dX8_nextEdge_35 : decode cX8_nextEdge 35 = .ok (.iload 4, 2) := by decide +kernel
theorem dX8_nextEdge_37 : decode cX8_nextEdge 37 = .ok (.aload_n 0, 1) := by decide +kernel
theorem dX8_nextEdge_38 : decode cX8_nextEdge 38 = .ok (.iload_n 1, 1) := by decide +kernel
theorem dX8_nextEdge_39 : decode cX8_nextEdge 39 = .ok (.invokevirtual 213, 3) := by decide +kernel
theorem dX8_nextEdge_42 : decode cX8_nextEdge 42 = .ok (.if_icmp .ne 12, 3) := by decide +kernel
theorem dX8_nextEdge_45 : decode cX8_nextEdge 45 = .ok (.iload_n 3, 1) := by decide +kernel
theorem dX8_nextEdge_46 : decode cX8_nextEdge 46 = .ok (.iload_n 1, 1) := by decide +kernel
theorem dX8_nextEdge_47 : decode cX8_nextEdge 47 = .ok (.if_icmp .le 7, 3) := by decide +kernel
theorem dX8_nextEdge_50 : decode cX8_nextEdge 50 = .ok (.iconst 1, 1) := by decide +kernel
theorem dX8_nextEdge_51 : decode cX8_nextEdge 51 = .ok (.goto 4, 3) := by decide +kernel
theorem dX8_nextEdge_54 : decode cX8_nextEdge 54 = .ok (.iconst 0, 1) := by decide +kernel
theorem dX8_nextEdge_55 : decode cX8_nextEdge 55 = .ok (.istore 5, 2) := by decide +kernel
theorem dX8_nextEdge_57 : decode cX8_nextEdge 57 = .ok (.iload 4, 2) := by decide +kernel
theorem dX8_nextEdge_59 : decode cX8_nextEdge 59 = .ok (.ifCond .le 24, 3) := by decide +kernel
theorem dX8_nextEdge_62 : decode cX8_nextEdge 62 = .ok (.iload 5, 2) := by decide +kernel
theorem dX8_nextEdge_64 : decode cX8_nextEdge 64 = .ok (.ifCond .eq 19, 3) := by decide +kernel
theorem dX8_nextEdge_67 : decode cX8_nextEdge 67 = .ok (.iload_n 2, 1) := by decide +kernel
theorem dX8_nextEdge_68 : decode cX8_nextEdge 68 = .ok (.ifCond .lt 13, 3) := by decide +kernel
theorem dX8_nextEdge_71 : decode cX8_nextEdge 71 = .ok (.iload 4, 2) := by decide +kernel
theorem dX8_nextEdge_73 : decode cX8_nextEdge 73 = .ok (.aload_n 0, 1) := by decide +kernel
theorem dX8_nextEdge_74 : decode cX8_nextEdge 74 = .ok (.iload_n 2, 1) := by decide +kernel
theorem dX8_nextEdge_75 : decode cX8_nextEdge 75 = .ok (.invokevirtual 213, 3) := by decide +kernel
theorem dX8_nextEdge_78 : decode cX8_nextEdge 78 = .ok (.if_icmp .le 5, 3) := by decide +kernel
theorem dX8_nextEdge_81 : decode cX8_nextEdge 81 = .ok (.iload_n 3, 1) := by decide +kernel
theorem dX8_nextEdge_82 : decode cX8_nextEdge 82 = .ok (.istore_n 2, 1) := by decide +kernel
theorem dX8_nextEdge_83 : decode cX8_nextEdge 83 = .ok (.iinc 3 1, 3) := by decide +kernel
theorem dX8_nextEdge_86 : decode cX8_nextEdge 86 = .ok (.goto (-82), 3) := by decide +kernel
theorem dX8_nextEdge_89 : decode cX8_nextEdge 89 = .ok (.iload_n 2, 1) := by decide +kernel
theorem dX8_nextEdge_90 : decode cX8_nextEdge 90 = .ok (.ireturn, 1) := by decide +kernel
theorem dX8_joinsByWeights_0 : decode cX8_joinsByWeights 0 = .ok (.aload_n 0, 1) := by decide +kernel
theorem dX8_joinsByWeights_1 : decode cX8_joinsByWeights 1 = .ok (.iconst (-1), 1) := by decide +kernel
theorem dX8_joinsByWeights_2 : decode cX8_joinsByWeights 2 = .ok (.invokevirtual 216, 3) := by decide +kernel
theorem dX8_joinsByWeights_5 : decode cX8_joinsByWeights 5 = .ok (.istore_n 1, 1) := by decide +kernel
theorem dX8_joinsByWeights_6 : decode cX8_joinsByWeights 6 = .ok (.iload_n 1, 1) := by decide +kernel
theorem dX8_joinsByWeights_7 : decode cX8_joinsByWeights 7 = .ok (.ifCond .lt 39, 3) := by decide +kernel
theorem dX8_joinsByWeights_10 : decode cX8_joinsByWeights 10 = .ok (.aload_n 0, 1) := by decide +kernel
theorem dX8_joinsByWeights_11 : decode cX8_joinsByWeights 11 = .ok (.iload_n 1, 1) := by decide +kernel
theorem dX8_joinsByWeights_12 : decode cX8_joinsByWeights 12 = .ok (.iconst 2, 1) := by decide +kernel
theorem dX8_joinsByWeights_13 : decode cX8_joinsByWeights 13 = .ok (.idiv, 1) := by decide +kernel
theorem dX8_joinsByWeights_14 : decode cX8_joinsByWeights 14 = .ok (.aload_n 0, 1) := by decide +kernel
theorem dX8_joinsByWeights_15 : decode cX8_joinsByWeights 15 = .ok (.iload_n 1, 1) := by decide +kernel
theorem dX8_joinsByWeights_16 : decode cX8_joinsByWeights 16 = .ok (.invokevirtual 219, 3) := by decide +kernel
theorem dX8_joinsByWeights_19 : decode cX8_joinsByWeights 19 = .ok (.invokevirtual 222, 3) := by decide +kernel
theorem dX8_joinsByWeights_22 : decode cX8_joinsByWeights 22 = .ok (.ifCond .eq 15, 3) := by decide +kernel
theorem dX8_joinsByWeights_25 : decode cX8_joinsByWeights 25 = .ok (.aload_n 0, 1) := by decide +kernel
theorem dX8_joinsByWeights_26 : decode cX8_joinsByWeights 26 = .ok (.iload_n 1, 1) := by decide +kernel
theorem dX8_joinsByWeights_27 : decode cX8_joinsByWeights 27 = .ok (.iconst 2, 1) := by decide +kernel
theorem dX8_joinsByWeights_28 : decode cX8_joinsByWeights 28 = .ok (.idiv, 1) := by decide +kernel
theorem dX8_joinsByWeights_29 : decode cX8_joinsByWeights 29 = .ok (.aload_n 0, 1) := by decide +kernel
theorem dX8_joinsByWeights_30 : decode cX8_joinsByWeights 30 = .ok (.iload_n 1, 1) := by decide +kernel
theorem dX8_joinsByWeights_31 : decode cX8_joinsByWeights 31 = .ok (.invokevirtual 219, 3) := by decide +kernel
theorem dX8_joinsByWeights_34 : decode cX8_joinsByWeights 34 = .ok (.invokevirtual 225, 3) := by decide +kernel
theorem dX8_joinsByWeights_37 : decode cX8_joinsByWeights 37 = .ok (.aload_n 0, 1) := by decide +kernel
theorem dX8_joinsByWeights_38 : decode cX8_joinsByWeights 38 = .ok (.iload_n 1, 1) := by decide +kernel
theorem dX8_joinsByWeights_39 : decode cX8_joinsByWeights 39 = .ok (.invokevirtual 216, 3) := by decide +kernel
theorem dX8_joinsByWeights_42 : decode cX8_joinsByWeights 42 = .ok (.istore_n 1, 1) := by decide +kernel
theorem dX8_joinsByWeights_43 : decode cX8_joinsByWeights 43 = .ok (.goto (-37), 3) := by decide +kernel
theorem dX8_joinsByWeights_46 : decode cX8_joinsByWeights 46 = .ok (.return_, 1) := by decide +kernel
theorem dX8_joinsByGains_0 : decode cX8_joinsByGains 0 = .ok (.iconst 1, 1) := by decide +kernel
theorem dX8_joinsByGains_1 : decode cX8_joinsByGains 1 = .ok (.istore_n 1, 1) := by decide +kernel
theorem dX8_joinsByGains_2 : decode cX8_joinsByGains 2 = .ok (.iload_n 1, 1) := by decide +kernel
theorem dX8_joinsByGains_3 : decode cX8_joinsByGains 3 = .ok (.ifCond .le 113, 3) := by decide +kernel
theorem dX8_joinsByGains_6 : decode cX8_joinsByGains 6 = .ok (.iconst 0, 1) := by decide +kernel
theorem dX8_joinsByGains_7 : decode cX8_joinsByGains 7 = .ok (.istore_n 1, 1) := by decide +kernel
theorem dX8_joinsByGains_8 : decode cX8_joinsByGains 8 = .ok (.iconst (-1), 1) := by decide +kernel
theorem dX8_joinsByGains_9 : decode cX8_joinsByGains 9 = .ok (.istore_n 2, 1) := by decide +kernel
theorem dX8_joinsByGains_10 : decode cX8_joinsByGains 10 = .ok (.iconst (-1), 1) := by decide +kernel
theorem dX8_joinsByGains_11 : decode cX8_joinsByGains 11 = .ok (.istore_n 3, 1) := by decide +kernel
theorem dX8_joinsByGains_12 : decode cX8_joinsByGains 12 = .ok (.iconst 0, 1) := by decide +kernel
theorem dX8_joinsByGains_13 : decode cX8_joinsByGains 13 = .ok (.istore 4, 2) := by decide +kernel
theorem dX8_joinsByGains_15 : decode cX8_joinsByGains 15 = .ok (.iload 4, 2) := by decide +kernel
theorem dX8_joinsByGains_17 : decode cX8_joinsByGains 17 = .ok (.aload_n 0, 1) := by decide +kernel
theorem dX8_joinsByGains_18 : decode cX8_joinsByGains 18 = .ok (.getfield 106, 3) := by decide +kernel
theorem dX8_joinsByGains_21 : decode cX8_joinsByGains 21 = .ok (.if_icmp .ge 82, 3) := by decide +kernel
theorem dX8_joinsByGains_24 : decode cX8_joinsByGains 24 = .ok (.iconst 0, 1) := by decide +kernel
theorem dX8_joinsByGains_25 : decode cX8_joinsByGains 25 = .ok (.istore 5, 2) := by decide +kernel
theorem dX8_joinsByGains_27 : decode cX8_joinsByGains 27 = .ok (.iload 5, 2) := by decide +kernel
theorem dX8_joinsByGains_29 : decode cX8_joinsByGains 29 = .ok (.aload_n 0, 1) := by decide +kernel
theorem dX8_joinsByGains_30 : decode cX8_joinsByGains 30 = .ok (.getfield 106, 3) := by decide +kernel
theorem dX8_joinsByGains_33 : decode cX8_joinsByGains 33 = .ok (.if_icmp .ge 64, 3) := by decide +kernel
theorem dX8_joinsByGains_36 : decode cX8_joinsByGains 36 = .ok (.iload 4, 2) := by decide +kernel
theorem dX8_joinsByGains_38 : decode cX8_joinsByGains 38 = .ok (.iload 5, 2) := by decide +kernel
theorem dX8_joinsByGains_40 : decode cX8_joinsByGains 40 = .ok (.if_icmp .eq 33, 3) := by decide +kernel
theorem dX8_joinsByGains_43 : decode cX8_joinsByGains 43 = .ok (.aload_n 0, 1) := by decide +kernel
theorem dX8_joinsByGains_44 : decode cX8_joinsByGains 44 = .ok (.iload 4, 2) := by decide +kernel
theorem dX8_joinsByGains_46 : decode cX8_joinsByGains 46 = .ok (.iload 5, 2) := by decide +kernel
theorem dX8_joinsByGains_48 : decode cX8_joinsByGains 48 = .ok (.invokevirtual 222, 3) := by decide +kernel
theorem dX8_joinsByGains_51 : decode cX8_joinsByGains 51 = .ok (.ifCond .eq 22, 3) := by decide +kernel
theorem dX8_joinsByGains_54 : decode cX8_joinsByGains 54 = .ok (.aload_n 0, 1) := by decide +kernel
theorem dX8_joinsByGains_55 : decode cX8_joinsByGains 55 = .ok (.iload 4, 2) := by decide +kernel
theorem dX8_joinsByGains_57 : decode cX8_joinsByGains 57 = .ok (.iconst (-1), 1) := by decide +kernel
theorem dX8_joinsByGains_58 : decode cX8_joinsByGains 58 = .ok (.invokevirtual 195, 3) := by decide +kernel
theorem dX8_joinsByGains_61 : decode cX8_joinsByGains 61 = .ok (.aload_n 0, 1) := by decide +kernel
theorem dX8_joinsByGains_62 : decode cX8_joinsByGains 62 = .ok (.iload 4, 2) := by decide +kernel
theorem dX8_joinsByGains_64 : decode cX8_joinsByGains 64 = .ok (.iload 5, 2) := by decide +kernel
theorem dX8_joinsByGains_66 : decode cX8_joinsByGains 66 = .ok (.invokevirtual 195, 3) := by decide +kernel
theorem dX8_joinsByGains_69 : decode cX8_joinsByGains 69 = .ok (.isub, 1) := by decide +kernel
theorem dX8_joinsByGains_70 : decode cX8_joinsByGains 70 = .ok (.goto 4, 3) := by decide +kernel
theorem dX8_joinsByGains_73 : decode cX8_joinsByGains 73 = .ok (.iconst 0, 1) := by decide +kernel
theorem dX8_joinsByGains_74 : decode cX8_joinsByGains 74 = .ok (.istore 6, 2) := by decide +kernel
theorem dX8_joinsByGains_76 : decode cX8_joinsByGains 76 = .ok (.iload 6, 2) := by decide +kernel
theorem dX8_joinsByGains_78 : decode cX8_joinsByGains 78 = .ok (.iload_n 1, 1) := by decide +kernel
theorem dX8_joinsByGains_79 : decode cX8_joinsByGains 79 = .ok (.if_icmp .le 12, 3) := by decide +kernel
theorem dX8_joinsByGains_82 : decode cX8_joinsByGains 82 = .ok (.iload 6, 2) := by decide +kernel
theorem dX8_joinsByGains_84 : decode cX8_joinsByGains 84 = .ok (.istore_n 1, 1) := by decide +kernel
theorem dX8_joinsByGains_85 : decode cX8_joinsByGains 85 = .ok (.iload 4, 2) := by decide +kernel
theorem dX8_joinsByGains_87 : decode cX8_joinsByGains 87 = .ok (.istore_n 2, 1) := by decide +kernel
theorem dX8_joinsByGains_88 : decode cX8_joinsByGains 88 = .ok (.iload 5, 2) := by decide +kernel
theorem dX8_joinsByGains_90 : decode cX8_joinsByGains 90 = .ok (.istore_n 3, 1) := by decide +kernel
theorem dX8_joinsByGains_91 : decode cX8_joinsByGains 91 = .ok (.iinc 5 1, 3) := by decide +kernel
theorem dX8_joinsByGains_94 : decode cX8_joinsByGains 94 = .ok (.goto (-67), 3) := by decide +kernel
theorem dX8_joinsByGains_97 : decode cX8_joinsByGains 97 = .ok (.iinc 4 1, 3) := by decide +kernel
theorem dX8_joinsByGains_100 : decode cX8_joinsByGains 100 = .ok (.goto (-85), 3) := by decide +kernel
theorem dX8_joinsByGains_103 : decode cX8_joinsByGains 103 = .ok (.iload_n 1, 1) := by decide +kernel
theorem dX8_joinsByGains_104 : decode cX8_joinsByGains 104 = .ok (.ifCond .le 9, 3) := by decide +kernel
theorem dX8_joinsByGains_107 : decode cX8_joinsByGains 107 = .ok (.aload_n 0, 1) := by decide +kernel
theorem dX8_joinsByGains_108 : decode cX8_joinsByGains 108 = .ok (.iload_n 2, 1) := by decide +kernel
theorem dX8_joinsByGains_109 : decode cX8_joinsByGains 109 = .ok (.iload_n 3, 1) := by decide +kernel
theorem dX8_joinsByGains_110 : decode cX8_joinsByGains 110 = .ok (.invokevirtual 225, 3) := by decide +kernel
theorem dX8_joinsByGains_113 : decode cX8_joinsByGains 113 = .ok (.goto (-111), 3) := by decide +kernel
theorem dX8_joinsByGains_116 : decode cX8_joinsByGains 116 = .ok (.return_, 1) := by decide +kernel
theorem dX8_pull_0 : decode cX8_pull 0 = .ok (.iconst 0, 1) := by decide +kernel
theorem dX8_pull_1 : decode cX8_pull 1 = .ok (.istore_n 3, 1) := by decide +kernel
theorem dX8_pull_2 : decode cX8_pull 2 = .ok (.iload_n 1, 1) := by decide +kernel
theorem dX8_pull_3 : decode cX8_pull 3 = .ok (.istore 4, 2) := by decide +kernel
theorem dX8_pull_5 : decode cX8_pull 5 = .ok (.iload 4, 2) := by decide +kernel
theorem dX8_pull_7 : decode cX8_pull 7 = .ok (.ifCond .lt 113, 3) := by decide +kernel
theorem dX8_pull_10 : decode cX8_pull 10 = .ok (.iconst 0, 1) := by decide +kernel
theorem dX8_pull_11 : decode cX8_pull 11 = .ok (.istore 5, 2) := by decide +kernel
theorem dX8_pull_13 : decode cX8_pull 13 = .ok (.iload 5, 2) := by decide +kernel
theorem dX8_pull_15 : decode cX8_pull 15 = .ok (.iload_n 2, 1) := by decide +kernel
theorem dX8_pull_16 : decode cX8_pull 16 = .ok (.if_icmp .ge 92, 3) := by decide +kernel
theorem dX8_pull_19 : decode cX8_pull 19 = .ok (.aload_n 0, 1) := by decide +kernel
theorem dX8_pull_20 : decode cX8_pull 20 = .ok (.getfield 41, 3) := by decide +kernel
theorem dX8_pull_23 : decode cX8_pull 23 = .ok (.iload 5, 2) := by decide +kernel
theorem dX8_pull_25 : decode cX8_pull 25 = .ok (.iaload, 1) := by decide +kernel
theorem dX8_pull_26 : decode cX8_pull 26 = .ok (.istore 6, 2) := by decide +kernel
theorem dX8_pull_28 : decode cX8_pull 28 = .ok (.iload_n 3, 1) := by decide +kernel
theorem dX8_pull_29 : decode cX8_pull 29 = .ok (.aload_n 0, 1) := by decide +kernel
theorem dX8_pull_30 : decode cX8_pull 30 = .ok (.getfield 20, 3) := by decide +kernel
theorem dX8_pull_33 : decode cX8_pull 33 = .ok (.iload 6, 2) := by decide +kernel
theorem dX8_pull_35 : decode cX8_pull 35 = .ok (.iaload, 1) := by decide +kernel
theorem dX8_pull_36 : decode cX8_pull 36 = .ok (.iconst 2, 1) := by decide +kernel
theorem dX8_pull_37 : decode cX8_pull 37 = .ok (.if_icmp .eq 25, 3) := by decide +kernel
theorem dX8_pull_40 : decode cX8_pull 40 = .ok (.aload_n 0, 1) := by decide +kernel
theorem dX8_pull_41 : decode cX8_pull 41 = .ok (.getfield 23, 3) := by decide +kernel
theorem dX8_pull_44 : decode cX8_pull 44 = .ok (.iload 6, 2) := by decide +kernel
theorem dX8_pull_46 : decode cX8_pull 46 = .ok (.iaload, 1) := by decide +kernel
theorem dX8_pull_47 : decode cX8_pull 47 = .ok (.iload 4, 2) := by decide +kernel
theorem dX8_pull_49 : decode cX8_pull 49 = .ok (.if_icmp .ne 13, 3) := by decide +kernel
theorem dX8_pull_52 : decode cX8_pull 52 = .ok (.aload_n 0, 1) := by decide +kernel
theorem dX8_pull_53 : decode cX8_pull 53 = .ok (.getfield 35, 3) := by decide +kernel
theorem dX8_pull_56 : decode cX8_pull 56 = .ok (.iload 6, 2) := by decide +kernel
theorem dX8_pull_58 : decode cX8_pull 58 = .ok (.iaload, 1) := by decide +kernel
theorem dX8_pull_59 : decode cX8_pull 59 = .ok (.goto 4, 3) := by decide +kernel
theorem dX8_pull_62 : decode cX8_pull 62 = .ok (.iconst 0, 1) := by decide +kernel
theorem dX8_pull_63 : decode cX8_pull 63 = .ok (.iadd, 1) := by decide +kernel
theorem dX8_pull_64 : decode cX8_pull 64 = .ok (.istore_n 3, 1) := by decide +kernel
theorem dX8_pull_65 : decode cX8_pull 65 = .ok (.iload_n 3, 1) := by decide +kernel
theorem dX8_pull_66 : decode cX8_pull 66 = .ok (.aload_n 0, 1) := by decide +kernel
theorem dX8_pull_67 : decode cX8_pull 67 = .ok (.getfield 20, 3) := by decide +kernel
theorem dX8_pull_70 : decode cX8_pull 70 = .ok (.iload 6, 2) := by decide +kernel
theorem dX8_pull_72 : decode cX8_pull 72 = .ok (.iaload, 1) := by decide +kernel
theorem dX8_pull_73 : decode cX8_pull 73 = .ok (.iconst 1, 1) := by decide +kernel
theorem dX8_pull_74 : decode cX8_pull 74 = .ok (.if_icmp .ne 25, 3) := by decide +kernel
theorem dX8_pull_77 : decode cX8_pull 77 = .ok (.aload_n 0, 1) := by decide +kernel
theorem dX8_pull_78 : decode cX8_pull 78 = .ok (.getfield 26, 3) := by decide +kernel
theorem dX8_pull_81 : decode cX8_pull 81 = .ok (.iload 6, 2) := by decide +kernel
theorem dX8_pull_83 : decode cX8_pull 83 = .ok (.iaload, 1) := by decide +kernel
theorem dX8_pull_84 : decode cX8_pull 84 = .ok (.iload 4, 2) := by decide +kernel
theorem dX8_pull_86 : decode cX8_pull 86 = .ok (.if_icmp .ne 13, 3) := by decide +kernel
theorem dX8_pull_89 : decode cX8_pull 89 = .ok (.aload_n 0, 1) := by decide +kernel
theorem dX8_pull_90 : decode cX8_pull 90 = .ok (.getfield 38, 3) := by decide +kernel
theorem dX8_pull_93 : decode cX8_pull 93 = .ok (.iload 6, 2) := by decide +kernel
theorem dX8_pull_95 : decode cX8_pull 95 = .ok (.iaload, 1) := by decide +kernel
theorem dX8_pull_96 : decode cX8_pull 96 = .ok (.goto 4, 3) := by decide +kernel
theorem dX8_pull_99 : decode cX8_pull 99 = .ok (.iconst 0, 1) := by decide +kernel
theorem dX8_pull_100 : decode cX8_pull 100 = .ok (.iadd, 1) := by decide +kernel
theorem dX8_pull_101 : decode cX8_pull 101 = .ok (.istore_n 3, 1) := by decide +kernel
theorem dX8_pull_102 : decode cX8_pull 102 = .ok (.iinc 5 1, 3) := by decide +kernel
theorem dX8_pull_105 : decode cX8_pull 105 = .ok (.goto (-92), 3) := by decide +kernel
theorem dX8_pull_108 : decode cX8_pull 108 = .ok (.aload_n 0, 1) := by decide +kernel
theorem dX8_pull_109 : decode cX8_pull 109 = .ok (.getfield 81, 3) := by decide +kernel
theorem dX8_pull_112 : decode cX8_pull 112 = .ok (.iload 4, 2) := by decide +kernel
theorem dX8_pull_114 : decode cX8_pull 114 = .ok (.iaload, 1) := by decide +kernel
theorem dX8_pull_115 : decode cX8_pull 115 = .ok (.istore 4, 2) := by decide +kernel
theorem dX8_pull_117 : decode cX8_pull 117 = .ok (.goto (-112), 3) := by decide +kernel
theorem dX8_pull_120 : decode cX8_pull 120 = .ok (.iload_n 3, 1) := by decide +kernel
theorem dX8_pull_121 : decode cX8_pull 121 = .ok (.ireturn, 1) := by decide +kernel
theorem dX8_append_0 : decode cX8_append 0 = .ok (.iload_n 2, 1) := by decide +kernel
theorem dX8_append_1 : decode cX8_append 1 = .ok (.istore_n 3, 1) := by decide +kernel
theorem dX8_append_2 : decode cX8_append 2 = .ok (.iload_n 1, 1) := by decide +kernel
theorem dX8_append_3 : decode cX8_append 3 = .ok (.istore 4, 2) := by decide +kernel
theorem dX8_append_5 : decode cX8_append 5 = .ok (.iload 4, 2) := by decide +kernel
theorem dX8_append_7 : decode cX8_append 7 = .ok (.ifCond .lt 26, 3) := by decide +kernel
theorem dX8_append_10 : decode cX8_append 10 = .ok (.aload_n 0, 1) := by decide +kernel
theorem dX8_append_11 : decode cX8_append 11 = .ok (.getfield 41, 3) := by decide +kernel
theorem dX8_append_14 : decode cX8_append 14 = .ok (.iload_n 3, 1) := by decide +kernel
theorem dX8_append_15 : decode cX8_append 15 = .ok (.iload 4, 2) := by decide +kernel
theorem dX8_append_17 : decode cX8_append 17 = .ok (.iastore, 1) := by decide +kernel
theorem dX8_append_18 : decode cX8_append 18 = .ok (.iinc 3 1, 3) := by decide +kernel
theorem dX8_append_21 : decode cX8_append 21 = .ok (.aload_n 0, 1) := by decide +kernel
theorem dX8_append_22 : decode cX8_append 22 = .ok (.getfield 81, 3) := by decide +kernel
theorem dX8_append_25 : decode cX8_append 25 = .ok (.iload 4, 2) := by decide +kernel
theorem dX8_append_27 : decode cX8_append 27 = .ok (.iaload, 1) := by decide +kernel
theorem dX8_append_28 : decode cX8_append 28 = .ok (.istore 4, 2) := by decide +kernel
theorem dX8_append_30 : decode cX8_append 30 = .ok (.goto (-25), 3) := by decide +kernel
theorem dX8_append_33 : decode cX8_append 33 = .ok (.iload_n 3, 1) := by decide +kernel
theorem dX8_append_34 : decode cX8_append 34 = .ok (.ireturn, 1) := by decide +kernel
theorem dX8_placesChains_0 : decode cX8_placesChains 0 = .ok (.aload_n 0, 1) := by decide +kernel
theorem dX8_placesChains_1 : decode cX8_placesChains 1 = .ok (.iconst 0, 1) := by decide +kernel
theorem dX8_placesChains_2 : decode cX8_placesChains 2 = .ok (.iconst 0, 1) := by decide +kernel
theorem dX8_placesChains_3 : decode cX8_placesChains 3 = .ok (.invokevirtual 229, 3) := by decide +kernel
theorem dX8_placesChains_6 : decode cX8_placesChains 6 = .ok (.istore_n 1, 1) := by decide +kernel
theorem dX8_placesChains_7 : decode cX8_placesChains 7 = .ok (.iconst 0, 1) := by decide +kernel
theorem dX8_placesChains_8 : decode cX8_placesChains 8 = .ok (.istore_n 2, 1) := by decide +kernel
theorem dX8_placesChains_9 : decode cX8_placesChains 9 = .ok (.iload_n 1, 1) := by decide +kernel
theorem dX8_placesChains_10 : decode cX8_placesChains 10 = .ok (.aload_n 0, 1) := by decide +kernel
theorem dX8_placesChains_11 : decode cX8_placesChains 11 = .ok (.getfield 232, 3) := by decide +kernel
theorem dX8_placesChains_14 : decode cX8_placesChains 14 = .ok (.if_icmp .ge 117, 3) := by decide +kernel
theorem dX8_placesChains_17 : decode cX8_placesChains 17 = .ok (.iconst 0, 1) := by decide +kernel
theorem dX8_placesChains_18 : decode cX8_placesChains 18 = .ok (.istore_n 2, 1) := by decide +kernel
theorem dX8_placesChains_19 : decode cX8_placesChains 19 = .ok (.iconst 0, 1) := by decide +kernel
theorem dX8_placesChains_20 : decode cX8_placesChains 20 = .ok (.istore_n 3, 1) := by decide +kernel
theorem dX8_placesChains_21 : decode cX8_placesChains 21 = .ok (.iload_n 3, 1) := by decide +kernel
theorem dX8_placesChains_22 : decode cX8_placesChains 22 = .ok (.iload_n 1, 1) := by decide +kernel
theorem dX8_placesChains_23 : decode cX8_placesChains 23 = .ok (.if_icmp .ge 20, 3) := by decide +kernel
theorem dX8_placesChains_26 : decode cX8_placesChains 26 = .ok (.iload_n 2, 1) := by decide +kernel
theorem dX8_placesChains_27 : decode cX8_placesChains 27 = .ok (.iconst 1, 1) := by decide +kernel
theorem dX8_placesChains_28 : decode cX8_placesChains 28 = .ok (.aload_n 0, 1) := by decide +kernel
theorem dX8_placesChains_29 : decode cX8_placesChains 29 = .ok (.getfield 41, 3) := by decide +kernel
theorem dX8_placesChains_32 : decode cX8_placesChains 32 = .ok (.iload_n 3, 1) := by decide +kernel
theorem dX8_placesChains_33 : decode cX8_placesChains 33 = .ok (.iaload, 1) := by decide +kernel
theorem dX8_placesChains_34 : decode cX8_placesChains 34 = .ok (.ishl, 1) := by decide +kernel
theorem dX8_placesChains_35 : decode cX8_placesChains 35 = .ok (.ior, 1) := by decide +kernel
theorem dX8_placesChains_36 : decode cX8_placesChains 36 = .ok (.istore_n 2, 1) := by decide +kernel
theorem dX8_placesChains_37 : decode cX8_placesChains 37 = .ok (.iinc 3 1, 3) := by decide +kernel
theorem dX8_placesChains_40 : decode cX8_placesChains 40 = .ok (.goto (-19), 3) := by decide +kernel
theorem dX8_placesChains_43 : decode cX8_placesChains 43 = .ok (.iconst (-1), 1) := by decide +kernel
theorem dX8_placesChains_44 : decode cX8_placesChains 44 = .ok (.istore_n 3, 1) := by decide +kernel
theorem dX8_placesChains_45 : decode cX8_placesChains 45 = .ok (.iconst (-1), 1) := by decide +kernel
theorem dX8_placesChains_46 : decode cX8_placesChains 46 = .ok (.istore 4, 2) := by decide +kernel
theorem dX8_placesChains_48 : decode cX8_placesChains 48 = .ok (.iconst 0, 1) := by decide +kernel
theorem dX8_placesChains_49 : decode cX8_placesChains 49 = .ok (.istore 5, 2) := by decide +kernel
theorem dX8_placesChains_51 : decode cX8_placesChains 51 = .ok (.iload 5, 2) := by decide +kernel
theorem dX8_placesChains_53 : decode cX8_placesChains 53 = .ok (.aload_n 0, 1) := by decide +kernel
theorem dX8_placesChains_54 : decode cX8_placesChains 54 = .ok (.getfield 106, 3) := by decide +kernel
theorem dX8_placesChains_57 : decode cX8_placesChains 57 = .ok (.if_icmp .ge 64, 3) := by decide +kernel
theorem dX8_placesChains_60 : decode cX8_placesChains 60 = .ok (.aload_n 0, 1) := by decide +kernel
theorem dX8_placesChains_61 : decode cX8_placesChains 61 = .ok (.iload 5, 2) := by decide +kernel
theorem dX8_placesChains_63 : decode cX8_placesChains 63 = .ok (.invokevirtual 207, 3) := by decide +kernel
theorem dX8_placesChains_66 : decode cX8_placesChains 66 = .ok (.ifCond .eq 49, 3) := by decide +kernel
theorem dX8_placesChains_69 : decode cX8_placesChains 69 = .ok (.aload_n 0, 1) := by decide +kernel
theorem dX8_placesChains_70 : decode cX8_placesChains 70 = .ok (.getfield 84, 3) := by decide +kernel
theorem dX8_placesChains_73 : decode cX8_placesChains 73 = .ok (.iload 5, 2) := by decide +kernel
theorem dX8_placesChains_75 : decode cX8_placesChains 75 = .ok (.iaload, 1) := by decide +kernel
theorem dX8_placesChains_76 : decode cX8_placesChains 76 = .ok (.ifCond .ge 39, 3) := by decide +kernel
theorem dX8_placesChains_79 : decode cX8_placesChains 79 = .ok (.iload_n 2, 1) := by decide +kernel
theorem dX8_placesChains_80 : decode cX8_placesChains 80 = .ok (.iload 5, 2) := by decide +kernel
theorem dX8_placesChains_82 : decode cX8_placesChains 82 = .ok (.ishr, 1) := by decide +kernel
theorem dX8_placesChains_83 : decode cX8_placesChains 83 = .ok (.iconst 1, 1) := by decide +kernel
theorem dX8_placesChains_84 : decode cX8_placesChains 84 = .ok (.iand, 1) := by decide +kernel
theorem dX8_placesChains_85 : decode cX8_placesChains 85 = .ok (.iconst 1, 1) := by decide +kernel
theorem dX8_placesChains_86 : decode cX8_placesChains 86 = .ok (.if_icmp .ne 6, 3) := by decide +kernel
theorem dX8_placesChains_89 : decode cX8_placesChains 89 = .ok (.goto 26, 3) := by decide +kernel
theorem dX8_placesChains_92 : decode cX8_placesChains 92 = .ok (.aload_n 0, 1) := by decide +kernel
theorem dX8_placesChains_93 : decode cX8_placesChains 93 = .ok (.iload 5, 2) := by decide +kernel
theorem dX8_placesChains_95 : decode cX8_placesChains 95 = .ok (.iload_n 1, 1) := by decide +kernel
theorem dX8_placesChains_96 : decode cX8_placesChains 96 = .ok (.invokevirtual 235, 3) := by decide +kernel
theorem dX8_placesChains_99 : decode cX8_placesChains 99 = .ok (.istore 6, 2) := by decide +kernel
theorem dX8_placesChains_101 : decode cX8_placesChains 101 = .ok (.iload 6, 2) := by decide +kernel
theorem dX8_placesChains_103 : decode cX8_placesChains 103 = .ok (.iload 4, 2) := by decide +kernel
theorem dX8_placesChains_105 : decode cX8_placesChains 105 = .ok (.if_icmp .le 10, 3) := by decide +kernel
theorem dX8_placesChains_108 : decode cX8_placesChains 108 = .ok (.iload 5, 2) := by decide +kernel
theorem dX8_placesChains_110 : decode cX8_placesChains 110 = .ok (.istore_n 3, 1) := by decide +kernel
theorem dX8_placesChains_111 : decode cX8_placesChains 111 = .ok (.iload 6, 2) := by decide +kernel
theorem dX8_placesChains_113 : decode cX8_placesChains 113 = .ok (.istore 4, 2) := by decide +kernel
theorem dX8_placesChains_115 : decode cX8_placesChains 115 = .ok (.iinc 5 1, 3) := by decide +kernel
theorem dX8_placesChains_118 : decode cX8_placesChains 118 = .ok (.goto (-67), 3) := by decide +kernel
theorem dX8_placesChains_121 : decode cX8_placesChains 121 = .ok (.aload_n 0, 1) := by decide +kernel
theorem dX8_placesChains_122 : decode cX8_placesChains 122 = .ok (.iload_n 3, 1) := by decide +kernel
theorem dX8_placesChains_123 : decode cX8_placesChains 123 = .ok (.iload_n 1, 1) := by decide +kernel
theorem dX8_placesChains_124 : decode cX8_placesChains 124 = .ok (.invokevirtual 229, 3) := by decide +kernel
theorem dX8_placesChains_127 : decode cX8_placesChains 127 = .ok (.istore_n 1, 1) := by decide +kernel
theorem dX8_placesChains_128 : decode cX8_placesChains 128 = .ok (.goto (-119), 3) := by decide +kernel
theorem dX8_placesChains_131 : decode cX8_placesChains 131 = .ok (.return_, 1) := by decide +kernel
theorem dX8_triedCost_0 : decode cX8_triedCost 0 = .ok (.iconst 0, 1) := by decide +kernel
theorem dX8_triedCost_1 : decode cX8_triedCost 1 = .ok (.istore_n 1, 1) := by decide +kernel
theorem dX8_triedCost_2 : decode cX8_triedCost 2 = .ok (.iconst 0, 1) := by decide +kernel
theorem dX8_triedCost_3 : decode cX8_triedCost 3 = .ok (.istore_n 2, 1) := by decide +kernel
theorem dX8_triedCost_4 : decode cX8_triedCost 4 = .ok (.iload_n 2, 1) := by decide +kernel
theorem dX8_triedCost_5 : decode cX8_triedCost 5 = .ok (.aload_n 0, 1) := by decide +kernel
theorem dX8_triedCost_6 : decode cX8_triedCost 6 = .ok (.getfield 232, 3) := by decide +kernel
theorem dX8_triedCost_9 : decode cX8_triedCost 9 = .ok (.if_icmp .ge 44, 3) := by decide +kernel
theorem dX8_triedCost_12 : decode cX8_triedCost 12 = .ok (.iload_n 1, 1) := by decide +kernel
theorem dX8_triedCost_13 : decode cX8_triedCost 13 = .ok (.aload_n 0, 1) := by decide +kernel
theorem dX8_triedCost_14 : decode cX8_triedCost 14 = .ok (.aload_n 0, 1) := by decide +kernel
theorem dX8_triedCost_15 : decode cX8_triedCost 15 = .ok (.getfield 87, 3) := by decide +kernel
theorem dX8_triedCost_18 : decode cX8_triedCost 18 = .ok (.iload_n 2, 1) := by decide +kernel
theorem dX8_triedCost_19 : decode cX8_triedCost 19 = .ok (.iaload, 1) := by decide +kernel
theorem dX8_triedCost_20 : decode cX8_triedCost 20 = .ok (.iload_n 2, 1) := by decide +kernel
theorem dX8_triedCost_21 : decode cX8_triedCost 21 = .ok (.iconst 1, 1) := by decide +kernel
theorem dX8_triedCost_22 : decode cX8_triedCost 22 = .ok (.iadd, 1) := by decide +kernel
theorem dX8_triedCost_23 : decode cX8_triedCost 23 = .ok (.aload_n 0, 1) := by decide +kernel
theorem dX8_triedCost_24 : decode cX8_triedCost 24 = .ok (.getfield 232, 3) := by decide +kernel
theorem dX8_triedCost_27 : decode cX8_triedCost 27 = .ok (.if_icmp .ge 14, 3) := by decide +kernel
theorem dX8_triedCost_30 : decode cX8_triedCost 30 = .ok (.aload_n 0, 1) := by decide +kernel
theorem dX8_triedCost_31 : decode cX8_triedCost 31 = .ok (.getfield 87, 3) := by decide +kernel
theorem dX8_triedCost_34 : decode cX8_triedCost 34 = .ok (.iload_n 2, 1) := by decide +kernel
theorem dX8_triedCost_35 : decode cX8_triedCost 35 = .ok (.iconst 1, 1) := by decide +kernel
theorem dX8_triedCost_36 : decode cX8_triedCost 36 = .ok (.iadd, 1) := by decide +kernel
theorem dX8_triedCost_37 : decode cX8_triedCost 37 = .ok (.iaload, 1) := by decide +kernel
theorem dX8_triedCost_38 : decode cX8_triedCost 38 = .ok (.goto 4, 3) := by decide +kernel
theorem dX8_triedCost_41 : decode cX8_triedCost 41 = .ok (.iconst (-1), 1) := by decide +kernel
theorem dX8_triedCost_42 : decode cX8_triedCost 42 = .ok (.invokevirtual 195, 3) := by decide +kernel
theorem dX8_triedCost_45 : decode cX8_triedCost 45 = .ok (.iadd, 1) := by decide +kernel
theorem dX8_triedCost_46 : decode cX8_triedCost 46 = .ok (.istore_n 1, 1) := by decide +kernel
theorem dX8_triedCost_47 : decode cX8_triedCost 47 = .ok (.iinc 2 1, 3) := by decide +kernel
theorem dX8_triedCost_50 : decode cX8_triedCost 50 = .ok (.goto (-46), 3) := by decide +kernel
theorem dX8_triedCost_53 : decode cX8_triedCost 53 = .ok (.iload_n 1, 1) := by decide +kernel
theorem dX8_triedCost_54 : decode cX8_triedCost 54 = .ok (.ireturn, 1) := by decide +kernel
theorem dX8_goesOn_0 : decode cX8_goesOn 0 = .ok (.aload_n 0, 1) := by decide +kernel
theorem dX8_goesOn_1 : decode cX8_goesOn 1 = .ok (.getfield 232, 3) := by decide +kernel
theorem dX8_goesOn_4 : decode cX8_goesOn 4 = .ok (.iconst 2, 1) := by decide +kernel
theorem dX8_goesOn_5 : decode cX8_goesOn 5 = .ok (.isub, 1) := by decide +kernel
theorem dX8_goesOn_6 : decode cX8_goesOn 6 = .ok (.istore_n 1, 1) := by decide +kernel
theorem dX8_goesOn_7 : decode cX8_goesOn 7 = .ok (.iload_n 1, 1) := by decide +kernel
theorem dX8_goesOn_8 : decode cX8_goesOn 8 = .ok (.iconst 1, 1) := by decide +kernel
theorem dX8_goesOn_9 : decode cX8_goesOn 9 = .ok (.if_icmp .lt 26, 3) := by decide +kernel
theorem dX8_goesOn_12 : decode cX8_goesOn 12 = .ok (.aload_n 0, 1) := by decide +kernel
theorem dX8_goesOn_13 : decode cX8_goesOn 13 = .ok (.getfield 87, 3) := by decide +kernel
theorem dX8_goesOn_16 : decode cX8_goesOn 16 = .ok (.iload_n 1, 1) := by decide +kernel
theorem dX8_goesOn_17 : decode cX8_goesOn 17 = .ok (.iaload, 1) := by decide +kernel
theorem dX8_goesOn_18 : decode cX8_goesOn 18 = .ok (.aload_n 0, 1) := by decide +kernel
theorem dX8_goesOn_19 : decode cX8_goesOn 19 = .ok (.getfield 87, 3) := by decide +kernel
theorem dX8_goesOn_22 : decode cX8_goesOn 22 = .ok (.iload_n 1, 1) := by decide +kernel
theorem dX8_goesOn_23 : decode cX8_goesOn 23 = .ok (.iconst 1, 1) := by decide +kernel
theorem dX8_goesOn_24 : decode cX8_goesOn 24 = .ok (.iadd, 1) := by decide +kernel
theorem dX8_goesOn_25 : decode cX8_goesOn 25 = .ok (.iaload, 1) := by decide +kernel
theorem dX8_goesOn_26 : decode cX8_goesOn 26 = .ok (.if_icmp .le 9, 3) := by decide +kernel
theorem dX8_goesOn_29 : decode cX8_goesOn 29 = .ok (.iinc 1 (-1), 3) := by decide +kernel
theorem dX8_goesOn_32 : decode cX8_goesOn 32 = .ok (.goto (-25), 3) := by decide +kernel
theorem dX8_goesOn_35 : decode cX8_goesOn 35 = .ok (.iload_n 1, 1) := by decide +kernel
theorem dX8_goesOn_36 : decode cX8_goesOn 36 = .ok (.iconst 1, 1) := by decide +kernel
theorem dX8_goesOn_37 : decode cX8_goesOn 37 = .ok (.if_icmp .ge 5, 3) := by decide +kernel
theorem dX8_goesOn_40 : decode cX8_goesOn 40 = .ok (.iconst 0, 1) := by decide +kernel
theorem dX8_goesOn_41 : decode cX8_goesOn 41 = .ok (.ireturn, 1) := by decide +kernel
theorem dX8_goesOn_42 : decode cX8_goesOn 42 = .ok (.aload_n 0, 1) := by decide +kernel
theorem dX8_goesOn_43 : decode cX8_goesOn 43 = .ok (.getfield 232, 3) := by decide +kernel
theorem dX8_goesOn_46 : decode cX8_goesOn 46 = .ok (.iconst 1, 1) := by decide +kernel
theorem dX8_goesOn_47 : decode cX8_goesOn 47 = .ok (.isub, 1) := by decide +kernel
theorem dX8_goesOn_48 : decode cX8_goesOn 48 = .ok (.istore_n 2, 1) := by decide +kernel
theorem dX8_goesOn_49 : decode cX8_goesOn 49 = .ok (.aload_n 0, 1) := by decide +kernel
theorem dX8_goesOn_50 : decode cX8_goesOn 50 = .ok (.getfield 87, 3) := by decide +kernel
theorem dX8_goesOn_53 : decode cX8_goesOn 53 = .ok (.iload_n 2, 1) := by decide +kernel
theorem dX8_goesOn_54 : decode cX8_goesOn 54 = .ok (.iaload, 1) := by decide +kernel
theorem dX8_goesOn_55 : decode cX8_goesOn 55 = .ok (.aload_n 0, 1) := by decide +kernel
theorem dX8_goesOn_56 : decode cX8_goesOn 56 = .ok (.getfield 87, 3) := by decide +kernel
theorem dX8_goesOn_59 : decode cX8_goesOn 59 = .ok (.iload_n 1, 1) := by decide +kernel
theorem dX8_goesOn_60 : decode cX8_goesOn 60 = .ok (.iaload, 1) := by decide +kernel
theorem dX8_goesOn_61 : decode cX8_goesOn 61 = .ok (.if_icmp .ge 9, 3) := by decide +kernel
theorem dX8_goesOn_64 : decode cX8_goesOn 64 = .ok (.iinc 2 (-1), 3) := by decide +kernel
theorem dX8_goesOn_67 : decode cX8_goesOn 67 = .ok (.goto (-18), 3) := by decide +kernel
theorem dX8_goesOn_70 : decode cX8_goesOn 70 = .ok (.aload_n 0, 1) := by decide +kernel
theorem dX8_goesOn_71 : decode cX8_goesOn 71 = .ok (.iload_n 1, 1) := by decide +kernel
theorem dX8_goesOn_72 : decode cX8_goesOn 72 = .ok (.iload_n 2, 1) := by decide +kernel
theorem dX8_goesOn_73 : decode cX8_goesOn 73 = .ok (.invokevirtual 238, 3) := by decide +kernel
theorem dX8_goesOn_76 : decode cX8_goesOn 76 = .ok (.iload_n 1, 1) := by decide +kernel
theorem dX8_goesOn_77 : decode cX8_goesOn 77 = .ok (.iconst 1, 1) := by decide +kernel
theorem dX8_goesOn_78 : decode cX8_goesOn 78 = .ok (.iadd, 1) := by decide +kernel
theorem dX8_goesOn_79 : decode cX8_goesOn 79 = .ok (.istore_n 3, 1) := by decide +kernel
theorem dX8_goesOn_80 : decode cX8_goesOn 80 = .ok (.aload_n 0, 1) := by decide +kernel
theorem dX8_goesOn_81 : decode cX8_goesOn 81 = .ok (.getfield 232, 3) := by decide +kernel
theorem dX8_goesOn_84 : decode cX8_goesOn 84 = .ok (.iconst 1, 1) := by decide +kernel
theorem dX8_goesOn_85 : decode cX8_goesOn 85 = .ok (.isub, 1) := by decide +kernel
theorem dX8_goesOn_86 : decode cX8_goesOn 86 = .ok (.istore 4, 2) := by decide +kernel
theorem dX8_goesOn_88 : decode cX8_goesOn 88 = .ok (.iload_n 3, 1) := by decide +kernel
theorem dX8_goesOn_89 : decode cX8_goesOn 89 = .ok (.iload 4, 2) := by decide +kernel
theorem dX8_goesOn_91 : decode cX8_goesOn 91 = .ok (.if_icmp .ge 19, 3) := by decide +kernel
theorem dX8_goesOn_94 : decode cX8_goesOn 94 = .ok (.aload_n 0, 1) := by decide +kernel
theorem dX8_goesOn_95 : decode cX8_goesOn 95 = .ok (.iload_n 3, 1) := by decide +kernel
theorem dX8_goesOn_96 : decode cX8_goesOn 96 = .ok (.iload 4, 2) := by decide +kernel
theorem dX8_goesOn_98 : decode cX8_goesOn 98 = .ok (.invokevirtual 238, 3) := by decide +kernel
theorem dX8_goesOn_101 : decode cX8_goesOn 101 = .ok (.iinc 3 1, 3) := by decide +kernel
theorem dX8_goesOn_104 : decode cX8_goesOn 104 = .ok (.iinc 4 (-1), 3) := by decide +kernel
theorem dX8_goesOn_107 : decode cX8_goesOn 107 = .ok (.goto (-19), 3) := by decide +kernel
theorem dX8_goesOn_110 : decode cX8_goesOn 110 = .ok (.iconst 1, 1) := by decide +kernel
theorem dX8_goesOn_111 : decode cX8_goesOn 111 = .ok (.ireturn, 1) := by decide +kernel
theorem dX8_swap_0 : decode cX8_swap 0 = .ok (.aload_n 0, 1) := by decide +kernel
theorem dX8_swap_1 : decode cX8_swap 1 = .ok (.getfield 87, 3) := by decide +kernel
theorem dX8_swap_4 : decode cX8_swap 4 = .ok (.iload_n 1, 1) := by decide +kernel
theorem dX8_swap_5 : decode cX8_swap 5 = .ok (.iaload, 1) := by decide +kernel
theorem dX8_swap_6 : decode cX8_swap 6 = .ok (.istore_n 3, 1) := by decide +kernel
theorem dX8_swap_7 : decode cX8_swap 7 = .ok (.aload_n 0, 1) := by decide +kernel
theorem dX8_swap_8 : decode cX8_swap 8 = .ok (.getfield 87, 3) := by decide +kernel
theorem dX8_swap_11 : decode cX8_swap 11 = .ok (.iload_n 1, 1) := by decide +kernel
theorem dX8_swap_12 : decode cX8_swap 12 = .ok (.aload_n 0, 1) := by decide +kernel
theorem dX8_swap_13 : decode cX8_swap 13 = .ok (.getfield 87, 3) := by decide +kernel
theorem dX8_swap_16 : decode cX8_swap 16 = .ok (.iload_n 2, 1) := by decide +kernel
theorem dX8_swap_17 : decode cX8_swap 17 = .ok (.iaload, 1) := by decide +kernel
theorem dX8_swap_18 : decode cX8_swap 18 = .ok (.iastore, 1) := by decide +kernel
theorem dX8_swap_19 : decode cX8_swap 19 = .ok (.aload_n 0, 1) := by decide +kernel
theorem dX8_swap_20 : decode cX8_swap 20 = .ok (.getfield 87, 3) := by decide +kernel
theorem dX8_swap_23 : decode cX8_swap 23 = .ok (.iload_n 2, 1) := by decide +kernel
theorem dX8_swap_24 : decode cX8_swap 24 = .ok (.iload_n 3, 1) := by decide +kernel
theorem dX8_swap_25 : decode cX8_swap 25 = .ok (.iastore, 1) := by decide +kernel
theorem dX8_swap_26 : decode cX8_swap 26 = .ok (.return_, 1) := by decide +kernel
theorem dX8_triesAll_0 : decode cX8_triesAll 0 = .ok (.iconst 0, 1) := by decide +kernel
theorem dX8_triesAll_1 : decode cX8_triesAll 1 = .ok (.istore_n 1, 1) := by decide +kernel
theorem dX8_triesAll_2 : decode cX8_triesAll 2 = .ok (.iconst 0, 1) := by decide +kernel
theorem dX8_triesAll_3 : decode cX8_triesAll 3 = .ok (.istore_n 2, 1) := by decide +kernel
theorem dX8_triesAll_4 : decode cX8_triesAll 4 = .ok (.iload_n 2, 1) := by decide +kernel
theorem dX8_triesAll_5 : decode cX8_triesAll 5 = .ok (.aload_n 0, 1) := by decide +kernel
theorem dX8_triesAll_6 : decode cX8_triesAll 6 = .ok (.getfield 106, 3) := by decide +kernel
theorem dX8_triesAll_9 : decode cX8_triesAll 9 = .ok (.if_icmp .ge 27, 3) := by decide +kernel
theorem dX8_triesAll_12 : decode cX8_triesAll 12 = .ok (.aload_n 0, 1) := by decide +kernel
theorem dX8_triesAll_13 : decode cX8_triesAll 13 = .ok (.iload_n 2, 1) := by decide +kernel
theorem dX8_triesAll_14 : decode cX8_triesAll 14 = .ok (.invokevirtual 207, 3) := by decide +kernel
theorem dX8_triesAll_17 : decode cX8_triesAll 17 = .ok (.ifCond .eq 13, 3) := by decide +kernel
theorem dX8_triesAll_20 : decode cX8_triesAll 20 = .ok (.aload_n 0, 1) := by decide +kernel
theorem dX8_triesAll_21 : decode cX8_triesAll 21 = .ok (.getfield 87, 3) := by decide +kernel
theorem dX8_triesAll_24 : decode cX8_triesAll 24 = .ok (.iload_n 1, 1) := by decide +kernel
theorem dX8_triesAll_25 : decode cX8_triesAll 25 = .ok (.iload_n 2, 1) := by decide +kernel
theorem dX8_triesAll_26 : decode cX8_triesAll 26 = .ok (.iastore, 1) := by decide +kernel
theorem dX8_triesAll_27 : decode cX8_triesAll 27 = .ok (.iinc 1 1, 3) := by decide +kernel
theorem dX8_triesAll_30 : decode cX8_triesAll 30 = .ok (.iinc 2 1, 3) := by decide +kernel
theorem dX8_triesAll_33 : decode cX8_triesAll 33 = .ok (.goto (-29), 3) := by decide +kernel
theorem dX8_triesAll_36 : decode cX8_triesAll 36 = .ok (.iconst 0, 1) := by decide +kernel
theorem dX8_triesAll_37 : decode cX8_triesAll 37 = .ok (.istore_n 2, 1) := by decide +kernel
theorem dX8_triesAll_38 : decode cX8_triesAll 38 = .ok (.aload_n 0, 1) := by decide +kernel
theorem dX8_triesAll_39 : decode cX8_triesAll 39 = .ok (.invokevirtual 241, 3) := by decide +kernel
theorem dX8_triesAll_42 : decode cX8_triesAll 42 = .ok (.istore_n 3, 1) := by decide +kernel
theorem dX8_triesAll_43 : decode cX8_triesAll 43 = .ok (.iload_n 2, 1) := by decide +kernel
theorem dX8_triesAll_44 : decode cX8_triesAll 44 = .ok (.ifCond .eq 11, 3) := by decide +kernel
theorem dX8_triesAll_47 : decode cX8_triesAll 47 = .ok (.iload_n 3, 1) := by decide +kernel
theorem dX8_triesAll_48 : decode cX8_triesAll 48 = .ok (.aload_n 0, 1) := by decide +kernel
theorem dX8_triesAll_49 : decode cX8_triesAll 49 = .ok (.getfield 244, 3) := by decide +kernel
theorem dX8_triesAll_52 : decode cX8_triesAll 52 = .ok (.if_icmp .ge 42, 3) := by decide +kernel
theorem dX8_triesAll_55 : decode cX8_triesAll 55 = .ok (.iconst 1, 1) := by decide +kernel
theorem dX8_triesAll_56 : decode cX8_triesAll 56 = .ok (.istore_n 2, 1) := by decide +kernel
theorem dX8_triesAll_57 : decode cX8_triesAll 57 = .ok (.aload_n 0, 1) := by decide +kernel
theorem dX8_triesAll_58 : decode cX8_triesAll 58 = .ok (.iload_n 3, 1) := by decide +kernel
theorem dX8_triesAll_59 : decode cX8_triesAll 59 = .ok (.putfield 244, 3) := by decide +kernel
theorem dX8_triesAll_62 : decode cX8_triesAll 62 = .ok (.iconst 0, 1) := by decide +kernel
theorem dX8_triesAll_63 : decode cX8_triesAll 63 = .ok (.istore 4, 2) := by decide +kernel
theorem dX8_triesAll_65 : decode cX8_triesAll 65 = .ok (.iload 4, 2) := by decide +kernel
theorem dX8_triesAll_67 : decode cX8_triesAll 67 = .ok (.aload_n 0, 1) := by decide +kernel
theorem dX8_triesAll_68 : decode cX8_triesAll 68 = .ok (.getfield 232, 3) := by decide +kernel
theorem dX8_triesAll_71 : decode cX8_triesAll 71 = .ok (.if_icmp .ge 23, 3) := by decide +kernel
theorem dX8_triesAll_74 : decode cX8_triesAll 74 = .ok (.aload_n 0, 1) := by decide +kernel
theorem dX8_triesAll_75 : decode cX8_triesAll 75 = .ok (.getfield 90, 3) := by decide +kernel
theorem dX8_triesAll_78 : decode cX8_triesAll 78 = .ok (.iload 4, 2) := by decide +kernel
theorem dX8_triesAll_80 : decode cX8_triesAll 80 = .ok (.aload_n 0, 1) := by decide +kernel
theorem dX8_triesAll_81 : decode cX8_triesAll 81 = .ok (.getfield 87, 3) := by decide +kernel
theorem dX8_triesAll_84 : decode cX8_triesAll 84 = .ok (.iload 4, 2) := by decide +kernel
theorem dX8_triesAll_86 : decode cX8_triesAll 86 = .ok (.iaload, 1) := by decide +kernel
theorem dX8_triesAll_87 : decode cX8_triesAll 87 = .ok (.iastore, 1) := by decide +kernel
theorem dX8_triesAll_88 : decode cX8_triesAll 88 = .ok (.iinc 4 1, 3) := by decide +kernel
theorem dX8_triesAll_91 : decode cX8_triesAll 91 = .ok (.goto (-26), 3) := by decide +kernel
theorem dX8_triesAll_94 : decode cX8_triesAll 94 = .ok (.aload_n 0, 1) := by decide +kernel
theorem dX8_triesAll_95 : decode cX8_triesAll 95 = .ok (.invokevirtual 247, 3) := by decide +kernel
theorem dX8_triesAll_98 : decode cX8_triesAll 98 = .ok (.ifCond .ne (-60), 3) := by decide +kernel
theorem dX8_triesAll_101 : decode cX8_triesAll 101 = .ok (.iconst 0, 1) := by decide +kernel
theorem dX8_triesAll_102 : decode cX8_triesAll 102 = .ok (.istore_n 3, 1) := by decide +kernel
theorem dX8_triesAll_103 : decode cX8_triesAll 103 = .ok (.iload_n 3, 1) := by decide +kernel
theorem dX8_triesAll_104 : decode cX8_triesAll 104 = .ok (.aload_n 0, 1) := by decide +kernel
theorem dX8_triesAll_105 : decode cX8_triesAll 105 = .ok (.getfield 232, 3) := by decide +kernel
theorem dX8_triesAll_108 : decode cX8_triesAll 108 = .ok (.if_icmp .ge 21, 3) := by decide +kernel
theorem dX8_triesAll_111 : decode cX8_triesAll 111 = .ok (.aload_n 0, 1) := by decide +kernel
theorem dX8_triesAll_112 : decode cX8_triesAll 112 = .ok (.getfield 41, 3) := by decide +kernel
theorem dX8_triesAll_115 : decode cX8_triesAll 115 = .ok (.iload_n 3, 1) := by decide +kernel
theorem dX8_triesAll_116 : decode cX8_triesAll 116 = .ok (.aload_n 0, 1) := by decide +kernel
theorem dX8_triesAll_117 : decode cX8_triesAll 117 = .ok (.getfield 90, 3) := by decide +kernel
theorem dX8_triesAll_120 : decode cX8_triesAll 120 = .ok (.iload_n 3, 1) := by decide +kernel
theorem dX8_triesAll_121 : decode cX8_triesAll 121 = .ok (.iaload, 1) := by decide +kernel
theorem dX8_triesAll_122 : decode cX8_triesAll 122 = .ok (.iastore, 1) := by decide +kernel
theorem dX8_triesAll_123 : decode cX8_triesAll 123 = .ok (.iinc 3 1, 3) := by decide +kernel
theorem dX8_triesAll_126 : decode cX8_triesAll 126 = .ok (.goto (-23), 3) := by decide +kernel
theorem dX8_triesAll_129 : decode cX8_triesAll 129 = .ok (.return_, 1) := by decide +kernel
theorem dX8_findsHot_0 : decode cX8_findsHot 0 = .ok (.aload_n 0, 1) := by decide +kernel
theorem dX8_findsHot_1 : decode cX8_findsHot 1 = .ok (.iconst 1, 1) := by decide +kernel
theorem dX8_findsHot_2 : decode cX8_findsHot 2 = .ok (.putfield 204, 3) := by decide +kernel
theorem dX8_findsHot_5 : decode cX8_findsHot 5 = .ok (.aload_n 0, 1) := by decide +kernel
theorem dX8_findsHot_6 : decode cX8_findsHot 6 = .ok (.iconst 1, 1) := by decide +kernel
theorem dX8_findsHot_7 : decode cX8_findsHot 7 = .ok (.putfield 232, 3) := by decide +kernel
theorem dX8_findsHot_10 : decode cX8_findsHot 10 = .ok (.iconst 1, 1) := by decide +kernel
theorem dX8_findsHot_11 : decode cX8_findsHot 11 = .ok (.istore_n 2, 1) := by decide +kernel
theorem dX8_findsHot_12 : decode cX8_findsHot 12 = .ok (.iload_n 2, 1) := by decide +kernel
theorem dX8_findsHot_13 : decode cX8_findsHot 13 = .ok (.aload_n 0, 1) := by decide +kernel
theorem dX8_findsHot_14 : decode cX8_findsHot 14 = .ok (.getfield 106, 3) := by decide +kernel
theorem dX8_findsHot_17 : decode cX8_findsHot 17 = .ok (.if_icmp .ge 63, 3) := by decide +kernel
theorem dX8_findsHot_20 : decode cX8_findsHot 20 = .ok (.aload_n 0, 1) := by decide +kernel
theorem dX8_findsHot_21 : decode cX8_findsHot 21 = .ok (.getfield 32, 3) := by decide +kernel
theorem dX8_findsHot_24 : decode cX8_findsHot 24 = .ok (.iload_n 2, 1) := by decide +kernel
theorem dX8_findsHot_25 : decode cX8_findsHot 25 = .ok (.iaload, 1) := by decide +kernel
theorem dX8_findsHot_26 : decode cX8_findsHot 26 = .ok (.iload_n 1, 1) := by decide +kernel
theorem dX8_findsHot_27 : decode cX8_findsHot 27 = .ok (.if_icmp .le 7, 3) := by decide +kernel
theorem dX8_findsHot_30 : decode cX8_findsHot 30 = .ok (.iconst 1, 1) := by decide +kernel
theorem dX8_findsHot_31 : decode cX8_findsHot 31 = .ok (.goto 4, 3) := by decide +kernel
theorem dX8_findsHot_34 : decode cX8_findsHot 34 = .ok (.iconst 0, 1) := by decide +kernel
theorem dX8_findsHot_35 : decode cX8_findsHot 35 = .ok (.istore_n 3, 1) := by decide +kernel
theorem dX8_findsHot_36 : decode cX8_findsHot 36 = .ok (.aload_n 0, 1) := by decide +kernel
theorem dX8_findsHot_37 : decode cX8_findsHot 37 = .ok (.dup, 1) := by decide +kernel
theorem dX8_findsHot_38 : decode cX8_findsHot 38 = .ok (.getfield 204, 3) := by decide +kernel
theorem dX8_findsHot_41 : decode cX8_findsHot 41 = .ok (.iload_n 3, 1) := by decide +kernel
theorem dX8_findsHot_42 : decode cX8_findsHot 42 = .ok (.ifCond .eq 9, 3) := by decide +kernel
theorem dX8_findsHot_45 : decode cX8_findsHot 45 = .ok (.iconst 1, 1) := by decide +kernel
theorem dX8_findsHot_46 : decode cX8_findsHot 46 = .ok (.iload_n 2, 1) := by decide +kernel
theorem dX8_findsHot_47 : decode cX8_findsHot 47 = .ok (.ishl, 1) := by decide +kernel
theorem dX8_findsHot_48 : decode cX8_findsHot 48 = .ok (.goto 4, 3) := by decide +kernel
theorem dX8_findsHot_51 : decode cX8_findsHot 51 = .ok (.iconst 0, 1) := by decide +kernel
theorem dX8_findsHot_52 : decode cX8_findsHot 52 = .ok (.ior, 1) := by decide +kernel
theorem dX8_findsHot_53 : decode cX8_findsHot 53 = .ok (.putfield 204, 3) := by decide +kernel
theorem dX8_findsHot_56 : decode cX8_findsHot 56 = .ok (.aload_n 0, 1) := by decide +kernel
theorem dX8_findsHot_57 : decode cX8_findsHot 57 = .ok (.dup, 1) := by decide +kernel
theorem dX8_findsHot_58 : decode cX8_findsHot 58 = .ok (.getfield 232, 3) := by decide +kernel
theorem dX8_findsHot_61 : decode cX8_findsHot 61 = .ok (.iload_n 3, 1) := by decide +kernel
theorem dX8_findsHot_62 : decode cX8_findsHot 62 = .ok (.ifCond .eq 7, 3) := by decide +kernel
theorem dX8_findsHot_65 : decode cX8_findsHot 65 = .ok (.iconst 1, 1) := by decide +kernel
theorem dX8_findsHot_66 : decode cX8_findsHot 66 = .ok (.goto 4, 3) := by decide +kernel
theorem dX8_findsHot_69 : decode cX8_findsHot 69 = .ok (.iconst 0, 1) := by decide +kernel
theorem dX8_findsHot_70 : decode cX8_findsHot 70 = .ok (.iadd, 1) := by decide +kernel
theorem dX8_findsHot_71 : decode cX8_findsHot 71 = .ok (.putfield 232, 3) := by decide +kernel
theorem dX8_findsHot_74 : decode cX8_findsHot 74 = .ok (.iinc 2 1, 3) := by decide +kernel
theorem dX8_findsHot_77 : decode cX8_findsHot 77 = .ok (.goto (-65), 3) := by decide +kernel
theorem dX8_findsHot_80 : decode cX8_findsHot 80 = .ok (.return_, 1) := by decide +kernel
theorem dX8_arrange_0 : decode cX8_arrange 0 = .ok (.aload_n 0, 1) := by decide +kernel
theorem dX8_arrange_1 : decode cX8_arrange 1 = .ok (.iload_n 1, 1) := by decide +kernel
theorem dX8_arrange_2 : decode cX8_arrange 2 = .ok (.iconst 0, 1) := by decide +kernel
theorem dX8_arrange_3 : decode cX8_arrange 3 = .ok (.iconst 2, 1) := by decide +kernel
theorem dX8_arrange_4 : decode cX8_arrange 4 = .ok (.invokestatic 109, 3) := by decide +kernel
theorem dX8_arrange_7 : decode cX8_arrange 7 = .ok (.ifCond .eq 18, 3) := by decide +kernel
theorem dX8_arrange_10 : decode cX8_arrange 10 = .ok (.iload_n 2, 1) := by decide +kernel
theorem dX8_arrange_11 : decode cX8_arrange 11 = .ok (.iconst (-1), 1) := by decide +kernel
theorem dX8_arrange_12 : decode cX8_arrange 12 = .ok (.sipush 9999, 3) := by decide +kernel
theorem dX8_arrange_15 : decode cX8_arrange 15 = .ok (.invokestatic 109, 3) := by decide +kernel
theorem dX8_arrange_18 : decode cX8_arrange 18 = .ok (.ifCond .eq 7, 3) := by decide +kernel
theorem dX8_arrange_21 : decode cX8_arrange 21 = .ok (.iconst 0, 1) := by decide +kernel
theorem dX8_arrange_22 : decode cX8_arrange 22 = .ok (.goto 4, 3) := by decide +kernel
theorem dX8_arrange_25 : decode cX8_arrange 25 = .ok (.iconst 1, 1) := by decide +kernel
theorem dX8_arrange_26 : decode cX8_arrange 26 = .ok (.putfield 103, 3) := by decide +kernel
theorem dX8_arrange_29 : decode cX8_arrange 29 = .ok (.aload_n 0, 1) := by decide +kernel
theorem dX8_arrange_30 : decode cX8_arrange 30 = .ok (.getfield 103, 3) := by decide +kernel
theorem dX8_arrange_33 : decode cX8_arrange 33 = .ok (.ifCond .eq 5, 3) := by decide +kernel
theorem dX8_arrange_36 : decode cX8_arrange 36 = .ok (.iconst 0, 1) := by decide +kernel
theorem dX8_arrange_37 : decode cX8_arrange 37 = .ok (.ireturn, 1) := by decide +kernel
theorem dX8_arrange_38 : decode cX8_arrange 38 = .ok (.aload_n 0, 1) := by decide +kernel
theorem dX8_arrange_39 : decode cX8_arrange 39 = .ok (.iload_n 2, 1) := by decide +kernel
theorem dX8_arrange_40 : decode cX8_arrange 40 = .ok (.invokevirtual 250, 3) := by decide +kernel
theorem dX8_arrange_43 : decode cX8_arrange 43 = .ok (.aload_n 0, 1) := by decide +kernel
theorem dX8_arrange_44 : decode cX8_arrange 44 = .ok (.iload_n 1, 1) := by decide +kernel
theorem dX8_arrange_45 : decode cX8_arrange 45 = .ok (.iconst 2, 1) := by decide +kernel
theorem dX8_arrange_46 : decode cX8_arrange 46 = .ok (.if_icmp .ne 16, 3) := by decide +kernel
theorem dX8_arrange_49 : decode cX8_arrange 49 = .ok (.aload_n 0, 1) := by decide +kernel
theorem dX8_arrange_50 : decode cX8_arrange 50 = .ok (.getfield 232, 3) := by decide +kernel
theorem dX8_arrange_53 : decode cX8_arrange 53 = .ok (.bipush 7, 2) := by decide +kernel
theorem dX8_arrange_55 : decode cX8_arrange 55 = .ok (.if_icmp .le 7, 3) := by decide +kernel
theorem dX8_arrange_58 : decode cX8_arrange 58 = .ok (.iconst 2, 1) := by decide +kernel
theorem dX8_arrange_59 : decode cX8_arrange 59 = .ok (.goto 4, 3) := by decide +kernel
theorem dX8_arrange_62 : decode cX8_arrange 62 = .ok (.iconst 0, 1) := by decide +kernel
theorem dX8_arrange_63 : decode cX8_arrange 63 = .ok (.putfield 103, 3) := by decide +kernel
theorem dX8_arrange_66 : decode cX8_arrange 66 = .ok (.aload_n 0, 1) := by decide +kernel
theorem dX8_arrange_67 : decode cX8_arrange 67 = .ok (.getfield 103, 3) := by decide +kernel
theorem dX8_arrange_70 : decode cX8_arrange 70 = .ok (.ifCond .eq 5, 3) := by decide +kernel
theorem dX8_arrange_73 : decode cX8_arrange 73 = .ok (.iconst 0, 1) := by decide +kernel
theorem dX8_arrange_74 : decode cX8_arrange 74 = .ok (.ireturn, 1) := by decide +kernel
theorem dX8_arrange_75 : decode cX8_arrange 75 = .ok (.aload_n 0, 1) := by decide +kernel
theorem dX8_arrange_76 : decode cX8_arrange 76 = .ok (.invokevirtual 201, 3) := by decide +kernel
theorem dX8_arrange_79 : decode cX8_arrange 79 = .ok (.iconst 0, 1) := by decide +kernel
theorem dX8_arrange_80 : decode cX8_arrange 80 = .ok (.istore_n 3, 1) := by decide +kernel
theorem dX8_arrange_81 : decode cX8_arrange 81 = .ok (.iload_n 3, 1) := by decide +kernel
theorem dX8_arrange_82 : decode cX8_arrange 82 = .ok (.bipush 16, 2) := by decide +kernel
theorem dX8_arrange_84 : decode cX8_arrange 84 = .ok (.if_icmp .ge 23, 3) := by decide +kernel
theorem dX8_arrange_87 : decode cX8_arrange 87 = .ok (.aload_n 0, 1) := by decide +kernel
theorem dX8_arrange_88 : decode cX8_arrange 88 = .ok (.getfield 81, 3) := by decide +kernel
theorem dX8_arrange_91 : decode cX8_arrange 91 = .ok (.iload_n 3, 1) := by decide +kernel
theorem dX8_arrange_92 : decode cX8_arrange 92 = .ok (.iconst (-1), 1) := by decide +kernel
theorem dX8_arrange_93 : decode cX8_arrange 93 = .ok (.iastore, 1) := by decide +kernel
theorem dX8_arrange_94 : decode cX8_arrange 94 = .ok (.aload_n 0, 1) := by decide +kernel
theorem dX8_arrange_95 : decode cX8_arrange 95 = .ok (.getfield 84, 3) := by decide +kernel
theorem dX8_arrange_98 : decode cX8_arrange 98 = .ok (.iload_n 3, 1) := by decide +kernel
theorem dX8_arrange_99 : decode cX8_arrange 99 = .ok (.iconst (-1), 1) := by decide +kernel
theorem dX8_arrange_100 : decode cX8_arrange 100 = .ok (.iastore, 1) := by decide +kernel
theorem dX8_arrange_101 : decode cX8_arrange 101 = .ok (.iinc 3 1, 3) := by decide +kernel
theorem dX8_arrange_104 : decode cX8_arrange 104 = .ok (.goto (-23), 3) := by decide +kernel
theorem dX8_arrange_107 : decode cX8_arrange 107 = .ok (.iload_n 1, 1) := by decide +kernel
theorem dX8_arrange_108 : decode cX8_arrange 108 = .ok (.ifCond .ne 10, 3) := by decide +kernel
theorem dX8_arrange_111 : decode cX8_arrange 111 = .ok (.aload_n 0, 1) := by decide +kernel
theorem dX8_arrange_112 : decode cX8_arrange 112 = .ok (.invokevirtual 253, 3) := by decide +kernel
theorem dX8_arrange_115 : decode cX8_arrange 115 = .ok (.goto 12, 3) := by decide +kernel
theorem dX8_arrange_118 : decode cX8_arrange 118 = .ok (.iload_n 1, 1) := by decide +kernel
theorem dX8_arrange_119 : decode cX8_arrange 119 = .ok (.iconst 1, 1) := by decide +kernel
theorem dX8_arrange_120 : decode cX8_arrange 120 = .ok (.if_icmp .ne 7, 3) := by decide +kernel
theorem dX8_arrange_123 : decode cX8_arrange 123 = .ok (.aload_n 0, 1) := by decide +kernel
theorem dX8_arrange_124 : decode cX8_arrange 124 = .ok (.invokevirtual 256, 3) := by decide +kernel
theorem dX8_arrange_127 : decode cX8_arrange 127 = .ok (.iload_n 1, 1) := by decide +kernel
theorem dX8_arrange_128 : decode cX8_arrange 128 = .ok (.iconst 2, 1) := by decide +kernel
theorem dX8_arrange_129 : decode cX8_arrange 129 = .ok (.if_icmp .ne 10, 3) := by decide +kernel
theorem dX8_arrange_132 : decode cX8_arrange 132 = .ok (.aload_n 0, 1) := by decide +kernel
theorem dX8_arrange_133 : decode cX8_arrange 133 = .ok (.invokevirtual 259, 3) := by decide +kernel
theorem dX8_arrange_136 : decode cX8_arrange 136 = .ok (.goto 7, 3) := by decide +kernel
theorem dX8_arrange_139 : decode cX8_arrange 139 = .ok (.aload_n 0, 1) := by decide +kernel
theorem dX8_arrange_140 : decode cX8_arrange 140 = .ok (.invokevirtual 262, 3) := by decide +kernel
theorem dX8_arrange_143 : decode cX8_arrange 143 = .ok (.aload_n 0, 1) := by decide +kernel
theorem dX8_arrange_144 : decode cX8_arrange 144 = .ok (.getfield 232, 3) := by decide +kernel
theorem dX8_arrange_147 : decode cX8_arrange 147 = .ok (.istore_n 3, 1) := by decide +kernel
theorem dX8_arrange_148 : decode cX8_arrange 148 = .ok (.iconst 0, 1) := by decide +kernel
theorem dX8_arrange_149 : decode cX8_arrange 149 = .ok (.istore 4, 2) := by decide +kernel
theorem dX8_arrange_151 : decode cX8_arrange 151 = .ok (.iload 4, 2) := by decide +kernel
theorem dX8_arrange_153 : decode cX8_arrange 153 = .ok (.aload_n 0, 1) := by decide +kernel
theorem dX8_arrange_154 : decode cX8_arrange 154 = .ok (.getfield 106, 3) := by decide +kernel
theorem dX8_arrange_157 : decode cX8_arrange 157 = .ok (.if_icmp .ge 29, 3) := by decide +kernel
theorem dX8_arrange_160 : decode cX8_arrange 160 = .ok (.aload_n 0, 1) := by decide +kernel
theorem dX8_arrange_161 : decode cX8_arrange 161 = .ok (.iload 4, 2) := by decide +kernel
theorem dX8_arrange_163 : decode cX8_arrange 163 = .ok (.invokevirtual 207, 3) := by decide +kernel
theorem dX8_arrange_166 : decode cX8_arrange 166 = .ok (.ifCond .ne 14, 3) := by decide +kernel
theorem dX8_arrange_169 : decode cX8_arrange 169 = .ok (.aload_n 0, 1) := by decide +kernel
theorem dX8_arrange_170 : decode cX8_arrange 170 = .ok (.getfield 41, 3) := by decide +kernel
theorem dX8_arrange_173 : decode cX8_arrange 173 = .ok (.iload_n 3, 1) := by decide +kernel
theorem dX8_arrange_174 : decode cX8_arrange 174 = .ok (.iload 4, 2) := by decide +kernel
theorem dX8_arrange_176 : decode cX8_arrange 176 = .ok (.iastore, 1) := by decide +kernel
theorem dX8_arrange_177 : decode cX8_arrange 177 = .ok (.iinc 3 1, 3) := by decide +kernel
theorem dX8_arrange_180 : decode cX8_arrange 180 = .ok (.iinc 4 1, 3) := by decide +kernel
theorem dX8_arrange_183 : decode cX8_arrange 183 = .ok (.goto (-32), 3) := by decide +kernel
theorem dX8_arrange_186 : decode cX8_arrange 186 = .ok (.aload_n 0, 1) := by decide +kernel
theorem dX8_arrange_187 : decode cX8_arrange 187 = .ok (.aload_n 0, 1) := by decide +kernel
theorem dX8_arrange_188 : decode cX8_arrange 188 = .ok (.getfield 232, 3) := by decide +kernel
theorem dX8_arrange_191 : decode cX8_arrange 191 = .ok (.putfield 113, 3) := by decide +kernel
theorem dX8_arrange_194 : decode cX8_arrange 194 = .ok (.aload_n 0, 1) := by decide +kernel
theorem dX8_arrange_195 : decode cX8_arrange 195 = .ok (.aload_n 0, 1) := by decide +kernel
theorem dX8_arrange_196 : decode cX8_arrange 196 = .ok (.getfield 232, 3) := by decide +kernel
theorem dX8_arrange_199 : decode cX8_arrange 199 = .ok (.invokevirtual 265, 3) := by decide +kernel
theorem dX8_arrange_202 : decode cX8_arrange 202 = .ok (.ireturn, 1) := by decide +kernel
theorem dX8_order_0 : decode cX8_order 0 = .ok (.aload_n 0, 1) := by decide +kernel
theorem dX8_order_1 : decode cX8_order 1 = .ok (.aload_n 0, 1) := by decide +kernel
theorem dX8_order_2 : decode cX8_order 2 = .ok (.iload_n 1, 1) := by decide +kernel
theorem dX8_order_3 : decode cX8_order 3 = .ok (.invokevirtual 119, 3) := by decide +kernel
theorem dX8_order_6 : decode cX8_order 6 = .ok (.ifCond .eq 7, 3) := by decide +kernel
theorem dX8_order_9 : decode cX8_order 9 = .ok (.iconst 0, 1) := by decide +kernel
theorem dX8_order_10 : decode cX8_order 10 = .ok (.goto 4, 3) := by decide +kernel
theorem dX8_order_13 : decode cX8_order 13 = .ok (.iconst 1, 1) := by decide +kernel
theorem dX8_order_14 : decode cX8_order 14 = .ok (.putfield 103, 3) := by decide +kernel
theorem dX8_order_17 : decode cX8_order 17 = .ok (.aload_n 0, 1) := by decide +kernel
theorem dX8_order_18 : decode cX8_order 18 = .ok (.getfield 103, 3) := by decide +kernel
theorem dX8_order_21 : decode cX8_order 21 = .ok (.ifCond .ne 12, 3) := by decide +kernel
theorem dX8_order_24 : decode cX8_order 24 = .ok (.aload_n 0, 1) := by decide +kernel
theorem dX8_order_25 : decode cX8_order 25 = .ok (.getfield 41, 3) := by decide +kernel
theorem dX8_order_28 : decode cX8_order 28 = .ok (.iload_n 1, 1) := by decide +kernel
theorem dX8_order_29 : decode cX8_order 29 = .ok (.iaload, 1) := by decide +kernel
theorem dX8_order_30 : decode cX8_order 30 = .ok (.goto 4, 3) := by decide +kernel
theorem dX8_order_33 : decode cX8_order 33 = .ok (.iconst 0, 1) := by decide +kernel
theorem dX8_order_34 : decode cX8_order 34 = .ok (.ireturn, 1) := by decide +kernel
theorem dX8_place_0 : decode cX8_place 0 = .ok (.aload_n 0, 1) := by decide +kernel
theorem dX8_place_1 : decode cX8_place 1 = .ok (.aload_n 0, 1) := by decide +kernel
theorem dX8_place_2 : decode cX8_place 2 = .ok (.iload_n 1, 1) := by decide +kernel
theorem dX8_place_3 : decode cX8_place 3 = .ok (.invokevirtual 119, 3) := by decide +kernel
theorem dX8_place_6 : decode cX8_place 6 = .ok (.ifCond .ne 7, 3) := by decide +kernel
theorem dX8_place_9 : decode cX8_place 9 = .ok (.iconst 1, 1) := by decide +kernel
theorem dX8_place_10 : decode cX8_place 10 = .ok (.goto 17, 3) := by decide +kernel
theorem dX8_place_13 : decode cX8_place 13 = .ok (.iload_n 2, 1) := by decide +kernel
theorem dX8_place_14 : decode cX8_place 14 = .ok (.iconst 0, 1) := by decide +kernel
theorem dX8_place_15 : decode cX8_place 15 = .ok (.iconst 3, 1) := by decide +kernel
theorem dX8_place_16 : decode cX8_place 16 = .ok (.invokestatic 109, 3) := by decide +kernel
theorem dX8_place_19 : decode cX8_place 19 = .ok (.ifCond .eq 7, 3) := by decide +kernel
theorem dX8_place_22 : decode cX8_place 22 = .ok (.iconst 0, 1) := by decide +kernel
theorem dX8_place_23 : decode cX8_place 23 = .ok (.goto 4, 3) := by decide +kernel
theorem dX8_place_26 : decode cX8_place 26 = .ok (.iconst 2, 1) := by decide +kernel
theorem dX8_place_27 : decode cX8_place 27 = .ok (.putfield 103, 3) := by decide +kernel
theorem dX8_place_30 : decode cX8_place 30 = .ok (.aload_n 0, 1) := by decide +kernel
theorem dX8_place_31 : decode cX8_place 31 = .ok (.getfield 103, 3) := by decide +kernel
theorem dX8_place_34 : decode cX8_place 34 = .ok (.ifCond .eq 5, 3) := by decide +kernel
theorem dX8_place_37 : decode cX8_place 37 = .ok (.iconst 0, 1) := by decide +kernel
theorem dX8_place_38 : decode cX8_place 38 = .ok (.ireturn, 1) := by decide +kernel
theorem dX8_place_39 : decode cX8_place 39 = .ok (.aload_n 0, 1) := by decide +kernel
theorem dX8_place_40 : decode cX8_place 40 = .ok (.invokevirtual 150, 3) := by decide +kernel
theorem dX8_place_43 : decode cX8_place 43 = .ok (.iload_n 2, 1) := by decide +kernel
theorem dX8_place_44 : decode cX8_place 44 = .ok (.tableswitch 48 0 2 #[28, 34, 41], 28) := by decide +kernel
theorem dX8_place_72 : decode cX8_place 72 = .ok (.aload_n 0, 1) := by decide +kernel
theorem dX8_place_73 : decode cX8_place 73 = .ok (.iload_n 1, 1) := by decide +kernel
theorem dX8_place_74 : decode cX8_place 74 = .ok (.invokevirtual 164, 3) := by decide +kernel
theorem dX8_place_77 : decode cX8_place 77 = .ok (.ireturn, 1) := by decide +kernel
theorem dX8_place_78 : decode cX8_place 78 = .ok (.aload_n 0, 1) := by decide +kernel
theorem dX8_place_79 : decode cX8_place 79 = .ok (.getfield 57, 3) := by decide +kernel
theorem dX8_place_82 : decode cX8_place 82 = .ok (.iload_n 1, 1) := by decide +kernel
theorem dX8_place_83 : decode cX8_place 83 = .ok (.iaload, 1) := by decide +kernel
theorem dX8_place_84 : decode cX8_place 84 = .ok (.ireturn, 1) := by decide +kernel
theorem dX8_place_85 : decode cX8_place 85 = .ok (.aload_n 0, 1) := by decide +kernel
theorem dX8_place_86 : decode cX8_place 86 = .ok (.getfield 60, 3) := by decide +kernel
theorem dX8_place_89 : decode cX8_place 89 = .ok (.iload_n 1, 1) := by decide +kernel
theorem dX8_place_90 : decode cX8_place 90 = .ok (.iaload, 1) := by decide +kernel
theorem dX8_place_91 : decode cX8_place 91 = .ok (.ireturn, 1) := by decide +kernel
theorem dX8_place_92 : decode cX8_place 92 = .ok (.aload_n 0, 1) := by decide +kernel
theorem dX8_place_93 : decode cX8_place 93 = .ok (.iload_n 1, 1) := by decide +kernel
theorem dX8_place_94 : decode cX8_place 94 = .ok (.invokevirtual 164, 3) := by decide +kernel
theorem dX8_place_97 : decode cX8_place 97 = .ok (.aload_n 0, 1) := by decide +kernel
theorem dX8_place_98 : decode cX8_place 98 = .ok (.getfield 113, 3) := by decide +kernel
theorem dX8_place_101 : decode cX8_place 101 = .ok (.if_icmp .ge 7, 3) := by decide +kernel
theorem dX8_place_104 : decode cX8_place 104 = .ok (.iconst 1, 1) := by decide +kernel
theorem dX8_place_105 : decode cX8_place 105 = .ok (.goto 4, 3) := by decide +kernel
theorem dX8_place_108 : decode cX8_place 108 = .ok (.iconst 0, 1) := by decide +kernel
theorem dX8_place_109 : decode cX8_place 109 = .ok (.ireturn, 1) := by decide +kernel
theorem dX8_end_0 : decode cX8_end 0 = .ok (.aload_n 0, 1) := by decide +kernel
theorem dX8_end_1 : decode cX8_end 1 = .ok (.aload_n 0, 1) := by decide +kernel
theorem dX8_end_2 : decode cX8_end 2 = .ok (.iload_n 1, 1) := by decide +kernel
theorem dX8_end_3 : decode cX8_end 3 = .ok (.invokevirtual 119, 3) := by decide +kernel
theorem dX8_end_6 : decode cX8_end 6 = .ok (.ifCond .ne 7, 3) := by decide +kernel
theorem dX8_end_9 : decode cX8_end 9 = .ok (.iconst 1, 1) := by decide +kernel
theorem dX8_end_10 : decode cX8_end 10 = .ok (.goto 17, 3) := by decide +kernel
theorem dX8_end_13 : decode cX8_end 13 = .ok (.iload_n 2, 1) := by decide +kernel
theorem dX8_end_14 : decode cX8_end 14 = .ok (.iconst 0, 1) := by decide +kernel
theorem dX8_end_15 : decode cX8_end 15 = .ok (.iconst 3, 1) := by decide +kernel
theorem dX8_end_16 : decode cX8_end 16 = .ok (.invokestatic 109, 3) := by decide +kernel
theorem dX8_end_19 : decode cX8_end 19 = .ok (.ifCond .eq 7, 3) := by decide +kernel
theorem dX8_end_22 : decode cX8_end 22 = .ok (.iconst 0, 1) := by decide +kernel
theorem dX8_end_23 : decode cX8_end 23 = .ok (.goto 4, 3) := by decide +kernel
theorem dX8_end_26 : decode cX8_end 26 = .ok (.iconst 2, 1) := by decide +kernel
theorem dX8_end_27 : decode cX8_end 27 = .ok (.putfield 103, 3) := by decide +kernel
theorem dX8_end_30 : decode cX8_end 30 = .ok (.aload_n 0, 1) := by decide +kernel
theorem dX8_end_31 : decode cX8_end 31 = .ok (.getfield 103, 3) := by decide +kernel
theorem dX8_end_34 : decode cX8_end 34 = .ok (.ifCond .eq 5, 3) := by decide +kernel
theorem dX8_end_37 : decode cX8_end 37 = .ok (.iconst 0, 1) := by decide +kernel
theorem dX8_end_38 : decode cX8_end 38 = .ok (.ireturn, 1) := by decide +kernel
theorem dX8_end_39 : decode cX8_end 39 = .ok (.aload_n 0, 1) := by decide +kernel
theorem dX8_end_40 : decode cX8_end 40 = .ok (.invokevirtual 150, 3) := by decide +kernel
theorem dX8_end_43 : decode cX8_end 43 = .ok (.iload_n 2, 1) := by decide +kernel
theorem dX8_end_44 : decode cX8_end 44 = .ok (.tableswitch 56 0 2 #[28, 35, 41], 28) := by decide +kernel
theorem dX8_end_72 : decode cX8_end 72 = .ok (.aload_n 0, 1) := by decide +kernel
theorem dX8_end_73 : decode cX8_end 73 = .ok (.getfield 63, 3) := by decide +kernel
theorem dX8_end_76 : decode cX8_end 76 = .ok (.iload_n 1, 1) := by decide +kernel
theorem dX8_end_77 : decode cX8_end 77 = .ok (.iaload, 1) := by decide +kernel
theorem dX8_end_78 : decode cX8_end 78 = .ok (.ireturn, 1) := by decide +kernel
theorem dX8_end_79 : decode cX8_end 79 = .ok (.aload_n 0, 1) := by decide +kernel
theorem dX8_end_80 : decode cX8_end 80 = .ok (.iload_n 1, 1) := by decide +kernel
theorem dX8_end_81 : decode cX8_end 81 = .ok (.invokevirtual 176, 3) := by decide +kernel
theorem dX8_end_84 : decode cX8_end 84 = .ok (.ireturn, 1) := by decide +kernel
theorem dX8_end_85 : decode cX8_end 85 = .ok (.aload_n 0, 1) := by decide +kernel
theorem dX8_end_86 : decode cX8_end 86 = .ok (.getfield 66, 3) := by decide +kernel
theorem dX8_end_89 : decode cX8_end 89 = .ok (.iload_n 1, 1) := by decide +kernel
theorem dX8_end_90 : decode cX8_end 90 = .ok (.baload, 1) := by decide +kernel
theorem dX8_end_91 : decode cX8_end 91 = .ok (.ifCond .eq 7, 3) := by decide +kernel
theorem dX8_end_94 : decode cX8_end 94 = .ok (.iconst 1, 1) := by decide +kernel
theorem dX8_end_95 : decode cX8_end 95 = .ok (.goto 4, 3) := by decide +kernel
theorem dX8_end_98 : decode cX8_end 98 = .ok (.iconst 0, 1) := by decide +kernel
theorem dX8_end_99 : decode cX8_end 99 = .ok (.ireturn, 1) := by decide +kernel
theorem dX8_end_100 : decode cX8_end 100 = .ok (.aload_n 0, 1) := by decide +kernel
theorem dX8_end_101 : decode cX8_end 101 = .ok (.getfield 69, 3) := by decide +kernel
theorem dX8_end_104 : decode cX8_end 104 = .ok (.iload_n 1, 1) := by decide +kernel
theorem dX8_end_105 : decode cX8_end 105 = .ok (.baload, 1) := by decide +kernel
theorem dX8_end_106 : decode cX8_end 106 = .ok (.ifCond .eq 7, 3) := by decide +kernel
theorem dX8_end_109 : decode cX8_end 109 = .ok (.iconst 1, 1) := by decide +kernel
theorem dX8_end_110 : decode cX8_end 110 = .ok (.goto 4, 3) := by decide +kernel
theorem dX8_end_113 : decode cX8_end 113 = .ok (.iconst 0, 1) := by decide +kernel
theorem dX8_end_114 : decode cX8_end 114 = .ok (.ireturn, 1) := by decide +kernel
theorem dX8_sumOfPadding_0 : decode cX8_sumOfPadding 0 = .ok (.iconst 0, 1) := by decide +kernel
theorem dX8_sumOfPadding_1 : decode cX8_sumOfPadding 1 = .ok (.istore_n 1, 1) := by decide +kernel
theorem dX8_sumOfPadding_2 : decode cX8_sumOfPadding 2 = .ok (.iconst 0, 1) := by decide +kernel
theorem dX8_sumOfPadding_3 : decode cX8_sumOfPadding 3 = .ok (.istore_n 2, 1) := by decide +kernel
theorem dX8_sumOfPadding_4 : decode cX8_sumOfPadding 4 = .ok (.iload_n 2, 1) := by decide +kernel
theorem dX8_sumOfPadding_5 : decode cX8_sumOfPadding 5 = .ok (.aload_n 0, 1) := by decide +kernel
theorem dX8_sumOfPadding_6 : decode cX8_sumOfPadding 6 = .ok (.getfield 106, 3) := by decide +kernel
theorem dX8_sumOfPadding_9 : decode cX8_sumOfPadding 9 = .ok (.if_icmp .ge 18, 3) := by decide +kernel
theorem dX8_sumOfPadding_12 : decode cX8_sumOfPadding 12 = .ok (.iload_n 1, 1) := by decide +kernel
theorem dX8_sumOfPadding_13 : decode cX8_sumOfPadding 13 = .ok (.aload_n 0, 1) := by decide +kernel
theorem dX8_sumOfPadding_14 : decode cX8_sumOfPadding 14 = .ok (.getfield 60, 3) := by decide +kernel
theorem dX8_sumOfPadding_17 : decode cX8_sumOfPadding 17 = .ok (.iload_n 2, 1) := by decide +kernel
theorem dX8_sumOfPadding_18 : decode cX8_sumOfPadding 18 = .ok (.iaload, 1) := by decide +kernel
theorem dX8_sumOfPadding_19 : decode cX8_sumOfPadding 19 = .ok (.iadd, 1) := by decide +kernel
theorem dX8_sumOfPadding_20 : decode cX8_sumOfPadding 20 = .ok (.istore_n 1, 1) := by decide +kernel
theorem dX8_sumOfPadding_21 : decode cX8_sumOfPadding 21 = .ok (.iinc 2 1, 3) := by decide +kernel
theorem dX8_sumOfPadding_24 : decode cX8_sumOfPadding 24 = .ok (.goto (-20), 3) := by decide +kernel
theorem dX8_sumOfPadding_27 : decode cX8_sumOfPadding 27 = .ok (.iload_n 1, 1) := by decide +kernel
theorem dX8_sumOfPadding_28 : decode cX8_sumOfPadding 28 = .ok (.ireturn, 1) := by decide +kernel
theorem dX8_longOnes_0 : decode cX8_longOnes 0 = .ok (.iconst 0, 1) := by decide +kernel
theorem dX8_longOnes_1 : decode cX8_longOnes 1 = .ok (.istore_n 1, 1) := by decide +kernel
theorem dX8_longOnes_2 : decode cX8_longOnes 2 = .ok (.iconst 0, 1) := by decide +kernel
theorem dX8_longOnes_3 : decode cX8_longOnes 3 = .ok (.istore_n 2, 1) := by decide +kernel
theorem dX8_longOnes_4 : decode cX8_longOnes 4 = .ok (.iload_n 2, 1) := by decide +kernel
theorem dX8_longOnes_5 : decode cX8_longOnes 5 = .ok (.aload_n 0, 1) := by decide +kernel
theorem dX8_longOnes_6 : decode cX8_longOnes 6 = .ok (.getfield 106, 3) := by decide +kernel
theorem dX8_longOnes_9 : decode cX8_longOnes 9 = .ok (.if_icmp .ge 41, 3) := by decide +kernel
theorem dX8_longOnes_12 : decode cX8_longOnes 12 = .ok (.iload_n 1, 1) := by decide +kernel
theorem dX8_longOnes_13 : decode cX8_longOnes 13 = .ok (.aload_n 0, 1) := by decide +kernel
theorem dX8_longOnes_14 : decode cX8_longOnes 14 = .ok (.getfield 66, 3) := by decide +kernel
theorem dX8_longOnes_17 : decode cX8_longOnes 17 = .ok (.iload_n 2, 1) := by decide +kernel
theorem dX8_longOnes_18 : decode cX8_longOnes 18 = .ok (.baload, 1) := by decide +kernel
theorem dX8_longOnes_19 : decode cX8_longOnes 19 = .ok (.ifCond .eq 7, 3) := by decide +kernel
theorem dX8_longOnes_22 : decode cX8_longOnes 22 = .ok (.iconst 1, 1) := by decide +kernel
theorem dX8_longOnes_23 : decode cX8_longOnes 23 = .ok (.goto 4, 3) := by decide +kernel
theorem dX8_longOnes_26 : decode cX8_longOnes 26 = .ok (.iconst 0, 1) := by decide +kernel
theorem dX8_longOnes_27 : decode cX8_longOnes 27 = .ok (.aload_n 0, 1) := by decide +kernel
theorem dX8_longOnes_28 : decode cX8_longOnes 28 = .ok (.getfield 69, 3) := by decide +kernel
theorem dX8_longOnes_31 : decode cX8_longOnes 31 = .ok (.iload_n 2, 1) := by decide +kernel
theorem dX8_longOnes_32 : decode cX8_longOnes 32 = .ok (.baload, 1) := by decide +kernel
theorem dX8_longOnes_33 : decode cX8_longOnes 33 = .ok (.ifCond .eq 7, 3) := by decide +kernel
theorem dX8_longOnes_36 : decode cX8_longOnes 36 = .ok (.iconst 1, 1) := by decide +kernel
theorem dX8_longOnes_37 : decode cX8_longOnes 37 = .ok (.goto 4, 3) := by decide +kernel
theorem dX8_longOnes_40 : decode cX8_longOnes 40 = .ok (.iconst 0, 1) := by decide +kernel
theorem dX8_longOnes_41 : decode cX8_longOnes 41 = .ok (.iadd, 1) := by decide +kernel
theorem dX8_longOnes_42 : decode cX8_longOnes 42 = .ok (.iadd, 1) := by decide +kernel
theorem dX8_longOnes_43 : decode cX8_longOnes 43 = .ok (.istore_n 1, 1) := by decide +kernel
theorem dX8_longOnes_44 : decode cX8_longOnes 44 = .ok (.iinc 2 1, 3) := by decide +kernel
theorem dX8_longOnes_47 : decode cX8_longOnes 47 = .ok (.goto (-43), 3) := by decide +kernel
theorem dX8_longOnes_50 : decode cX8_longOnes 50 = .ok (.iload_n 1, 1) := by decide +kernel
theorem dX8_longOnes_51 : decode cX8_longOnes 51 = .ok (.ireturn, 1) := by decide +kernel
theorem dX8_invertedOnes_0 : decode cX8_invertedOnes 0 = .ok (.iconst 0, 1) := by decide +kernel
theorem dX8_invertedOnes_1 : decode cX8_invertedOnes 1 = .ok (.istore_n 1, 1) := by decide +kernel
theorem dX8_invertedOnes_2 : decode cX8_invertedOnes 2 = .ok (.iconst 0, 1) := by decide +kernel
theorem dX8_invertedOnes_3 : decode cX8_invertedOnes 3 = .ok (.istore_n 2, 1) := by decide +kernel
theorem dX8_invertedOnes_4 : decode cX8_invertedOnes 4 = .ok (.iload_n 2, 1) := by decide +kernel
theorem dX8_invertedOnes_5 : decode cX8_invertedOnes 5 = .ok (.aload_n 0, 1) := by decide +kernel
theorem dX8_invertedOnes_6 : decode cX8_invertedOnes 6 = .ok (.getfield 106, 3) := by decide +kernel
theorem dX8_invertedOnes_9 : decode cX8_invertedOnes 9 = .ok (.if_icmp .ge 27, 3) := by decide +kernel
theorem dX8_invertedOnes_12 : decode cX8_invertedOnes 12 = .ok (.iload_n 1, 1) := by decide +kernel
theorem dX8_invertedOnes_13 : decode cX8_invertedOnes 13 = .ok (.aload_n 0, 1) := by decide +kernel
theorem dX8_invertedOnes_14 : decode cX8_invertedOnes 14 = .ok (.getfield 63, 3) := by decide +kernel
theorem dX8_invertedOnes_17 : decode cX8_invertedOnes 17 = .ok (.iload_n 2, 1) := by decide +kernel
theorem dX8_invertedOnes_18 : decode cX8_invertedOnes 18 = .ok (.iaload, 1) := by decide +kernel
theorem dX8_invertedOnes_19 : decode cX8_invertedOnes 19 = .ok (.iconst 3, 1) := by decide +kernel
theorem dX8_invertedOnes_20 : decode cX8_invertedOnes 20 = .ok (.if_icmp .ne 7, 3) := by decide +kernel
theorem dX8_invertedOnes_23 : decode cX8_invertedOnes 23 = .ok (.iconst 1, 1) := by decide +kernel
theorem dX8_invertedOnes_24 : decode cX8_invertedOnes 24 = .ok (.goto 4, 3) := by decide +kernel
theorem dX8_invertedOnes_27 : decode cX8_invertedOnes 27 = .ok (.iconst 0, 1) := by decide +kernel
theorem dX8_invertedOnes_28 : decode cX8_invertedOnes 28 = .ok (.iadd, 1) := by decide +kernel
theorem dX8_invertedOnes_29 : decode cX8_invertedOnes 29 = .ok (.istore_n 1, 1) := by decide +kernel
theorem dX8_invertedOnes_30 : decode cX8_invertedOnes 30 = .ok (.iinc 2 1, 3) := by decide +kernel
theorem dX8_invertedOnes_33 : decode cX8_invertedOnes 33 = .ok (.goto (-29), 3) := by decide +kernel
theorem dX8_invertedOnes_36 : decode cX8_invertedOnes 36 = .ok (.iload_n 1, 1) := by decide +kernel
theorem dX8_invertedOnes_37 : decode cX8_invertedOnes 37 = .ok (.ireturn, 1) := by decide +kernel
theorem dX8_layout_0 : decode cX8_layout 0 = .ok (.aload_n 0, 1) := by decide +kernel
theorem dX8_layout_1 : decode cX8_layout 1 = .ok (.iload_n 1, 1) := by decide +kernel
theorem dX8_layout_2 : decode cX8_layout 2 = .ok (.iconst 0, 1) := by decide +kernel
theorem dX8_layout_3 : decode cX8_layout 3 = .ok (.bipush 8, 2) := by decide +kernel
theorem dX8_layout_5 : decode cX8_layout 5 = .ok (.invokestatic 109, 3) := by decide +kernel
theorem dX8_layout_8 : decode cX8_layout 8 = .ok (.ifCond .eq 7, 3) := by decide +kernel
theorem dX8_layout_11 : decode cX8_layout 11 = .ok (.iconst 0, 1) := by decide +kernel
theorem dX8_layout_12 : decode cX8_layout 12 = .ok (.goto 4, 3) := by decide +kernel
theorem dX8_layout_15 : decode cX8_layout 15 = .ok (.iconst 1, 1) := by decide +kernel
theorem dX8_layout_16 : decode cX8_layout 16 = .ok (.putfield 103, 3) := by decide +kernel
theorem dX8_layout_19 : decode cX8_layout 19 = .ok (.aload_n 0, 1) := by decide +kernel
theorem dX8_layout_20 : decode cX8_layout 20 = .ok (.getfield 103, 3) := by decide +kernel
theorem dX8_layout_23 : decode cX8_layout 23 = .ok (.ifCond .eq 5, 3) := by decide +kernel
theorem dX8_layout_26 : decode cX8_layout 26 = .ok (.iconst 0, 1) := by decide +kernel
theorem dX8_layout_27 : decode cX8_layout 27 = .ok (.ireturn, 1) := by decide +kernel
theorem dX8_layout_28 : decode cX8_layout 28 = .ok (.aload_n 0, 1) := by decide +kernel
theorem dX8_layout_29 : decode cX8_layout 29 = .ok (.invokevirtual 150, 3) := by decide +kernel
theorem dX8_layout_32 : decode cX8_layout 32 = .ok (.iload_n 1, 1) := by decide +kernel
theorem dX8_layout_33 : decode cX8_layout 33 = .ok (.tableswitch 91 0 7 #[47, 52, 57, 62, 67, 72, 81, 86], 47) := by decide +kernel
theorem dX8_layout_80 : decode cX8_layout 80 = .ok (.aload_n 0, 1) := by decide +kernel
theorem dX8_layout_81 : decode cX8_layout 81 = .ok (.getfield 179, 3) := by decide +kernel
theorem dX8_layout_84 : decode cX8_layout 84 = .ok (.ireturn, 1) := by decide +kernel
theorem dX8_layout_85 : decode cX8_layout 85 = .ok (.aload_n 0, 1) := by decide +kernel
theorem dX8_layout_86 : decode cX8_layout 86 = .ok (.getfield 182, 3) := by decide +kernel
theorem dX8_layout_89 : decode cX8_layout 89 = .ok (.ireturn, 1) := by decide +kernel
theorem dX8_layout_90 : decode cX8_layout 90 = .ok (.aload_n 0, 1) := by decide +kernel
theorem dX8_layout_91 : decode cX8_layout 91 = .ok (.getfield 113, 3) := by decide +kernel
theorem dX8_layout_94 : decode cX8_layout 94 = .ok (.ireturn, 1) := by decide +kernel
theorem dX8_layout_95 : decode cX8_layout 95 = .ok (.aload_n 0, 1) := by decide +kernel
theorem dX8_layout_96 : decode cX8_layout 96 = .ok (.invokevirtual 268, 3) := by decide +kernel
theorem dX8_layout_99 : decode cX8_layout 99 = .ok (.ireturn, 1) := by decide +kernel
theorem dX8_layout_100 : decode cX8_layout 100 = .ok (.aload_n 0, 1) := by decide +kernel
theorem dX8_layout_101 : decode cX8_layout 101 = .ok (.invokevirtual 271, 3) := by decide +kernel
theorem dX8_layout_104 : decode cX8_layout 104 = .ok (.ireturn, 1) := by decide +kernel
theorem dX8_layout_105 : decode cX8_layout 105 = .ok (.aload_n 0, 1) := by decide +kernel
theorem dX8_layout_106 : decode cX8_layout 106 = .ok (.aload_n 0, 1) := by decide +kernel
theorem dX8_layout_107 : decode cX8_layout 107 = .ok (.getfield 106, 3) := by decide +kernel
theorem dX8_layout_110 : decode cX8_layout 110 = .ok (.invokevirtual 265, 3) := by decide +kernel
theorem dX8_layout_113 : decode cX8_layout 113 = .ok (.ireturn, 1) := by decide +kernel
theorem dX8_layout_114 : decode cX8_layout 114 = .ok (.aload_n 0, 1) := by decide +kernel
theorem dX8_layout_115 : decode cX8_layout 115 = .ok (.invokevirtual 274, 3) := by decide +kernel
theorem dX8_layout_118 : decode cX8_layout 118 = .ok (.ireturn, 1) := by decide +kernel
theorem dX8_layout_119 : decode cX8_layout 119 = .ok (.aload_n 0, 1) := by decide +kernel
theorem dX8_layout_120 : decode cX8_layout 120 = .ok (.getfield 7, 3) := by decide +kernel
theorem dX8_layout_123 : decode cX8_layout 123 = .ok (.ireturn, 1) := by decide +kernel
theorem dX8_layout_124 : decode cX8_layout 124 = .ok (.aload_n 0, 1) := by decide +kernel
theorem dX8_layout_125 : decode cX8_layout 125 = .ok (.getfield 13, 3) := by decide +kernel
theorem dX8_layout_128 : decode cX8_layout 128 = .ok (.ireturn, 1) := by decide +kernel
theorem dX8_through_0 : decode cX8_through 0 = .ok (.aload_n 0, 1) := by decide +kernel
theorem dX8_through_1 : decode cX8_through 1 = .ok (.iload_n 1, 1) := by decide +kernel
theorem dX8_through_2 : decode cX8_through 2 = .ok (.iload_n 2, 1) := by decide +kernel
theorem dX8_through_3 : decode cX8_through 3 = .ok (.invokevirtual 156, 3) := by decide +kernel
theorem dX8_through_6 : decode cX8_through 6 = .ok (.tableswitch 51 0 3 #[30, 51, 37, 44], 30) := by decide +kernel
theorem dX8_through_36 : decode cX8_through 36 = .ok (.aload_n 0, 1) := by decide +kernel
theorem dX8_through_37 : decode cX8_through 37 = .ok (.getfield 35, 3) := by decide +kernel
theorem dX8_through_40 : decode cX8_through 40 = .ok (.iload_n 1, 1) := by decide +kernel
theorem dX8_through_41 : decode cX8_through 41 = .ok (.iaload, 1) := by decide +kernel
theorem dX8_through_42 : decode cX8_through 42 = .ok (.ireturn, 1) := by decide +kernel
theorem dX8_through_43 : decode cX8_through 43 = .ok (.aload_n 0, 1) := by decide +kernel
theorem dX8_through_44 : decode cX8_through 44 = .ok (.getfield 38, 3) := by decide +kernel
theorem dX8_through_47 : decode cX8_through 47 = .ok (.iload_n 1, 1) := by decide +kernel
theorem dX8_through_48 : decode cX8_through 48 = .ok (.iaload, 1) := by decide +kernel
theorem dX8_through_49 : decode cX8_through 49 = .ok (.ireturn, 1) := by decide +kernel
theorem dX8_through_50 : decode cX8_through 50 = .ok (.aload_n 0, 1) := by decide +kernel
theorem dX8_through_51 : decode cX8_through 51 = .ok (.getfield 35, 3) := by decide +kernel
theorem dX8_through_54 : decode cX8_through 54 = .ok (.iload_n 1, 1) := by decide +kernel
theorem dX8_through_55 : decode cX8_through 55 = .ok (.iaload, 1) := by decide +kernel
theorem dX8_through_56 : decode cX8_through 56 = .ok (.ireturn, 1) := by decide +kernel
theorem dX8_through_57 : decode cX8_through 57 = .ok (.iconst 0, 1) := by decide +kernel
theorem dX8_through_58 : decode cX8_through 58 = .ok (.ireturn, 1) := by decide +kernel
theorem dX8_cyclesNow_0 : decode cX8_cyclesNow 0 = .ok (.aload_n 0, 1) := by decide +kernel
theorem dX8_cyclesNow_1 : decode cX8_cyclesNow 1 = .ok (.invokevirtual 150, 3) := by decide +kernel
theorem dX8_cyclesNow_4 : decode cX8_cyclesNow 4 = .ok (.aload_n 0, 1) := by decide +kernel
theorem dX8_cyclesNow_5 : decode cX8_cyclesNow 5 = .ok (.aload_n 0, 1) := by decide +kernel
theorem dX8_cyclesNow_6 : decode cX8_cyclesNow 6 = .ok (.getfield 106, 3) := by decide +kernel
theorem dX8_cyclesNow_9 : decode cX8_cyclesNow 9 = .ok (.invokevirtual 265, 3) := by decide +kernel
theorem dX8_cyclesNow_12 : decode cX8_cyclesNow 12 = .ok (.istore_n 1, 1) := by decide +kernel
theorem dX8_cyclesNow_13 : decode cX8_cyclesNow 13 = .ok (.iconst 0, 1) := by decide +kernel
theorem dX8_cyclesNow_14 : decode cX8_cyclesNow 14 = .ok (.istore_n 2, 1) := by decide +kernel
theorem dX8_cyclesNow_15 : decode cX8_cyclesNow 15 = .ok (.iload_n 2, 1) := by decide +kernel
theorem dX8_cyclesNow_16 : decode cX8_cyclesNow 16 = .ok (.aload_n 0, 1) := by decide +kernel
theorem dX8_cyclesNow_17 : decode cX8_cyclesNow 17 = .ok (.getfield 106, 3) := by decide +kernel
theorem dX8_cyclesNow_20 : decode cX8_cyclesNow 20 = .ok (.if_icmp .ge 41, 3) := by decide +kernel
theorem dX8_cyclesNow_23 : decode cX8_cyclesNow 23 = .ok (.aload_n 0, 1) := by decide +kernel
theorem dX8_cyclesNow_24 : decode cX8_cyclesNow 24 = .ok (.iload_n 2, 1) := by decide +kernel
theorem dX8_cyclesNow_25 : decode cX8_cyclesNow 25 = .ok (.invokevirtual 153, 3) := by decide +kernel
theorem dX8_cyclesNow_28 : decode cX8_cyclesNow 28 = .ok (.istore_n 3, 1) := by decide +kernel
theorem dX8_cyclesNow_29 : decode cX8_cyclesNow 29 = .ok (.iload_n 1, 1) := by decide +kernel
theorem dX8_cyclesNow_30 : decode cX8_cyclesNow 30 = .ok (.iload_n 3, 1) := by decide +kernel
theorem dX8_cyclesNow_31 : decode cX8_cyclesNow 31 = .ok (.ifCond .lt 21, 3) := by decide +kernel
theorem dX8_cyclesNow_34 : decode cX8_cyclesNow 34 = .ok (.aload_n 0, 1) := by decide +kernel
theorem dX8_cyclesNow_35 : decode cX8_cyclesNow 35 = .ok (.getfield 60, 3) := by decide +kernel
theorem dX8_cyclesNow_38 : decode cX8_cyclesNow 38 = .ok (.iload_n 3, 1) := by decide +kernel
theorem dX8_cyclesNow_39 : decode cX8_cyclesNow 39 = .ok (.iaload, 1) := by decide +kernel
theorem dX8_cyclesNow_40 : decode cX8_cyclesNow 40 = .ok (.ifCond .le 12, 3) := by decide +kernel
theorem dX8_cyclesNow_43 : decode cX8_cyclesNow 43 = .ok (.aload_n 0, 1) := by decide +kernel
theorem dX8_cyclesNow_44 : decode cX8_cyclesNow 44 = .ok (.iload_n 2, 1) := by decide +kernel
theorem dX8_cyclesNow_45 : decode cX8_cyclesNow 45 = .ok (.iload_n 3, 1) := by decide +kernel
theorem dX8_cyclesNow_46 : decode cX8_cyclesNow 46 = .ok (.invokevirtual 277, 3) := by decide +kernel
theorem dX8_cyclesNow_49 : decode cX8_cyclesNow 49 = .ok (.goto 4, 3) := by decide +kernel
theorem dX8_cyclesNow_52 : decode cX8_cyclesNow 52 = .ok (.iconst 0, 1) := by decide +kernel
theorem dX8_cyclesNow_53 : decode cX8_cyclesNow 53 = .ok (.iadd, 1) := by decide +kernel
theorem dX8_cyclesNow_54 : decode cX8_cyclesNow 54 = .ok (.istore_n 1, 1) := by decide +kernel
theorem dX8_cyclesNow_55 : decode cX8_cyclesNow 55 = .ok (.iinc 2 1, 3) := by decide +kernel
theorem dX8_cyclesNow_58 : decode cX8_cyclesNow 58 = .ok (.goto (-43), 3) := by decide +kernel
theorem dX8_cyclesNow_61 : decode cX8_cyclesNow 61 = .ok (.iload_n 1, 1) := by decide +kernel
theorem dX8_cyclesNow_62 : decode cX8_cyclesNow 62 = .ok (.ireturn, 1) := by decide +kernel
theorem dX8_cycles_0 : decode cX8_cycles 0 = .ok (.aload_n 0, 1) := by decide +kernel
theorem dX8_cycles_1 : decode cX8_cycles 1 = .ok (.iconst 0, 1) := by decide +kernel
theorem dX8_cycles_2 : decode cX8_cycles 2 = .ok (.putfield 103, 3) := by decide +kernel
theorem dX8_cycles_5 : decode cX8_cycles 5 = .ok (.aload_n 0, 1) := by decide +kernel
theorem dX8_cycles_6 : decode cX8_cycles 6 = .ok (.invokevirtual 280, 3) := by decide +kernel
theorem dX8_cycles_9 : decode cX8_cycles 9 = .ok (.ireturn, 1) := by decide +kernel
theorem dX8_meanCycles_0 : decode cX8_meanCycles 0 = .ok (.aload_n 0, 1) := by decide +kernel
theorem dX8_meanCycles_1 : decode cX8_meanCycles 1 = .ok (.invokevirtual 160, 3) := by decide +kernel
theorem dX8_meanCycles_4 : decode cX8_meanCycles 4 = .ok (.istore_n 1, 1) := by decide +kernel
theorem dX8_meanCycles_5 : decode cX8_meanCycles 5 = .ok (.aload_n 0, 1) := by decide +kernel
theorem dX8_meanCycles_6 : decode cX8_meanCycles 6 = .ok (.iload_n 1, 1) := by decide +kernel
theorem dX8_meanCycles_7 : decode cX8_meanCycles 7 = .ok (.ifCond .ne 7, 3) := by decide +kernel
theorem dX8_meanCycles_10 : decode cX8_meanCycles 10 = .ok (.iconst 1, 1) := by decide +kernel
theorem dX8_meanCycles_11 : decode cX8_meanCycles 11 = .ok (.goto 4, 3) := by decide +kernel
theorem dX8_meanCycles_14 : decode cX8_meanCycles 14 = .ok (.iconst 0, 1) := by decide +kernel
theorem dX8_meanCycles_15 : decode cX8_meanCycles 15 = .ok (.putfield 103, 3) := by decide +kernel
theorem dX8_meanCycles_18 : decode cX8_meanCycles 18 = .ok (.aload_n 0, 1) := by decide +kernel
theorem dX8_meanCycles_19 : decode cX8_meanCycles 19 = .ok (.getfield 103, 3) := by decide +kernel
theorem dX8_meanCycles_22 : decode cX8_meanCycles 22 = .ok (.ifCond .ne 14, 3) := by decide +kernel
theorem dX8_meanCycles_25 : decode cX8_meanCycles 25 = .ok (.aload_n 0, 1) := by decide +kernel
theorem dX8_meanCycles_26 : decode cX8_meanCycles 26 = .ok (.invokevirtual 280, 3) := by decide +kernel
theorem dX8_meanCycles_29 : decode cX8_meanCycles 29 = .ok (.i2d, 1) := by decide +kernel
theorem dX8_meanCycles_30 : decode cX8_meanCycles 30 = .ok (.iload_n 1, 1) := by decide +kernel
theorem dX8_meanCycles_31 : decode cX8_meanCycles 31 = .ok (.i2d, 1) := by decide +kernel
theorem dX8_meanCycles_32 : decode cX8_meanCycles 32 = .ok (.ddiv, 1) := by decide +kernel
theorem dX8_meanCycles_33 : decode cX8_meanCycles 33 = .ok (.goto 4, 3) := by decide +kernel
theorem dX8_meanCycles_36 : decode cX8_meanCycles 36 = .ok (.dconst 0, 1) := by decide +kernel
theorem dX8_meanCycles_37 : decode cX8_meanCycles 37 = .ok (.dreturn, 1) := by decide +kernel
theorem dX8_bestAlignment_0 : decode cX8_bestAlignment 0 = .ok (.aload_n 0, 1) := by decide +kernel
theorem dX8_bestAlignment_1 : decode cX8_bestAlignment 1 = .ok (.iconst 0, 1) := by decide +kernel
theorem dX8_bestAlignment_2 : decode cX8_bestAlignment 2 = .ok (.putfield 103, 3) := by decide +kernel
theorem dX8_bestAlignment_5 : decode cX8_bestAlignment 5 = .ok (.aload_n 0, 1) := by decide +kernel
theorem dX8_bestAlignment_6 : decode cX8_bestAlignment 6 = .ok (.getfield 7, 3) := by decide +kernel
theorem dX8_bestAlignment_9 : decode cX8_bestAlignment 9 = .ok (.istore_n 1, 1) := by decide +kernel
theorem dX8_bestAlignment_10 : decode cX8_bestAlignment 10 = .ok (.iconst 0, 1) := by decide +kernel
theorem dX8_bestAlignment_11 : decode cX8_bestAlignment 11 = .ok (.istore_n 2, 1) := by decide +kernel
theorem dX8_bestAlignment_12 : decode cX8_bestAlignment 12 = .ok (.iconst 0, 1) := by decide +kernel
theorem dX8_bestAlignment_13 : decode cX8_bestAlignment 13 = .ok (.istore_n 3, 1) := by decide +kernel
theorem dX8_bestAlignment_14 : decode cX8_bestAlignment 14 = .ok (.iconst 0, 1) := by decide +kernel
theorem dX8_bestAlignment_15 : decode cX8_bestAlignment 15 = .ok (.istore 4, 2) := by decide +kernel
theorem dX8_bestAlignment_17 : decode cX8_bestAlignment 17 = .ok (.iconst 1, 1) := by decide +kernel
theorem dX8_bestAlignment_18 : decode cX8_bestAlignment 18 = .ok (.istore 5, 2) := by decide +kernel
theorem dX8_bestAlignment_20 : decode cX8_bestAlignment 20 = .ok (.iload 5, 2) := by decide +kernel
theorem dX8_bestAlignment_22 : decode cX8_bestAlignment 22 = .ok (.bipush 32, 2) := by decide +kernel
theorem dX8_bestAlignment_24 : decode cX8_bestAlignment 24 = .ok (.if_icmp .gt 61, 3) := by decide +kernel
theorem dX8_bestAlignment_27 : decode cX8_bestAlignment 27 = .ok (.aload_n 0, 1) := by decide +kernel
theorem dX8_bestAlignment_28 : decode cX8_bestAlignment 28 = .ok (.iload 5, 2) := by decide +kernel
theorem dX8_bestAlignment_30 : decode cX8_bestAlignment 30 = .ok (.putfield 7, 3) := by decide +kernel
theorem dX8_bestAlignment_33 : decode cX8_bestAlignment 33 = .ok (.aload_n 0, 1) := by decide +kernel
theorem dX8_bestAlignment_34 : decode cX8_bestAlignment 34 = .ok (.invokevirtual 280, 3) := by decide +kernel
theorem dX8_bestAlignment_37 : decode cX8_bestAlignment 37 = .ok (.istore 6, 2) := by decide +kernel
theorem dX8_bestAlignment_39 : decode cX8_bestAlignment 39 = .ok (.iload_n 2, 1) := by decide +kernel
theorem dX8_bestAlignment_40 : decode cX8_bestAlignment 40 = .ok (.ifCond .eq 24, 3) := by decide +kernel
theorem dX8_bestAlignment_43 : decode cX8_bestAlignment 43 = .ok (.iload 6, 2) := by decide +kernel
theorem dX8_bestAlignment_45 : decode cX8_bestAlignment 45 = .ok (.iload_n 3, 1) := by decide +kernel
theorem dX8_bestAlignment_46 : decode cX8_bestAlignment 46 = .ok (.if_icmp .lt 18, 3) := by decide +kernel
theorem dX8_bestAlignment_49 : decode cX8_bestAlignment 49 = .ok (.iload 6, 2) := by decide +kernel
theorem dX8_bestAlignment_51 : decode cX8_bestAlignment 51 = .ok (.iload_n 3, 1) := by decide +kernel
theorem dX8_bestAlignment_52 : decode cX8_bestAlignment 52 = .ok (.if_icmp .ne 24, 3) := by decide +kernel
theorem dX8_bestAlignment_55 : decode cX8_bestAlignment 55 = .ok (.aload_n 0, 1) := by decide +kernel
theorem dX8_bestAlignment_56 : decode cX8_bestAlignment 56 = .ok (.getfield 182, 3) := by decide +kernel
theorem dX8_bestAlignment_59 : decode cX8_bestAlignment 59 = .ok (.iload 4, 2) := by decide +kernel
theorem dX8_bestAlignment_61 : decode cX8_bestAlignment 61 = .ok (.if_icmp .ge 15, 3) := by decide +kernel
theorem dX8_bestAlignment_64 : decode cX8_bestAlignment 64 = .ok (.iload 5, 2) := by decide +kernel
theorem dX8_bestAlignment_66 : decode cX8_bestAlignment 66 = .ok (.istore_n 2, 1) := by decide +kernel
theorem dX8_bestAlignment_67 : decode cX8_bestAlignment 67 = .ok (.iload 6, 2) := by decide +kernel
theorem dX8_bestAlignment_69 : decode cX8_bestAlignment 69 = .ok (.istore_n 3, 1) := by decide +kernel
theorem dX8_bestAlignment_70 : decode cX8_bestAlignment 70 = .ok (.aload_n 0, 1) := by decide +kernel
theorem dX8_bestAlignment_71 : decode cX8_bestAlignment 71 = .ok (.getfield 182, 3) := by decide +kernel
theorem dX8_bestAlignment_74 : decode cX8_bestAlignment 74 = .ok (.istore 4, 2) := by decide +kernel
theorem dX8_bestAlignment_76 : decode cX8_bestAlignment 76 = .ok (.iload 5, 2) := by decide +kernel
theorem dX8_bestAlignment_78 : decode cX8_bestAlignment 78 = .ok (.iconst 2, 1) := by decide +kernel
theorem dX8_bestAlignment_79 : decode cX8_bestAlignment 79 = .ok (.imul, 1) := by decide +kernel
theorem dX8_bestAlignment_80 : decode cX8_bestAlignment 80 = .ok (.istore 5, 2) := by decide +kernel
theorem dX8_bestAlignment_82 : decode cX8_bestAlignment 82 = .ok (.goto (-62), 3) := by decide +kernel
theorem dX8_bestAlignment_85 : decode cX8_bestAlignment 85 = .ok (.aload_n 0, 1) := by decide +kernel
theorem dX8_bestAlignment_86 : decode cX8_bestAlignment 86 = .ok (.iload_n 1, 1) := by decide +kernel
theorem dX8_bestAlignment_87 : decode cX8_bestAlignment 87 = .ok (.putfield 7, 3) := by decide +kernel
theorem dX8_bestAlignment_90 : decode cX8_bestAlignment 90 = .ok (.iload_n 2, 1) := by decide +kernel
theorem dX8_bestAlignment_91 : decode cX8_bestAlignment 91 = .ok (.ireturn, 1) := by decide +kernel
theorem dX8_feed_0 : decode cX8_feed 0 = .ok (.aload_n 0, 1) := by decide +kernel
theorem dX8_feed_1 : decode cX8_feed 1 = .ok (.aload_n 0, 1) := by decide +kernel
theorem dX8_feed_2 : decode cX8_feed 2 = .ok (.getfield 283, 3) := by decide +kernel
theorem dX8_feed_5 : decode cX8_feed 5 = .ok (.bipush 60, 2) := by decide +kernel
theorem dX8_feed_7 : decode cX8_feed 7 = .ok (.if_icmp .ne 7, 3) := by decide +kernel
theorem dX8_feed_10 : decode cX8_feed 10 = .ok (.iconst 1, 1) := by decide +kernel
theorem dX8_feed_11 : decode cX8_feed 11 = .ok (.goto 4, 3) := by decide +kernel
theorem dX8_feed_14 : decode cX8_feed 14 = .ok (.iconst 0, 1) := by decide +kernel
theorem dX8_feed_15 : decode cX8_feed 15 = .ok (.putfield 103, 3) := by decide +kernel
theorem dX8_feed_18 : decode cX8_feed 18 = .ok (.aload_n 0, 1) := by decide +kernel
theorem dX8_feed_19 : decode cX8_feed 19 = .ok (.getfield 103, 3) := by decide +kernel
theorem dX8_feed_22 : decode cX8_feed 22 = .ok (.ifCond .eq 5, 3) := by decide +kernel
theorem dX8_feed_25 : decode cX8_feed 25 = .ok (.iconst 0, 1) := by decide +kernel
theorem dX8_feed_26 : decode cX8_feed 26 = .ok (.ireturn, 1) := by decide +kernel
theorem dX8_feed_27 : decode cX8_feed 27 = .ok (.aload_n 0, 1) := by decide +kernel
theorem dX8_feed_28 : decode cX8_feed 28 = .ok (.getfield 93, 3) := by decide +kernel
theorem dX8_feed_31 : decode cX8_feed 31 = .ok (.aload_n 0, 1) := by decide +kernel
theorem dX8_feed_32 : decode cX8_feed 32 = .ok (.getfield 283, 3) := by decide +kernel
theorem dX8_feed_35 : decode cX8_feed 35 = .ok (.iload_n 1, 1) := by decide +kernel
theorem dX8_feed_36 : decode cX8_feed 36 = .ok (.iastore, 1) := by decide +kernel
theorem dX8_feed_37 : decode cX8_feed 37 = .ok (.aload_n 0, 1) := by decide +kernel
theorem dX8_feed_38 : decode cX8_feed 38 = .ok (.dup, 1) := by decide +kernel
theorem dX8_feed_39 : decode cX8_feed 39 = .ok (.getfield 283, 3) := by decide +kernel
theorem dX8_feed_42 : decode cX8_feed 42 = .ok (.iconst 1, 1) := by decide +kernel
theorem dX8_feed_43 : decode cX8_feed 43 = .ok (.iadd, 1) := by decide +kernel
theorem dX8_feed_44 : decode cX8_feed 44 = .ok (.putfield 283, 3) := by decide +kernel
theorem dX8_feed_47 : decode cX8_feed 47 = .ok (.aload_n 0, 1) := by decide +kernel
theorem dX8_feed_48 : decode cX8_feed 48 = .ok (.getfield 283, 3) := by decide +kernel
theorem dX8_feed_51 : decode cX8_feed 51 = .ok (.ireturn, 1) := by decide +kernel
theorem dX8_here_0 : decode cX8_here 0 = .ok (.aload_n 0, 1) := by decide +kernel
theorem dX8_here_1 : decode cX8_here 1 = .ok (.getfield 286, 3) := by decide +kernel
theorem dX8_here_4 : decode cX8_here 4 = .ok (.aload_n 0, 1) := by decide +kernel
theorem dX8_here_5 : decode cX8_here 5 = .ok (.getfield 283, 3) := by decide +kernel
theorem dX8_here_8 : decode cX8_here 8 = .ok (.if_icmp .ge 15, 3) := by decide +kernel
theorem dX8_here_11 : decode cX8_here 11 = .ok (.aload_n 0, 1) := by decide +kernel
theorem dX8_here_12 : decode cX8_here 12 = .ok (.getfield 93, 3) := by decide +kernel
theorem dX8_here_15 : decode cX8_here 15 = .ok (.aload_n 0, 1) := by decide +kernel
theorem dX8_here_16 : decode cX8_here 16 = .ok (.getfield 286, 3) := by decide +kernel
theorem dX8_here_19 : decode cX8_here 19 = .ok (.iaload, 1) := by decide +kernel
theorem dX8_here_20 : decode cX8_here 20 = .ok (.goto 4, 3) := by decide +kernel
theorem dX8_here_23 : decode cX8_here 23 = .ok (.iconst (-1), 1) := by decide +kernel
theorem dX8_here_24 : decode cX8_here 24 = .ok (.ireturn, 1) := by decide +kernel
theorem dX8_takes_0 : decode cX8_takes 0 = .ok (.iconst 0, 1) := by decide +kernel
theorem dX8_takes_1 : decode cX8_takes 1 = .ok (.istore_n 2, 1) := by decide +kernel
theorem dX8_takes_2 : decode cX8_takes 2 = .ok (.iload_n 2, 1) := by decide +kernel
theorem dX8_takes_3 : decode cX8_takes 3 = .ok (.aload_n 1, 1) := by decide +kernel
theorem dX8_takes_4 : decode cX8_takes 4 = .ok (.invokevirtual 289, 3) := by decide +kernel
theorem dX8_takes_7 : decode cX8_takes 7 = .ok (.if_icmp .ge 33, 3) := by decide +kernel
theorem dX8_takes_10 : decode cX8_takes 10 = .ok (.aload_n 0, 1) := by decide +kernel
theorem dX8_takes_11 : decode cX8_takes 11 = .ok (.invokevirtual 293, 3) := by decide +kernel
theorem dX8_takes_14 : decode cX8_takes 14 = .ok (.aload_n 1, 1) := by decide +kernel
theorem dX8_takes_15 : decode cX8_takes 15 = .ok (.iload_n 2, 1) := by decide +kernel
theorem dX8_takes_16 : decode cX8_takes 16 = .ok (.invokevirtual 296, 3) := by decide +kernel
theorem dX8_takes_19 : decode cX8_takes 19 = .ok (.if_icmp .eq 5, 3) := by decide +kernel
theorem dX8_takes_22 : decode cX8_takes 22 = .ok (.iconst 0, 1) := by decide +kernel
theorem dX8_takes_23 : decode cX8_takes 23 = .ok (.ireturn, 1) := by decide +kernel
theorem dX8_takes_24 : decode cX8_takes 24 = .ok (.aload_n 0, 1) := by decide +kernel
theorem dX8_takes_25 : decode cX8_takes 25 = .ok (.dup, 1) := by decide +kernel
theorem dX8_takes_26 : decode cX8_takes 26 = .ok (.getfield 286, 3) := by decide +kernel
theorem dX8_takes_29 : decode cX8_takes 29 = .ok (.iconst 1, 1) := by decide +kernel
theorem dX8_takes_30 : decode cX8_takes 30 = .ok (.iadd, 1) := by decide +kernel
theorem dX8_takes_31 : decode cX8_takes 31 = .ok (.putfield 286, 3) := by decide +kernel
theorem dX8_takes_34 : decode cX8_takes 34 = .ok (.iinc 2 1, 3) := by decide +kernel
theorem dX8_takes_37 : decode cX8_takes 37 = .ok (.goto (-35), 3) := by decide +kernel
theorem dX8_takes_40 : decode cX8_takes 40 = .ok (.iconst 1, 1) := by decide +kernel
theorem dX8_takes_41 : decode cX8_takes 41 = .ok (.ireturn, 1) := by decide +kernel
theorem dX8_takesNumber_0 : decode cX8_takesNumber 0 = .ok (.aload_n 0, 1) := by decide +kernel
theorem dX8_takesNumber_1 : decode cX8_takesNumber 1 = .ok (.invokevirtual 293, 3) := by decide +kernel
theorem dX8_takesNumber_4 : decode cX8_takesNumber 4 = .ok (.bipush 48, 2) := by decide +kernel
theorem dX8_takesNumber_6 : decode cX8_takesNumber 6 = .ok (.bipush 57, 2) := by decide +kernel
theorem dX8_takesNumber_8 : decode cX8_takesNumber 8 = .ok (.invokestatic 109, 3) := by decide +kernel
theorem dX8_takesNumber_11 : decode cX8_takesNumber 11 = .ok (.ifCond .ne 5, 3) := by decide +kernel
theorem dX8_takesNumber_14 : decode cX8_takesNumber 14 = .ok (.iconst 0, 1) := by decide +kernel
theorem dX8_takesNumber_15 : decode cX8_takesNumber 15 = .ok (.ireturn, 1) := by decide +kernel
theorem dX8_takesNumber_16 : decode cX8_takesNumber 16 = .ok (.aload_n 0, 1) := by decide +kernel
theorem dX8_takesNumber_17 : decode cX8_takesNumber 17 = .ok (.iconst 0, 1) := by decide +kernel
theorem dX8_takesNumber_18 : decode cX8_takesNumber 18 = .ok (.putfield 300, 3) := by decide +kernel
theorem dX8_takesNumber_21 : decode cX8_takesNumber 21 = .ok (.iconst 0, 1) := by decide +kernel
theorem dX8_takesNumber_22 : decode cX8_takesNumber 22 = .ok (.istore_n 2, 1) := by decide +kernel
theorem dX8_takesNumber_23 : decode cX8_takesNumber 23 = .ok (.iload_n 2, 1) := by decide +kernel
theorem dX8_takesNumber_24 : decode cX8_takesNumber 24 = .ok (.iload_n 1, 1) := by decide +kernel
theorem dX8_takesNumber_25 : decode cX8_takesNumber 25 = .ok (.if_icmp .ge 52, 3) := by decide +kernel
theorem dX8_takesNumber_28 : decode cX8_takesNumber 28 = .ok (.aload_n 0, 1) := by decide +kernel
theorem dX8_takesNumber_29 : decode cX8_takesNumber 29 = .ok (.invokevirtual 293, 3) := by decide +kernel
theorem dX8_takesNumber_32 : decode cX8_takesNumber 32 = .ok (.bipush 48, 2) := by decide +kernel
theorem dX8_takesNumber_34 : decode cX8_takesNumber 34 = .ok (.bipush 57, 2) := by decide +kernel
theorem dX8_takesNumber_36 : decode cX8_takesNumber 36 = .ok (.invokestatic 109, 3) := by decide +kernel
theorem dX8_takesNumber_39 : decode cX8_takesNumber 39 = .ok (.ifCond .eq 38, 3) := by decide +kernel
theorem dX8_takesNumber_42 : decode cX8_takesNumber 42 = .ok (.aload_n 0, 1) := by decide +kernel
theorem dX8_takesNumber_43 : decode cX8_takesNumber 43 = .ok (.bipush 10, 2) := by decide +kernel
theorem dX8_takesNumber_45 : decode cX8_takesNumber 45 = .ok (.aload_n 0, 1) := by decide +kernel
theorem dX8_takesNumber_46 : decode cX8_takesNumber 46 = .ok (.getfield 300, 3) := by decide +kernel
theorem dX8_takesNumber_49 : decode cX8_takesNumber 49 = .ok (.imul, 1) := by decide +kernel
theorem dX8_takesNumber_50 : decode cX8_takesNumber 50 = .ok (.aload_n 0, 1) := by decide +kernel
theorem dX8_takesNumber_51 : decode cX8_takesNumber 51 = .ok (.invokevirtual 293, 3) := by decide +kernel
theorem dX8_takesNumber_54 : decode cX8_takesNumber 54 = .ok (.iadd, 1) := by decide +kernel
theorem dX8_takesNumber_55 : decode cX8_takesNumber 55 = .ok (.bipush 48, 2) := by decide +kernel
theorem dX8_takesNumber_57 : decode cX8_takesNumber 57 = .ok (.isub, 1) := by decide +kernel
theorem dX8_takesNumber_58 : decode cX8_takesNumber 58 = .ok (.putfield 300, 3) := by decide +kernel
theorem dX8_takesNumber_61 : decode cX8_takesNumber 61 = .ok (.aload_n 0, 1) := by decide +kernel
theorem dX8_takesNumber_62 : decode cX8_takesNumber 62 = .ok (.dup, 1) := by decide +kernel
theorem dX8_takesNumber_63 : decode cX8_takesNumber 63 = .ok (.getfield 286, 3) := by decide +kernel
theorem dX8_takesNumber_66 : decode cX8_takesNumber 66 = .ok (.iconst 1, 1) := by decide +kernel
theorem dX8_takesNumber_67 : decode cX8_takesNumber 67 = .ok (.iadd, 1) := by decide +kernel
theorem dX8_takesNumber_68 : decode cX8_takesNumber 68 = .ok (.putfield 286, 3) := by decide +kernel
theorem dX8_takesNumber_71 : decode cX8_takesNumber 71 = .ok (.iinc 2 1, 3) := by decide +kernel
theorem dX8_takesNumber_74 : decode cX8_takesNumber 74 = .ok (.goto (-51), 3) := by decide +kernel
theorem dX8_takesNumber_77 : decode cX8_takesNumber 77 = .ok (.iconst 1, 1) := by decide +kernel
theorem dX8_takesNumber_78 : decode cX8_takesNumber 78 = .ok (.ireturn, 1) := by decide +kernel
theorem dX8_readsIf_0 : decode cX8_readsIf 0 = .ok (.aload_n 0, 1) := by decide +kernel
theorem dX8_readsIf_1 : decode cX8_readsIf 1 = .ok (.iconst 1, 1) := by decide +kernel
theorem dX8_readsIf_2 : decode cX8_readsIf 2 = .ok (.putfield 303, 3) := by decide +kernel
theorem dX8_readsIf_5 : decode cX8_readsIf 5 = .ok (.aload_n 0, 1) := by decide +kernel
theorem dX8_readsIf_6 : decode cX8_readsIf 6 = .ok (.ldc_w 306, 3) := by decide +kernel
theorem dX8_readsIf_9 : decode cX8_readsIf 9 = .ok (.invokevirtual 308, 3) := by decide +kernel
theorem dX8_readsIf_12 : decode cX8_readsIf 12 = .ok (.ifCond .eq 11, 3) := by decide +kernel
theorem dX8_readsIf_15 : decode cX8_readsIf 15 = .ok (.aload_n 0, 1) := by decide +kernel
theorem dX8_readsIf_16 : decode cX8_readsIf 16 = .ok (.iconst 2, 1) := by decide +kernel
theorem dX8_readsIf_17 : decode cX8_readsIf 17 = .ok (.invokevirtual 312, 3) := by decide +kernel
theorem dX8_readsIf_20 : decode cX8_readsIf 20 = .ok (.ifCond .ne 5, 3) := by decide +kernel
theorem dX8_readsIf_23 : decode cX8_readsIf 23 = .ok (.iconst 0, 1) := by decide +kernel
theorem dX8_readsIf_24 : decode cX8_readsIf 24 = .ok (.ireturn, 1) := by decide +kernel
theorem dX8_readsIf_25 : decode cX8_readsIf 25 = .ok (.aload_n 0, 1) := by decide +kernel
theorem dX8_readsIf_26 : decode cX8_readsIf 26 = .ok (.aload_n 0, 1) := by decide +kernel
theorem dX8_readsIf_27 : decode cX8_readsIf 27 = .ok (.getfield 300, 3) := by decide +kernel
theorem dX8_readsIf_30 : decode cX8_readsIf 30 = .ok (.putfield 315, 3) := by decide +kernel
theorem dX8_readsIf_33 : decode cX8_readsIf 33 = .ok (.aload_n 0, 1) := by decide +kernel
theorem dX8_readsIf_34 : decode cX8_readsIf 34 = .ok (.ldc_w 318, 3) := by decide +kernel
theorem dX8_readsIf_37 : decode cX8_readsIf 37 = .ok (.invokevirtual 308, 3) := by decide +kernel
theorem dX8_readsIf_40 : decode cX8_readsIf 40 = .ok (.ifCond .eq 11, 3) := by decide +kernel
theorem dX8_readsIf_43 : decode cX8_readsIf 43 = .ok (.aload_n 0, 1) := by decide +kernel
theorem dX8_readsIf_44 : decode cX8_readsIf 44 = .ok (.iconst 2, 1) := by decide +kernel
theorem dX8_readsIf_45 : decode cX8_readsIf 45 = .ok (.invokevirtual 312, 3) := by decide +kernel
theorem dX8_readsIf_48 : decode cX8_readsIf 48 = .ok (.ifCond .ne 5, 3) := by decide +kernel
theorem dX8_readsIf_51 : decode cX8_readsIf 51 = .ok (.iconst 0, 1) := by decide +kernel
theorem dX8_readsIf_52 : decode cX8_readsIf 52 = .ok (.ireturn, 1) := by decide +kernel
theorem dX8_readsIf_53 : decode cX8_readsIf 53 = .ok (.aload_n 0, 1) := by decide +kernel
theorem dX8_readsIf_54 : decode cX8_readsIf 54 = .ok (.aload_n 0, 1) := by decide +kernel
theorem dX8_readsIf_55 : decode cX8_readsIf 55 = .ok (.getfield 300, 3) := by decide +kernel
theorem dX8_readsIf_58 : decode cX8_readsIf 58 = .ok (.putfield 320, 3) := by decide +kernel
theorem dX8_readsIf_61 : decode cX8_readsIf 61 = .ok (.aload_n 0, 1) := by decide +kernel
theorem dX8_readsIf_62 : decode cX8_readsIf 62 = .ok (.ldc_w 318, 3) := by decide +kernel
theorem dX8_readsIf_65 : decode cX8_readsIf 65 = .ok (.invokevirtual 308, 3) := by decide +kernel
theorem dX8_readsIf_68 : decode cX8_readsIf 68 = .ok (.ifCond .ne 5, 3) := by decide +kernel
theorem dX8_readsIf_71 : decode cX8_readsIf 71 = .ok (.iconst 0, 1) := by decide +kernel
theorem dX8_readsIf_72 : decode cX8_readsIf 72 = .ok (.ireturn, 1) := by decide +kernel
theorem dX8_readsIf_73 : decode cX8_readsIf 73 = .ok (.aload_n 0, 1) := by decide +kernel
theorem dX8_readsIf_74 : decode cX8_readsIf 74 = .ok (.invokevirtual 293, 3) := by decide +kernel
theorem dX8_readsIf_77 : decode cX8_readsIf 77 = .ok (.bipush 45, 2) := by decide +kernel
theorem dX8_readsIf_79 : decode cX8_readsIf 79 = .ok (.if_icmp .ne 17, 3) := by decide +kernel
theorem dX8_readsIf_82 : decode cX8_readsIf 82 = .ok (.aload_n 0, 1) := by decide +kernel
theorem dX8_readsIf_83 : decode cX8_readsIf 83 = .ok (.ldc_w 323, 3) := by decide +kernel
theorem dX8_readsIf_86 : decode cX8_readsIf 86 = .ok (.invokevirtual 308, 3) := by decide +kernel
theorem dX8_readsIf_89 : decode cX8_readsIf 89 = .ok (.ifCond .eq 7, 3) := by decide +kernel
theorem dX8_readsIf_92 : decode cX8_readsIf 92 = .ok (.iconst 1, 1) := by decide +kernel
theorem dX8_readsIf_93 : decode cX8_readsIf 93 = .ok (.goto 4, 3) := by decide +kernel
theorem dX8_readsIf_96 : decode cX8_readsIf 96 = .ok (.iconst 0, 1) := by decide +kernel
theorem dX8_readsIf_97 : decode cX8_readsIf 97 = .ok (.istore_n 1, 1) := by decide +kernel
theorem dX8_readsIf_98 : decode cX8_readsIf 98 = .ok (.aload_n 0, 1) := by decide +kernel
theorem dX8_readsIf_99 : decode cX8_readsIf 99 = .ok (.bipush 6, 2) := by decide +kernel
theorem dX8_readsIf_101 : decode cX8_readsIf 101 = .ok (.invokevirtual 312, 3) := by decide +kernel
theorem dX8_readsIf_104 : decode cX8_readsIf 104 = .ok (.ifCond .ne 5, 3) := by decide +kernel
theorem dX8_readsIf_107 : decode cX8_readsIf 107 = .ok (.iconst 0, 1) := by decide +kernel
theorem dX8_readsIf_108 : decode cX8_readsIf 108 = .ok (.ireturn, 1) := by decide +kernel
theorem dX8_readsIf_109 : decode cX8_readsIf 109 = .ok (.aload_n 0, 1) := by decide +kernel
theorem dX8_readsIf_110 : decode cX8_readsIf 110 = .ok (.iload_n 1, 1) := by decide +kernel
theorem dX8_readsIf_111 : decode cX8_readsIf 111 = .ok (.ifCond .eq 11, 3) := by decide +kernel
theorem dX8_readsIf_114 : decode cX8_readsIf 114 = .ok (.aload_n 0, 1) := by decide +kernel
theorem dX8_readsIf_115 : decode cX8_readsIf 115 = .ok (.getfield 300, 3) := by decide +kernel
theorem dX8_readsIf_118 : decode cX8_readsIf 118 = .ok (.ineg, 1) := by decide +kernel
theorem dX8_readsIf_119 : decode cX8_readsIf 119 = .ok (.goto 7, 3) := by decide +kernel
theorem dX8_readsIf_122 : decode cX8_readsIf 122 = .ok (.aload_n 0, 1) := by decide +kernel
theorem dX8_readsIf_123 : decode cX8_readsIf 123 = .ok (.getfield 300, 3) := by decide +kernel
theorem dX8_readsIf_126 : decode cX8_readsIf 126 = .ok (.putfield 325, 3) := by decide +kernel
theorem dX8_readsIf_129 : decode cX8_readsIf 129 = .ok (.iconst 1, 1) := by decide +kernel
theorem dX8_readsIf_130 : decode cX8_readsIf 130 = .ok (.ireturn, 1) := by decide +kernel
theorem dX8_readsEnd_0 : decode cX8_readsEnd 0 = .ok (.aload_n 0, 1) := by decide +kernel
theorem dX8_readsEnd_1 : decode cX8_readsEnd 1 = .ok (.invokevirtual 293, 3) := by decide +kernel
theorem dX8_readsEnd_4 : decode cX8_readsEnd 4 = .ok (.bipush 115, 2) := by decide +kernel
theorem dX8_readsEnd_6 : decode cX8_readsEnd 6 = .ok (.if_icmp .ne 16, 3) := by decide +kernel
theorem dX8_readsEnd_9 : decode cX8_readsEnd 9 = .ok (.aload_n 0, 1) := by decide +kernel
theorem dX8_readsEnd_10 : decode cX8_readsEnd 10 = .ok (.iconst 2, 1) := by decide +kernel
theorem dX8_readsEnd_11 : decode cX8_readsEnd 11 = .ok (.putfield 303, 3) := by decide +kernel
theorem dX8_readsEnd_14 : decode cX8_readsEnd 14 = .ok (.aload_n 0, 1) := by decide +kernel
theorem dX8_readsEnd_15 : decode cX8_readsEnd 15 = .ok (.ldc_w 328, 3) := by decide +kernel
theorem dX8_readsEnd_18 : decode cX8_readsEnd 18 = .ok (.invokevirtual 308, 3) := by decide +kernel
theorem dX8_readsEnd_21 : decode cX8_readsEnd 21 = .ok (.ireturn, 1) := by decide +kernel
theorem dX8_readsEnd_22 : decode cX8_readsEnd 22 = .ok (.aload_n 0, 1) := by decide +kernel
theorem dX8_readsEnd_23 : decode cX8_readsEnd 23 = .ok (.invokevirtual 293, 3) := by decide +kernel
theorem dX8_readsEnd_26 : decode cX8_readsEnd 26 = .ok (.bipush 105, 2) := by decide +kernel
theorem dX8_readsEnd_28 : decode cX8_readsEnd 28 = .ok (.if_icmp .ne 8, 3) := by decide +kernel
theorem dX8_readsEnd_31 : decode cX8_readsEnd 31 = .ok (.aload_n 0, 1) := by decide +kernel
theorem dX8_readsEnd_32 : decode cX8_readsEnd 32 = .ok (.invokevirtual 330, 3) := by decide +kernel
theorem dX8_readsEnd_35 : decode cX8_readsEnd 35 = .ok (.ireturn, 1) := by decide +kernel
theorem dX8_readsEnd_36 : decode cX8_readsEnd 36 = .ok (.aload_n 0, 1) := by decide +kernel
theorem dX8_readsEnd_37 : decode cX8_readsEnd 37 = .ok (.iconst 0, 1) := by decide +kernel
theorem dX8_readsEnd_38 : decode cX8_readsEnd 38 = .ok (.putfield 303, 3) := by decide +kernel
theorem dX8_readsEnd_41 : decode cX8_readsEnd 41 = .ok (.aload_n 0, 1) := by decide +kernel
theorem dX8_readsEnd_42 : decode cX8_readsEnd 42 = .ok (.ldc_w 333, 3) := by decide +kernel
theorem dX8_readsEnd_45 : decode cX8_readsEnd 45 = .ok (.invokevirtual 308, 3) := by decide +kernel
theorem dX8_readsEnd_48 : decode cX8_readsEnd 48 = .ok (.ifCond .eq 11, 3) := by decide +kernel
theorem dX8_readsEnd_51 : decode cX8_readsEnd 51 = .ok (.aload_n 0, 1) := by decide +kernel
theorem dX8_readsEnd_52 : decode cX8_readsEnd 52 = .ok (.iconst 2, 1) := by decide +kernel
theorem dX8_readsEnd_53 : decode cX8_readsEnd 53 = .ok (.invokevirtual 312, 3) := by decide +kernel
theorem dX8_readsEnd_56 : decode cX8_readsEnd 56 = .ok (.ifCond .ne 5, 3) := by decide +kernel
theorem dX8_readsEnd_59 : decode cX8_readsEnd 59 = .ok (.iconst 0, 1) := by decide +kernel
theorem dX8_readsEnd_60 : decode cX8_readsEnd 60 = .ok (.ireturn, 1) := by decide +kernel
theorem dX8_readsEnd_61 : decode cX8_readsEnd 61 = .ok (.aload_n 0, 1) := by decide +kernel
theorem dX8_readsEnd_62 : decode cX8_readsEnd 62 = .ok (.aload_n 0, 1) := by decide +kernel
theorem dX8_readsEnd_63 : decode cX8_readsEnd 63 = .ok (.getfield 300, 3) := by decide +kernel
theorem dX8_readsEnd_66 : decode cX8_readsEnd 66 = .ok (.putfield 315, 3) := by decide +kernel
theorem dX8_readsEnd_69 : decode cX8_readsEnd 69 = .ok (.iconst 1, 1) := by decide +kernel
theorem dX8_readsEnd_70 : decode cX8_readsEnd 70 = .ok (.ireturn, 1) := by decide +kernel
theorem dX8_reads_0 : decode cX8_reads 0 = .ok (.aload_n 0, 1) := by decide +kernel
theorem dX8_reads_1 : decode cX8_reads 1 = .ok (.iconst 0, 1) := by decide +kernel
theorem dX8_reads_2 : decode cX8_reads 2 = .ok (.putfield 286, 3) := by decide +kernel
theorem dX8_reads_5 : decode cX8_reads 5 = .ok (.aload_n 0, 1) := by decide +kernel
theorem dX8_reads_6 : decode cX8_reads 6 = .ok (.iconst (-1), 1) := by decide +kernel
theorem dX8_reads_7 : decode cX8_reads 7 = .ok (.putfield 315, 3) := by decide +kernel
theorem dX8_reads_10 : decode cX8_reads 10 = .ok (.aload_n 0, 1) := by decide +kernel
theorem dX8_reads_11 : decode cX8_reads 11 = .ok (.iconst (-1), 1) := by decide +kernel
theorem dX8_reads_12 : decode cX8_reads 12 = .ok (.putfield 320, 3) := by decide +kernel
theorem dX8_reads_15 : decode cX8_reads 15 = .ok (.aload_n 0, 1) := by decide +kernel
theorem dX8_reads_16 : decode cX8_reads 16 = .ok (.iconst 0, 1) := by decide +kernel
theorem dX8_reads_17 : decode cX8_reads 17 = .ok (.putfield 325, 3) := by decide +kernel
theorem dX8_reads_20 : decode cX8_reads 20 = .ok (.aload_n 0, 1) := by decide +kernel
theorem dX8_reads_21 : decode cX8_reads 21 = .ok (.iconst 2, 1) := by decide +kernel
theorem dX8_reads_22 : decode cX8_reads 22 = .ok (.invokevirtual 312, 3) := by decide +kernel
theorem dX8_reads_25 : decode cX8_reads 25 = .ok (.ifCond .ne 5, 3) := by decide +kernel
theorem dX8_reads_28 : decode cX8_reads 28 = .ok (.iconst 0, 1) := by decide +kernel
theorem dX8_reads_29 : decode cX8_reads 29 = .ok (.ireturn, 1) := by decide +kernel
theorem dX8_reads_30 : decode cX8_reads 30 = .ok (.aload_n 0, 1) := by decide +kernel
theorem dX8_reads_31 : decode cX8_reads 31 = .ok (.aload_n 0, 1) := by decide +kernel
theorem dX8_reads_32 : decode cX8_reads 32 = .ok (.getfield 300, 3) := by decide +kernel
theorem dX8_reads_35 : decode cX8_reads 35 = .ok (.putfield 335, 3) := by decide +kernel
theorem dX8_reads_38 : decode cX8_reads 38 = .ok (.aload_n 0, 1) := by decide +kernel
theorem dX8_reads_39 : decode cX8_reads 39 = .ok (.ldc_w 318, 3) := by decide +kernel
theorem dX8_reads_42 : decode cX8_reads 42 = .ok (.invokevirtual 308, 3) := by decide +kernel
theorem dX8_reads_45 : decode cX8_reads 45 = .ok (.ifCond .eq 25, 3) := by decide +kernel
theorem dX8_reads_48 : decode cX8_reads 48 = .ok (.aload_n 0, 1) := by decide +kernel
theorem dX8_reads_49 : decode cX8_reads 49 = .ok (.invokevirtual 338, 3) := by decide +kernel
theorem dX8_reads_52 : decode cX8_reads 52 = .ok (.ifCond .eq 18, 3) := by decide +kernel
theorem dX8_reads_55 : decode cX8_reads 55 = .ok (.aload_n 0, 1) := by decide +kernel
theorem dX8_reads_56 : decode cX8_reads 56 = .ok (.getfield 286, 3) := by decide +kernel
theorem dX8_reads_59 : decode cX8_reads 59 = .ok (.aload_n 0, 1) := by decide +kernel
theorem dX8_reads_60 : decode cX8_reads 60 = .ok (.getfield 283, 3) := by decide +kernel
theorem dX8_reads_63 : decode cX8_reads 63 = .ok (.if_icmp .ne 7, 3) := by decide +kernel
theorem dX8_reads_66 : decode cX8_reads 66 = .ok (.iconst 1, 1) := by decide +kernel
theorem dX8_reads_67 : decode cX8_reads 67 = .ok (.goto 4, 3) := by decide +kernel
theorem dX8_reads_70 : decode cX8_reads 70 = .ok (.iconst 0, 1) := by decide +kernel
theorem dX8_reads_71 : decode cX8_reads 71 = .ok (.ireturn, 1) := by decide +kernel
theorem dX8_mayBe_0 : decode cX8_mayBe 0 = .ok (.aload_n 0, 1) := by decide +kernel
theorem dX8_mayBe_1 : decode cX8_mayBe 1 = .ok (.getfield 335, 3) := by decide +kernel
theorem dX8_mayBe_4 : decode cX8_mayBe 4 = .ok (.bipush 60, 2) := by decide +kernel
theorem dX8_mayBe_6 : decode cX8_mayBe 6 = .ok (.if_icmp .gt 7, 3) := by decide +kernel
theorem dX8_mayBe_9 : decode cX8_mayBe 9 = .ok (.iconst 1, 1) := by decide +kernel
theorem dX8_mayBe_10 : decode cX8_mayBe 10 = .ok (.goto 4, 3) := by decide +kernel
theorem dX8_mayBe_13 : decode cX8_mayBe 13 = .ok (.iconst 0, 1) := by decide +kernel
theorem dX8_mayBe_14 : decode cX8_mayBe 14 = .ok (.istore_n 1, 1) := by decide +kernel
theorem dX8_mayBe_15 : decode cX8_mayBe 15 = .ok (.iload_n 1, 1) := by decide +kernel
theorem dX8_mayBe_16 : decode cX8_mayBe 16 = .ok (.aload_n 0, 1) := by decide +kernel
theorem dX8_mayBe_17 : decode cX8_mayBe 17 = .ok (.getfield 303, 3) := by decide +kernel
theorem dX8_mayBe_20 : decode cX8_mayBe 20 = .ok (.iconst 2, 1) := by decide +kernel
theorem dX8_mayBe_21 : decode cX8_mayBe 21 = .ok (.if_icmp .eq 14, 3) := by decide +kernel
theorem dX8_mayBe_24 : decode cX8_mayBe 24 = .ok (.aload_n 0, 1) := by decide +kernel
theorem dX8_mayBe_25 : decode cX8_mayBe 25 = .ok (.aload_n 0, 1) := by decide +kernel
theorem dX8_mayBe_26 : decode cX8_mayBe 26 = .ok (.getfield 315, 3) := by decide +kernel
theorem dX8_mayBe_29 : decode cX8_mayBe 29 = .ok (.invokevirtual 119, 3) := by decide +kernel
theorem dX8_mayBe_32 : decode cX8_mayBe 32 = .ok (.ifCond .eq 7, 3) := by decide +kernel
theorem dX8_mayBe_35 : decode cX8_mayBe 35 = .ok (.iconst 1, 1) := by decide +kernel
theorem dX8_mayBe_36 : decode cX8_mayBe 36 = .ok (.goto 4, 3) := by decide +kernel
theorem dX8_mayBe_39 : decode cX8_mayBe 39 = .ok (.iconst 0, 1) := by decide +kernel
theorem dX8_mayBe_40 : decode cX8_mayBe 40 = .ok (.iand, 1) := by decide +kernel
theorem dX8_mayBe_41 : decode cX8_mayBe 41 = .ok (.istore_n 1, 1) := by decide +kernel
theorem dX8_mayBe_42 : decode cX8_mayBe 42 = .ok (.iload_n 1, 1) := by decide +kernel
theorem dX8_mayBe_43 : decode cX8_mayBe 43 = .ok (.ifCond .eq 37, 3) := by decide +kernel
theorem dX8_mayBe_46 : decode cX8_mayBe 46 = .ok (.aload_n 0, 1) := by decide +kernel
theorem dX8_mayBe_47 : decode cX8_mayBe 47 = .ok (.getfield 303, 3) := by decide +kernel
theorem dX8_mayBe_50 : decode cX8_mayBe 50 = .ok (.iconst 1, 1) := by decide +kernel
theorem dX8_mayBe_51 : decode cX8_mayBe 51 = .ok (.if_icmp .ne 25, 3) := by decide +kernel
theorem dX8_mayBe_54 : decode cX8_mayBe 54 = .ok (.aload_n 0, 1) := by decide +kernel
theorem dX8_mayBe_55 : decode cX8_mayBe 55 = .ok (.aload_n 0, 1) := by decide +kernel
theorem dX8_mayBe_56 : decode cX8_mayBe 56 = .ok (.getfield 320, 3) := by decide +kernel
theorem dX8_mayBe_59 : decode cX8_mayBe 59 = .ok (.invokevirtual 119, 3) := by decide +kernel
theorem dX8_mayBe_62 : decode cX8_mayBe 62 = .ok (.ifCond .eq 18, 3) := by decide +kernel
theorem dX8_mayBe_65 : decode cX8_mayBe 65 = .ok (.aload_n 0, 1) := by decide +kernel
theorem dX8_mayBe_66 : decode cX8_mayBe 66 = .ok (.getfield 315, 3) := by decide +kernel
theorem dX8_mayBe_69 : decode cX8_mayBe 69 = .ok (.aload_n 0, 1) := by decide +kernel
theorem dX8_mayBe_70 : decode cX8_mayBe 70 = .ok (.getfield 320, 3) := by decide +kernel
theorem dX8_mayBe_73 : decode cX8_mayBe 73 = .ok (.if_icmp .eq 7, 3) := by decide +kernel
theorem dX8_mayBe_76 : decode cX8_mayBe 76 = .ok (.iconst 1, 1) := by decide +kernel
theorem dX8_mayBe_77 : decode cX8_mayBe 77 = .ok (.goto 4, 3) := by decide +kernel
theorem dX8_mayBe_80 : decode cX8_mayBe 80 = .ok (.iconst 0, 1) := by decide +kernel
theorem dX8_mayBe_81 : decode cX8_mayBe 81 = .ok (.ireturn, 1) := by decide +kernel
theorem dX8_read_0 : decode cX8_read 0 = .ok (.aload_n 0, 1) := by decide +kernel
theorem dX8_read_1 : decode cX8_read 1 = .ok (.aload_n 0, 1) := by decide +kernel
theorem dX8_read_2 : decode cX8_read 2 = .ok (.iload_n 1, 1) := by decide +kernel
theorem dX8_read_3 : decode cX8_read 3 = .ok (.invokevirtual 119, 3) := by decide +kernel
theorem dX8_read_6 : decode cX8_read 6 = .ok (.ifCond .eq 7, 3) := by decide +kernel
theorem dX8_read_9 : decode cX8_read 9 = .ok (.iconst 0, 1) := by decide +kernel
theorem dX8_read_10 : decode cX8_read 10 = .ok (.goto 4, 3) := by decide +kernel
theorem dX8_read_13 : decode cX8_read 13 = .ok (.iconst 1, 1) := by decide +kernel
theorem dX8_read_14 : decode cX8_read 14 = .ok (.putfield 103, 3) := by decide +kernel
theorem dX8_read_17 : decode cX8_read 17 = .ok (.aload_n 0, 1) := by decide +kernel
theorem dX8_read_18 : decode cX8_read 18 = .ok (.getfield 103, 3) := by decide +kernel
theorem dX8_read_21 : decode cX8_read 21 = .ok (.ifCond .eq 5, 3) := by decide +kernel
theorem dX8_read_24 : decode cX8_read 24 = .ok (.iconst 0, 1) := by decide +kernel
theorem dX8_read_25 : decode cX8_read 25 = .ok (.ireturn, 1) := by decide +kernel
theorem dX8_read_26 : decode cX8_read 26 = .ok (.aload_n 0, 1) := by decide +kernel
theorem dX8_read_27 : decode cX8_read 27 = .ok (.invokevirtual 341, 3) := by decide +kernel
theorem dX8_read_30 : decode cX8_read 30 = .ok (.istore_n 2, 1) := by decide +kernel
theorem dX8_read_31 : decode cX8_read 31 = .ok (.aload_n 0, 1) := by decide +kernel
theorem dX8_read_32 : decode cX8_read 32 = .ok (.iconst 0, 1) := by decide +kernel
theorem dX8_read_33 : decode cX8_read 33 = .ok (.putfield 283, 3) := by decide +kernel
theorem dX8_read_36 : decode cX8_read 36 = .ok (.iload_n 2, 1) := by decide +kernel
theorem dX8_read_37 : decode cX8_read 37 = .ok (.ifCond .ne 11, 3) := by decide +kernel
theorem dX8_read_40 : decode cX8_read 40 = .ok (.bipush (-100), 2) := by decide +kernel
theorem dX8_read_42 : decode cX8_read 42 = .ok (.aload_n 0, 1) := by decide +kernel
theorem dX8_read_43 : decode cX8_read 43 = .ok (.getfield 286, 3) := by decide +kernel
theorem dX8_read_46 : decode cX8_read 46 = .ok (.isub, 1) := by decide +kernel
theorem dX8_read_47 : decode cX8_read 47 = .ok (.ireturn, 1) := by decide +kernel
theorem dX8_read_48 : decode cX8_read 48 = .ok (.aload_n 0, 1) := by decide +kernel
theorem dX8_read_49 : decode cX8_read 49 = .ok (.aload_n 0, 1) := by decide +kernel
theorem dX8_read_50 : decode cX8_read 50 = .ok (.invokevirtual 344, 3) := by decide +kernel
theorem dX8_read_53 : decode cX8_read 53 = .ok (.ifCond .eq 7, 3) := by decide +kernel
theorem dX8_read_56 : decode cX8_read 56 = .ok (.iconst 0, 1) := by decide +kernel
theorem dX8_read_57 : decode cX8_read 57 = .ok (.goto 4, 3) := by decide +kernel
theorem dX8_read_60 : decode cX8_read 60 = .ok (.iconst 2, 1) := by decide +kernel
theorem dX8_read_61 : decode cX8_read 61 = .ok (.putfield 103, 3) := by decide +kernel
theorem dX8_read_64 : decode cX8_read 64 = .ok (.aload_n 0, 1) := by decide +kernel
theorem dX8_read_65 : decode cX8_read 65 = .ok (.getfield 103, 3) := by decide +kernel
theorem dX8_read_68 : decode cX8_read 68 = .ok (.ifCond .eq 5, 3) := by decide +kernel
theorem dX8_read_71 : decode cX8_read 71 = .ok (.iconst 0, 1) := by decide +kernel
theorem dX8_read_72 : decode cX8_read 72 = .ok (.ireturn, 1) := by decide +kernel
theorem dX8_read_73 : decode cX8_read 73 = .ok (.aload_n 0, 1) := by decide +kernel
theorem dX8_read_74 : decode cX8_read 74 = .ok (.getfield 16, 3) := by decide +kernel
theorem dX8_read_77 : decode cX8_read 77 = .ok (.iload_n 1, 1) := by decide +kernel
theorem dX8_read_78 : decode cX8_read 78 = .ok (.aload_n 0, 1) := by decide +kernel
theorem dX8_read_79 : decode cX8_read 79 = .ok (.getfield 335, 3) := by decide +kernel
theorem dX8_read_82 : decode cX8_read 82 = .ok (.iastore, 1) := by decide +kernel
theorem dX8_read_83 : decode cX8_read 83 = .ok (.aload_n 0, 1) := by decide +kernel
theorem dX8_read_84 : decode cX8_read 84 = .ok (.iload_n 1, 1) := by decide +kernel
theorem dX8_read_85 : decode cX8_read 85 = .ok (.aload_n 0, 1) := by decide +kernel
theorem dX8_read_86 : decode cX8_read 86 = .ok (.getfield 303, 3) := by decide +kernel
theorem dX8_read_89 : decode cX8_read 89 = .ok (.aload_n 0, 1) := by decide +kernel
theorem dX8_read_90 : decode cX8_read 90 = .ok (.getfield 315, 3) := by decide +kernel
theorem dX8_read_93 : decode cX8_read 93 = .ok (.aload_n 0, 1) := by decide +kernel
theorem dX8_read_94 : decode cX8_read 94 = .ok (.getfield 320, 3) := by decide +kernel
theorem dX8_read_97 : decode cX8_read 97 = .ok (.aload_n 0, 1) := by decide +kernel
theorem dX8_read_98 : decode cX8_read 98 = .ok (.getfield 325, 3) := by decide +kernel
theorem dX8_read_101 : decode cX8_read 101 = .ok (.invokevirtual 123, 3) := by decide +kernel
theorem dX8_read_104 : decode cX8_read 104 = .ok (.istore_n 3, 1) := by decide +kernel
theorem dX8_read_105 : decode cX8_read 105 = .ok (.aload_n 0, 1) := by decide +kernel
theorem dX8_read_106 : decode cX8_read 106 = .ok (.getfield 303, 3) := by decide +kernel
theorem dX8_read_109 : decode cX8_read 109 = .ok (.ireturn, 1) := by decide +kernel
