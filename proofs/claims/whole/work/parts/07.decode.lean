theorem dX10_letters_118 : decode cX10_letters 118 = .ok (.iadd, 1) := by decide +kernel
theorem dX10_letters_119 : decode cX10_letters 119 = .ok (.lload_n 1, 1) := by decide +kernel
theorem dX10_letters_120 : decode cX10_letters 120 = .ok (.bipush 8, 2) := by decide +kernel
theorem dX10_letters_122 : decode cX10_letters 122 = .ok (.iload 5, 2) := by decide +kernel
theorem dX10_letters_124 : decode cX10_letters 124 = .ok (.imul, 1) := by decide +kernel
theorem dX10_letters_125 : decode cX10_letters 125 = .ok (.lshr, 1) := by decide +kernel
theorem dX10_letters_126 : decode cX10_letters 126 = .ok (.l2i, 1) := by decide +kernel
theorem dX10_letters_127 : decode cX10_letters 127 = .ok (.i2b, 1) := by decide +kernel
theorem dX10_letters_128 : decode cX10_letters 128 = .ok (.bastore, 1) := by decide +kernel
theorem dX10_letters_129 : decode cX10_letters 129 = .ok (.iinc 5 1, 3) := by decide +kernel
theorem dX10_letters_132 : decode cX10_letters 132 = .ok (.goto (-30), 3) := by decide +kernel
theorem dX10_letters_135 : decode cX10_letters 135 = .ok (.aload_n 0, 1) := by decide +kernel
theorem dX10_letters_136 : decode cX10_letters 136 = .ok (.dup, 1) := by decide +kernel
theorem dX10_letters_137 : decode cX10_letters 137 = .ok (.getfield 81, 3) := by decide +kernel
theorem dX10_letters_140 : decode cX10_letters 140 = .ok (.iload_n 3, 1) := by decide +kernel
theorem dX10_letters_141 : decode cX10_letters 141 = .ok (.iadd, 1) := by decide +kernel
theorem dX10_letters_142 : decode cX10_letters 142 = .ok (.putfield 81, 3) := by decide +kernel
theorem dX10_letters_145 : decode cX10_letters 145 = .ok (.aload_n 0, 1) := by decide +kernel
theorem dX10_letters_146 : decode cX10_letters 146 = .ok (.getfield 81, 3) := by decide +kernel
theorem dX10_letters_149 : decode cX10_letters 149 = .ok (.ireturn, 1) := by decide +kernel
theorem dX10_blank_0 : decode cX10_blank 0 = .ok (.aload_n 0, 1) := by decide +kernel
theorem dX10_blank_1 : decode cX10_blank 1 = .ok (.getfield 81, 3) := by decide +kernel
theorem dX10_blank_4 : decode cX10_blank 4 = .ok (.istore_n 1, 1) := by decide +kernel
theorem dX10_blank_5 : decode cX10_blank 5 = .ok (.aload_n 0, 1) := by decide +kernel
theorem dX10_blank_6 : decode cX10_blank 6 = .ok (.iconst 0, 1) := by decide +kernel
theorem dX10_blank_7 : decode cX10_blank 7 = .ok (.putfield 81, 3) := by decide +kernel
theorem dX10_blank_10 : decode cX10_blank 10 = .ok (.iload_n 1, 1) := by decide +kernel
theorem dX10_blank_11 : decode cX10_blank 11 = .ok (.ireturn, 1) := by decide +kernel
theorem dX10_stepBy_0 : decode cX10_stepBy 0 = .ok (.iload_n 0, 1) := by decide +kernel
theorem dX10_stepBy_1 : decode cX10_stepBy 1 = .ok (.bipush 104, 2) := by decide +kernel
theorem dX10_stepBy_3 : decode cX10_stepBy 3 = .ok (.if_icmp .ne 7, 3) := by decide +kernel
theorem dX10_stepBy_6 : decode cX10_stepBy 6 = .ok (.iconst 0, 1) := by decide +kernel
theorem dX10_stepBy_7 : decode cX10_stepBy 7 = .ok (.goto 44, 3) := by decide +kernel
theorem dX10_stepBy_10 : decode cX10_stepBy 10 = .ok (.iload_n 0, 1) := by decide +kernel
theorem dX10_stepBy_11 : decode cX10_stepBy 11 = .ok (.bipush 100, 2) := by decide +kernel
theorem dX10_stepBy_13 : decode cX10_stepBy 13 = .ok (.if_icmp .ne 7, 3) := by decide +kernel
theorem dX10_stepBy_16 : decode cX10_stepBy 16 = .ok (.iconst 1, 1) := by decide +kernel
theorem dX10_stepBy_17 : decode cX10_stepBy 17 = .ok (.goto 34, 3) := by decide +kernel
theorem dX10_stepBy_20 : decode cX10_stepBy 20 = .ok (.iload_n 0, 1) := by decide +kernel
theorem dX10_stepBy_21 : decode cX10_stepBy 21 = .ok (.bipush 43, 2) := by decide +kernel
theorem dX10_stepBy_23 : decode cX10_stepBy 23 = .ok (.if_icmp .ne 7, 3) := by decide +kernel
theorem dX10_stepBy_26 : decode cX10_stepBy 26 = .ok (.iconst 2, 1) := by decide +kernel
theorem dX10_stepBy_27 : decode cX10_stepBy 27 = .ok (.goto 24, 3) := by decide +kernel
theorem dX10_stepBy_30 : decode cX10_stepBy 30 = .ok (.iload_n 0, 1) := by decide +kernel
theorem dX10_stepBy_31 : decode cX10_stepBy 31 = .ok (.bipush 45, 2) := by decide +kernel
theorem dX10_stepBy_33 : decode cX10_stepBy 33 = .ok (.if_icmp .ne 7, 3) := by decide +kernel
theorem dX10_stepBy_36 : decode cX10_stepBy 36 = .ok (.iconst 3, 1) := by decide +kernel
theorem dX10_stepBy_37 : decode cX10_stepBy 37 = .ok (.goto 14, 3) := by decide +kernel
theorem dX10_stepBy_40 : decode cX10_stepBy 40 = .ok (.iload_n 0, 1) := by decide +kernel
theorem dX10_stepBy_41 : decode cX10_stepBy 41 = .ok (.bipush 47, 2) := by decide +kernel
theorem dX10_stepBy_43 : decode cX10_stepBy 43 = .ok (.if_icmp .ne 7, 3) := by decide +kernel
theorem dX10_stepBy_46 : decode cX10_stepBy 46 = .ok (.iconst 4, 1) := by decide +kernel
theorem dX10_stepBy_47 : decode cX10_stepBy 47 = .ok (.goto 4, 3) := by decide +kernel
theorem dX10_stepBy_50 : decode cX10_stepBy 50 = .ok (.iconst (-1), 1) := by decide +kernel
theorem dX10_stepBy_51 : decode cX10_stepBy 51 = .ok (.ireturn, 1) := by decide +kernel
theorem dX10_readLaw_0 : decode cX10_readLaw 0 = .ok (.aload_n 0, 1) := by decide +kernel
theorem dX10_readLaw_1 : decode cX10_readLaw 1 = .ok (.iconst 0, 1) := by decide +kernel
theorem dX10_readLaw_2 : decode cX10_readLaw 2 = .ok (.putfield 84, 3) := by decide +kernel
theorem dX10_readLaw_5 : decode cX10_readLaw 5 = .ok (.iconst 0, 1) := by decide +kernel
theorem dX10_readLaw_6 : decode cX10_readLaw 6 = .ok (.istore_n 1, 1) := by decide +kernel
theorem dX10_readLaw_7 : decode cX10_readLaw 7 = .ok (.iconst 0, 1) := by decide +kernel
theorem dX10_readLaw_8 : decode cX10_readLaw 8 = .ok (.istore_n 2, 1) := by decide +kernel
theorem dX10_readLaw_9 : decode cX10_readLaw 9 = .ok (.iconst 1, 1) := by decide +kernel
theorem dX10_readLaw_10 : decode cX10_readLaw 10 = .ok (.istore_n 3, 1) := by decide +kernel
theorem dX10_readLaw_11 : decode cX10_readLaw 11 = .ok (.iload_n 2, 1) := by decide +kernel
theorem dX10_readLaw_12 : decode cX10_readLaw 12 = .ok (.aload_n 0, 1) := by decide +kernel
theorem dX10_readLaw_13 : decode cX10_readLaw 13 = .ok (.getfield 81, 3) := by decide +kernel
theorem dX10_readLaw_16 : decode cX10_readLaw 16 = .ok (.if_icmp .ge 189, 3) := by decide +kernel
theorem dX10_readLaw_19 : decode cX10_readLaw 19 = .ok (.iload_n 3, 1) := by decide +kernel
theorem dX10_readLaw_20 : decode cX10_readLaw 20 = .ok (.ifCond .eq 185, 3) := by decide +kernel
theorem dX10_readLaw_23 : decode cX10_readLaw 23 = .ok (.aload_n 0, 1) := by decide +kernel
theorem dX10_readLaw_24 : decode cX10_readLaw 24 = .ok (.getfield 38, 3) := by decide +kernel
theorem dX10_readLaw_27 : decode cX10_readLaw 27 = .ok (.iload_n 2, 1) := by decide +kernel
theorem dX10_readLaw_28 : decode cX10_readLaw 28 = .ok (.baload, 1) := by decide +kernel
theorem dX10_readLaw_29 : decode cX10_readLaw 29 = .ok (.istore 4, 2) := by decide +kernel
theorem dX10_readLaw_31 : decode cX10_readLaw 31 = .ok (.iload_n 1, 1) := by decide +kernel
theorem dX10_readLaw_32 : decode cX10_readLaw 32 = .ok (.ifCond .eq 76, 3) := by decide +kernel
theorem dX10_readLaw_35 : decode cX10_readLaw 35 = .ok (.iload 4, 2) := by decide +kernel
theorem dX10_readLaw_37 : decode cX10_readLaw 37 = .ok (.aload_n 0, 1) := by decide +kernel
theorem dX10_readLaw_38 : decode cX10_readLaw 38 = .ok (.getfield 42, 3) := by decide +kernel
theorem dX10_readLaw_41 : decode cX10_readLaw 41 = .ok (.aload_n 0, 1) := by decide +kernel
theorem dX10_readLaw_42 : decode cX10_readLaw 42 = .ok (.getfield 84, 3) := by decide +kernel
theorem dX10_readLaw_45 : decode cX10_readLaw 45 = .ok (.iaload, 1) := by decide +kernel
theorem dX10_readLaw_46 : decode cX10_readLaw 46 = .ok (.iconst 4, 1) := by decide +kernel
theorem dX10_readLaw_47 : decode cX10_readLaw 47 = .ok (.if_icmp .ne 8, 3) := by decide +kernel
theorem dX10_readLaw_50 : decode cX10_readLaw 50 = .ok (.bipush 50, 2) := by decide +kernel
theorem dX10_readLaw_52 : decode cX10_readLaw 52 = .ok (.goto 5, 3) := by decide +kernel
theorem dX10_readLaw_55 : decode cX10_readLaw 55 = .ok (.bipush 48, 2) := by decide +kernel
theorem dX10_readLaw_57 : decode cX10_readLaw 57 = .ok (.bipush 57, 2) := by decide +kernel
theorem dX10_readLaw_59 : decode cX10_readLaw 59 = .ok (.invokestatic 87, 3) := by decide +kernel
theorem dX10_readLaw_62 : decode cX10_readLaw 62 = .ok (.istore_n 3, 1) := by decide +kernel
theorem dX10_readLaw_63 : decode cX10_readLaw 63 = .ok (.aload_n 0, 1) := by decide +kernel
theorem dX10_readLaw_64 : decode cX10_readLaw 64 = .ok (.getfield 45, 3) := by decide +kernel
theorem dX10_readLaw_67 : decode cX10_readLaw 67 = .ok (.aload_n 0, 1) := by decide +kernel
theorem dX10_readLaw_68 : decode cX10_readLaw 68 = .ok (.getfield 84, 3) := by decide +kernel
theorem dX10_readLaw_71 : decode cX10_readLaw 71 = .ok (.iload 4, 2) := by decide +kernel
theorem dX10_readLaw_73 : decode cX10_readLaw 73 = .ok (.bipush 48, 2) := by decide +kernel
theorem dX10_readLaw_75 : decode cX10_readLaw 75 = .ok (.isub, 1) := by decide +kernel
theorem dX10_readLaw_76 : decode cX10_readLaw 76 = .ok (.iastore, 1) := by decide +kernel
theorem dX10_readLaw_77 : decode cX10_readLaw 77 = .ok (.aload_n 0, 1) := by decide +kernel
theorem dX10_readLaw_78 : decode cX10_readLaw 78 = .ok (.dup, 1) := by decide +kernel
theorem dX10_readLaw_79 : decode cX10_readLaw 79 = .ok (.getfield 84, 3) := by decide +kernel
theorem dX10_readLaw_82 : decode cX10_readLaw 82 = .ok (.iload_n 3, 1) := by decide +kernel
theorem dX10_readLaw_83 : decode cX10_readLaw 83 = .ok (.ifCond .eq 7, 3) := by decide +kernel
theorem dX10_readLaw_86 : decode cX10_readLaw 86 = .ok (.iconst 1, 1) := by decide +kernel
theorem dX10_readLaw_87 : decode cX10_readLaw 87 = .ok (.goto 4, 3) := by decide +kernel
theorem dX10_readLaw_90 : decode cX10_readLaw 90 = .ok (.iconst 0, 1) := by decide +kernel
theorem dX10_readLaw_91 : decode cX10_readLaw 91 = .ok (.iadd, 1) := by decide +kernel
theorem dX10_readLaw_92 : decode cX10_readLaw 92 = .ok (.putfield 84, 3) := by decide +kernel
theorem dX10_readLaw_95 : decode cX10_readLaw 95 = .ok (.iload_n 3, 1) := by decide +kernel
theorem dX10_readLaw_96 : decode cX10_readLaw 96 = .ok (.ifCond .ne 7, 3) := by decide +kernel
theorem dX10_readLaw_99 : decode cX10_readLaw 99 = .ok (.iconst 1, 1) := by decide +kernel
theorem dX10_readLaw_100 : decode cX10_readLaw 100 = .ok (.goto 4, 3) := by decide +kernel
theorem dX10_readLaw_103 : decode cX10_readLaw 103 = .ok (.iconst 0, 1) := by decide +kernel
theorem dX10_readLaw_104 : decode cX10_readLaw 104 = .ok (.istore_n 1, 1) := by decide +kernel
theorem dX10_readLaw_105 : decode cX10_readLaw 105 = .ok (.goto 85, 3) := by decide +kernel
theorem dX10_readLaw_108 : decode cX10_readLaw 108 = .ok (.iload 4, 2) := by decide +kernel
theorem dX10_readLaw_110 : decode cX10_readLaw 110 = .ok (.invokestatic 91, 3) := by decide +kernel
theorem dX10_readLaw_113 : decode cX10_readLaw 113 = .ok (.istore 5, 2) := by decide +kernel
theorem dX10_readLaw_115 : decode cX10_readLaw 115 = .ok (.iload 5, 2) := by decide +kernel
theorem dX10_readLaw_117 : decode cX10_readLaw 117 = .ok (.iconst (-1), 1) := by decide +kernel
theorem dX10_readLaw_118 : decode cX10_readLaw 118 = .ok (.if_icmp .eq 15, 3) := by decide +kernel
theorem dX10_readLaw_121 : decode cX10_readLaw 121 = .ok (.aload_n 0, 1) := by decide +kernel
theorem dX10_readLaw_122 : decode cX10_readLaw 122 = .ok (.getfield 84, 3) := by decide +kernel
theorem dX10_readLaw_125 : decode cX10_readLaw 125 = .ok (.iconst 4, 1) := by decide +kernel
theorem dX10_readLaw_126 : decode cX10_readLaw 126 = .ok (.if_icmp .ge 7, 3) := by decide +kernel
theorem dX10_readLaw_129 : decode cX10_readLaw 129 = .ok (.iconst 1, 1) := by decide +kernel
theorem dX10_readLaw_130 : decode cX10_readLaw 130 = .ok (.goto 4, 3) := by decide +kernel
theorem dX10_readLaw_133 : decode cX10_readLaw 133 = .ok (.iconst 0, 1) := by decide +kernel
theorem dX10_readLaw_134 : decode cX10_readLaw 134 = .ok (.istore_n 3, 1) := by decide +kernel
theorem dX10_readLaw_135 : decode cX10_readLaw 135 = .ok (.iload_n 3, 1) := by decide +kernel
theorem dX10_readLaw_136 : decode cX10_readLaw 136 = .ok (.ifCond .eq 54, 3) := by decide +kernel
theorem dX10_readLaw_139 : decode cX10_readLaw 139 = .ok (.aload_n 0, 1) := by decide +kernel
theorem dX10_readLaw_140 : decode cX10_readLaw 140 = .ok (.getfield 42, 3) := by decide +kernel
theorem dX10_readLaw_143 : decode cX10_readLaw 143 = .ok (.aload_n 0, 1) := by decide +kernel
theorem dX10_readLaw_144 : decode cX10_readLaw 144 = .ok (.getfield 84, 3) := by decide +kernel
theorem dX10_readLaw_147 : decode cX10_readLaw 147 = .ok (.iload 5, 2) := by decide +kernel
theorem dX10_readLaw_149 : decode cX10_readLaw 149 = .ok (.iastore, 1) := by decide +kernel
theorem dX10_readLaw_150 : decode cX10_readLaw 150 = .ok (.aload_n 0, 1) := by decide +kernel
theorem dX10_readLaw_151 : decode cX10_readLaw 151 = .ok (.getfield 45, 3) := by decide +kernel
theorem dX10_readLaw_154 : decode cX10_readLaw 154 = .ok (.aload_n 0, 1) := by decide +kernel
theorem dX10_readLaw_155 : decode cX10_readLaw 155 = .ok (.getfield 84, 3) := by decide +kernel
theorem dX10_readLaw_158 : decode cX10_readLaw 158 = .ok (.iconst 0, 1) := by decide +kernel
theorem dX10_readLaw_159 : decode cX10_readLaw 159 = .ok (.iastore, 1) := by decide +kernel
theorem dX10_readLaw_160 : decode cX10_readLaw 160 = .ok (.iload 5, 2) := by decide +kernel
theorem dX10_readLaw_162 : decode cX10_readLaw 162 = .ok (.iconst 1, 1) := by decide +kernel
theorem dX10_readLaw_163 : decode cX10_readLaw 163 = .ok (.if_icmp .le 7, 3) := by decide +kernel
theorem dX10_readLaw_166 : decode cX10_readLaw 166 = .ok (.iconst 1, 1) := by decide +kernel
theorem dX10_readLaw_167 : decode cX10_readLaw 167 = .ok (.goto 4, 3) := by decide +kernel
theorem dX10_readLaw_170 : decode cX10_readLaw 170 = .ok (.iconst 0, 1) := by decide +kernel
theorem dX10_readLaw_171 : decode cX10_readLaw 171 = .ok (.istore_n 1, 1) := by decide +kernel
theorem dX10_readLaw_172 : decode cX10_readLaw 172 = .ok (.aload_n 0, 1) := by decide +kernel
theorem dX10_readLaw_173 : decode cX10_readLaw 173 = .ok (.dup, 1) := by decide +kernel
theorem dX10_readLaw_174 : decode cX10_readLaw 174 = .ok (.getfield 84, 3) := by decide +kernel
theorem dX10_readLaw_177 : decode cX10_readLaw 177 = .ok (.iload_n 1, 1) := by decide +kernel
theorem dX10_readLaw_178 : decode cX10_readLaw 178 = .ok (.ifCond .eq 7, 3) := by decide +kernel
theorem dX10_readLaw_181 : decode cX10_readLaw 181 = .ok (.iconst 0, 1) := by decide +kernel
theorem dX10_readLaw_182 : decode cX10_readLaw 182 = .ok (.goto 4, 3) := by decide +kernel
theorem dX10_readLaw_185 : decode cX10_readLaw 185 = .ok (.iconst 1, 1) := by decide +kernel
theorem dX10_readLaw_186 : decode cX10_readLaw 186 = .ok (.iadd, 1) := by decide +kernel
theorem dX10_readLaw_187 : decode cX10_readLaw 187 = .ok (.putfield 84, 3) := by decide +kernel
theorem dX10_readLaw_190 : decode cX10_readLaw 190 = .ok (.iload_n 2, 1) := by decide +kernel
theorem dX10_readLaw_191 : decode cX10_readLaw 191 = .ok (.iload_n 3, 1) := by decide +kernel
theorem dX10_readLaw_192 : decode cX10_readLaw 192 = .ok (.ifCond .eq 7, 3) := by decide +kernel
theorem dX10_readLaw_195 : decode cX10_readLaw 195 = .ok (.iconst 1, 1) := by decide +kernel
theorem dX10_readLaw_196 : decode cX10_readLaw 196 = .ok (.goto 4, 3) := by decide +kernel
theorem dX10_readLaw_199 : decode cX10_readLaw 199 = .ok (.iconst 0, 1) := by decide +kernel
theorem dX10_readLaw_200 : decode cX10_readLaw 200 = .ok (.iadd, 1) := by decide +kernel
theorem dX10_readLaw_201 : decode cX10_readLaw 201 = .ok (.istore_n 2, 1) := by decide +kernel
theorem dX10_readLaw_202 : decode cX10_readLaw 202 = .ok (.goto (-191), 3) := by decide +kernel
theorem dX10_readLaw_205 : decode cX10_readLaw 205 = .ok (.aload_n 0, 1) := by decide +kernel
theorem dX10_readLaw_206 : decode cX10_readLaw 206 = .ok (.iload_n 2, 1) := by decide +kernel
theorem dX10_readLaw_207 : decode cX10_readLaw 207 = .ok (.putfield 95, 3) := by decide +kernel
theorem dX10_readLaw_210 : decode cX10_readLaw 210 = .ok (.aload_n 0, 1) := by decide +kernel
theorem dX10_readLaw_211 : decode cX10_readLaw 211 = .ok (.iload_n 2, 1) := by decide +kernel
theorem dX10_readLaw_212 : decode cX10_readLaw 212 = .ok (.aload_n 0, 1) := by decide +kernel
theorem dX10_readLaw_213 : decode cX10_readLaw 213 = .ok (.getfield 81, 3) := by decide +kernel
theorem dX10_readLaw_216 : decode cX10_readLaw 216 = .ok (.if_icmp .ne 18, 3) := by decide +kernel
theorem dX10_readLaw_219 : decode cX10_readLaw 219 = .ok (.iload_n 1, 1) := by decide +kernel
theorem dX10_readLaw_220 : decode cX10_readLaw 220 = .ok (.ifCond .ne 14, 3) := by decide +kernel
theorem dX10_readLaw_223 : decode cX10_readLaw 223 = .ok (.aload_n 0, 1) := by decide +kernel
theorem dX10_readLaw_224 : decode cX10_readLaw 224 = .ok (.getfield 84, 3) := by decide +kernel
theorem dX10_readLaw_227 : decode cX10_readLaw 227 = .ok (.ifCond .le 7, 3) := by decide +kernel
theorem dX10_readLaw_230 : decode cX10_readLaw 230 = .ok (.iconst 1, 1) := by decide +kernel
theorem dX10_readLaw_231 : decode cX10_readLaw 231 = .ok (.goto 4, 3) := by decide +kernel
theorem dX10_readLaw_234 : decode cX10_readLaw 234 = .ok (.iconst 0, 1) := by decide +kernel
theorem dX10_readLaw_235 : decode cX10_readLaw 235 = .ok (.putfield 98, 3) := by decide +kernel
theorem dX10_readLaw_238 : decode cX10_readLaw 238 = .ok (.return_, 1) := by decide +kernel
theorem dX10_readWeek_0 : decode cX10_readWeek 0 = .ok (.aload_n 0, 1) := by decide +kernel
theorem dX10_readWeek_1 : decode cX10_readWeek 1 = .ok (.iconst 0, 1) := by decide +kernel
theorem dX10_readWeek_2 : decode cX10_readWeek 2 = .ok (.putfield 84, 3) := by decide +kernel
theorem dX10_readWeek_5 : decode cX10_readWeek 5 = .ok (.iconst 0, 1) := by decide +kernel
theorem dX10_readWeek_6 : decode cX10_readWeek 6 = .ok (.istore_n 1, 1) := by decide +kernel
theorem dX10_readWeek_7 : decode cX10_readWeek 7 = .ok (.iconst 0, 1) := by decide +kernel
theorem dX10_readWeek_8 : decode cX10_readWeek 8 = .ok (.istore_n 2, 1) := by decide +kernel
theorem dX10_readWeek_9 : decode cX10_readWeek 9 = .ok (.iconst 1, 1) := by decide +kernel
theorem dX10_readWeek_10 : decode cX10_readWeek 10 = .ok (.istore_n 3, 1) := by decide +kernel
theorem dX10_readWeek_11 : decode cX10_readWeek 11 = .ok (.iload_n 2, 1) := by decide +kernel
theorem dX10_readWeek_12 : decode cX10_readWeek 12 = .ok (.aload_n 0, 1) := by decide +kernel
theorem dX10_readWeek_13 : decode cX10_readWeek 13 = .ok (.getfield 81, 3) := by decide +kernel
theorem dX10_readWeek_16 : decode cX10_readWeek 16 = .ok (.if_icmp .ge 166, 3) := by decide +kernel
theorem dX10_readWeek_19 : decode cX10_readWeek 19 = .ok (.iload_n 3, 1) := by decide +kernel
theorem dX10_readWeek_20 : decode cX10_readWeek 20 = .ok (.ifCond .eq 162, 3) := by decide +kernel
theorem dX10_readWeek_23 : decode cX10_readWeek 23 = .ok (.aload_n 0, 1) := by decide +kernel
theorem dX10_readWeek_24 : decode cX10_readWeek 24 = .ok (.getfield 38, 3) := by decide +kernel
theorem dX10_readWeek_27 : decode cX10_readWeek 27 = .ok (.iload_n 2, 1) := by decide +kernel
theorem dX10_readWeek_28 : decode cX10_readWeek 28 = .ok (.baload, 1) := by decide +kernel
theorem dX10_readWeek_29 : decode cX10_readWeek 29 = .ok (.bipush 48, 2) := by decide +kernel
theorem dX10_readWeek_31 : decode cX10_readWeek 31 = .ok (.isub, 1) := by decide +kernel
theorem dX10_readWeek_32 : decode cX10_readWeek 32 = .ok (.istore 4, 2) := by decide +kernel
theorem dX10_readWeek_34 : decode cX10_readWeek 34 = .ok (.iload 4, 2) := by decide +kernel
theorem dX10_readWeek_36 : decode cX10_readWeek 36 = .ok (.iconst 0, 1) := by decide +kernel
theorem dX10_readWeek_37 : decode cX10_readWeek 37 = .ok (.bipush 7, 2) := by decide +kernel
theorem dX10_readWeek_39 : decode cX10_readWeek 39 = .ok (.invokestatic 87, 3) := by decide +kernel
theorem dX10_readWeek_42 : decode cX10_readWeek 42 = .ok (.istore 5, 2) := by decide +kernel
theorem dX10_readWeek_44 : decode cX10_readWeek 44 = .ok (.iload_n 1, 1) := by decide +kernel
theorem dX10_readWeek_45 : decode cX10_readWeek 45 = .ok (.ifCond .ne 20, 3) := by decide +kernel
theorem dX10_readWeek_48 : decode cX10_readWeek 48 = .ok (.iload 5, 2) := by decide +kernel
theorem dX10_readWeek_50 : decode cX10_readWeek 50 = .ok (.istore_n 3, 1) := by decide +kernel
theorem dX10_readWeek_51 : decode cX10_readWeek 51 = .ok (.aload_n 0, 1) := by decide +kernel
theorem dX10_readWeek_52 : decode cX10_readWeek 52 = .ok (.getfield 48, 3) := by decide +kernel
theorem dX10_readWeek_55 : decode cX10_readWeek 55 = .ok (.aload_n 0, 1) := by decide +kernel
theorem dX10_readWeek_56 : decode cX10_readWeek 56 = .ok (.getfield 84, 3) := by decide +kernel
theorem dX10_readWeek_59 : decode cX10_readWeek 59 = .ok (.iload 4, 2) := by decide +kernel
theorem dX10_readWeek_61 : decode cX10_readWeek 61 = .ok (.iastore, 1) := by decide +kernel
theorem dX10_readWeek_62 : decode cX10_readWeek 62 = .ok (.goto 91, 3) := by decide +kernel
theorem dX10_readWeek_65 : decode cX10_readWeek 65 = .ok (.iload_n 1, 1) := by decide +kernel
theorem dX10_readWeek_66 : decode cX10_readWeek 66 = .ok (.iconst 1, 1) := by decide +kernel
theorem dX10_readWeek_67 : decode cX10_readWeek 67 = .ok (.if_icmp .ne 60, 3) := by decide +kernel
theorem dX10_readWeek_70 : decode cX10_readWeek 70 = .ok (.iload 5, 2) := by decide +kernel
theorem dX10_readWeek_72 : decode cX10_readWeek 72 = .ok (.ifCond .eq 21, 3) := by decide +kernel
theorem dX10_readWeek_75 : decode cX10_readWeek 75 = .ok (.iload 4, 2) := by decide +kernel
theorem dX10_readWeek_77 : decode cX10_readWeek 77 = .ok (.aload_n 0, 1) := by decide +kernel
theorem dX10_readWeek_78 : decode cX10_readWeek 78 = .ok (.getfield 48, 3) := by decide +kernel
theorem dX10_readWeek_81 : decode cX10_readWeek 81 = .ok (.aload_n 0, 1) := by decide +kernel
theorem dX10_readWeek_82 : decode cX10_readWeek 82 = .ok (.getfield 84, 3) := by decide +kernel
theorem dX10_readWeek_85 : decode cX10_readWeek 85 = .ok (.iaload, 1) := by decide +kernel
theorem dX10_readWeek_86 : decode cX10_readWeek 86 = .ok (.if_icmp .eq 7, 3) := by decide +kernel
theorem dX10_readWeek_89 : decode cX10_readWeek 89 = .ok (.iconst 1, 1) := by decide +kernel
theorem dX10_readWeek_90 : decode cX10_readWeek 90 = .ok (.goto 4, 3) := by decide +kernel
theorem dX10_readWeek_93 : decode cX10_readWeek 93 = .ok (.iconst 0, 1) := by decide +kernel
theorem dX10_readWeek_94 : decode cX10_readWeek 94 = .ok (.istore_n 3, 1) := by decide +kernel
theorem dX10_readWeek_95 : decode cX10_readWeek 95 = .ok (.aload_n 0, 1) := by decide +kernel
theorem dX10_readWeek_96 : decode cX10_readWeek 96 = .ok (.getfield 51, 3) := by decide +kernel
theorem dX10_readWeek_99 : decode cX10_readWeek 99 = .ok (.aload_n 0, 1) := by decide +kernel
theorem dX10_readWeek_100 : decode cX10_readWeek 100 = .ok (.getfield 84, 3) := by decide +kernel
theorem dX10_readWeek_103 : decode cX10_readWeek 103 = .ok (.iload 4, 2) := by decide +kernel
theorem dX10_readWeek_105 : decode cX10_readWeek 105 = .ok (.iastore, 1) := by decide +kernel
theorem dX10_readWeek_106 : decode cX10_readWeek 106 = .ok (.aload_n 0, 1) := by decide +kernel
theorem dX10_readWeek_107 : decode cX10_readWeek 107 = .ok (.dup, 1) := by decide +kernel
theorem dX10_readWeek_108 : decode cX10_readWeek 108 = .ok (.getfield 84, 3) := by decide +kernel
theorem dX10_readWeek_111 : decode cX10_readWeek 111 = .ok (.iload_n 3, 1) := by decide +kernel
theorem dX10_readWeek_112 : decode cX10_readWeek 112 = .ok (.ifCond .eq 7, 3) := by decide +kernel
theorem dX10_readWeek_115 : decode cX10_readWeek 115 = .ok (.iconst 1, 1) := by decide +kernel
theorem dX10_readWeek_116 : decode cX10_readWeek 116 = .ok (.goto 4, 3) := by decide +kernel
theorem dX10_readWeek_119 : decode cX10_readWeek 119 = .ok (.iconst 0, 1) := by decide +kernel
theorem dX10_readWeek_120 : decode cX10_readWeek 120 = .ok (.iadd, 1) := by decide +kernel
theorem dX10_readWeek_121 : decode cX10_readWeek 121 = .ok (.putfield 84, 3) := by decide +kernel
theorem dX10_readWeek_124 : decode cX10_readWeek 124 = .ok (.goto 29, 3) := by decide +kernel
theorem dX10_readWeek_127 : decode cX10_readWeek 127 = .ok (.aload_n 0, 1) := by decide +kernel
theorem dX10_readWeek_128 : decode cX10_readWeek 128 = .ok (.getfield 38, 3) := by decide +kernel
theorem dX10_readWeek_131 : decode cX10_readWeek 131 = .ok (.iload_n 2, 1) := by decide +kernel
theorem dX10_readWeek_132 : decode cX10_readWeek 132 = .ok (.baload, 1) := by decide +kernel
theorem dX10_readWeek_133 : decode cX10_readWeek 133 = .ok (.bipush 44, 2) := by decide +kernel
theorem dX10_readWeek_135 : decode cX10_readWeek 135 = .ok (.if_icmp .ne 16, 3) := by decide +kernel
theorem dX10_readWeek_138 : decode cX10_readWeek 138 = .ok (.aload_n 0, 1) := by decide +kernel
theorem dX10_readWeek_139 : decode cX10_readWeek 139 = .ok (.getfield 84, 3) := by decide +kernel
theorem dX10_readWeek_142 : decode cX10_readWeek 142 = .ok (.bipush 16, 2) := by decide +kernel
theorem dX10_readWeek_144 : decode cX10_readWeek 144 = .ok (.if_icmp .ge 7, 3) := by decide +kernel
theorem dX10_readWeek_147 : decode cX10_readWeek 147 = .ok (.iconst 1, 1) := by decide +kernel
theorem dX10_readWeek_148 : decode cX10_readWeek 148 = .ok (.goto 4, 3) := by decide +kernel
theorem dX10_readWeek_151 : decode cX10_readWeek 151 = .ok (.iconst 0, 1) := by decide +kernel
theorem dX10_readWeek_152 : decode cX10_readWeek 152 = .ok (.istore_n 3, 1) := by decide +kernel
theorem dX10_readWeek_153 : decode cX10_readWeek 153 = .ok (.iload_n 3, 1) := by decide +kernel
theorem dX10_readWeek_154 : decode cX10_readWeek 154 = .ok (.ifCond .eq 11, 3) := by decide +kernel
theorem dX10_readWeek_157 : decode cX10_readWeek 157 = .ok (.iload_n 1, 1) := by decide +kernel
theorem dX10_readWeek_158 : decode cX10_readWeek 158 = .ok (.iconst 1, 1) := by decide +kernel
theorem dX10_readWeek_159 : decode cX10_readWeek 159 = .ok (.iadd, 1) := by decide +kernel
theorem dX10_readWeek_160 : decode cX10_readWeek 160 = .ok (.iconst 3, 1) := by decide +kernel
theorem dX10_readWeek_161 : decode cX10_readWeek 161 = .ok (.irem, 1) := by decide +kernel
theorem dX10_readWeek_162 : decode cX10_readWeek 162 = .ok (.goto 4, 3) := by decide +kernel
theorem dX10_readWeek_165 : decode cX10_readWeek 165 = .ok (.iload_n 1, 1) := by decide +kernel
theorem dX10_readWeek_166 : decode cX10_readWeek 166 = .ok (.istore_n 1, 1) := by decide +kernel
theorem dX10_readWeek_167 : decode cX10_readWeek 167 = .ok (.iload_n 2, 1) := by decide +kernel
theorem dX10_readWeek_168 : decode cX10_readWeek 168 = .ok (.iload_n 3, 1) := by decide +kernel
theorem dX10_readWeek_169 : decode cX10_readWeek 169 = .ok (.ifCond .eq 7, 3) := by decide +kernel
theorem dX10_readWeek_172 : decode cX10_readWeek 172 = .ok (.iconst 1, 1) := by decide +kernel
theorem dX10_readWeek_173 : decode cX10_readWeek 173 = .ok (.goto 4, 3) := by decide +kernel
theorem dX10_readWeek_176 : decode cX10_readWeek 176 = .ok (.iconst 0, 1) := by decide +kernel
theorem dX10_readWeek_177 : decode cX10_readWeek 177 = .ok (.iadd, 1) := by decide +kernel
theorem dX10_readWeek_178 : decode cX10_readWeek 178 = .ok (.istore_n 2, 1) := by decide +kernel
theorem dX10_readWeek_179 : decode cX10_readWeek 179 = .ok (.goto (-168), 3) := by decide +kernel
theorem dX10_readWeek_182 : decode cX10_readWeek 182 = .ok (.aload_n 0, 1) := by decide +kernel
theorem dX10_readWeek_183 : decode cX10_readWeek 183 = .ok (.iload_n 2, 1) := by decide +kernel
theorem dX10_readWeek_184 : decode cX10_readWeek 184 = .ok (.putfield 95, 3) := by decide +kernel
theorem dX10_readWeek_187 : decode cX10_readWeek 187 = .ok (.aload_n 0, 1) := by decide +kernel
theorem dX10_readWeek_188 : decode cX10_readWeek 188 = .ok (.iload_n 2, 1) := by decide +kernel
theorem dX10_readWeek_189 : decode cX10_readWeek 189 = .ok (.aload_n 0, 1) := by decide +kernel
theorem dX10_readWeek_190 : decode cX10_readWeek 190 = .ok (.getfield 81, 3) := by decide +kernel
theorem dX10_readWeek_193 : decode cX10_readWeek 193 = .ok (.if_icmp .ne 12, 3) := by decide +kernel
theorem dX10_readWeek_196 : decode cX10_readWeek 196 = .ok (.iload_n 1, 1) := by decide +kernel
theorem dX10_readWeek_197 : decode cX10_readWeek 197 = .ok (.iconst 2, 1) := by decide +kernel
theorem dX10_readWeek_198 : decode cX10_readWeek 198 = .ok (.if_icmp .ne 7, 3) := by decide +kernel
theorem dX10_readWeek_201 : decode cX10_readWeek 201 = .ok (.iconst 1, 1) := by decide +kernel
theorem dX10_readWeek_202 : decode cX10_readWeek 202 = .ok (.goto 4, 3) := by decide +kernel
theorem dX10_readWeek_205 : decode cX10_readWeek 205 = .ok (.iconst 0, 1) := by decide +kernel
theorem dX10_readWeek_206 : decode cX10_readWeek 206 = .ok (.putfield 98, 3) := by decide +kernel
theorem dX10_readWeek_209 : decode cX10_readWeek 209 = .ok (.return_, 1) := by decide +kernel
theorem dX10_fault_0 : decode cX10_fault 0 = .ok (.iload_n 1, 1) := by decide +kernel
theorem dX10_fault_1 : decode cX10_fault 1 = .ok (.iconst 0, 1) := by decide +kernel
theorem dX10_fault_2 : decode cX10_fault 2 = .ok (.iconst 1, 1) := by decide +kernel
theorem dX10_fault_3 : decode cX10_fault 3 = .ok (.invokestatic 87, 3) := by decide +kernel
theorem dX10_fault_6 : decode cX10_fault 6 = .ok (.ifCond .ne 6, 3) := by decide +kernel
theorem dX10_fault_9 : decode cX10_fault 9 = .ok (.bipush (-102), 2) := by decide +kernel
theorem dX10_fault_11 : decode cX10_fault 11 = .ok (.ireturn, 1) := by decide +kernel
theorem dX10_fault_12 : decode cX10_fault 12 = .ok (.iload_n 1, 1) := by decide +kernel
theorem dX10_fault_13 : decode cX10_fault 13 = .ok (.ifCond .ne 10, 3) := by decide +kernel
theorem dX10_fault_16 : decode cX10_fault 16 = .ok (.aload_n 0, 1) := by decide +kernel
theorem dX10_fault_17 : decode cX10_fault 17 = .ok (.invokevirtual 102, 3) := by decide +kernel
theorem dX10_fault_20 : decode cX10_fault 20 = .ok (.goto 7, 3) := by decide +kernel
theorem dX10_fault_23 : decode cX10_fault 23 = .ok (.aload_n 0, 1) := by decide +kernel
theorem dX10_fault_24 : decode cX10_fault 24 = .ok (.invokevirtual 105, 3) := by decide +kernel
theorem dX10_fault_27 : decode cX10_fault 27 = .ok (.aload_n 0, 1) := by decide +kernel
theorem dX10_fault_28 : decode cX10_fault 28 = .ok (.getfield 95, 3) := by decide +kernel
theorem dX10_fault_31 : decode cX10_fault 31 = .ok (.ireturn, 1) := by decide +kernel
theorem dX10_law_0 : decode cX10_law 0 = .ok (.aload_n 0, 1) := by decide +kernel
theorem dX10_law_1 : decode cX10_law 1 = .ok (.invokevirtual 102, 3) := by decide +kernel
theorem dX10_law_4 : decode cX10_law 4 = .ok (.aload_n 0, 1) := by decide +kernel
theorem dX10_law_5 : decode cX10_law 5 = .ok (.getfield 98, 3) := by decide +kernel
theorem dX10_law_8 : decode cX10_law 8 = .ok (.ifCond .ne 6, 3) := by decide +kernel
theorem dX10_law_11 : decode cX10_law 11 = .ok (.bipush (-103), 2) := by decide +kernel
theorem dX10_law_13 : decode cX10_law 13 = .ok (.ireturn, 1) := by decide +kernel
theorem dX10_law_14 : decode cX10_law 14 = .ok (.aload_n 0, 1) := by decide +kernel
theorem dX10_law_15 : decode cX10_law 15 = .ok (.aload_n 0, 1) := by decide +kernel
theorem dX10_law_16 : decode cX10_law 16 = .ok (.getfield 84, 3) := by decide +kernel
theorem dX10_law_19 : decode cX10_law 19 = .ok (.putfield 7, 3) := by decide +kernel
theorem dX10_law_22 : decode cX10_law 22 = .ok (.iconst 0, 1) := by decide +kernel
theorem dX10_law_23 : decode cX10_law 23 = .ok (.istore_n 1, 1) := by decide +kernel
theorem dX10_law_24 : decode cX10_law 24 = .ok (.iload_n 1, 1) := by decide +kernel
theorem dX10_law_25 : decode cX10_law 25 = .ok (.aload_n 0, 1) := by decide +kernel
theorem dX10_law_26 : decode cX10_law 26 = .ok (.getfield 7, 3) := by decide +kernel
theorem dX10_law_29 : decode cX10_law 29 = .ok (.if_icmp .ge 33, 3) := by decide +kernel
theorem dX10_law_32 : decode cX10_law 32 = .ok (.aload_n 0, 1) := by decide +kernel
theorem dX10_law_33 : decode cX10_law 33 = .ok (.getfield 13, 3) := by decide +kernel
theorem dX10_law_36 : decode cX10_law 36 = .ok (.iload_n 1, 1) := by decide +kernel
theorem dX10_law_37 : decode cX10_law 37 = .ok (.aload_n 0, 1) := by decide +kernel
theorem dX10_law_38 : decode cX10_law 38 = .ok (.getfield 42, 3) := by decide +kernel
theorem dX10_law_41 : decode cX10_law 41 = .ok (.iload_n 1, 1) := by decide +kernel
theorem dX10_law_42 : decode cX10_law 42 = .ok (.iaload, 1) := by decide +kernel
theorem dX10_law_43 : decode cX10_law 43 = .ok (.iastore, 1) := by decide +kernel
theorem dX10_law_44 : decode cX10_law 44 = .ok (.aload_n 0, 1) := by decide +kernel
theorem dX10_law_45 : decode cX10_law 45 = .ok (.getfield 17, 3) := by decide +kernel
theorem dX10_law_48 : decode cX10_law 48 = .ok (.iload_n 1, 1) := by decide +kernel
theorem dX10_law_49 : decode cX10_law 49 = .ok (.aload_n 0, 1) := by decide +kernel
theorem dX10_law_50 : decode cX10_law 50 = .ok (.getfield 45, 3) := by decide +kernel
theorem dX10_law_53 : decode cX10_law 53 = .ok (.iload_n 1, 1) := by decide +kernel
theorem dX10_law_54 : decode cX10_law 54 = .ok (.iaload, 1) := by decide +kernel
theorem dX10_law_55 : decode cX10_law 55 = .ok (.iastore, 1) := by decide +kernel
theorem dX10_law_56 : decode cX10_law 56 = .ok (.iinc 1 1, 3) := by decide +kernel
theorem dX10_law_59 : decode cX10_law 59 = .ok (.goto (-35), 3) := by decide +kernel
theorem dX10_law_62 : decode cX10_law 62 = .ok (.aload_n 0, 1) := by decide +kernel
theorem dX10_law_63 : decode cX10_law 63 = .ok (.dup, 1) := by decide +kernel
theorem dX10_law_64 : decode cX10_law 64 = .ok (.getfield 108, 3) := by decide +kernel
theorem dX10_law_67 : decode cX10_law 67 = .ok (.iconst 1, 1) := by decide +kernel
theorem dX10_law_68 : decode cX10_law 68 = .ok (.iadd, 1) := by decide +kernel
theorem dX10_law_69 : decode cX10_law 69 = .ok (.putfield 108, 3) := by decide +kernel
theorem dX10_law_72 : decode cX10_law 72 = .ok (.aload_n 0, 1) := by decide +kernel
theorem dX10_law_73 : decode cX10_law 73 = .ok (.iconst 0, 1) := by decide +kernel
theorem dX10_law_74 : decode cX10_law 74 = .ok (.putfield 81, 3) := by decide +kernel
theorem dX10_law_77 : decode cX10_law 77 = .ok (.aload_n 0, 1) := by decide +kernel
theorem dX10_law_78 : decode cX10_law 78 = .ok (.getfield 7, 3) := by decide +kernel
theorem dX10_law_81 : decode cX10_law 81 = .ok (.ireturn, 1) := by decide +kernel
theorem dX10_week_0 : decode cX10_week 0 = .ok (.aload_n 0, 1) := by decide +kernel
theorem dX10_week_1 : decode cX10_week 1 = .ok (.invokevirtual 105, 3) := by decide +kernel
theorem dX10_week_4 : decode cX10_week 4 = .ok (.aload_n 0, 1) := by decide +kernel
theorem dX10_week_5 : decode cX10_week 5 = .ok (.getfield 98, 3) := by decide +kernel
theorem dX10_week_8 : decode cX10_week 8 = .ok (.ifCond .ne 6, 3) := by decide +kernel
theorem dX10_week_11 : decode cX10_week 11 = .ok (.bipush (-103), 2) := by decide +kernel
theorem dX10_week_13 : decode cX10_week 13 = .ok (.ireturn, 1) := by decide +kernel
theorem dX10_week_14 : decode cX10_week 14 = .ok (.aload_n 0, 1) := by decide +kernel
theorem dX10_week_15 : decode cX10_week 15 = .ok (.aload_n 0, 1) := by decide +kernel
theorem dX10_week_16 : decode cX10_week 16 = .ok (.getfield 84, 3) := by decide +kernel
theorem dX10_week_19 : decode cX10_week 19 = .ok (.putfield 111, 3) := by decide +kernel
theorem dX10_week_22 : decode cX10_week 22 = .ok (.iconst 0, 1) := by decide +kernel
theorem dX10_week_23 : decode cX10_week 23 = .ok (.istore_n 1, 1) := by decide +kernel
theorem dX10_week_24 : decode cX10_week 24 = .ok (.iload_n 1, 1) := by decide +kernel
theorem dX10_week_25 : decode cX10_week 25 = .ok (.aload_n 0, 1) := by decide +kernel
theorem dX10_week_26 : decode cX10_week 26 = .ok (.getfield 111, 3) := by decide +kernel
theorem dX10_week_29 : decode cX10_week 29 = .ok (.if_icmp .ge 33, 3) := by decide +kernel
theorem dX10_week_32 : decode cX10_week 32 = .ok (.aload_n 0, 1) := by decide +kernel
theorem dX10_week_33 : decode cX10_week 33 = .ok (.getfield 20, 3) := by decide +kernel
theorem dX10_week_36 : decode cX10_week 36 = .ok (.iload_n 1, 1) := by decide +kernel
theorem dX10_week_37 : decode cX10_week 37 = .ok (.aload_n 0, 1) := by decide +kernel
theorem dX10_week_38 : decode cX10_week 38 = .ok (.getfield 48, 3) := by decide +kernel
theorem dX10_week_41 : decode cX10_week 41 = .ok (.iload_n 1, 1) := by decide +kernel
theorem dX10_week_42 : decode cX10_week 42 = .ok (.iaload, 1) := by decide +kernel
theorem dX10_week_43 : decode cX10_week 43 = .ok (.iastore, 1) := by decide +kernel
theorem dX10_week_44 : decode cX10_week 44 = .ok (.aload_n 0, 1) := by decide +kernel
theorem dX10_week_45 : decode cX10_week 45 = .ok (.getfield 23, 3) := by decide +kernel
theorem dX10_week_48 : decode cX10_week 48 = .ok (.iload_n 1, 1) := by decide +kernel
theorem dX10_week_49 : decode cX10_week 49 = .ok (.aload_n 0, 1) := by decide +kernel
theorem dX10_week_50 : decode cX10_week 50 = .ok (.getfield 51, 3) := by decide +kernel
theorem dX10_week_53 : decode cX10_week 53 = .ok (.iload_n 1, 1) := by decide +kernel
theorem dX10_week_54 : decode cX10_week 54 = .ok (.iaload, 1) := by decide +kernel
theorem dX10_week_55 : decode cX10_week 55 = .ok (.iastore, 1) := by decide +kernel
theorem dX10_week_56 : decode cX10_week 56 = .ok (.iinc 1 1, 3) := by decide +kernel
theorem dX10_week_59 : decode cX10_week 59 = .ok (.goto (-35), 3) := by decide +kernel
theorem dX10_week_62 : decode cX10_week 62 = .ok (.aload_n 0, 1) := by decide +kernel
theorem dX10_week_63 : decode cX10_week 63 = .ok (.dup, 1) := by decide +kernel
theorem dX10_week_64 : decode cX10_week 64 = .ok (.getfield 114, 3) := by decide +kernel
theorem dX10_week_67 : decode cX10_week 67 = .ok (.iconst 1, 1) := by decide +kernel
theorem dX10_week_68 : decode cX10_week 68 = .ok (.iadd, 1) := by decide +kernel
theorem dX10_week_69 : decode cX10_week 69 = .ok (.putfield 114, 3) := by decide +kernel
theorem dX10_week_72 : decode cX10_week 72 = .ok (.aload_n 0, 1) := by decide +kernel
theorem dX10_week_73 : decode cX10_week 73 = .ok (.iconst 0, 1) := by decide +kernel
theorem dX10_week_74 : decode cX10_week 74 = .ok (.putfield 81, 3) := by decide +kernel
theorem dX10_week_77 : decode cX10_week 77 = .ok (.aload_n 0, 1) := by decide +kernel
theorem dX10_week_78 : decode cX10_week 78 = .ok (.getfield 111, 3) := by decide +kernel
theorem dX10_week_81 : decode cX10_week 81 = .ok (.ireturn, 1) := by decide +kernel
theorem dX10_capped_0 : decode cX10_capped 0 = .ok (.iload_n 0, 1) := by decide +kernel
theorem dX10_capped_1 : decode cX10_capped 1 = .ok (.sipush 9999, 3) := by decide +kernel
theorem dX10_capped_4 : decode cX10_capped 4 = .ok (.if_icmp .le 9, 3) := by decide +kernel
theorem dX10_capped_7 : decode cX10_capped 7 = .ok (.sipush 9999, 3) := by decide +kernel
theorem dX10_capped_10 : decode cX10_capped 10 = .ok (.goto 12, 3) := by decide +kernel
theorem dX10_capped_13 : decode cX10_capped 13 = .ok (.iload_n 0, 1) := by decide +kernel
theorem dX10_capped_14 : decode cX10_capped 14 = .ok (.ifCond .ge 7, 3) := by decide +kernel
theorem dX10_capped_17 : decode cX10_capped 17 = .ok (.iconst 0, 1) := by decide +kernel
theorem dX10_capped_18 : decode cX10_capped 18 = .ok (.goto 4, 3) := by decide +kernel
theorem dX10_capped_21 : decode cX10_capped 21 = .ok (.iload_n 0, 1) := by decide +kernel
theorem dX10_capped_22 : decode cX10_capped 22 = .ok (.ireturn, 1) := by decide +kernel
theorem dX10_stepped_0 : decode cX10_stepped 0 = .ok (.aload_n 0, 1) := by decide +kernel
theorem dX10_stepped_1 : decode cX10_stepped 1 = .ok (.getfield 13, 3) := by decide +kernel
theorem dX10_stepped_4 : decode cX10_stepped 4 = .ok (.iload_n 2, 1) := by decide +kernel
theorem dX10_stepped_5 : decode cX10_stepped 5 = .ok (.iaload, 1) := by decide +kernel
theorem dX10_stepped_6 : decode cX10_stepped 6 = .ok (.tableswitch 58 0 3 #[30, 36, 40, 49], 30) := by decide +kernel
theorem dX10_stepped_36 : decode cX10_stepped 36 = .ok (.iload_n 1, 1) := by decide +kernel
theorem dX10_stepped_37 : decode cX10_stepped 37 = .ok (.iload_n 1, 1) := by decide +kernel
theorem dX10_stepped_38 : decode cX10_stepped 38 = .ok (.iconst 2, 1) := by decide +kernel
theorem dX10_stepped_39 : decode cX10_stepped 39 = .ok (.idiv, 1) := by decide +kernel
theorem dX10_stepped_40 : decode cX10_stepped 40 = .ok (.iadd, 1) := by decide +kernel
theorem dX10_stepped_41 : decode cX10_stepped 41 = .ok (.ireturn, 1) := by decide +kernel
theorem dX10_stepped_42 : decode cX10_stepped 42 = .ok (.iconst 2, 1) := by decide +kernel
theorem dX10_stepped_43 : decode cX10_stepped 43 = .ok (.iload_n 1, 1) := by decide +kernel
theorem dX10_stepped_44 : decode cX10_stepped 44 = .ok (.imul, 1) := by decide +kernel
theorem dX10_stepped_45 : decode cX10_stepped 45 = .ok (.ireturn, 1) := by decide +kernel
theorem dX10_stepped_46 : decode cX10_stepped 46 = .ok (.iload_n 1, 1) := by decide +kernel
theorem dX10_stepped_47 : decode cX10_stepped 47 = .ok (.aload_n 0, 1) := by decide +kernel
theorem dX10_stepped_48 : decode cX10_stepped 48 = .ok (.getfield 17, 3) := by decide +kernel
theorem dX10_stepped_51 : decode cX10_stepped 51 = .ok (.iload_n 2, 1) := by decide +kernel
theorem dX10_stepped_52 : decode cX10_stepped 52 = .ok (.iaload, 1) := by decide +kernel
theorem dX10_stepped_53 : decode cX10_stepped 53 = .ok (.iadd, 1) := by decide +kernel
theorem dX10_stepped_54 : decode cX10_stepped 54 = .ok (.ireturn, 1) := by decide +kernel
theorem dX10_stepped_55 : decode cX10_stepped 55 = .ok (.iload_n 1, 1) := by decide +kernel
theorem dX10_stepped_56 : decode cX10_stepped 56 = .ok (.aload_n 0, 1) := by decide +kernel
theorem dX10_stepped_57 : decode cX10_stepped 57 = .ok (.getfield 17, 3) := by decide +kernel
theorem dX10_stepped_60 : decode cX10_stepped 60 = .ok (.iload_n 2, 1) := by decide +kernel
theorem dX10_stepped_61 : decode cX10_stepped 61 = .ok (.iaload, 1) := by decide +kernel
theorem dX10_stepped_62 : decode cX10_stepped 62 = .ok (.isub, 1) := by decide +kernel
theorem dX10_stepped_63 : decode cX10_stepped 63 = .ok (.ireturn, 1) := by decide +kernel
theorem dX10_stepped_64 : decode cX10_stepped 64 = .ok (.iload_n 1, 1) := by decide +kernel
theorem dX10_stepped_65 : decode cX10_stepped 65 = .ok (.aload_n 0, 1) := by decide +kernel
theorem dX10_stepped_66 : decode cX10_stepped 66 = .ok (.getfield 17, 3) := by decide +kernel
theorem dX10_stepped_69 : decode cX10_stepped 69 = .ok (.iload_n 2, 1) := by decide +kernel
theorem dX10_stepped_70 : decode cX10_stepped 70 = .ok (.iaload, 1) := by decide +kernel
theorem dX10_stepped_71 : decode cX10_stepped 71 = .ok (.idiv, 1) := by decide +kernel
theorem dX10_stepped_72 : decode cX10_stepped 72 = .ok (.ireturn, 1) := by decide +kernel
theorem dX10_grownBy_0 : decode cX10_grownBy 0 = .ok (.iload_n 1, 1) := by decide +kernel
theorem dX10_grownBy_1 : decode cX10_grownBy 1 = .ok (.istore_n 2, 1) := by decide +kernel
theorem dX10_grownBy_2 : decode cX10_grownBy 2 = .ok (.iconst 0, 1) := by decide +kernel
theorem dX10_grownBy_3 : decode cX10_grownBy 3 = .ok (.istore_n 3, 1) := by decide +kernel
theorem dX10_grownBy_4 : decode cX10_grownBy 4 = .ok (.iload_n 3, 1) := by decide +kernel
theorem dX10_grownBy_5 : decode cX10_grownBy 5 = .ok (.aload_n 0, 1) := by decide +kernel
theorem dX10_grownBy_6 : decode cX10_grownBy 6 = .ok (.getfield 7, 3) := by decide +kernel
theorem dX10_grownBy_9 : decode cX10_grownBy 9 = .ok (.if_icmp .ge 19, 3) := by decide +kernel
theorem dX10_grownBy_12 : decode cX10_grownBy 12 = .ok (.aload_n 0, 1) := by decide +kernel
theorem dX10_grownBy_13 : decode cX10_grownBy 13 = .ok (.iload_n 2, 1) := by decide +kernel
theorem dX10_grownBy_14 : decode cX10_grownBy 14 = .ok (.iload_n 3, 1) := by decide +kernel
theorem dX10_grownBy_15 : decode cX10_grownBy 15 = .ok (.invokevirtual 117, 3) := by decide +kernel
theorem dX10_grownBy_18 : decode cX10_grownBy 18 = .ok (.invokestatic 121, 3) := by decide +kernel
theorem dX10_grownBy_21 : decode cX10_grownBy 21 = .ok (.istore_n 2, 1) := by decide +kernel
theorem dX10_grownBy_22 : decode cX10_grownBy 22 = .ok (.iinc 3 1, 3) := by decide +kernel
theorem dX10_grownBy_25 : decode cX10_grownBy 25 = .ok (.goto (-21), 3) := by decide +kernel
theorem dX10_grownBy_28 : decode cX10_grownBy 28 = .ok (.iload_n 2, 1) := by decide +kernel
theorem dX10_grownBy_29 : decode cX10_grownBy 29 = .ok (.ireturn, 1) := by decide +kernel
theorem dX10_isSize_0 : decode cX10_isSize 0 = .ok (.iload_n 0, 1) := by decide +kernel
theorem dX10_isSize_1 : decode cX10_isSize 1 = .ok (.iconst 0, 1) := by decide +kernel
theorem dX10_isSize_2 : decode cX10_isSize 2 = .ok (.sipush 9999, 3) := by decide +kernel
theorem dX10_isSize_5 : decode cX10_isSize 5 = .ok (.invokestatic 87, 3) := by decide +kernel
theorem dX10_isSize_8 : decode cX10_isSize 8 = .ok (.ireturn, 1) := by decide +kernel
theorem dX10_grown_0 : decode cX10_grown 0 = .ok (.iload_n 1, 1) := by decide +kernel
theorem dX10_grown_1 : decode cX10_grown 1 = .ok (.invokestatic 124, 3) := by decide +kernel
theorem dX10_grown_4 : decode cX10_grown 4 = .ok (.ifCond .eq 11, 3) := by decide +kernel
theorem dX10_grown_7 : decode cX10_grown 7 = .ok (.aload_n 0, 1) := by decide +kernel
theorem dX10_grown_8 : decode cX10_grown 8 = .ok (.iload_n 1, 1) := by decide +kernel
theorem dX10_grown_9 : decode cX10_grown 9 = .ok (.invokevirtual 128, 3) := by decide +kernel
theorem dX10_grown_12 : decode cX10_grown 12 = .ok (.goto 5, 3) := by decide +kernel
theorem dX10_grown_15 : decode cX10_grown 15 = .ok (.bipush (-102), 2) := by decide +kernel
theorem dX10_grown_17 : decode cX10_grown 17 = .ok (.ireturn, 1) := by decide +kernel
theorem dX10_telling_0 : decode cX10_telling 0 = .ok (.iload_n 1, 1) := by decide +kernel
theorem dX10_telling_1 : decode cX10_telling 1 = .ok (.iconst 0, 1) := by decide +kernel
theorem dX10_telling_2 : decode cX10_telling 2 = .ok (.aload_n 0, 1) := by decide +kernel
theorem dX10_telling_3 : decode cX10_telling 3 = .ok (.getfield 111, 3) := by decide +kernel
theorem dX10_telling_6 : decode cX10_telling 6 = .ok (.iconst 1, 1) := by decide +kernel
theorem dX10_telling_7 : decode cX10_telling 7 = .ok (.isub, 1) := by decide +kernel
theorem dX10_telling_8 : decode cX10_telling 8 = .ok (.invokestatic 87, 3) := by decide +kernel
theorem dX10_telling_11 : decode cX10_telling 11 = .ok (.ifCond .ne 6, 3) := by decide +kernel
theorem dX10_telling_14 : decode cX10_telling 14 = .ok (.bipush (-101), 2) := by decide +kernel
theorem dX10_telling_16 : decode cX10_telling 16 = .ok (.ireturn, 1) := by decide +kernel
theorem dX10_telling_17 : decode cX10_telling 17 = .ok (.iload_n 2, 1) := by decide +kernel
theorem dX10_telling_18 : decode cX10_telling 18 = .ok (.iconst 0, 1) := by decide +kernel
theorem dX10_telling_19 : decode cX10_telling 19 = .ok (.iconst 1, 1) := by decide +kernel
theorem dX10_telling_20 : decode cX10_telling 20 = .ok (.invokestatic 87, 3) := by decide +kernel
theorem dX10_telling_23 : decode cX10_telling 23 = .ok (.ifCond .ne 8, 3) := by decide +kernel
theorem dX10_telling_26 : decode cX10_telling 26 = .ok (.bipush (-102), 2) := by decide +kernel
theorem dX10_telling_28 : decode cX10_telling 28 = .ok (.goto 22, 3) := by decide +kernel
theorem dX10_telling_31 : decode cX10_telling 31 = .ok (.iload_n 2, 1) := by decide +kernel
theorem dX10_telling_32 : decode cX10_telling 32 = .ok (.ifCond .ne 12, 3) := by decide +kernel
theorem dX10_telling_35 : decode cX10_telling 35 = .ok (.aload_n 0, 1) := by decide +kernel
theorem dX10_telling_36 : decode cX10_telling 36 = .ok (.getfield 20, 3) := by decide +kernel
theorem dX10_telling_39 : decode cX10_telling 39 = .ok (.iload_n 1, 1) := by decide +kernel
theorem dX10_telling_40 : decode cX10_telling 40 = .ok (.iaload, 1) := by decide +kernel
theorem dX10_telling_41 : decode cX10_telling 41 = .ok (.goto 9, 3) := by decide +kernel
theorem dX10_telling_44 : decode cX10_telling 44 = .ok (.aload_n 0, 1) := by decide +kernel
theorem dX10_telling_45 : decode cX10_telling 45 = .ok (.getfield 23, 3) := by decide +kernel
theorem dX10_telling_48 : decode cX10_telling 48 = .ok (.iload_n 1, 1) := by decide +kernel
theorem dX10_telling_49 : decode cX10_telling 49 = .ok (.iaload, 1) := by decide +kernel
theorem dX10_telling_50 : decode cX10_telling 50 = .ok (.ireturn, 1) := by decide +kernel
theorem dX10_isPerson_0 : decode cX10_isPerson 0 = .ok (.iload_n 1, 1) := by decide +kernel
theorem dX10_isPerson_1 : decode cX10_isPerson 1 = .ok (.iconst 0, 1) := by decide +kernel
theorem dX10_isPerson_2 : decode cX10_isPerson 2 = .ok (.aload_n 0, 1) := by decide +kernel
theorem dX10_isPerson_3 : decode cX10_isPerson 3 = .ok (.getfield 131, 3) := by decide +kernel
theorem dX10_isPerson_6 : decode cX10_isPerson 6 = .ok (.iconst 1, 1) := by decide +kernel
theorem dX10_isPerson_7 : decode cX10_isPerson 7 = .ok (.isub, 1) := by decide +kernel
theorem dX10_isPerson_8 : decode cX10_isPerson 8 = .ok (.invokestatic 87, 3) := by decide +kernel
theorem dX10_isPerson_11 : decode cX10_isPerson 11 = .ok (.ireturn, 1) := by decide +kernel
theorem dX10_isTale_0 : decode cX10_isTale 0 = .ok (.iload_n 0, 1) := by decide +kernel
theorem dX10_isTale_1 : decode cX10_isTale 1 = .ok (.iconst 0, 1) := by decide +kernel
theorem dX10_isTale_2 : decode cX10_isTale 2 = .ok (.iconst 3, 1) := by decide +kernel
theorem dX10_isTale_3 : decode cX10_isTale 3 = .ok (.invokestatic 87, 3) := by decide +kernel
theorem dX10_isTale_6 : decode cX10_isTale 6 = .ok (.ireturn, 1) := by decide +kernel
theorem dX10_person_0 : decode cX10_person 0 = .ok (.iload_n 1, 1) := by decide +kernel
theorem dX10_person_1 : decode cX10_person 1 = .ok (.iconst 0, 1) := by decide +kernel
theorem dX10_person_2 : decode cX10_person 2 = .ok (.iconst 3, 1) := by decide +kernel
theorem dX10_person_3 : decode cX10_person 3 = .ok (.invokestatic 87, 3) := by decide +kernel
theorem dX10_person_6 : decode cX10_person 6 = .ok (.ifCond .ne 6, 3) := by decide +kernel
theorem dX10_person_9 : decode cX10_person 9 = .ok (.bipush (-102), 2) := by decide +kernel
theorem dX10_person_11 : decode cX10_person 11 = .ok (.ireturn, 1) := by decide +kernel
theorem dX10_person_12 : decode cX10_person 12 = .ok (.aload_n 0, 1) := by decide +kernel
theorem dX10_person_13 : decode cX10_person 13 = .ok (.getfield 131, 3) := by decide +kernel
theorem dX10_person_16 : decode cX10_person 16 = .ok (.bipush 8, 2) := by decide +kernel
theorem dX10_person_18 : decode cX10_person 18 = .ok (.if_icmp .ne 6, 3) := by decide +kernel
theorem dX10_person_21 : decode cX10_person 21 = .ok (.bipush (-104), 2) := by decide +kernel
theorem dX10_person_23 : decode cX10_person 23 = .ok (.ireturn, 1) := by decide +kernel
theorem dX10_person_24 : decode cX10_person 24 = .ok (.aload_n 0, 1) := by decide +kernel
theorem dX10_person_25 : decode cX10_person 25 = .ok (.getfield 26, 3) := by decide +kernel
theorem dX10_person_28 : decode cX10_person 28 = .ok (.aload_n 0, 1) := by decide +kernel
theorem dX10_person_29 : decode cX10_person 29 = .ok (.getfield 131, 3) := by decide +kernel
theorem dX10_person_32 : decode cX10_person 32 = .ok (.iload_n 1, 1) := by decide +kernel
theorem dX10_person_33 : decode cX10_person 33 = .ok (.iastore, 1) := by decide +kernel
theorem dX10_person_34 : decode cX10_person 34 = .ok (.aload_n 0, 1) := by decide +kernel
theorem dX10_person_35 : decode cX10_person 35 = .ok (.getfield 29, 3) := by decide +kernel
theorem dX10_person_38 : decode cX10_person 38 = .ok (.aload_n 0, 1) := by decide +kernel
theorem dX10_person_39 : decode cX10_person 39 = .ok (.getfield 131, 3) := by decide +kernel
theorem dX10_person_42 : decode cX10_person 42 = .ok (.iconst 0, 1) := by decide +kernel
theorem dX10_person_43 : decode cX10_person 43 = .ok (.iastore, 1) := by decide +kernel
theorem dX10_person_44 : decode cX10_person 44 = .ok (.aload_n 0, 1) := by decide +kernel
theorem dX10_person_45 : decode cX10_person 45 = .ok (.dup, 1) := by decide +kernel
theorem dX10_person_46 : decode cX10_person 46 = .ok (.getfield 131, 3) := by decide +kernel
theorem dX10_person_49 : decode cX10_person 49 = .ok (.iconst 1, 1) := by decide +kernel
theorem dX10_person_50 : decode cX10_person 50 = .ok (.iadd, 1) := by decide +kernel
theorem dX10_person_51 : decode cX10_person 51 = .ok (.putfield 131, 3) := by decide +kernel
theorem dX10_person_54 : decode cX10_person 54 = .ok (.aload_n 0, 1) := by decide +kernel
theorem dX10_person_55 : decode cX10_person 55 = .ok (.getfield 131, 3) := by decide +kernel
theorem dX10_person_58 : decode cX10_person 58 = .ok (.iconst 1, 1) := by decide +kernel
theorem dX10_person_59 : decode cX10_person 59 = .ok (.isub, 1) := by decide +kernel
theorem dX10_person_60 : decode cX10_person 60 = .ok (.ireturn, 1) := by decide +kernel
theorem dX10_kind_0 : decode cX10_kind 0 = .ok (.aload_n 0, 1) := by decide +kernel
theorem dX10_kind_1 : decode cX10_kind 1 = .ok (.iload_n 1, 1) := by decide +kernel
theorem dX10_kind_2 : decode cX10_kind 2 = .ok (.invokevirtual 134, 3) := by decide +kernel
theorem dX10_kind_5 : decode cX10_kind 5 = .ok (.ifCond .eq 12, 3) := by decide +kernel
theorem dX10_kind_8 : decode cX10_kind 8 = .ok (.aload_n 0, 1) := by decide +kernel
theorem dX10_kind_9 : decode cX10_kind 9 = .ok (.getfield 26, 3) := by decide +kernel
theorem dX10_kind_12 : decode cX10_kind 12 = .ok (.iload_n 1, 1) := by decide +kernel
theorem dX10_kind_13 : decode cX10_kind 13 = .ok (.iaload, 1) := by decide +kernel
theorem dX10_kind_14 : decode cX10_kind 14 = .ok (.goto 5, 3) := by decide +kernel
theorem dX10_kind_17 : decode cX10_kind 17 = .ok (.bipush (-101), 2) := by decide +kernel
theorem dX10_kind_19 : decode cX10_kind 19 = .ok (.ireturn, 1) := by decide +kernel
theorem dX10_as_0 : decode cX10_as 0 = .ok (.aload_n 0, 1) := by decide +kernel
theorem dX10_as_1 : decode cX10_as 1 = .ok (.iload_n 1, 1) := by decide +kernel
theorem dX10_as_2 : decode cX10_as 2 = .ok (.invokevirtual 134, 3) := by decide +kernel
theorem dX10_as_5 : decode cX10_as 5 = .ok (.ifCond .ne 6, 3) := by decide +kernel
theorem dX10_as_8 : decode cX10_as 8 = .ok (.bipush (-101), 2) := by decide +kernel
theorem dX10_as_10 : decode cX10_as 10 = .ok (.ireturn, 1) := by decide +kernel
theorem dX10_as_11 : decode cX10_as 11 = .ok (.iload_n 2, 1) := by decide +kernel
theorem dX10_as_12 : decode cX10_as 12 = .ok (.iconst 0, 1) := by decide +kernel
theorem dX10_as_13 : decode cX10_as 13 = .ok (.iconst 3, 1) := by decide +kernel
theorem dX10_as_14 : decode cX10_as 14 = .ok (.invokestatic 87, 3) := by decide +kernel
theorem dX10_as_17 : decode cX10_as 17 = .ok (.ifCond .ne 6, 3) := by decide +kernel
theorem dX10_as_20 : decode cX10_as 20 = .ok (.bipush (-102), 2) := by decide +kernel
theorem dX10_as_22 : decode cX10_as 22 = .ok (.ireturn, 1) := by decide +kernel
theorem dX10_as_23 : decode cX10_as 23 = .ok (.aload_n 0, 1) := by decide +kernel
theorem dX10_as_24 : decode cX10_as 24 = .ok (.getfield 26, 3) := by decide +kernel
theorem dX10_as_27 : decode cX10_as 27 = .ok (.iload_n 1, 1) := by decide +kernel
theorem dX10_as_28 : decode cX10_as 28 = .ok (.iaload, 1) := by decide +kernel
theorem dX10_as_29 : decode cX10_as 29 = .ok (.istore_n 3, 1) := by decide +kernel
theorem dX10_as_30 : decode cX10_as 30 = .ok (.iload_n 2, 1) := by decide +kernel
theorem dX10_as_31 : decode cX10_as 31 = .ok (.ifCond .eq 18, 3) := by decide +kernel
theorem dX10_as_34 : decode cX10_as 34 = .ok (.iload_n 3, 1) := by decide +kernel
theorem dX10_as_35 : decode cX10_as 35 = .ok (.iload_n 2, 1) := by decide +kernel
theorem dX10_as_36 : decode cX10_as 36 = .ok (.if_icmp .eq 13, 3) := by decide +kernel
theorem dX10_as_39 : decode cX10_as 39 = .ok (.iload_n 2, 1) := by decide +kernel
theorem dX10_as_40 : decode cX10_as 40 = .ok (.iconst 1, 1) := by decide +kernel
theorem dX10_as_41 : decode cX10_as 41 = .ok (.if_icmp .ne 12, 3) := by decide +kernel
theorem dX10_as_44 : decode cX10_as 44 = .ok (.iload_n 3, 1) := by decide +kernel
theorem dX10_as_45 : decode cX10_as 45 = .ok (.iconst 2, 1) := by decide +kernel
theorem dX10_as_46 : decode cX10_as 46 = .ok (.if_icmp .ne 7, 3) := by decide +kernel
theorem dX10_as_49 : decode cX10_as 49 = .ok (.iload_n 1, 1) := by decide +kernel
theorem dX10_as_50 : decode cX10_as 50 = .ok (.goto 4, 3) := by decide +kernel
theorem dX10_as_53 : decode cX10_as 53 = .ok (.iconst (-1), 1) := by decide +kernel
theorem dX10_as_54 : decode cX10_as 54 = .ok (.ireturn, 1) := by decide +kernel
theorem dX10_tellsBy_0 : decode cX10_tellsBy 0 = .ok (.iload_n 1, 1) := by decide +kernel
theorem dX10_tellsBy_1 : decode cX10_tellsBy 1 = .ok (.tableswitch 43 1 3 #[27, 29, 33], 27) := by decide +kernel
theorem dX10_tellsBy_28 : decode cX10_tellsBy 28 = .ok (.iload_n 2, 1) := by decide +kernel
theorem dX10_tellsBy_29 : decode cX10_tellsBy 29 = .ok (.ireturn, 1) := by decide +kernel
theorem dX10_tellsBy_30 : decode cX10_tellsBy 30 = .ok (.iload_n 2, 1) := by decide +kernel
theorem dX10_tellsBy_31 : decode cX10_tellsBy 31 = .ok (.iconst 2, 1) := by decide +kernel
theorem dX10_tellsBy_32 : decode cX10_tellsBy 32 = .ok (.idiv, 1) := by decide +kernel
theorem dX10_tellsBy_33 : decode cX10_tellsBy 33 = .ok (.ireturn, 1) := by decide +kernel
theorem dX10_tellsBy_34 : decode cX10_tellsBy 34 = .ok (.aload_n 0, 1) := by decide +kernel
theorem dX10_tellsBy_35 : decode cX10_tellsBy 35 = .ok (.aload_n 0, 1) := by decide +kernel
theorem dX10_tellsBy_36 : decode cX10_tellsBy 36 = .ok (.iload_n 2, 1) := by decide +kernel
theorem dX10_tellsBy_37 : decode cX10_tellsBy 37 = .ok (.invokevirtual 128, 3) := by decide +kernel
theorem dX10_tellsBy_40 : decode cX10_tellsBy 40 = .ok (.invokevirtual 128, 3) := by decide +kernel
theorem dX10_tellsBy_43 : decode cX10_tellsBy 43 = .ok (.ireturn, 1) := by decide +kernel
theorem dX10_tellsBy_44 : decode cX10_tellsBy 44 = .ok (.aload_n 0, 1) := by decide +kernel
theorem dX10_tellsBy_45 : decode cX10_tellsBy 45 = .ok (.iload_n 2, 1) := by decide +kernel
theorem dX10_tellsBy_46 : decode cX10_tellsBy 46 = .ok (.invokevirtual 128, 3) := by decide +kernel
theorem dX10_tellsBy_49 : decode cX10_tellsBy 49 = .ok (.ireturn, 1) := by decide +kernel
theorem dX10_tells_0 : decode cX10_tells 0 = .ok (.aload_n 0, 1) := by decide +kernel
theorem dX10_tells_1 : decode cX10_tells 1 = .ok (.iload_n 1, 1) := by decide +kernel
theorem dX10_tells_2 : decode cX10_tells 2 = .ok (.invokevirtual 134, 3) := by decide +kernel
theorem dX10_tells_5 : decode cX10_tells 5 = .ok (.ifCond .ne 6, 3) := by decide +kernel
theorem dX10_tells_8 : decode cX10_tells 8 = .ok (.bipush (-101), 2) := by decide +kernel
theorem dX10_tells_10 : decode cX10_tells 10 = .ok (.ireturn, 1) := by decide +kernel
theorem dX10_tells_11 : decode cX10_tells 11 = .ok (.iload_n 2, 1) := by decide +kernel
theorem dX10_tells_12 : decode cX10_tells 12 = .ok (.invokestatic 124, 3) := by decide +kernel
theorem dX10_tells_15 : decode cX10_tells 15 = .ok (.ifCond .eq 17, 3) := by decide +kernel
theorem dX10_tells_18 : decode cX10_tells 18 = .ok (.aload_n 0, 1) := by decide +kernel
theorem dX10_tells_19 : decode cX10_tells 19 = .ok (.aload_n 0, 1) := by decide +kernel
theorem dX10_tells_20 : decode cX10_tells 20 = .ok (.getfield 26, 3) := by decide +kernel
theorem dX10_tells_23 : decode cX10_tells 23 = .ok (.iload_n 1, 1) := by decide +kernel
theorem dX10_tells_24 : decode cX10_tells 24 = .ok (.iaload, 1) := by decide +kernel
theorem dX10_tells_25 : decode cX10_tells 25 = .ok (.iload_n 2, 1) := by decide +kernel
theorem dX10_tells_26 : decode cX10_tells 26 = .ok (.invokevirtual 137, 3) := by decide +kernel
theorem dX10_tells_29 : decode cX10_tells 29 = .ok (.goto 5, 3) := by decide +kernel
theorem dX10_tells_32 : decode cX10_tells 32 = .ok (.bipush (-102), 2) := by decide +kernel
theorem dX10_tells_34 : decode cX10_tells 34 = .ok (.ireturn, 1) := by decide +kernel
theorem dX10_knows_0 : decode cX10_knows 0 = .ok (.aload_n 0, 1) := by decide +kernel
theorem dX10_knows_1 : decode cX10_knows 1 = .ok (.iload_n 1, 1) := by decide +kernel
theorem dX10_knows_2 : decode cX10_knows 2 = .ok (.invokevirtual 134, 3) := by decide +kernel
theorem dX10_knows_5 : decode cX10_knows 5 = .ok (.ifCond .eq 16, 3) := by decide +kernel
theorem dX10_knows_8 : decode cX10_knows 8 = .ok (.aload_n 0, 1) := by decide +kernel
theorem dX10_knows_9 : decode cX10_knows 9 = .ok (.iload_n 2, 1) := by decide +kernel
theorem dX10_knows_10 : decode cX10_knows 10 = .ok (.invokevirtual 134, 3) := by decide +kernel
theorem dX10_knows_13 : decode cX10_knows 13 = .ok (.ifCond .eq 8, 3) := by decide +kernel
theorem dX10_knows_16 : decode cX10_knows 16 = .ok (.iload_n 1, 1) := by decide +kernel
theorem dX10_knows_17 : decode cX10_knows 17 = .ok (.iload_n 2, 1) := by decide +kernel
theorem dX10_knows_18 : decode cX10_knows 18 = .ok (.if_icmp .ne 6, 3) := by decide +kernel
theorem dX10_knows_21 : decode cX10_knows 21 = .ok (.bipush (-101), 2) := by decide +kernel
theorem dX10_knows_23 : decode cX10_knows 23 = .ok (.ireturn, 1) := by decide +kernel
theorem dX10_knows_24 : decode cX10_knows 24 = .ok (.aload_n 0, 1) := by decide +kernel
theorem dX10_knows_25 : decode cX10_knows 25 = .ok (.getfield 29, 3) := by decide +kernel
theorem dX10_knows_28 : decode cX10_knows 28 = .ok (.iload_n 1, 1) := by decide +kernel
theorem dX10_knows_29 : decode cX10_knows 29 = .ok (.iaload, 1) := by decide +kernel
theorem dX10_knows_30 : decode cX10_knows 30 = .ok (.iload_n 2, 1) := by decide +kernel
theorem dX10_knows_31 : decode cX10_knows 31 = .ok (.ishr, 1) := by decide +kernel
theorem dX10_knows_32 : decode cX10_knows 32 = .ok (.iconst 1, 1) := by decide +kernel
theorem dX10_knows_33 : decode cX10_knows 33 = .ok (.iand, 1) := by decide +kernel
theorem dX10_knows_34 : decode cX10_knows 34 = .ok (.istore 4, 2) := by decide +kernel
theorem dX10_knows_36 : decode cX10_knows 36 = .ok (.aload_n 0, 1) := by decide +kernel
theorem dX10_knows_37 : decode cX10_knows 37 = .ok (.getfield 29, 3) := by decide +kernel
theorem dX10_knows_40 : decode cX10_knows 40 = .ok (.iload_n 1, 1) := by decide +kernel
theorem dX10_knows_41 : decode cX10_knows 41 = .ok (.iload_n 3, 1) := by decide +kernel
theorem dX10_knows_42 : decode cX10_knows 42 = .ok (.ifCond .eq 16, 3) := by decide +kernel
theorem dX10_knows_45 : decode cX10_knows 45 = .ok (.aload_n 0, 1) := by decide +kernel
theorem dX10_knows_46 : decode cX10_knows 46 = .ok (.getfield 29, 3) := by decide +kernel
theorem dX10_knows_49 : decode cX10_knows 49 = .ok (.iload_n 1, 1) := by decide +kernel
theorem dX10_knows_50 : decode cX10_knows 50 = .ok (.iaload, 1) := by decide +kernel
theorem dX10_knows_51 : decode cX10_knows 51 = .ok (.iconst 1, 1) := by decide +kernel
theorem dX10_knows_52 : decode cX10_knows 52 = .ok (.iload_n 2, 1) := by decide +kernel
theorem dX10_knows_53 : decode cX10_knows 53 = .ok (.ishl, 1) := by decide +kernel
theorem dX10_knows_54 : decode cX10_knows 54 = .ok (.ior, 1) := by decide +kernel
theorem dX10_knows_55 : decode cX10_knows 55 = .ok (.goto 15, 3) := by decide +kernel
theorem dX10_knows_58 : decode cX10_knows 58 = .ok (.aload_n 0, 1) := by decide +kernel
theorem dX10_knows_59 : decode cX10_knows 59 = .ok (.getfield 29, 3) := by decide +kernel
theorem dX10_knows_62 : decode cX10_knows 62 = .ok (.iload_n 1, 1) := by decide +kernel
theorem dX10_knows_63 : decode cX10_knows 63 = .ok (.iaload, 1) := by decide +kernel
theorem dX10_knows_64 : decode cX10_knows 64 = .ok (.iconst 1, 1) := by decide +kernel
theorem dX10_knows_65 : decode cX10_knows 65 = .ok (.iload_n 2, 1) := by decide +kernel
theorem dX10_knows_66 : decode cX10_knows 66 = .ok (.ishl, 1) := by decide +kernel
theorem dX10_knows_67 : decode cX10_knows 67 = .ok (.iconst (-1), 1) := by decide +kernel
theorem dX10_knows_68 : decode cX10_knows 68 = .ok (.ixor, 1) := by decide +kernel
theorem dX10_knows_69 : decode cX10_knows 69 = .ok (.iand, 1) := by decide +kernel
theorem dX10_knows_70 : decode cX10_knows 70 = .ok (.iastore, 1) := by decide +kernel
theorem dX10_knows_71 : decode cX10_knows 71 = .ok (.iload 4, 2) := by decide +kernel
theorem dX10_knows_73 : decode cX10_knows 73 = .ok (.ireturn, 1) := by decide +kernel
theorem dX10_see_0 : decode cX10_see 0 = .ok (.iload_n 1, 1) := by decide +kernel
theorem dX10_see_1 : decode cX10_see 1 = .ok (.invokestatic 140, 3) := by decide +kernel
theorem dX10_see_4 : decode cX10_see 4 = .ok (.ifCond .eq 11, 3) := by decide +kernel
theorem dX10_see_7 : decode cX10_see 7 = .ok (.aload_n 0, 1) := by decide +kernel
theorem dX10_see_8 : decode cX10_see 8 = .ok (.iload_n 2, 1) := by decide +kernel
theorem dX10_see_9 : decode cX10_see 9 = .ok (.invokevirtual 134, 3) := by decide +kernel
theorem dX10_see_12 : decode cX10_see 12 = .ok (.ifCond .ne 6, 3) := by decide +kernel
theorem dX10_see_15 : decode cX10_see 15 = .ok (.bipush (-101), 2) := by decide +kernel
theorem dX10_see_17 : decode cX10_see 17 = .ok (.ireturn, 1) := by decide +kernel
theorem dX10_see_18 : decode cX10_see 18 = .ok (.iload_n 3, 1) := by decide +kernel
theorem dX10_see_19 : decode cX10_see 19 = .ok (.invokestatic 124, 3) := by decide +kernel
theorem dX10_see_22 : decode cX10_see 22 = .ok (.ifCond .ne 6, 3) := by decide +kernel
theorem dX10_see_25 : decode cX10_see 25 = .ok (.bipush (-102), 2) := by decide +kernel
theorem dX10_see_27 : decode cX10_see 27 = .ok (.ireturn, 1) := by decide +kernel
theorem dX10_see_28 : decode cX10_see 28 = .ok (.aload_n 0, 1) := by decide +kernel
theorem dX10_see_29 : decode cX10_see 29 = .ok (.getfield 32, 3) := by decide +kernel
theorem dX10_see_32 : decode cX10_see 32 = .ok (.iload_n 1, 1) := by decide +kernel
theorem dX10_see_33 : decode cX10_see 33 = .ok (.iaload, 1) := by decide +kernel
theorem dX10_see_34 : decode cX10_see 34 = .ok (.istore 4, 2) := by decide +kernel
theorem dX10_see_36 : decode cX10_see 36 = .ok (.aload_n 0, 1) := by decide +kernel
theorem dX10_see_37 : decode cX10_see 37 = .ok (.getfield 32, 3) := by decide +kernel
theorem dX10_see_40 : decode cX10_see 40 = .ok (.iload_n 1, 1) := by decide +kernel
theorem dX10_see_41 : decode cX10_see 41 = .ok (.iload_n 2, 1) := by decide +kernel
theorem dX10_see_42 : decode cX10_see 42 = .ok (.iastore, 1) := by decide +kernel
theorem dX10_see_43 : decode cX10_see 43 = .ok (.aload_n 0, 1) := by decide +kernel
theorem dX10_see_44 : decode cX10_see 44 = .ok (.getfield 35, 3) := by decide +kernel
theorem dX10_see_47 : decode cX10_see 47 = .ok (.iload_n 1, 1) := by decide +kernel
theorem dX10_see_48 : decode cX10_see 48 = .ok (.iload_n 3, 1) := by decide +kernel
theorem dX10_see_49 : decode cX10_see 49 = .ok (.iastore, 1) := by decide +kernel
theorem dX10_see_50 : decode cX10_see 50 = .ok (.iload 4, 2) := by decide +kernel
theorem dX10_see_52 : decode cX10_see 52 = .ok (.ireturn, 1) := by decide +kernel
theorem dX10_drop_0 : decode cX10_drop 0 = .ok (.iload_n 1, 1) := by decide +kernel
theorem dX10_drop_1 : decode cX10_drop 1 = .ok (.invokestatic 140, 3) := by decide +kernel
theorem dX10_drop_4 : decode cX10_drop 4 = .ok (.ifCond .ne 6, 3) := by decide +kernel
theorem dX10_drop_7 : decode cX10_drop 7 = .ok (.bipush (-101), 2) := by decide +kernel
theorem dX10_drop_9 : decode cX10_drop 9 = .ok (.ireturn, 1) := by decide +kernel
theorem dX10_drop_10 : decode cX10_drop 10 = .ok (.aload_n 0, 1) := by decide +kernel
theorem dX10_drop_11 : decode cX10_drop 11 = .ok (.getfield 32, 3) := by decide +kernel
theorem dX10_drop_14 : decode cX10_drop 14 = .ok (.iload_n 1, 1) := by decide +kernel
theorem dX10_drop_15 : decode cX10_drop 15 = .ok (.iaload, 1) := by decide +kernel
theorem dX10_drop_16 : decode cX10_drop 16 = .ok (.istore_n 2, 1) := by decide +kernel
theorem dX10_drop_17 : decode cX10_drop 17 = .ok (.aload_n 0, 1) := by decide +kernel
theorem dX10_drop_18 : decode cX10_drop 18 = .ok (.getfield 32, 3) := by decide +kernel
theorem dX10_drop_21 : decode cX10_drop 21 = .ok (.iload_n 1, 1) := by decide +kernel
theorem dX10_drop_22 : decode cX10_drop 22 = .ok (.iconst (-1), 1) := by decide +kernel
theorem dX10_drop_23 : decode cX10_drop 23 = .ok (.iastore, 1) := by decide +kernel
theorem dX10_drop_24 : decode cX10_drop 24 = .ok (.iload_n 2, 1) := by decide +kernel
theorem dX10_drop_25 : decode cX10_drop 25 = .ok (.ireturn, 1) := by decide +kernel
theorem dX10_begin_0 : decode cX10_begin 0 = .ok (.iconst 0, 1) := by decide +kernel
theorem dX10_begin_1 : decode cX10_begin 1 = .ok (.istore_n 3, 1) := by decide +kernel
theorem dX10_begin_2 : decode cX10_begin 2 = .ok (.iload_n 3, 1) := by decide +kernel
theorem dX10_begin_3 : decode cX10_begin 3 = .ok (.bipush 8, 2) := by decide +kernel
theorem dX10_begin_5 : decode cX10_begin 5 = .ok (.if_icmp .ge 23, 3) := by decide +kernel
theorem dX10_begin_8 : decode cX10_begin 8 = .ok (.aload_n 0, 1) := by decide +kernel
theorem dX10_begin_9 : decode cX10_begin 9 = .ok (.getfield 54, 3) := by decide +kernel
theorem dX10_begin_12 : decode cX10_begin 12 = .ok (.iload_n 3, 1) := by decide +kernel
theorem dX10_begin_13 : decode cX10_begin 13 = .ok (.iconst (-1), 1) := by decide +kernel
theorem dX10_begin_14 : decode cX10_begin 14 = .ok (.iastore, 1) := by decide +kernel
theorem dX10_begin_15 : decode cX10_begin 15 = .ok (.aload_n 0, 1) := by decide +kernel
theorem dX10_begin_16 : decode cX10_begin 16 = .ok (.getfield 57, 3) := by decide +kernel
theorem dX10_begin_19 : decode cX10_begin 19 = .ok (.iload_n 3, 1) := by decide +kernel
theorem dX10_begin_20 : decode cX10_begin 20 = .ok (.iconst (-1), 1) := by decide +kernel
theorem dX10_begin_21 : decode cX10_begin 21 = .ok (.iastore, 1) := by decide +kernel
theorem dX10_begin_22 : decode cX10_begin 22 = .ok (.iinc 3 1, 3) := by decide +kernel
theorem dX10_begin_25 : decode cX10_begin 25 = .ok (.goto (-23), 3) := by decide +kernel
theorem dX10_begin_28 : decode cX10_begin 28 = .ok (.iload_n 1, 1) := by decide +kernel
theorem dX10_begin_29 : decode cX10_begin 29 = .ok (.iconst (-1), 1) := by decide +kernel
theorem dX10_begin_30 : decode cX10_begin 30 = .ok (.if_icmp .eq 10, 3) := by decide +kernel
theorem dX10_begin_33 : decode cX10_begin 33 = .ok (.aload_n 0, 1) := by decide +kernel
theorem dX10_begin_34 : decode cX10_begin 34 = .ok (.getfield 54, 3) := by decide +kernel
theorem dX10_begin_37 : decode cX10_begin 37 = .ok (.iload_n 1, 1) := by decide +kernel
theorem dX10_begin_38 : decode cX10_begin 38 = .ok (.iload_n 2, 1) := by decide +kernel
theorem dX10_begin_39 : decode cX10_begin 39 = .ok (.iastore, 1) := by decide +kernel
theorem dX10_begin_40 : decode cX10_begin 40 = .ok (.return_, 1) := by decide +kernel
theorem dX10_tell_0 : decode cX10_tell 0 = .ok (.aload_n 0, 1) := by decide +kernel
theorem dX10_tell_1 : decode cX10_tell 1 = .ok (.iload_n 1, 1) := by decide +kernel
theorem dX10_tell_2 : decode cX10_tell 2 = .ok (.invokevirtual 134, 3) := by decide +kernel
theorem dX10_tell_5 : decode cX10_tell 5 = .ok (.ifCond .eq 62, 3) := by decide +kernel
theorem dX10_tell_8 : decode cX10_tell 8 = .ok (.aload_n 0, 1) := by decide +kernel
theorem dX10_tell_9 : decode cX10_tell 9 = .ok (.iload_n 2, 1) := by decide +kernel
theorem dX10_tell_10 : decode cX10_tell 10 = .ok (.invokevirtual 134, 3) := by decide +kernel
theorem dX10_tell_13 : decode cX10_tell 13 = .ok (.ifCond .eq 54, 3) := by decide +kernel
theorem dX10_tell_16 : decode cX10_tell 16 = .ok (.aload_n 0, 1) := by decide +kernel
theorem dX10_tell_17 : decode cX10_tell 17 = .ok (.getfield 54, 3) := by decide +kernel
theorem dX10_tell_20 : decode cX10_tell 20 = .ok (.iload_n 1, 1) := by decide +kernel
theorem dX10_tell_21 : decode cX10_tell 21 = .ok (.iaload, 1) := by decide +kernel
theorem dX10_tell_22 : decode cX10_tell 22 = .ok (.iconst (-1), 1) := by decide +kernel
theorem dX10_tell_23 : decode cX10_tell 23 = .ok (.if_icmp .eq 44, 3) := by decide +kernel
theorem dX10_tell_26 : decode cX10_tell 26 = .ok (.aload_n 0, 1) := by decide +kernel
theorem dX10_tell_27 : decode cX10_tell 27 = .ok (.aload_n 0, 1) := by decide +kernel
theorem dX10_tell_28 : decode cX10_tell 28 = .ok (.getfield 26, 3) := by decide +kernel
theorem dX10_tell_31 : decode cX10_tell 31 = .ok (.iload_n 1, 1) := by decide +kernel
theorem dX10_tell_32 : decode cX10_tell 32 = .ok (.iaload, 1) := by decide +kernel
theorem dX10_tell_33 : decode cX10_tell 33 = .ok (.aload_n 0, 1) := by decide +kernel
theorem dX10_tell_34 : decode cX10_tell 34 = .ok (.getfield 54, 3) := by decide +kernel
theorem dX10_tell_37 : decode cX10_tell 37 = .ok (.iload_n 1, 1) := by decide +kernel
theorem dX10_tell_38 : decode cX10_tell 38 = .ok (.iaload, 1) := by decide +kernel
theorem dX10_tell_39 : decode cX10_tell 39 = .ok (.invokevirtual 137, 3) := by decide +kernel
theorem dX10_tell_42 : decode cX10_tell 42 = .ok (.istore_n 3, 1) := by decide +kernel
theorem dX10_tell_43 : decode cX10_tell 43 = .ok (.iload_n 3, 1) := by decide +kernel
theorem dX10_tell_44 : decode cX10_tell 44 = .ok (.aload_n 0, 1) := by decide +kernel
theorem dX10_tell_45 : decode cX10_tell 45 = .ok (.getfield 54, 3) := by decide +kernel
theorem dX10_tell_48 : decode cX10_tell 48 = .ok (.iload_n 2, 1) := by decide +kernel
theorem dX10_tell_49 : decode cX10_tell 49 = .ok (.iaload, 1) := by decide +kernel
theorem dX10_tell_50 : decode cX10_tell 50 = .ok (.if_icmp .le 17, 3) := by decide +kernel
theorem dX10_tell_53 : decode cX10_tell 53 = .ok (.aload_n 0, 1) := by decide +kernel
theorem dX10_tell_54 : decode cX10_tell 54 = .ok (.getfield 54, 3) := by decide +kernel
theorem dX10_tell_57 : decode cX10_tell 57 = .ok (.iload_n 2, 1) := by decide +kernel
theorem dX10_tell_58 : decode cX10_tell 58 = .ok (.iload_n 3, 1) := by decide +kernel
theorem dX10_tell_59 : decode cX10_tell 59 = .ok (.iastore, 1) := by decide +kernel
theorem dX10_tell_60 : decode cX10_tell 60 = .ok (.aload_n 0, 1) := by decide +kernel
theorem dX10_tell_61 : decode cX10_tell 61 = .ok (.getfield 57, 3) := by decide +kernel
theorem dX10_tell_64 : decode cX10_tell 64 = .ok (.iload_n 2, 1) := by decide +kernel
theorem dX10_tell_65 : decode cX10_tell 65 = .ok (.iload_n 1, 1) := by decide +kernel
theorem dX10_tell_66 : decode cX10_tell 66 = .ok (.iastore, 1) := by decide +kernel
theorem dX10_tell_67 : decode cX10_tell 67 = .ok (.return_, 1) := by decide +kernel
theorem dX10_goWeek_0 : decode cX10_goWeek 0 = .ok (.aload_n 0, 1) := by decide +kernel
theorem dX10_goWeek_1 : decode cX10_goWeek 1 = .ok (.iload_n 1, 1) := by decide +kernel
theorem dX10_goWeek_2 : decode cX10_goWeek 2 = .ok (.iload_n 2, 1) := by decide +kernel
theorem dX10_goWeek_3 : decode cX10_goWeek 3 = .ok (.invokevirtual 143, 3) := by decide +kernel
theorem dX10_goWeek_6 : decode cX10_goWeek 6 = .ok (.iconst 0, 1) := by decide +kernel
theorem dX10_goWeek_7 : decode cX10_goWeek 7 = .ok (.istore_n 3, 1) := by decide +kernel
theorem dX10_goWeek_8 : decode cX10_goWeek 8 = .ok (.iload_n 3, 1) := by decide +kernel
theorem dX10_goWeek_9 : decode cX10_goWeek 9 = .ok (.aload_n 0, 1) := by decide +kernel
theorem dX10_goWeek_10 : decode cX10_goWeek 10 = .ok (.getfield 111, 3) := by decide +kernel
theorem dX10_goWeek_13 : decode cX10_goWeek 13 = .ok (.if_icmp .ge 25, 3) := by decide +kernel
theorem dX10_goWeek_16 : decode cX10_goWeek 16 = .ok (.aload_n 0, 1) := by decide +kernel
theorem dX10_goWeek_17 : decode cX10_goWeek 17 = .ok (.aload_n 0, 1) := by decide +kernel
theorem dX10_goWeek_18 : decode cX10_goWeek 18 = .ok (.getfield 20, 3) := by decide +kernel
theorem dX10_goWeek_21 : decode cX10_goWeek 21 = .ok (.iload_n 3, 1) := by decide +kernel
theorem dX10_goWeek_22 : decode cX10_goWeek 22 = .ok (.iaload, 1) := by decide +kernel
theorem dX10_goWeek_23 : decode cX10_goWeek 23 = .ok (.aload_n 0, 1) := by decide +kernel
theorem dX10_goWeek_24 : decode cX10_goWeek 24 = .ok (.getfield 23, 3) := by decide +kernel
theorem dX10_goWeek_27 : decode cX10_goWeek 27 = .ok (.iload_n 3, 1) := by decide +kernel
theorem dX10_goWeek_28 : decode cX10_goWeek 28 = .ok (.iaload, 1) := by decide +kernel
theorem dX10_goWeek_29 : decode cX10_goWeek 29 = .ok (.invokevirtual 147, 3) := by decide +kernel
theorem dX10_goWeek_32 : decode cX10_goWeek 32 = .ok (.iinc 3 1, 3) := by decide +kernel
theorem dX10_goWeek_35 : decode cX10_goWeek 35 = .ok (.goto (-27), 3) := by decide +kernel
theorem dX10_goWeek_38 : decode cX10_goWeek 38 = .ok (.return_, 1) := by decide +kernel
theorem dX10_goTale_0 : decode cX10_goTale 0 = .ok (.aload_n 0, 1) := by decide +kernel
theorem dX10_goTale_1 : decode cX10_goTale 1 = .ok (.aload_n 0, 1) := by decide +kernel
theorem dX10_goTale_2 : decode cX10_goTale 2 = .ok (.getfield 32, 3) := by decide +kernel
theorem dX10_goTale_5 : decode cX10_goTale 5 = .ok (.iload_n 1, 1) := by decide +kernel
theorem dX10_goTale_6 : decode cX10_goTale 6 = .ok (.iaload, 1) := by decide +kernel
theorem dX10_goTale_7 : decode cX10_goTale 7 = .ok (.aload_n 0, 1) := by decide +kernel
theorem dX10_goTale_8 : decode cX10_goTale 8 = .ok (.getfield 35, 3) := by decide +kernel
theorem dX10_goTale_11 : decode cX10_goTale 11 = .ok (.iload_n 1, 1) := by decide +kernel
theorem dX10_goTale_12 : decode cX10_goTale 12 = .ok (.iaload, 1) := by decide +kernel
theorem dX10_goTale_13 : decode cX10_goTale 13 = .ok (.invokevirtual 150, 3) := by decide +kernel
theorem dX10_goTale_16 : decode cX10_goTale 16 = .ok (.return_, 1) := by decide +kernel
theorem dX10_size_0 : decode cX10_size 0 = .ok (.aload_n 0, 1) := by decide +kernel
theorem dX10_size_1 : decode cX10_size 1 = .ok (.iload_n 1, 1) := by decide +kernel
theorem dX10_size_2 : decode cX10_size 2 = .ok (.invokevirtual 134, 3) := by decide +kernel
theorem dX10_size_5 : decode cX10_size 5 = .ok (.ifCond .eq 10, 3) := by decide +kernel
theorem dX10_size_8 : decode cX10_size 8 = .ok (.iload_n 2, 1) := by decide +kernel
theorem dX10_size_9 : decode cX10_size 9 = .ok (.invokestatic 140, 3) := by decide +kernel
theorem dX10_size_12 : decode cX10_size 12 = .ok (.ifCond .ne 6, 3) := by decide +kernel
theorem dX10_size_15 : decode cX10_size 15 = .ok (.bipush (-101), 2) := by decide +kernel
theorem dX10_size_17 : decode cX10_size 17 = .ok (.ireturn, 1) := by decide +kernel
theorem dX10_size_18 : decode cX10_size 18 = .ok (.aload_n 0, 1) := by decide +kernel
theorem dX10_size_19 : decode cX10_size 19 = .ok (.iload_n 2, 1) := by decide +kernel
theorem dX10_size_20 : decode cX10_size 20 = .ok (.invokevirtual 153, 3) := by decide +kernel
theorem dX10_size_23 : decode cX10_size 23 = .ok (.aload_n 0, 1) := by decide +kernel
theorem dX10_size_24 : decode cX10_size 24 = .ok (.getfield 54, 3) := by decide +kernel
theorem dX10_size_27 : decode cX10_size 27 = .ok (.iload_n 1, 1) := by decide +kernel
theorem dX10_size_28 : decode cX10_size 28 = .ok (.iaload, 1) := by decide +kernel
theorem dX10_size_29 : decode cX10_size 29 = .ok (.ireturn, 1) := by decide +kernel
theorem dX10_from_0 : decode cX10_from 0 = .ok (.aload_n 0, 1) := by decide +kernel
theorem dX10_from_1 : decode cX10_from 1 = .ok (.iload_n 1, 1) := by decide +kernel
theorem dX10_from_2 : decode cX10_from 2 = .ok (.invokevirtual 134, 3) := by decide +kernel
theorem dX10_from_5 : decode cX10_from 5 = .ok (.ifCond .eq 10, 3) := by decide +kernel
theorem dX10_from_8 : decode cX10_from 8 = .ok (.iload_n 2, 1) := by decide +kernel
theorem dX10_from_9 : decode cX10_from 9 = .ok (.invokestatic 140, 3) := by decide +kernel
theorem dX10_from_12 : decode cX10_from 12 = .ok (.ifCond .ne 6, 3) := by decide +kernel
theorem dX10_from_15 : decode cX10_from 15 = .ok (.bipush (-101), 2) := by decide +kernel
theorem dX10_from_17 : decode cX10_from 17 = .ok (.ireturn, 1) := by decide +kernel
theorem dX10_from_18 : decode cX10_from 18 = .ok (.aload_n 0, 1) := by decide +kernel
theorem dX10_from_19 : decode cX10_from 19 = .ok (.iload_n 2, 1) := by decide +kernel
theorem dX10_from_20 : decode cX10_from 20 = .ok (.invokevirtual 153, 3) := by decide +kernel
theorem dX10_from_23 : decode cX10_from 23 = .ok (.aload_n 0, 1) := by decide +kernel
theorem dX10_from_24 : decode cX10_from 24 = .ok (.getfield 57, 3) := by decide +kernel
theorem dX10_from_27 : decode cX10_from 27 = .ok (.iload_n 1, 1) := by decide +kernel
theorem dX10_from_28 : decode cX10_from 28 = .ok (.iaload, 1) := by decide +kernel
theorem dX10_from_29 : decode cX10_from 29 = .ok (.ireturn, 1) := by decide +kernel
theorem dX10_firsts_0 : decode cX10_firsts 0 = .ok (.iload_n 1, 1) := by decide +kernel
theorem dX10_firsts_1 : decode cX10_firsts 1 = .ok (.invokestatic 140, 3) := by decide +kernel
theorem dX10_firsts_4 : decode cX10_firsts 4 = .ok (.ifCond .eq 11, 3) := by decide +kernel
theorem dX10_firsts_7 : decode cX10_firsts 7 = .ok (.aload_n 0, 1) := by decide +kernel
theorem dX10_firsts_8 : decode cX10_firsts 8 = .ok (.iload_n 2, 1) := by decide +kernel
theorem dX10_firsts_9 : decode cX10_firsts 9 = .ok (.invokevirtual 134, 3) := by decide +kernel
theorem dX10_firsts_12 : decode cX10_firsts 12 = .ok (.ifCond .ne 6, 3) := by decide +kernel
theorem dX10_firsts_15 : decode cX10_firsts 15 = .ok (.bipush (-101), 2) := by decide +kernel
theorem dX10_firsts_17 : decode cX10_firsts 17 = .ok (.ireturn, 1) := by decide +kernel
theorem dX10_firsts_18 : decode cX10_firsts 18 = .ok (.iload_n 3, 1) := by decide +kernel
theorem dX10_firsts_19 : decode cX10_firsts 19 = .ok (.invokestatic 124, 3) := by decide +kernel
theorem dX10_firsts_22 : decode cX10_firsts 22 = .ok (.ifCond .eq 13, 3) := by decide +kernel
theorem dX10_firsts_25 : decode cX10_firsts 25 = .ok (.iload 4, 2) := by decide +kernel
theorem dX10_firsts_27 : decode cX10_firsts 27 = .ok (.iconst 0, 1) := by decide +kernel
theorem dX10_firsts_28 : decode cX10_firsts 28 = .ok (.iconst 2, 1) := by decide +kernel
theorem dX10_firsts_29 : decode cX10_firsts 29 = .ok (.invokestatic 87, 3) := by decide +kernel
theorem dX10_firsts_32 : decode cX10_firsts 32 = .ok (.ifCond .ne 6, 3) := by decide +kernel
theorem dX10_firsts_35 : decode cX10_firsts 35 = .ok (.bipush (-102), 2) := by decide +kernel
theorem dX10_firsts_37 : decode cX10_firsts 37 = .ok (.ireturn, 1) := by decide +kernel
theorem dX10_firsts_38 : decode cX10_firsts 38 = .ok (.aload_n 0, 1) := by decide +kernel
theorem dX10_firsts_39 : decode cX10_firsts 39 = .ok (.getfield 32, 3) := by decide +kernel
theorem dX10_firsts_42 : decode cX10_firsts 42 = .ok (.iload_n 1, 1) := by decide +kernel
theorem dX10_firsts_43 : decode cX10_firsts 43 = .ok (.iaload, 1) := by decide +kernel
theorem dX10_firsts_44 : decode cX10_firsts 44 = .ok (.iconst (-1), 1) := by decide +kernel
theorem dX10_firsts_45 : decode cX10_firsts 45 = .ok (.if_icmp .ne 6, 3) := by decide +kernel
theorem dX10_firsts_48 : decode cX10_firsts 48 = .ok (.bipush (-103), 2) := by decide +kernel
theorem dX10_firsts_50 : decode cX10_firsts 50 = .ok (.ireturn, 1) := by decide +kernel
theorem dX10_firsts_51 : decode cX10_firsts 51 = .ok (.iconst 0, 1) := by decide +kernel
theorem dX10_firsts_52 : decode cX10_firsts 52 = .ok (.istore 5, 2) := by decide +kernel
theorem dX10_firsts_54 : decode cX10_firsts 54 = .ok (.iconst (-1), 1) := by decide +kernel
theorem dX10_firsts_55 : decode cX10_firsts 55 = .ok (.istore 6, 2) := by decide +kernel
theorem dX10_firsts_57 : decode cX10_firsts 57 = .ok (.iconst (-1), 1) := by decide +kernel
theorem dX10_firsts_58 : decode cX10_firsts 58 = .ok (.istore 7, 2) := by decide +kernel
theorem dX10_firsts_60 : decode cX10_firsts 60 = .ok (.iconst 0, 1) := by decide +kernel
theorem dX10_firsts_61 : decode cX10_firsts 61 = .ok (.istore 8, 2) := by decide +kernel
theorem dX10_firsts_63 : decode cX10_firsts 63 = .ok (.iload 8, 2) := by decide +kernel
theorem dX10_firsts_65 : decode cX10_firsts 65 = .ok (.sipush 1000, 3) := by decide +kernel
theorem dX10_firsts_68 : decode cX10_firsts 68 = .ok (.if_icmp .ge 53, 3) := by decide +kernel
theorem dX10_firsts_71 : decode cX10_firsts 71 = .ok (.aload_n 0, 1) := by decide +kernel
theorem dX10_firsts_72 : decode cX10_firsts 72 = .ok (.aload_n 0, 1) := by decide +kernel
theorem dX10_firsts_73 : decode cX10_firsts 73 = .ok (.getfield 32, 3) := by decide +kernel
theorem dX10_firsts_76 : decode cX10_firsts 76 = .ok (.iload_n 1, 1) := by decide +kernel
theorem dX10_firsts_77 : decode cX10_firsts 77 = .ok (.iaload, 1) := by decide +kernel
theorem dX10_firsts_78 : decode cX10_firsts 78 = .ok (.iload 8, 2) := by decide +kernel
theorem dX10_firsts_80 : decode cX10_firsts 80 = .ok (.invokevirtual 150, 3) := by decide +kernel
theorem dX10_firsts_83 : decode cX10_firsts 83 = .ok (.aload_n 0, 1) := by decide +kernel
theorem dX10_firsts_84 : decode cX10_firsts 84 = .ok (.getfield 54, 3) := by decide +kernel
theorem dX10_firsts_87 : decode cX10_firsts 87 = .ok (.iload_n 2, 1) := by decide +kernel
theorem dX10_firsts_88 : decode cX10_firsts 88 = .ok (.iaload, 1) := by decide +kernel
theorem dX10_firsts_89 : decode cX10_firsts 89 = .ok (.iload_n 3, 1) := by decide +kernel
theorem dX10_firsts_90 : decode cX10_firsts 90 = .ok (.if_icmp .ne 25, 3) := by decide +kernel
theorem dX10_firsts_93 : decode cX10_firsts 93 = .ok (.iinc 5 1, 3) := by decide +kernel
theorem dX10_firsts_96 : decode cX10_firsts 96 = .ok (.iload 6, 2) := by decide +kernel
theorem dX10_firsts_98 : decode cX10_firsts 98 = .ok (.iconst (-1), 1) := by decide +kernel
theorem dX10_firsts_99 : decode cX10_firsts 99 = .ok (.if_icmp .ne 8, 3) := by decide +kernel
theorem dX10_firsts_102 : decode cX10_firsts 102 = .ok (.iload 8, 2) := by decide +kernel
theorem dX10_firsts_104 : decode cX10_firsts 104 = .ok (.goto 5, 3) := by decide +kernel
theorem dX10_firsts_107 : decode cX10_firsts 107 = .ok (.iload 6, 2) := by decide +kernel
theorem dX10_firsts_109 : decode cX10_firsts 109 = .ok (.istore 6, 2) := by decide +kernel
theorem dX10_firsts_111 : decode cX10_firsts 111 = .ok (.iload 8, 2) := by decide +kernel
theorem dX10_firsts_113 : decode cX10_firsts 113 = .ok (.istore 7, 2) := by decide +kernel
theorem dX10_firsts_115 : decode cX10_firsts 115 = .ok (.iinc 8 1, 3) := by decide +kernel
theorem dX10_firsts_118 : decode cX10_firsts 118 = .ok (.goto (-55), 3) := by decide +kernel
theorem dX10_firsts_121 : decode cX10_firsts 121 = .ok (.iload 4, 2) := by decide +kernel
theorem dX10_firsts_123 : decode cX10_firsts 123 = .ok (.ifCond .ne 8, 3) := by decide +kernel
theorem dX10_firsts_126 : decode cX10_firsts 126 = .ok (.iload 5, 2) := by decide +kernel
theorem dX10_firsts_128 : decode cX10_firsts 128 = .ok (.goto 16, 3) := by decide +kernel
theorem dX10_firsts_131 : decode cX10_firsts 131 = .ok (.iload 4, 2) := by decide +kernel
theorem dX10_firsts_133 : decode cX10_firsts 133 = .ok (.iconst 1, 1) := by decide +kernel
theorem dX10_firsts_134 : decode cX10_firsts 134 = .ok (.if_icmp .ne 8, 3) := by decide +kernel
theorem dX10_firsts_137 : decode cX10_firsts 137 = .ok (.iload 6, 2) := by decide +kernel
theorem dX10_firsts_139 : decode cX10_firsts 139 = .ok (.goto 5, 3) := by decide +kernel
theorem dX10_firsts_142 : decode cX10_firsts 142 = .ok (.iload 7, 2) := by decide +kernel
theorem dX10_firsts_144 : decode cX10_firsts 144 = .ok (.ireturn, 1) := by decide +kernel
theorem dX10_modest_0 : decode cX10_modest 0 = .ok (.iload_n 1, 1) := by decide +kernel
theorem dX10_modest_1 : decode cX10_modest 1 = .ok (.invokestatic 140, 3) := by decide +kernel
theorem dX10_modest_4 : decode cX10_modest 4 = .ok (.ifCond .eq 11, 3) := by decide +kernel
theorem dX10_modest_7 : decode cX10_modest 7 = .ok (.aload_n 0, 1) := by decide +kernel
theorem dX10_modest_8 : decode cX10_modest 8 = .ok (.iload_n 2, 1) := by decide +kernel
theorem dX10_modest_9 : decode cX10_modest 9 = .ok (.invokevirtual 134, 3) := by decide +kernel
theorem dX10_modest_12 : decode cX10_modest 12 = .ok (.ifCond .ne 6, 3) := by decide +kernel
theorem dX10_modest_15 : decode cX10_modest 15 = .ok (.bipush (-101), 2) := by decide +kernel
theorem dX10_modest_17 : decode cX10_modest 17 = .ok (.ireturn, 1) := by decide +kernel
theorem dX10_modest_18 : decode cX10_modest 18 = .ok (.iload_n 3, 1) := by decide +kernel
theorem dX10_modest_19 : decode cX10_modest 19 = .ok (.invokestatic 124, 3) := by decide +kernel
theorem dX10_modest_22 : decode cX10_modest 22 = .ok (.ifCond .ne 6, 3) := by decide +kernel
theorem dX10_modest_25 : decode cX10_modest 25 = .ok (.bipush (-102), 2) := by decide +kernel
theorem dX10_modest_27 : decode cX10_modest 27 = .ok (.ireturn, 1) := by decide +kernel
theorem dX10_modest_28 : decode cX10_modest 28 = .ok (.aload_n 0, 1) := by decide +kernel
theorem dX10_modest_29 : decode cX10_modest 29 = .ok (.getfield 32, 3) := by decide +kernel
theorem dX10_modest_32 : decode cX10_modest 32 = .ok (.iload_n 1, 1) := by decide +kernel
theorem dX10_modest_33 : decode cX10_modest 33 = .ok (.iaload, 1) := by decide +kernel
theorem dX10_modest_34 : decode cX10_modest 34 = .ok (.iconst (-1), 1) := by decide +kernel
theorem dX10_modest_35 : decode cX10_modest 35 = .ok (.if_icmp .ne 6, 3) := by decide +kernel
theorem dX10_modest_38 : decode cX10_modest 38 = .ok (.bipush (-103), 2) := by decide +kernel
theorem dX10_modest_40 : decode cX10_modest 40 = .ok (.ireturn, 1) := by decide +kernel
theorem dX10_modest_41 : decode cX10_modest 41 = .ok (.iconst 0, 1) := by decide +kernel
theorem dX10_modest_42 : decode cX10_modest 42 = .ok (.istore 4, 2) := by decide +kernel
theorem dX10_modest_44 : decode cX10_modest 44 = .ok (.iconst 0, 1) := by decide +kernel
theorem dX10_modest_45 : decode cX10_modest 45 = .ok (.istore 5, 2) := by decide +kernel
theorem dX10_modest_47 : decode cX10_modest 47 = .ok (.iload 5, 2) := by decide +kernel
theorem dX10_modest_49 : decode cX10_modest 49 = .ok (.aload_n 0, 1) := by decide +kernel
theorem dX10_modest_50 : decode cX10_modest 50 = .ok (.getfield 131, 3) := by decide +kernel
theorem dX10_modest_53 : decode cX10_modest 53 = .ok (.if_icmp .ge 75, 3) := by decide +kernel
theorem dX10_modest_56 : decode cX10_modest 56 = .ok (.aload_n 0, 1) := by decide +kernel
theorem dX10_modest_57 : decode cX10_modest 57 = .ok (.getfield 26, 3) := by decide +kernel
theorem dX10_modest_60 : decode cX10_modest 60 = .ok (.iload 5, 2) := by decide +kernel
theorem dX10_modest_62 : decode cX10_modest 62 = .ok (.iaload, 1) := by decide +kernel
theorem dX10_modest_63 : decode cX10_modest 63 = .ok (.istore 6, 2) := by decide +kernel
theorem dX10_modest_65 : decode cX10_modest 65 = .ok (.iload 6, 2) := by decide +kernel
theorem dX10_modest_67 : decode cX10_modest 67 = .ok (.iconst 1, 1) := by decide +kernel
theorem dX10_modest_68 : decode cX10_modest 68 = .ok (.if_icmp .eq 54, 3) := by decide +kernel
theorem dX10_modest_71 : decode cX10_modest 71 = .ok (.iload 6, 2) := by decide +kernel
theorem dX10_modest_73 : decode cX10_modest 73 = .ok (.iconst 2, 1) := by decide +kernel
theorem dX10_modest_74 : decode cX10_modest 74 = .ok (.if_icmp .eq 48, 3) := by decide +kernel
theorem dX10_modest_77 : decode cX10_modest 77 = .ok (.aload_n 0, 1) := by decide +kernel
theorem dX10_modest_78 : decode cX10_modest 78 = .ok (.getfield 26, 3) := by decide +kernel
theorem dX10_modest_81 : decode cX10_modest 81 = .ok (.iload 5, 2) := by decide +kernel
theorem dX10_modest_83 : decode cX10_modest 83 = .ok (.iconst 1, 1) := by decide +kernel
theorem dX10_modest_84 : decode cX10_modest 84 = .ok (.iastore, 1) := by decide +kernel
theorem dX10_modest_85 : decode cX10_modest 85 = .ok (.aload_n 0, 1) := by decide +kernel
theorem dX10_modest_86 : decode cX10_modest 86 = .ok (.iload_n 1, 1) := by decide +kernel
theorem dX10_modest_87 : decode cX10_modest 87 = .ok (.invokevirtual 153, 3) := by decide +kernel
theorem dX10_modest_90 : decode cX10_modest 90 = .ok (.iload 4, 2) := by decide +kernel
theorem dX10_modest_92 : decode cX10_modest 92 = .ok (.aload_n 0, 1) := by decide +kernel
theorem dX10_modest_93 : decode cX10_modest 93 = .ok (.getfield 54, 3) := by decide +kernel
theorem dX10_modest_96 : decode cX10_modest 96 = .ok (.iload_n 2, 1) := by decide +kernel
theorem dX10_modest_97 : decode cX10_modest 97 = .ok (.iaload, 1) := by decide +kernel
theorem dX10_modest_98 : decode cX10_modest 98 = .ok (.iload_n 3, 1) := by decide +kernel
theorem dX10_modest_99 : decode cX10_modest 99 = .ok (.if_icmp .ne 10, 3) := by decide +kernel
theorem dX10_modest_102 : decode cX10_modest 102 = .ok (.iconst 1, 1) := by decide +kernel
theorem dX10_modest_103 : decode cX10_modest 103 = .ok (.iload 5, 2) := by decide +kernel
theorem dX10_modest_105 : decode cX10_modest 105 = .ok (.ishl, 1) := by decide +kernel
theorem dX10_modest_106 : decode cX10_modest 106 = .ok (.goto 4, 3) := by decide +kernel
theorem dX10_modest_109 : decode cX10_modest 109 = .ok (.iconst 0, 1) := by decide +kernel
theorem dX10_modest_110 : decode cX10_modest 110 = .ok (.ior, 1) := by decide +kernel
theorem dX10_modest_111 : decode cX10_modest 111 = .ok (.istore 4, 2) := by decide +kernel
theorem dX10_modest_113 : decode cX10_modest 113 = .ok (.aload_n 0, 1) := by decide +kernel
theorem dX10_modest_114 : decode cX10_modest 114 = .ok (.getfield 26, 3) := by decide +kernel
theorem dX10_modest_117 : decode cX10_modest 117 = .ok (.iload 5, 2) := by decide +kernel
theorem dX10_modest_119 : decode cX10_modest 119 = .ok (.iload 6, 2) := by decide +kernel
theorem dX10_modest_121 : decode cX10_modest 121 = .ok (.iastore, 1) := by decide +kernel
theorem dX10_modest_122 : decode cX10_modest 122 = .ok (.iinc 5 1, 3) := by decide +kernel
theorem dX10_modest_125 : decode cX10_modest 125 = .ok (.goto (-78), 3) := by decide +kernel
theorem dX10_modest_128 : decode cX10_modest 128 = .ok (.iload 4, 2) := by decide +kernel
theorem dX10_modest_130 : decode cX10_modest 130 = .ok (.ireturn, 1) := by decide +kernel
theorem dX10_oneNow_0 : decode cX10_oneNow 0 = .ok (.iconst 0, 1) := by decide +kernel
theorem dX10_oneNow_1 : decode cX10_oneNow 1 = .ok (.istore 5, 2) := by decide +kernel
theorem dX10_oneNow_3 : decode cX10_oneNow 3 = .ok (.iconst 0, 1) := by decide +kernel
theorem dX10_oneNow_4 : decode cX10_oneNow 4 = .ok (.istore 6, 2) := by decide +kernel
theorem dX10_oneNow_6 : decode cX10_oneNow 6 = .ok (.iload 6, 2) := by decide +kernel
theorem dX10_oneNow_8 : decode cX10_oneNow 8 = .ok (.aload_n 0, 1) := by decide +kernel
theorem dX10_oneNow_9 : decode cX10_oneNow 9 = .ok (.getfield 131, 3) := by decide +kernel
theorem dX10_oneNow_12 : decode cX10_oneNow 12 = .ok (.if_icmp .ge 65, 3) := by decide +kernel
theorem dX10_oneNow_15 : decode cX10_oneNow 15 = .ok (.iconst 0, 1) := by decide +kernel
theorem dX10_oneNow_16 : decode cX10_oneNow 16 = .ok (.istore 7, 2) := by decide +kernel
theorem dX10_oneNow_18 : decode cX10_oneNow 18 = .ok (.iload 7, 2) := by decide +kernel
theorem dX10_oneNow_20 : decode cX10_oneNow 20 = .ok (.sipush 1000, 3) := by decide +kernel
theorem dX10_oneNow_23 : decode cX10_oneNow 23 = .ok (.if_icmp .ge 48, 3) := by decide +kernel
theorem dX10_oneNow_26 : decode cX10_oneNow 26 = .ok (.aload_n 0, 1) := by decide +kernel
theorem dX10_oneNow_27 : decode cX10_oneNow 27 = .ok (.iload 6, 2) := by decide +kernel
theorem dX10_oneNow_29 : decode cX10_oneNow 29 = .ok (.iload 7, 2) := by decide +kernel
theorem dX10_oneNow_31 : decode cX10_oneNow 31 = .ok (.invokevirtual 150, 3) := by decide +kernel
theorem dX10_oneNow_34 : decode cX10_oneNow 34 = .ok (.iload 5, 2) := by decide +kernel
theorem dX10_oneNow_36 : decode cX10_oneNow 36 = .ok (.aload_n 0, 1) := by decide +kernel
theorem dX10_oneNow_37 : decode cX10_oneNow 37 = .ok (.getfield 54, 3) := by decide +kernel
theorem dX10_oneNow_40 : decode cX10_oneNow 40 = .ok (.iload_n 1, 1) := by decide +kernel
theorem dX10_oneNow_41 : decode cX10_oneNow 41 = .ok (.iaload, 1) := by decide +kernel
theorem dX10_oneNow_42 : decode cX10_oneNow 42 = .ok (.iload_n 2, 1) := by decide +kernel
theorem dX10_oneNow_43 : decode cX10_oneNow 43 = .ok (.if_icmp .ne 18, 3) := by decide +kernel
theorem dX10_oneNow_46 : decode cX10_oneNow 46 = .ok (.aload_n 0, 1) := by decide +kernel
theorem dX10_oneNow_47 : decode cX10_oneNow 47 = .ok (.getfield 54, 3) := by decide +kernel
theorem dX10_oneNow_50 : decode cX10_oneNow 50 = .ok (.iload_n 3, 1) := by decide +kernel
theorem dX10_oneNow_51 : decode cX10_oneNow 51 = .ok (.iaload, 1) := by decide +kernel
theorem dX10_oneNow_52 : decode cX10_oneNow 52 = .ok (.iload 4, 2) := by decide +kernel
theorem dX10_oneNow_54 : decode cX10_oneNow 54 = .ok (.if_icmp .ne 7, 3) := by decide +kernel
theorem dX10_oneNow_57 : decode cX10_oneNow 57 = .ok (.iconst 1, 1) := by decide +kernel
theorem dX10_oneNow_58 : decode cX10_oneNow 58 = .ok (.goto 4, 3) := by decide +kernel
theorem dX10_oneNow_61 : decode cX10_oneNow 61 = .ok (.iconst 0, 1) := by decide +kernel
theorem dX10_oneNow_62 : decode cX10_oneNow 62 = .ok (.iadd, 1) := by decide +kernel
theorem dX10_oneNow_63 : decode cX10_oneNow 63 = .ok (.istore 5, 2) := by decide +kernel
theorem dX10_oneNow_65 : decode cX10_oneNow 65 = .ok (.iinc 7 1, 3) := by decide +kernel
theorem dX10_oneNow_68 : decode cX10_oneNow 68 = .ok (.goto (-50), 3) := by decide +kernel
theorem dX10_oneNow_71 : decode cX10_oneNow 71 = .ok (.iinc 6 1, 3) := by decide +kernel
theorem dX10_oneNow_74 : decode cX10_oneNow 74 = .ok (.goto (-68), 3) := by decide +kernel
theorem dX10_oneNow_77 : decode cX10_oneNow 77 = .ok (.iload 5, 2) := by decide +kernel
theorem dX10_oneNow_79 : decode cX10_oneNow 79 = .ok (.ireturn, 1) := by decide +kernel
theorem dX10_one_0 : decode cX10_one 0 = .ok (.aload_n 0, 1) := by decide +kernel
theorem dX10_one_1 : decode cX10_one 1 = .ok (.iload_n 1, 1) := by decide +kernel
theorem dX10_one_2 : decode cX10_one 2 = .ok (.invokevirtual 134, 3) := by decide +kernel
theorem dX10_one_5 : decode cX10_one 5 = .ok (.ifCond .eq 16, 3) := by decide +kernel
theorem dX10_one_8 : decode cX10_one 8 = .ok (.aload_n 0, 1) := by decide +kernel
theorem dX10_one_9 : decode cX10_one 9 = .ok (.iload_n 3, 1) := by decide +kernel
theorem dX10_one_10 : decode cX10_one 10 = .ok (.invokevirtual 134, 3) := by decide +kernel
theorem dX10_one_13 : decode cX10_one 13 = .ok (.ifCond .eq 8, 3) := by decide +kernel
theorem dX10_one_16 : decode cX10_one 16 = .ok (.iload_n 1, 1) := by decide +kernel
theorem dX10_one_17 : decode cX10_one 17 = .ok (.iload_n 3, 1) := by decide +kernel
theorem dX10_one_18 : decode cX10_one 18 = .ok (.if_icmp .ne 6, 3) := by decide +kernel
theorem dX10_one_21 : decode cX10_one 21 = .ok (.bipush (-101), 2) := by decide +kernel
theorem dX10_one_23 : decode cX10_one 23 = .ok (.ireturn, 1) := by decide +kernel
theorem dX10_one_24 : decode cX10_one 24 = .ok (.iload_n 2, 1) := by decide +kernel
theorem dX10_one_25 : decode cX10_one 25 = .ok (.invokestatic 124, 3) := by decide +kernel
theorem dX10_one_28 : decode cX10_one 28 = .ok (.ifCond .eq 23, 3) := by decide +kernel
theorem dX10_one_31 : decode cX10_one 31 = .ok (.iload 4, 2) := by decide +kernel
theorem dX10_one_33 : decode cX10_one 33 = .ok (.invokestatic 124, 3) := by decide +kernel
theorem dX10_one_36 : decode cX10_one 36 = .ok (.ifCond .eq 15, 3) := by decide +kernel
theorem dX10_one_39 : decode cX10_one 39 = .ok (.aload_n 0, 1) := by decide +kernel
theorem dX10_one_40 : decode cX10_one 40 = .ok (.iload_n 1, 1) := by decide +kernel
theorem dX10_one_41 : decode cX10_one 41 = .ok (.iload_n 2, 1) := by decide +kernel
theorem dX10_one_42 : decode cX10_one 42 = .ok (.iload_n 3, 1) := by decide +kernel
theorem dX10_one_43 : decode cX10_one 43 = .ok (.iload 4, 2) := by decide +kernel
theorem dX10_one_45 : decode cX10_one 45 = .ok (.invokevirtual 157, 3) := by decide +kernel
theorem dX10_one_48 : decode cX10_one 48 = .ok (.goto 5, 3) := by decide +kernel
theorem dX10_one_51 : decode cX10_one 51 = .ok (.bipush (-102), 2) := by decide +kernel
theorem dX10_one_53 : decode cX10_one 53 = .ok (.ireturn, 1) := by decide +kernel
theorem dX10_greatestClass_0 : decode cX10_greatestClass 0 = .ok (.iconst 1, 1) := by decide +kernel
theorem dX10_greatestClass_1 : decode cX10_greatestClass 1 = .ok (.istore_n 3, 1) := by decide +kernel
theorem dX10_greatestClass_2 : decode cX10_greatestClass 2 = .ok (.iload_n 3, 1) := by decide +kernel
theorem dX10_greatestClass_3 : decode cX10_greatestClass 3 = .ok (.bipush 99, 2) := by decide +kernel
theorem dX10_greatestClass_5 : decode cX10_greatestClass 5 = .ok (.if_icmp .gt 27, 3) := by decide +kernel
theorem dX10_greatestClass_8 : decode cX10_greatestClass 8 = .ok (.aload_n 0, 1) := by decide +kernel
theorem dX10_greatestClass_9 : decode cX10_greatestClass 9 = .ok (.iload_n 1, 1) := by decide +kernel
theorem dX10_greatestClass_10 : decode cX10_greatestClass 10 = .ok (.iload_n 3, 1) := by decide +kernel
theorem dX10_greatestClass_11 : decode cX10_greatestClass 11 = .ok (.invokevirtual 150, 3) := by decide +kernel
theorem dX10_greatestClass_14 : decode cX10_greatestClass 14 = .ok (.aload_n 0, 1) := by decide +kernel
theorem dX10_greatestClass_15 : decode cX10_greatestClass 15 = .ok (.getfield 60, 3) := by decide +kernel
theorem dX10_greatestClass_18 : decode cX10_greatestClass 18 = .ok (.iload_n 3, 1) := by decide +kernel
theorem dX10_greatestClass_19 : decode cX10_greatestClass 19 = .ok (.aload_n 0, 1) := by decide +kernel
theorem dX10_greatestClass_20 : decode cX10_greatestClass 20 = .ok (.getfield 54, 3) := by decide +kernel
theorem dX10_greatestClass_23 : decode cX10_greatestClass 23 = .ok (.iload_n 2, 1) := by decide +kernel
theorem dX10_greatestClass_24 : decode cX10_greatestClass 24 = .ok (.iaload, 1) := by decide +kernel
theorem dX10_greatestClass_25 : decode cX10_greatestClass 25 = .ok (.iastore, 1) := by decide +kernel
theorem dX10_greatestClass_26 : decode cX10_greatestClass 26 = .ok (.iinc 3 1, 3) := by decide +kernel
theorem dX10_greatestClass_29 : decode cX10_greatestClass 29 = .ok (.goto (-27), 3) := by decide +kernel
theorem dX10_greatestClass_32 : decode cX10_greatestClass 32 = .ok (.iconst 0, 1) := by decide +kernel
theorem dX10_greatestClass_33 : decode cX10_greatestClass 33 = .ok (.istore_n 3, 1) := by decide +kernel
theorem dX10_greatestClass_34 : decode cX10_greatestClass 34 = .ok (.iconst 1, 1) := by decide +kernel
theorem dX10_greatestClass_35 : decode cX10_greatestClass 35 = .ok (.istore 4, 2) := by decide +kernel
theorem dX10_greatestClass_37 : decode cX10_greatestClass 37 = .ok (.iload 4, 2) := by decide +kernel
theorem dX10_greatestClass_39 : decode cX10_greatestClass 39 = .ok (.bipush 99, 2) := by decide +kernel
theorem dX10_greatestClass_41 : decode cX10_greatestClass 41 = .ok (.if_icmp .gt 68, 3) := by decide +kernel
theorem dX10_greatestClass_44 : decode cX10_greatestClass 44 = .ok (.iconst 0, 1) := by decide +kernel
theorem dX10_greatestClass_45 : decode cX10_greatestClass 45 = .ok (.istore 5, 2) := by decide +kernel
theorem dX10_greatestClass_47 : decode cX10_greatestClass 47 = .ok (.iconst 1, 1) := by decide +kernel
theorem dX10_greatestClass_48 : decode cX10_greatestClass 48 = .ok (.istore 6, 2) := by decide +kernel
theorem dX10_greatestClass_50 : decode cX10_greatestClass 50 = .ok (.iload 6, 2) := by decide +kernel
theorem dX10_greatestClass_52 : decode cX10_greatestClass 52 = .ok (.bipush 99, 2) := by decide +kernel
theorem dX10_greatestClass_54 : decode cX10_greatestClass 54 = .ok (.if_icmp .gt 36, 3) := by decide +kernel
theorem dX10_greatestClass_57 : decode cX10_greatestClass 57 = .ok (.iload 5, 2) := by decide +kernel
theorem dX10_greatestClass_59 : decode cX10_greatestClass 59 = .ok (.aload_n 0, 1) := by decide +kernel
theorem dX10_greatestClass_60 : decode cX10_greatestClass 60 = .ok (.getfield 60, 3) := by decide +kernel
theorem dX10_greatestClass_63 : decode cX10_greatestClass 63 = .ok (.iload 4, 2) := by decide +kernel
theorem dX10_greatestClass_65 : decode cX10_greatestClass 65 = .ok (.iaload, 1) := by decide +kernel
theorem dX10_greatestClass_66 : decode cX10_greatestClass 66 = .ok (.aload_n 0, 1) := by decide +kernel
theorem dX10_greatestClass_67 : decode cX10_greatestClass 67 = .ok (.getfield 60, 3) := by decide +kernel
theorem dX10_greatestClass_70 : decode cX10_greatestClass 70 = .ok (.iload 6, 2) := by decide +kernel
theorem dX10_greatestClass_72 : decode cX10_greatestClass 72 = .ok (.iaload, 1) := by decide +kernel
theorem dX10_greatestClass_73 : decode cX10_greatestClass 73 = .ok (.if_icmp .ne 7, 3) := by decide +kernel
theorem dX10_greatestClass_76 : decode cX10_greatestClass 76 = .ok (.iconst 1, 1) := by decide +kernel
theorem dX10_greatestClass_77 : decode cX10_greatestClass 77 = .ok (.goto 4, 3) := by decide +kernel
theorem dX10_greatestClass_80 : decode cX10_greatestClass 80 = .ok (.iconst 0, 1) := by decide +kernel
theorem dX10_greatestClass_81 : decode cX10_greatestClass 81 = .ok (.iadd, 1) := by decide +kernel
theorem dX10_greatestClass_82 : decode cX10_greatestClass 82 = .ok (.istore 5, 2) := by decide +kernel
theorem dX10_greatestClass_84 : decode cX10_greatestClass 84 = .ok (.iinc 6 1, 3) := by decide +kernel
theorem dX10_greatestClass_87 : decode cX10_greatestClass 87 = .ok (.goto (-37), 3) := by decide +kernel
theorem dX10_greatestClass_90 : decode cX10_greatestClass 90 = .ok (.iload 5, 2) := by decide +kernel
theorem dX10_greatestClass_92 : decode cX10_greatestClass 92 = .ok (.iload_n 3, 1) := by decide +kernel
theorem dX10_greatestClass_93 : decode cX10_greatestClass 93 = .ok (.if_icmp .le 8, 3) := by decide +kernel
theorem dX10_greatestClass_96 : decode cX10_greatestClass 96 = .ok (.iload 5, 2) := by decide +kernel
theorem dX10_greatestClass_98 : decode cX10_greatestClass 98 = .ok (.goto 4, 3) := by decide +kernel
theorem dX10_greatestClass_101 : decode cX10_greatestClass 101 = .ok (.iload_n 3, 1) := by decide +kernel
theorem dX10_greatestClass_102 : decode cX10_greatestClass 102 = .ok (.istore_n 3, 1) := by decide +kernel
theorem dX10_greatestClass_103 : decode cX10_greatestClass 103 = .ok (.iinc 4 1, 3) := by decide +kernel
theorem dX10_greatestClass_106 : decode cX10_greatestClass 106 = .ok (.goto (-69), 3) := by decide +kernel
theorem dX10_greatestClass_109 : decode cX10_greatestClass 109 = .ok (.iload_n 3, 1) := by decide +kernel
theorem dX10_greatestClass_110 : decode cX10_greatestClass 110 = .ok (.ireturn, 1) := by decide +kernel
theorem dX10_askNow_0 : decode cX10_askNow 0 = .ok (.iconst (-1), 1) := by decide +kernel
theorem dX10_askNow_1 : decode cX10_askNow 1 = .ok (.istore_n 2, 1) := by decide +kernel
theorem dX10_askNow_2 : decode cX10_askNow 2 = .ok (.sipush 1000, 3) := by decide +kernel
theorem dX10_askNow_5 : decode cX10_askNow 5 = .ok (.istore_n 3, 1) := by decide +kernel
theorem dX10_askNow_6 : decode cX10_askNow 6 = .ok (.iconst 0, 1) := by decide +kernel
theorem dX10_askNow_7 : decode cX10_askNow 7 = .ok (.istore 4, 2) := by decide +kernel
theorem dX10_askNow_9 : decode cX10_askNow 9 = .ok (.iload 4, 2) := by decide +kernel
theorem dX10_askNow_11 : decode cX10_askNow 11 = .ok (.aload_n 0, 1) := by decide +kernel
theorem dX10_askNow_12 : decode cX10_askNow 12 = .ok (.getfield 131, 3) := by decide +kernel
theorem dX10_askNow_15 : decode cX10_askNow 15 = .ok (.if_icmp .ge 56, 3) := by decide +kernel
theorem dX10_askNow_18 : decode cX10_askNow 18 = .ok (.iload 4, 2) := by decide +kernel
theorem dX10_askNow_20 : decode cX10_askNow 20 = .ok (.iload_n 1, 1) := by decide +kernel
theorem dX10_askNow_21 : decode cX10_askNow 21 = .ok (.if_icmp .ne 9, 3) := by decide +kernel
theorem dX10_askNow_24 : decode cX10_askNow 24 = .ok (.sipush 1000, 3) := by decide +kernel
theorem dX10_askNow_27 : decode cX10_askNow 27 = .ok (.goto 10, 3) := by decide +kernel
theorem dX10_askNow_30 : decode cX10_askNow 30 = .ok (.aload_n 0, 1) := by decide +kernel
theorem dX10_askNow_31 : decode cX10_askNow 31 = .ok (.iload_n 1, 1) := by decide +kernel
theorem dX10_askNow_32 : decode cX10_askNow 32 = .ok (.iload 4, 2) := by decide +kernel
theorem dX10_askNow_34 : decode cX10_askNow 34 = .ok (.invokevirtual 161, 3) := by decide +kernel
theorem dX10_askNow_37 : decode cX10_askNow 37 = .ok (.istore 5, 2) := by decide +kernel
theorem dX10_askNow_39 : decode cX10_askNow 39 = .ok (.iload 5, 2) := by decide +kernel
theorem dX10_askNow_41 : decode cX10_askNow 41 = .ok (.iload_n 3, 1) := by decide +kernel
theorem dX10_askNow_42 : decode cX10_askNow 42 = .ok (.if_icmp .ge 8, 3) := by decide +kernel
theorem dX10_askNow_45 : decode cX10_askNow 45 = .ok (.iload 4, 2) := by decide +kernel
theorem dX10_askNow_47 : decode cX10_askNow 47 = .ok (.goto 4, 3) := by decide +kernel
theorem dX10_askNow_50 : decode cX10_askNow 50 = .ok (.iload_n 2, 1) := by decide +kernel
theorem dX10_askNow_51 : decode cX10_askNow 51 = .ok (.istore_n 2, 1) := by decide +kernel
theorem dX10_askNow_52 : decode cX10_askNow 52 = .ok (.iload 5, 2) := by decide +kernel
theorem dX10_askNow_54 : decode cX10_askNow 54 = .ok (.iload_n 3, 1) := by decide +kernel
theorem dX10_askNow_55 : decode cX10_askNow 55 = .ok (.if_icmp .ge 8, 3) := by decide +kernel
theorem dX10_askNow_58 : decode cX10_askNow 58 = .ok (.iload 5, 2) := by decide +kernel
theorem dX10_askNow_60 : decode cX10_askNow 60 = .ok (.goto 4, 3) := by decide +kernel
theorem dX10_askNow_63 : decode cX10_askNow 63 = .ok (.iload_n 3, 1) := by decide +kernel
theorem dX10_askNow_64 : decode cX10_askNow 64 = .ok (.istore_n 3, 1) := by decide +kernel
theorem dX10_askNow_65 : decode cX10_askNow 65 = .ok (.iinc 4 1, 3) := by decide +kernel
theorem dX10_askNow_68 : decode cX10_askNow 68 = .ok (.goto (-59), 3) := by decide +kernel
theorem dX10_askNow_71 : decode cX10_askNow 71 = .ok (.iload_n 2, 1) := by decide +kernel
theorem dX10_askNow_72 : decode cX10_askNow 72 = .ok (.ireturn, 1) := by decide +kernel
theorem dX10_ask_0 : decode cX10_ask 0 = .ok (.aload_n 0, 1) := by decide +kernel
theorem dX10_ask_1 : decode cX10_ask 1 = .ok (.iload_n 1, 1) := by decide +kernel
theorem dX10_ask_2 : decode cX10_ask 2 = .ok (.invokevirtual 134, 3) := by decide +kernel
theorem dX10_ask_5 : decode cX10_ask 5 = .ok (.ifCond .eq 11, 3) := by decide +kernel
theorem dX10_ask_8 : decode cX10_ask 8 = .ok (.aload_n 0, 1) := by decide +kernel
theorem dX10_ask_9 : decode cX10_ask 9 = .ok (.iload_n 1, 1) := by decide +kernel
theorem dX10_ask_10 : decode cX10_ask 10 = .ok (.invokevirtual 164, 3) := by decide +kernel
theorem dX10_ask_13 : decode cX10_ask 13 = .ok (.goto 5, 3) := by decide +kernel
theorem dX10_ask_16 : decode cX10_ask 16 = .ok (.bipush (-101), 2) := by decide +kernel
theorem dX10_ask_18 : decode cX10_ask 18 = .ok (.ireturn, 1) := by decide +kernel
theorem dX10_come_0 : decode cX10_come 0 = .ok (.sipush 10000, 3) := by decide +kernel
theorem dX10_come_3 : decode cX10_come 3 = .ok (.iload_n 1, 1) := by decide +kernel
theorem dX10_come_4 : decode cX10_come 4 = .ok (.imul, 1) := by decide +kernel
theorem dX10_come_5 : decode cX10_come 5 = .ok (.iload_n 2, 1) := by decide +kernel
theorem dX10_come_6 : decode cX10_come 6 = .ok (.iadd, 1) := by decide +kernel
theorem dX10_come_7 : decode cX10_come 7 = .ok (.istore 4, 2) := by decide +kernel
theorem dX10_come_9 : decode cX10_come 9 = .ok (.aload_n 0, 1) := by decide +kernel
theorem dX10_come_10 : decode cX10_come 10 = .ok (.getfield 64, 3) := by decide +kernel
theorem dX10_come_13 : decode cX10_come 13 = .ok (.iload 4, 2) := by decide +kernel
theorem dX10_come_15 : decode cX10_come 15 = .ok (.baload, 1) := by decide +kernel
theorem dX10_come_16 : decode cX10_come 16 = .ok (.ifCond .ne 33, 3) := by decide +kernel
theorem dX10_come_19 : decode cX10_come 19 = .ok (.aload_n 0, 1) := by decide +kernel
theorem dX10_come_20 : decode cX10_come 20 = .ok (.getfield 64, 3) := by decide +kernel
theorem dX10_come_23 : decode cX10_come 23 = .ok (.iload 4, 2) := by decide +kernel
theorem dX10_come_25 : decode cX10_come 25 = .ok (.iload_n 3, 1) := by decide +kernel
theorem dX10_come_26 : decode cX10_come 26 = .ok (.i2b, 1) := by decide +kernel
theorem dX10_come_27 : decode cX10_come 27 = .ok (.bastore, 1) := by decide +kernel
theorem dX10_come_28 : decode cX10_come 28 = .ok (.aload_n 0, 1) := by decide +kernel
theorem dX10_come_29 : decode cX10_come 29 = .ok (.getfield 67, 3) := by decide +kernel
theorem dX10_come_32 : decode cX10_come 32 = .ok (.aload_n 0, 1) := by decide +kernel
theorem dX10_come_33 : decode cX10_come 33 = .ok (.getfield 167, 3) := by decide +kernel
theorem dX10_come_36 : decode cX10_come 36 = .ok (.iload 4, 2) := by decide +kernel
theorem dX10_come_38 : decode cX10_come 38 = .ok (.iastore, 1) := by decide +kernel
theorem dX10_come_39 : decode cX10_come 39 = .ok (.aload_n 0, 1) := by decide +kernel
theorem dX10_come_40 : decode cX10_come 40 = .ok (.dup, 1) := by decide +kernel
theorem dX10_come_41 : decode cX10_come 41 = .ok (.getfield 167, 3) := by decide +kernel
theorem dX10_come_44 : decode cX10_come 44 = .ok (.iconst 1, 1) := by decide +kernel
theorem dX10_come_45 : decode cX10_come 45 = .ok (.iadd, 1) := by decide +kernel
theorem dX10_come_46 : decode cX10_come 46 = .ok (.putfield 167, 3) := by decide +kernel
theorem dX10_come_49 : decode cX10_come 49 = .ok (.return_, 1) := by decide +kernel
theorem dX10_tellOn_0 : decode cX10_tellOn 0 = .ok (.iload_n 1, 1) := by decide +kernel
theorem dX10_tellOn_1 : decode cX10_tellOn 1 = .ok (.sipush 10000, 3) := by decide +kernel
theorem dX10_tellOn_4 : decode cX10_tellOn 4 = .ok (.idiv, 1) := by decide +kernel
theorem dX10_tellOn_5 : decode cX10_tellOn 5 = .ok (.istore_n 3, 1) := by decide +kernel
theorem dX10_tellOn_6 : decode cX10_tellOn 6 = .ok (.aload_n 0, 1) := by decide +kernel
theorem dX10_tellOn_7 : decode cX10_tellOn 7 = .ok (.aload_n 0, 1) := by decide +kernel
theorem dX10_tellOn_8 : decode cX10_tellOn 8 = .ok (.getfield 26, 3) := by decide +kernel
theorem dX10_tellOn_11 : decode cX10_tellOn 11 = .ok (.iload_n 3, 1) := by decide +kernel
theorem dX10_tellOn_12 : decode cX10_tellOn 12 = .ok (.iaload, 1) := by decide +kernel
theorem dX10_tellOn_13 : decode cX10_tellOn 13 = .ok (.iload_n 1, 1) := by decide +kernel
theorem dX10_tellOn_14 : decode cX10_tellOn 14 = .ok (.sipush 10000, 3) := by decide +kernel
theorem dX10_tellOn_17 : decode cX10_tellOn 17 = .ok (.irem, 1) := by decide +kernel
theorem dX10_tellOn_18 : decode cX10_tellOn 18 = .ok (.invokevirtual 137, 3) := by decide +kernel
theorem dX10_tellOn_21 : decode cX10_tellOn 21 = .ok (.istore 4, 2) := by decide +kernel
theorem dX10_tellOn_23 : decode cX10_tellOn 23 = .ok (.iconst 0, 1) := by decide +kernel
theorem dX10_tellOn_24 : decode cX10_tellOn 24 = .ok (.istore 5, 2) := by decide +kernel
theorem dX10_tellOn_26 : decode cX10_tellOn 26 = .ok (.iload 5, 2) := by decide +kernel
theorem dX10_tellOn_28 : decode cX10_tellOn 28 = .ok (.aload_n 0, 1) := by decide +kernel
theorem dX10_tellOn_29 : decode cX10_tellOn 29 = .ok (.getfield 131, 3) := by decide +kernel
theorem dX10_tellOn_32 : decode cX10_tellOn 32 = .ok (.if_icmp .ge 48, 3) := by decide +kernel
theorem dX10_tellOn_35 : decode cX10_tellOn 35 = .ok (.aload_n 0, 1) := by decide +kernel
theorem dX10_tellOn_36 : decode cX10_tellOn 36 = .ok (.getfield 29, 3) := by decide +kernel
theorem dX10_tellOn_39 : decode cX10_tellOn 39 = .ok (.iload_n 3, 1) := by decide +kernel
theorem dX10_tellOn_40 : decode cX10_tellOn 40 = .ok (.iaload, 1) := by decide +kernel
theorem dX10_tellOn_41 : decode cX10_tellOn 41 = .ok (.iload 5, 2) := by decide +kernel
theorem dX10_tellOn_43 : decode cX10_tellOn 43 = .ok (.invokestatic 170, 3) := by decide +kernel
theorem dX10_tellOn_46 : decode cX10_tellOn 46 = .ok (.ifCond .eq 28, 3) := by decide +kernel
theorem dX10_tellOn_49 : decode cX10_tellOn 49 = .ok (.aload_n 0, 1) := by decide +kernel
theorem dX10_tellOn_50 : decode cX10_tellOn 50 = .ok (.iload 5, 2) := by decide +kernel
theorem dX10_tellOn_52 : decode cX10_tellOn 52 = .ok (.iload 4, 2) := by decide +kernel
theorem dX10_tellOn_54 : decode cX10_tellOn 54 = .ok (.iload_n 2, 1) := by decide +kernel
theorem dX10_tellOn_55 : decode cX10_tellOn 55 = .ok (.ifCond .eq 10, 3) := by decide +kernel
theorem dX10_tellOn_58 : decode cX10_tellOn 58 = .ok (.iload 5, 2) := by decide +kernel
theorem dX10_tellOn_60 : decode cX10_tellOn 60 = .ok (.iconst 1, 1) := by decide +kernel
theorem dX10_tellOn_61 : decode cX10_tellOn 61 = .ok (.iadd, 1) := by decide +kernel
theorem dX10_tellOn_62 : decode cX10_tellOn 62 = .ok (.goto 9, 3) := by decide +kernel
theorem dX10_tellOn_65 : decode cX10_tellOn 65 = .ok (.aload_n 0, 1) := by decide +kernel
theorem dX10_tellOn_66 : decode cX10_tellOn 66 = .ok (.getfield 64, 3) := by decide +kernel
theorem dX10_tellOn_69 : decode cX10_tellOn 69 = .ok (.iload_n 1, 1) := by decide +kernel
theorem dX10_tellOn_70 : decode cX10_tellOn 70 = .ok (.baload, 1) := by decide +kernel
theorem dX10_tellOn_71 : decode cX10_tellOn 71 = .ok (.invokevirtual 174, 3) := by decide +kernel
theorem dX10_tellOn_74 : decode cX10_tellOn 74 = .ok (.iinc 5 1, 3) := by decide +kernel
theorem dX10_tellOn_77 : decode cX10_tellOn 77 = .ok (.goto (-51), 3) := by decide +kernel
theorem dX10_tellOn_80 : decode cX10_tellOn 80 = .ok (.return_, 1) := by decide +kernel
theorem dX10_chainNow_0 : decode cX10_chainNow 0 = .ok (.iload_n 1, 1) := by decide +kernel
theorem dX10_chainNow_1 : decode cX10_chainNow 1 = .ok (.iload_n 3, 1) := by decide +kernel
theorem dX10_chainNow_2 : decode cX10_chainNow 2 = .ok (.if_icmp .ne 20, 3) := by decide +kernel
theorem dX10_chainNow_5 : decode cX10_chainNow 5 = .ok (.iload_n 2, 1) := by decide +kernel
theorem dX10_chainNow_6 : decode cX10_chainNow 6 = .ok (.iload 4, 2) := by decide +kernel
theorem dX10_chainNow_8 : decode cX10_chainNow 8 = .ok (.if_icmp .ne 14, 3) := by decide +kernel
theorem dX10_chainNow_11 : decode cX10_chainNow 11 = .ok (.iload 5, 2) := by decide +kernel
theorem dX10_chainNow_13 : decode cX10_chainNow 13 = .ok (.ifCond .ne 7, 3) := by decide +kernel
theorem dX10_chainNow_16 : decode cX10_chainNow 16 = .ok (.iconst 0, 1) := by decide +kernel
theorem dX10_chainNow_17 : decode cX10_chainNow 17 = .ok (.goto 4, 3) := by decide +kernel
theorem dX10_chainNow_20 : decode cX10_chainNow 20 = .ok (.iconst (-1), 1) := by decide +kernel
theorem dX10_chainNow_21 : decode cX10_chainNow 21 = .ok (.ireturn, 1) := by decide +kernel
theorem dX10_chainNow_22 : decode cX10_chainNow 22 = .ok (.iconst 0, 1) := by decide +kernel
theorem dX10_chainNow_23 : decode cX10_chainNow 23 = .ok (.istore 6, 2) := by decide +kernel
theorem dX10_chainNow_25 : decode cX10_chainNow 25 = .ok (.iload 6, 2) := by decide +kernel
theorem dX10_chainNow_27 : decode cX10_chainNow 27 = .ok (.ldc 63, 2) := by decide +kernel
theorem dX10_chainNow_29 : decode cX10_chainNow 29 = .ok (.if_icmp .ge 17, 3) := by decide +kernel
theorem dX10_chainNow_32 : decode cX10_chainNow 32 = .ok (.aload_n 0, 1) := by decide +kernel
theorem dX10_chainNow_33 : decode cX10_chainNow 33 = .ok (.getfield 64, 3) := by decide +kernel
theorem dX10_chainNow_36 : decode cX10_chainNow 36 = .ok (.iload 6, 2) := by decide +kernel
theorem dX10_chainNow_38 : decode cX10_chainNow 38 = .ok (.iconst 0, 1) := by decide +kernel
theorem dX10_chainNow_39 : decode cX10_chainNow 39 = .ok (.bastore, 1) := by decide +kernel
theorem dX10_chainNow_40 : decode cX10_chainNow 40 = .ok (.iinc 6 1, 3) := by decide +kernel
theorem dX10_chainNow_43 : decode cX10_chainNow 43 = .ok (.goto (-18), 3) := by decide +kernel
theorem dX10_chainNow_46 : decode cX10_chainNow 46 = .ok (.sipush 10000, 3) := by decide +kernel
theorem dX10_chainNow_49 : decode cX10_chainNow 49 = .ok (.iload_n 3, 1) := by decide +kernel
theorem dX10_chainNow_50 : decode cX10_chainNow 50 = .ok (.imul, 1) := by decide +kernel
theorem dX10_chainNow_51 : decode cX10_chainNow 51 = .ok (.iload 4, 2) := by decide +kernel
theorem dX10_chainNow_53 : decode cX10_chainNow 53 = .ok (.iadd, 1) := by decide +kernel
theorem dX10_chainNow_54 : decode cX10_chainNow 54 = .ok (.istore 6, 2) := by decide +kernel
theorem dX10_chainNow_56 : decode cX10_chainNow 56 = .ok (.aload_n 0, 1) := by decide +kernel
theorem dX10_chainNow_57 : decode cX10_chainNow 57 = .ok (.iconst 0, 1) := by decide +kernel
theorem dX10_chainNow_58 : decode cX10_chainNow 58 = .ok (.putfield 167, 3) := by decide +kernel
theorem dX10_chainNow_61 : decode cX10_chainNow 61 = .ok (.aload_n 0, 1) := by decide +kernel
theorem dX10_chainNow_62 : decode cX10_chainNow 62 = .ok (.iload_n 1, 1) := by decide +kernel
theorem dX10_chainNow_63 : decode cX10_chainNow 63 = .ok (.iload_n 2, 1) := by decide +kernel
theorem dX10_chainNow_64 : decode cX10_chainNow 64 = .ok (.bipush 9, 2) := by decide +kernel
theorem dX10_chainNow_66 : decode cX10_chainNow 66 = .ok (.invokevirtual 174, 3) := by decide +kernel
theorem dX10_chainNow_69 : decode cX10_chainNow 69 = .ok (.iconst 0, 1) := by decide +kernel
theorem dX10_chainNow_70 : decode cX10_chainNow 70 = .ok (.istore 7, 2) := by decide +kernel
theorem dX10_chainNow_72 : decode cX10_chainNow 72 = .ok (.iconst 1, 1) := by decide +kernel
theorem dX10_chainNow_73 : decode cX10_chainNow 73 = .ok (.istore 8, 2) := by decide +kernel
theorem dX10_chainNow_75 : decode cX10_chainNow 75 = .ok (.iload 8, 2) := by decide +kernel
theorem dX10_chainNow_77 : decode cX10_chainNow 77 = .ok (.bipush 20, 2) := by decide +kernel
theorem dX10_chainNow_79 : decode cX10_chainNow 79 = .ok (.if_icmp .gt 80, 3) := by decide +kernel
theorem dX10_chainNow_82 : decode cX10_chainNow 82 = .ok (.aload_n 0, 1) := by decide +kernel
theorem dX10_chainNow_83 : decode cX10_chainNow 83 = .ok (.getfield 167, 3) := by decide +kernel
theorem dX10_chainNow_86 : decode cX10_chainNow 86 = .ok (.istore 9, 2) := by decide +kernel
theorem dX10_chainNow_88 : decode cX10_chainNow 88 = .ok (.iload 7, 2) := by decide +kernel
theorem dX10_chainNow_90 : decode cX10_chainNow 90 = .ok (.iload 9, 2) := by decide +kernel
theorem dX10_chainNow_92 : decode cX10_chainNow 92 = .ok (.if_icmp .ge 31, 3) := by decide +kernel
theorem dX10_chainNow_95 : decode cX10_chainNow 95 = .ok (.aload_n 0, 1) := by decide +kernel
theorem dX10_chainNow_96 : decode cX10_chainNow 96 = .ok (.aload_n 0, 1) := by decide +kernel
theorem dX10_chainNow_97 : decode cX10_chainNow 97 = .ok (.getfield 67, 3) := by decide +kernel
theorem dX10_chainNow_100 : decode cX10_chainNow 100 = .ok (.iload 7, 2) := by decide +kernel
theorem dX10_chainNow_102 : decode cX10_chainNow 102 = .ok (.iaload, 1) := by decide +kernel
theorem dX10_chainNow_103 : decode cX10_chainNow 103 = .ok (.iload 8, 2) := by decide +kernel
theorem dX10_chainNow_105 : decode cX10_chainNow 105 = .ok (.iconst 1, 1) := by decide +kernel
theorem dX10_chainNow_106 : decode cX10_chainNow 106 = .ok (.if_icmp .ne 7, 3) := by decide +kernel
theorem dX10_chainNow_109 : decode cX10_chainNow 109 = .ok (.iconst 1, 1) := by decide +kernel
theorem dX10_chainNow_110 : decode cX10_chainNow 110 = .ok (.goto 4, 3) := by decide +kernel
theorem dX10_chainNow_113 : decode cX10_chainNow 113 = .ok (.iconst 0, 1) := by decide +kernel
theorem dX10_chainNow_114 : decode cX10_chainNow 114 = .ok (.invokevirtual 178, 3) := by decide +kernel
theorem dX10_chainNow_117 : decode cX10_chainNow 117 = .ok (.iinc 7 1, 3) := by decide +kernel
theorem dX10_chainNow_120 : decode cX10_chainNow 120 = .ok (.goto (-32), 3) := by decide +kernel
theorem dX10_chainNow_123 : decode cX10_chainNow 123 = .ok (.aload_n 0, 1) := by decide +kernel
theorem dX10_chainNow_124 : decode cX10_chainNow 124 = .ok (.getfield 64, 3) := by decide +kernel
theorem dX10_chainNow_127 : decode cX10_chainNow 127 = .ok (.iload 6, 2) := by decide +kernel
theorem dX10_chainNow_129 : decode cX10_chainNow 129 = .ok (.baload, 1) := by decide +kernel
theorem dX10_chainNow_130 : decode cX10_chainNow 130 = .ok (.ifCond .eq 23, 3) := by decide +kernel
theorem dX10_chainNow_133 : decode cX10_chainNow 133 = .ok (.iload 5, 2) := by decide +kernel
theorem dX10_chainNow_135 : decode cX10_chainNow 135 = .ok (.ifCond .ne 8, 3) := by decide +kernel
theorem dX10_chainNow_138 : decode cX10_chainNow 138 = .ok (.iload 8, 2) := by decide +kernel
theorem dX10_chainNow_140 : decode cX10_chainNow 140 = .ok (.goto 12, 3) := by decide +kernel
theorem dX10_chainNow_143 : decode cX10_chainNow 143 = .ok (.aload_n 0, 1) := by decide +kernel
theorem dX10_chainNow_144 : decode cX10_chainNow 144 = .ok (.getfield 64, 3) := by decide +kernel
theorem dX10_chainNow_147 : decode cX10_chainNow 147 = .ok (.iload 6, 2) := by decide +kernel
theorem dX10_chainNow_149 : decode cX10_chainNow 149 = .ok (.baload, 1) := by decide +kernel
theorem dX10_chainNow_150 : decode cX10_chainNow 150 = .ok (.iconst 1, 1) := by decide +kernel
theorem dX10_chainNow_151 : decode cX10_chainNow 151 = .ok (.isub, 1) := by decide +kernel
theorem dX10_chainNow_152 : decode cX10_chainNow 152 = .ok (.ireturn, 1) := by decide +kernel
theorem dX10_chainNow_153 : decode cX10_chainNow 153 = .ok (.iinc 8 1, 3) := by decide +kernel
theorem dX10_chainNow_156 : decode cX10_chainNow 156 = .ok (.goto (-81), 3) := by decide +kernel
theorem dX10_chainNow_159 : decode cX10_chainNow 159 = .ok (.iconst (-1), 1) := by decide +kernel
theorem dX10_chainNow_160 : decode cX10_chainNow 160 = .ok (.ireturn, 1) := by decide +kernel
theorem dX10_chain_0 : decode cX10_chain 0 = .ok (.aload_n 0, 1) := by decide +kernel
theorem dX10_chain_1 : decode cX10_chain 1 = .ok (.iload_n 1, 1) := by decide +kernel
theorem dX10_chain_2 : decode cX10_chain 2 = .ok (.invokevirtual 134, 3) := by decide +kernel
theorem dX10_chain_5 : decode cX10_chain 5 = .ok (.ifCond .eq 11, 3) := by decide +kernel
theorem dX10_chain_8 : decode cX10_chain 8 = .ok (.aload_n 0, 1) := by decide +kernel
theorem dX10_chain_9 : decode cX10_chain 9 = .ok (.iload_n 3, 1) := by decide +kernel
theorem dX10_chain_10 : decode cX10_chain 10 = .ok (.invokevirtual 134, 3) := by decide +kernel
theorem dX10_chain_13 : decode cX10_chain 13 = .ok (.ifCond .ne 6, 3) := by decide +kernel
theorem dX10_chain_16 : decode cX10_chain 16 = .ok (.bipush (-101), 2) := by decide +kernel
theorem dX10_chain_18 : decode cX10_chain 18 = .ok (.ireturn, 1) := by decide +kernel
theorem dX10_chain_19 : decode cX10_chain 19 = .ok (.iload_n 2, 1) := by decide +kernel
theorem dX10_chain_20 : decode cX10_chain 20 = .ok (.invokestatic 124, 3) := by decide +kernel
theorem dX10_chain_23 : decode cX10_chain 23 = .ok (.ifCond .eq 21, 3) := by decide +kernel
theorem dX10_chain_26 : decode cX10_chain 26 = .ok (.iload 4, 2) := by decide +kernel
theorem dX10_chain_28 : decode cX10_chain 28 = .ok (.invokestatic 124, 3) := by decide +kernel
theorem dX10_chain_31 : decode cX10_chain 31 = .ok (.ifCond .eq 13, 3) := by decide +kernel
theorem dX10_chain_34 : decode cX10_chain 34 = .ok (.iload 5, 2) := by decide +kernel
theorem dX10_chain_36 : decode cX10_chain 36 = .ok (.iconst 0, 1) := by decide +kernel
theorem dX10_chain_37 : decode cX10_chain 37 = .ok (.iconst 1, 1) := by decide +kernel
theorem dX10_chain_38 : decode cX10_chain 38 = .ok (.invokestatic 87, 3) := by decide +kernel
theorem dX10_chain_41 : decode cX10_chain 41 = .ok (.ifCond .ne 6, 3) := by decide +kernel
theorem dX10_chain_44 : decode cX10_chain 44 = .ok (.bipush (-102), 2) := by decide +kernel
theorem dX10_chain_46 : decode cX10_chain 46 = .ok (.ireturn, 1) := by decide +kernel
theorem dX10_chain_47 : decode cX10_chain 47 = .ok (.aload_n 0, 1) := by decide +kernel
theorem dX10_chain_48 : decode cX10_chain 48 = .ok (.getfield 182, 3) := by decide +kernel
theorem dX10_chain_51 : decode cX10_chain 51 = .ok (.bipush 30, 2) := by decide +kernel
theorem dX10_chain_53 : decode cX10_chain 53 = .ok (.if_icmp .ne 6, 3) := by decide +kernel
theorem dX10_chain_56 : decode cX10_chain 56 = .ok (.bipush (-103), 2) := by decide +kernel
theorem dX10_chain_58 : decode cX10_chain 58 = .ok (.ireturn, 1) := by decide +kernel
theorem dX10_chain_59 : decode cX10_chain 59 = .ok (.aload_n 0, 1) := by decide +kernel
theorem dX10_chain_60 : decode cX10_chain 60 = .ok (.dup, 1) := by decide +kernel
theorem dX10_chain_61 : decode cX10_chain 61 = .ok (.getfield 182, 3) := by decide +kernel
theorem dX10_chain_64 : decode cX10_chain 64 = .ok (.iconst 1, 1) := by decide +kernel
theorem dX10_chain_65 : decode cX10_chain 65 = .ok (.iadd, 1) := by decide +kernel
theorem dX10_chain_66 : decode cX10_chain 66 = .ok (.putfield 182, 3) := by decide +kernel
theorem dX10_chain_69 : decode cX10_chain 69 = .ok (.aload_n 0, 1) := by decide +kernel
theorem dX10_chain_70 : decode cX10_chain 70 = .ok (.iload_n 1, 1) := by decide +kernel
theorem dX10_chain_71 : decode cX10_chain 71 = .ok (.iload_n 2, 1) := by decide +kernel
theorem dX10_chain_72 : decode cX10_chain 72 = .ok (.iload_n 3, 1) := by decide +kernel
theorem dX10_chain_73 : decode cX10_chain 73 = .ok (.iload 4, 2) := by decide +kernel
theorem dX10_chain_75 : decode cX10_chain 75 = .ok (.iload 5, 2) := by decide +kernel
theorem dX10_chain_77 : decode cX10_chain 77 = .ok (.invokevirtual 185, 3) := by decide +kernel
theorem dX10_chain_80 : decode cX10_chain 80 = .ok (.ireturn, 1) := by decide +kernel
theorem dX10_power_0 : decode cX10_power 0 = .ok (.lconst 1, 1) := by decide +kernel
theorem dX10_power_1 : decode cX10_power 1 = .ok (.lstore_n 2, 1) := by decide +kernel
theorem dX10_power_2 : decode cX10_power 2 = .ok (.iconst 0, 1) := by decide +kernel
theorem dX10_power_3 : decode cX10_power 3 = .ok (.istore 4, 2) := by decide +kernel
theorem dX10_power_5 : decode cX10_power 5 = .ok (.iload 4, 2) := by decide +kernel
theorem dX10_power_7 : decode cX10_power 7 = .ok (.iload_n 1, 1) := by decide +kernel
theorem dX10_power_8 : decode cX10_power 8 = .ok (.if_icmp .ge 14, 3) := by decide +kernel
theorem dX10_power_11 : decode cX10_power 11 = .ok (.lload_n 2, 1) := by decide +kernel
theorem dX10_power_12 : decode cX10_power 12 = .ok (.iload_n 0, 1) := by decide +kernel
theorem dX10_power_13 : decode cX10_power 13 = .ok (.i2l, 1) := by decide +kernel
theorem dX10_power_14 : decode cX10_power 14 = .ok (.lmul, 1) := by decide +kernel
theorem dX10_power_15 : decode cX10_power 15 = .ok (.lstore_n 2, 1) := by decide +kernel
theorem dX10_power_16 : decode cX10_power 16 = .ok (.iinc 4 1, 3) := by decide +kernel
theorem dX10_power_19 : decode cX10_power 19 = .ok (.goto (-14), 3) := by decide +kernel
theorem dX10_power_22 : decode cX10_power 22 = .ok (.lload_n 2, 1) := by decide +kernel
theorem dX10_power_23 : decode cX10_power 23 = .ok (.lreturn, 1) := by decide +kernel
theorem dX10_chanceNow_0 : decode cX10_chanceNow 0 = .ok (.lconst 0, 1) := by decide +kernel
theorem dX10_chanceNow_1 : decode cX10_chanceNow 1 = .ok (.lstore 5, 2) := by decide +kernel
theorem dX10_chanceNow_3 : decode cX10_chanceNow 3 = .ok (.lconst 1, 1) := by decide +kernel
theorem dX10_chanceNow_4 : decode cX10_chanceNow 4 = .ok (.lstore 7, 2) := by decide +kernel
theorem dX10_chanceNow_6 : decode cX10_chanceNow 6 = .ok (.iload_n 3, 1) := by decide +kernel
theorem dX10_chanceNow_7 : decode cX10_chanceNow 7 = .ok (.istore 9, 2) := by decide +kernel
theorem dX10_chanceNow_9 : decode cX10_chanceNow 9 = .ok (.iconst 0, 1) := by decide +kernel
theorem dX10_chanceNow_10 : decode cX10_chanceNow 10 = .ok (.istore 10, 2) := by decide +kernel
theorem dX10_chanceNow_12 : decode cX10_chanceNow 12 = .ok (.iload 10, 2) := by decide +kernel
theorem dX10_chanceNow_14 : decode cX10_chanceNow 14 = .ok (.iload_n 1, 1) := by decide +kernel
