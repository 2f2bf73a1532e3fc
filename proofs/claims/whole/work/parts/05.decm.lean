theorem dX6_init_0 : decode cX6_init 0 = .ok (.aload_n 0, 1) := by decide +kernel
theorem dX6_init_1 : decode cX6_init 1 = .ok (.invokespecial 1, 3) := by decide +kernel
theorem dX6_init_4 : decode cX6_init 4 = .ok (.aload_n 0, 1) := by decide +kernel
theorem dX6_init_5 : decode cX6_init 5 = .ok (.sipush 161, 3) := by decide +kernel
theorem dX6_init_8 : decode cX6_init 8 = .ok (.newarray .int, 2) := by decide +kernel
theorem dX6_init_10 : decode cX6_init 10 = .ok (.putfield 7, 3) := by decide +kernel
theorem dX6_init_13 : decode cX6_init 13 = .ok (.aload_n 0, 1) := by decide +kernel
theorem dX6_init_14 : decode cX6_init 14 = .ok (.sipush 600, 3) := by decide +kernel
theorem dX6_init_17 : decode cX6_init 17 = .ok (.newarray .int, 2) := by decide +kernel
theorem dX6_init_19 : decode cX6_init 19 = .ok (.putfield 13, 3) := by decide +kernel
theorem dX6_init_22 : decode cX6_init 22 = .ok (.aload_n 0, 1) := by decide +kernel
theorem dX6_init_23 : decode cX6_init 23 = .ok (.sipush 600, 3) := by decide +kernel
theorem dX6_init_26 : decode cX6_init 26 = .ok (.newarray .int, 2) := by decide +kernel
theorem dX6_init_28 : decode cX6_init 28 = .ok (.putfield 16, 3) := by decide +kernel
theorem dX6_init_31 : decode cX6_init 31 = .ok (.aload_n 0, 1) := by decide +kernel
theorem dX6_init_32 : decode cX6_init 32 = .ok (.sipush 600, 3) := by decide +kernel
theorem dX6_init_35 : decode cX6_init 35 = .ok (.newarray .int, 2) := by decide +kernel
theorem dX6_init_37 : decode cX6_init 37 = .ok (.putfield 19, 3) := by decide +kernel
theorem dX6_init_40 : decode cX6_init 40 = .ok (.aload_n 0, 1) := by decide +kernel
theorem dX6_init_41 : decode cX6_init 41 = .ok (.sipush 600, 3) := by decide +kernel
theorem dX6_init_44 : decode cX6_init 44 = .ok (.newarray .int, 2) := by decide +kernel
theorem dX6_init_46 : decode cX6_init 46 = .ok (.putfield 22, 3) := by decide +kernel
theorem dX6_init_49 : decode cX6_init 49 = .ok (.aload_n 0, 1) := by decide +kernel
theorem dX6_init_50 : decode cX6_init 50 = .ok (.bipush 6, 2) := by decide +kernel
theorem dX6_init_52 : decode cX6_init 52 = .ok (.newarray .int, 2) := by decide +kernel
theorem dX6_init_54 : decode cX6_init 54 = .ok (.putfield 25, 3) := by decide +kernel
theorem dX6_init_57 : decode cX6_init 57 = .ok (.aload_n 0, 1) := by decide +kernel
theorem dX6_init_58 : decode cX6_init 58 = .ok (.bipush 6, 2) := by decide +kernel
theorem dX6_init_60 : decode cX6_init 60 = .ok (.newarray .int, 2) := by decide +kernel
theorem dX6_init_62 : decode cX6_init 62 = .ok (.putfield 28, 3) := by decide +kernel
theorem dX6_init_65 : decode cX6_init 65 = .ok (.aload_n 0, 1) := by decide +kernel
theorem dX6_init_66 : decode cX6_init 66 = .ok (.bipush 6, 2) := by decide +kernel
theorem dX6_init_68 : decode cX6_init 68 = .ok (.newarray .int, 2) := by decide +kernel
theorem dX6_init_70 : decode cX6_init 70 = .ok (.putfield 31, 3) := by decide +kernel
theorem dX6_init_73 : decode cX6_init 73 = .ok (.aload_n 0, 1) := by decide +kernel
theorem dX6_init_74 : decode cX6_init 74 = .ok (.bipush 6, 2) := by decide +kernel
theorem dX6_init_76 : decode cX6_init 76 = .ok (.newarray .int, 2) := by decide +kernel
theorem dX6_init_78 : decode cX6_init 78 = .ok (.putfield 34, 3) := by decide +kernel
theorem dX6_init_81 : decode cX6_init 81 = .ok (.aload_n 0, 1) := by decide +kernel
theorem dX6_init_82 : decode cX6_init 82 = .ok (.sipush 160, 3) := by decide +kernel
theorem dX6_init_85 : decode cX6_init 85 = .ok (.newarray .int, 2) := by decide +kernel
theorem dX6_init_87 : decode cX6_init 87 = .ok (.putfield 37, 3) := by decide +kernel
theorem dX6_init_90 : decode cX6_init 90 = .ok (.aload_n 0, 1) := by decide +kernel
theorem dX6_init_91 : decode cX6_init 91 = .ok (.sipush 160, 3) := by decide +kernel
theorem dX6_init_94 : decode cX6_init 94 = .ok (.newarray .int, 2) := by decide +kernel
theorem dX6_init_96 : decode cX6_init 96 = .ok (.putfield 40, 3) := by decide +kernel
theorem dX6_init_99 : decode cX6_init 99 = .ok (.aload_n 0, 1) := by decide +kernel
theorem dX6_init_100 : decode cX6_init 100 = .ok (.sipush 160, 3) := by decide +kernel
theorem dX6_init_103 : decode cX6_init 103 = .ok (.newarray .int, 2) := by decide +kernel
theorem dX6_init_105 : decode cX6_init 105 = .ok (.putfield 43, 3) := by decide +kernel
theorem dX6_init_108 : decode cX6_init 108 = .ok (.aload_n 0, 1) := by decide +kernel
theorem dX6_init_109 : decode cX6_init 109 = .ok (.iconst 5, 1) := by decide +kernel
theorem dX6_init_110 : decode cX6_init 110 = .ok (.newarray .int, 2) := by decide +kernel
theorem dX6_init_112 : decode cX6_init 112 = .ok (.putfield 46, 3) := by decide +kernel
theorem dX6_init_115 : decode cX6_init 115 = .ok (.aload_n 0, 1) := by decide +kernel
theorem dX6_init_116 : decode cX6_init 116 = .ok (.iconst 5, 1) := by decide +kernel
theorem dX6_init_117 : decode cX6_init 117 = .ok (.newarray .int, 2) := by decide +kernel
theorem dX6_init_119 : decode cX6_init 119 = .ok (.putfield 49, 3) := by decide +kernel
theorem dX6_init_122 : decode cX6_init 122 = .ok (.aload_n 0, 1) := by decide +kernel
theorem dX6_init_123 : decode cX6_init 123 = .ok (.iconst 5, 1) := by decide +kernel
theorem dX6_init_124 : decode cX6_init 124 = .ok (.newarray .int, 2) := by decide +kernel
theorem dX6_init_126 : decode cX6_init 126 = .ok (.putfield 52, 3) := by decide +kernel
theorem dX6_init_129 : decode cX6_init 129 = .ok (.aload_n 0, 1) := by decide +kernel
theorem dX6_init_130 : decode cX6_init 130 = .ok (.iconst 5, 1) := by decide +kernel
theorem dX6_init_131 : decode cX6_init 131 = .ok (.newarray .int, 2) := by decide +kernel
theorem dX6_init_133 : decode cX6_init 133 = .ok (.putfield 55, 3) := by decide +kernel
theorem dX6_init_136 : decode cX6_init 136 = .ok (.aload_n 0, 1) := by decide +kernel
theorem dX6_init_137 : decode cX6_init 137 = .ok (.iconst 5, 1) := by decide +kernel
theorem dX6_init_138 : decode cX6_init 138 = .ok (.newarray .int, 2) := by decide +kernel
theorem dX6_init_140 : decode cX6_init 140 = .ok (.putfield 58, 3) := by decide +kernel
theorem dX6_init_143 : decode cX6_init 143 = .ok (.aload_n 0, 1) := by decide +kernel
theorem dX6_init_144 : decode cX6_init 144 = .ok (.iconst 5, 1) := by decide +kernel
theorem dX6_init_145 : decode cX6_init 145 = .ok (.newarray .int, 2) := by decide +kernel
theorem dX6_init_147 : decode cX6_init 147 = .ok (.putfield 61, 3) := by decide +kernel
theorem dX6_init_150 : decode cX6_init 150 = .ok (.aload_n 0, 1) := by decide +kernel
theorem dX6_init_151 : decode cX6_init 151 = .ok (.iconst 5, 1) := by decide +kernel
theorem dX6_init_152 : decode cX6_init 152 = .ok (.newarray .int, 2) := by decide +kernel
theorem dX6_init_154 : decode cX6_init 154 = .ok (.putfield 64, 3) := by decide +kernel
theorem dX6_init_157 : decode cX6_init 157 = .ok (.aload_n 0, 1) := by decide +kernel
theorem dX6_init_158 : decode cX6_init 158 = .ok (.bipush 64, 2) := by decide +kernel
theorem dX6_init_160 : decode cX6_init 160 = .ok (.newarray .int, 2) := by decide +kernel
theorem dX6_init_162 : decode cX6_init 162 = .ok (.putfield 67, 3) := by decide +kernel
theorem dX6_init_165 : decode cX6_init 165 = .ok (.aload_n 0, 1) := by decide +kernel
theorem dX6_init_166 : decode cX6_init 166 = .ok (.bipush 64, 2) := by decide +kernel
theorem dX6_init_168 : decode cX6_init 168 = .ok (.newarray .int, 2) := by decide +kernel
theorem dX6_init_170 : decode cX6_init 170 = .ok (.putfield 70, 3) := by decide +kernel
theorem dX6_init_173 : decode cX6_init 173 = .ok (.aload_n 0, 1) := by decide +kernel
theorem dX6_init_174 : decode cX6_init 174 = .ok (.bipush 8, 2) := by decide +kernel
theorem dX6_init_176 : decode cX6_init 176 = .ok (.newarray .int, 2) := by decide +kernel
theorem dX6_init_178 : decode cX6_init 178 = .ok (.putfield 73, 3) := by decide +kernel
theorem dX6_init_181 : decode cX6_init 181 = .ok (.aload_n 0, 1) := by decide +kernel
theorem dX6_init_182 : decode cX6_init 182 = .ok (.bipush 32, 2) := by decide +kernel
theorem dX6_init_184 : decode cX6_init 184 = .ok (.newarray .int, 2) := by decide +kernel
theorem dX6_init_186 : decode cX6_init 186 = .ok (.putfield 76, 3) := by decide +kernel
theorem dX6_init_189 : decode cX6_init 189 = .ok (.aload_n 0, 1) := by decide +kernel
theorem dX6_init_190 : decode cX6_init 190 = .ok (.bipush 8, 2) := by decide +kernel
theorem dX6_init_192 : decode cX6_init 192 = .ok (.newarray .int, 2) := by decide +kernel
theorem dX6_init_194 : decode cX6_init 194 = .ok (.putfield 79, 3) := by decide +kernel
theorem dX6_init_197 : decode cX6_init 197 = .ok (.aload_n 0, 1) := by decide +kernel
theorem dX6_init_198 : decode cX6_init 198 = .ok (.bipush 32, 2) := by decide +kernel
theorem dX6_init_200 : decode cX6_init 200 = .ok (.newarray .int, 2) := by decide +kernel
theorem dX6_init_202 : decode cX6_init 202 = .ok (.putfield 82, 3) := by decide +kernel
theorem dX6_init_205 : decode cX6_init 205 = .ok (.aload_n 0, 1) := by decide +kernel
theorem dX6_init_206 : decode cX6_init 206 = .ok (.bipush 80, 2) := by decide +kernel
theorem dX6_init_208 : decode cX6_init 208 = .ok (.newarray .int, 2) := by decide +kernel
theorem dX6_init_210 : decode cX6_init 210 = .ok (.putfield 85, 3) := by decide +kernel
theorem dX6_init_213 : decode cX6_init 213 = .ok (.aload_n 0, 1) := by decide +kernel
theorem dX6_init_214 : decode cX6_init 214 = .ok (.bipush 10, 2) := by decide +kernel
theorem dX6_init_216 : decode cX6_init 216 = .ok (.newarray .int, 2) := by decide +kernel
theorem dX6_init_218 : decode cX6_init 218 = .ok (.putfield 88, 3) := by decide +kernel
theorem dX6_init_221 : decode cX6_init 221 = .ok (.aload_n 0, 1) := by decide +kernel
theorem dX6_init_222 : decode cX6_init 222 = .ok (.bipush 10, 2) := by decide +kernel
theorem dX6_init_224 : decode cX6_init 224 = .ok (.newarray .int, 2) := by decide +kernel
theorem dX6_init_226 : decode cX6_init 226 = .ok (.putfield 91, 3) := by decide +kernel
theorem dX6_init_229 : decode cX6_init 229 = .ok (.aload_n 0, 1) := by decide +kernel
theorem dX6_init_230 : decode cX6_init 230 = .ok (.sipush 1000, 3) := by decide +kernel
theorem dX6_init_233 : decode cX6_init 233 = .ok (.newarray .int, 2) := by decide +kernel
theorem dX6_init_235 : decode cX6_init 235 = .ok (.putfield 94, 3) := by decide +kernel
theorem dX6_init_238 : decode cX6_init 238 = .ok (.return_, 1) := by decide +kernel
theorem dX6_thrown_0 : decode cX6_thrown 0 = .ok (.aload_n 0, 1) := by decide +kernel
theorem dX6_thrown_1 : decode cX6_thrown 1 = .ok (.getfield 97, 3) := by decide +kernel
theorem dX6_thrown_4 : decode cX6_thrown 4 = .ok (.ireturn, 1) := by decide +kernel
theorem dX6_words_0 : decode cX6_words 0 = .ok (.iload_n 2, 1) := by decide +kernel
theorem dX6_words_1 : decode cX6_words 1 = .ok (.iconst 1, 1) := by decide +kernel
theorem dX6_words_2 : decode cX6_words 2 = .ok (.if_icmp .lt 12, 3) := by decide +kernel
theorem dX6_words_5 : decode cX6_words 5 = .ok (.iload_n 2, 1) := by decide +kernel
theorem dX6_words_6 : decode cX6_words 6 = .ok (.iconst 4, 1) := by decide +kernel
theorem dX6_words_7 : decode cX6_words 7 = .ok (.if_icmp .gt 7, 3) := by decide +kernel
theorem dX6_words_10 : decode cX6_words 10 = .ok (.iconst 1, 1) := by decide +kernel
theorem dX6_words_11 : decode cX6_words 11 = .ok (.goto 4, 3) := by decide +kernel
theorem dX6_words_14 : decode cX6_words 14 = .ok (.iconst 0, 1) := by decide +kernel
theorem dX6_words_15 : decode cX6_words 15 = .ok (.istore_n 3, 1) := by decide +kernel
theorem dX6_words_16 : decode cX6_words 16 = .ok (.iconst 0, 1) := by decide +kernel
theorem dX6_words_17 : decode cX6_words 17 = .ok (.istore 4, 2) := by decide +kernel
theorem dX6_words_19 : decode cX6_words 19 = .ok (.iload 4, 2) := by decide +kernel
theorem dX6_words_21 : decode cX6_words 21 = .ok (.iload_n 2, 1) := by decide +kernel
theorem dX6_words_22 : decode cX6_words 22 = .ok (.if_icmp .ge 36, 3) := by decide +kernel
theorem dX6_words_25 : decode cX6_words 25 = .ok (.iload_n 3, 1) := by decide +kernel
theorem dX6_words_26 : decode cX6_words 26 = .ok (.ifCond .eq 32, 3) := by decide +kernel
theorem dX6_words_29 : decode cX6_words 29 = .ok (.iload_n 1, 1) := by decide +kernel
theorem dX6_words_30 : decode cX6_words 30 = .ok (.bipush 8, 2) := by decide +kernel
theorem dX6_words_32 : decode cX6_words 32 = .ok (.iload 4, 2) := by decide +kernel
theorem dX6_words_34 : decode cX6_words 34 = .ok (.imul, 1) := by decide +kernel
theorem dX6_words_35 : decode cX6_words 35 = .ok (.ishr, 1) := by decide +kernel
theorem dX6_words_36 : decode cX6_words 36 = .ok (.sipush 255, 3) := by decide +kernel
theorem dX6_words_39 : decode cX6_words 39 = .ok (.iand, 1) := by decide +kernel
theorem dX6_words_40 : decode cX6_words 40 = .ok (.sipush 191, 3) := by decide +kernel
theorem dX6_words_43 : decode cX6_words 43 = .ok (.if_icmp .gt 7, 3) := by decide +kernel
theorem dX6_words_46 : decode cX6_words 46 = .ok (.iconst 1, 1) := by decide +kernel
theorem dX6_words_47 : decode cX6_words 47 = .ok (.goto 4, 3) := by decide +kernel
theorem dX6_words_50 : decode cX6_words 50 = .ok (.iconst 0, 1) := by decide +kernel
theorem dX6_words_51 : decode cX6_words 51 = .ok (.istore_n 3, 1) := by decide +kernel
theorem dX6_words_52 : decode cX6_words 52 = .ok (.iinc 4 1, 3) := by decide +kernel
theorem dX6_words_55 : decode cX6_words 55 = .ok (.goto (-36), 3) := by decide +kernel
theorem dX6_words_58 : decode cX6_words 58 = .ok (.aload_n 0, 1) := by decide +kernel
theorem dX6_words_59 : decode cX6_words 59 = .ok (.iload_n 3, 1) := by decide +kernel
theorem dX6_words_60 : decode cX6_words 60 = .ok (.ifCond .ne 7, 3) := by decide +kernel
theorem dX6_words_63 : decode cX6_words 63 = .ok (.iconst 1, 1) := by decide +kernel
theorem dX6_words_64 : decode cX6_words 64 = .ok (.goto 20, 3) := by decide +kernel
theorem dX6_words_67 : decode cX6_words 67 = .ok (.aload_n 0, 1) := by decide +kernel
theorem dX6_words_68 : decode cX6_words 68 = .ok (.getfield 101, 3) := by decide +kernel
theorem dX6_words_71 : decode cX6_words 71 = .ok (.iload_n 2, 1) := by decide +kernel
theorem dX6_words_72 : decode cX6_words 72 = .ok (.iadd, 1) := by decide +kernel
theorem dX6_words_73 : decode cX6_words 73 = .ok (.sipush 160, 3) := by decide +kernel
theorem dX6_words_76 : decode cX6_words 76 = .ok (.if_icmp .le 7, 3) := by decide +kernel
theorem dX6_words_79 : decode cX6_words 79 = .ok (.iconst 2, 1) := by decide +kernel
theorem dX6_words_80 : decode cX6_words 80 = .ok (.goto 4, 3) := by decide +kernel
theorem dX6_words_83 : decode cX6_words 83 = .ok (.iconst 0, 1) := by decide +kernel
theorem dX6_words_84 : decode cX6_words 84 = .ok (.putfield 97, 3) := by decide +kernel
theorem dX6_words_87 : decode cX6_words 87 = .ok (.iload_n 2, 1) := by decide +kernel
theorem dX6_words_88 : decode cX6_words 88 = .ok (.iconst 1, 1) := by decide +kernel
theorem dX6_words_89 : decode cX6_words 89 = .ok (.isub, 1) := by decide +kernel
theorem dX6_words_90 : decode cX6_words 90 = .ok (.istore 4, 2) := by decide +kernel
theorem dX6_words_92 : decode cX6_words 92 = .ok (.iload 4, 2) := by decide +kernel
theorem dX6_words_94 : decode cX6_words 94 = .ok (.ifCond .lt 46, 3) := by decide +kernel
theorem dX6_words_97 : decode cX6_words 97 = .ok (.aload_n 0, 1) := by decide +kernel
theorem dX6_words_98 : decode cX6_words 98 = .ok (.getfield 97, 3) := by decide +kernel
theorem dX6_words_101 : decode cX6_words 101 = .ok (.ifCond .ne 39, 3) := by decide +kernel
theorem dX6_words_104 : decode cX6_words 104 = .ok (.aload_n 0, 1) := by decide +kernel
theorem dX6_words_105 : decode cX6_words 105 = .ok (.getfield 7, 3) := by decide +kernel
theorem dX6_words_108 : decode cX6_words 108 = .ok (.aload_n 0, 1) := by decide +kernel
theorem dX6_words_109 : decode cX6_words 109 = .ok (.getfield 101, 3) := by decide +kernel
theorem dX6_words_112 : decode cX6_words 112 = .ok (.iload_n 1, 1) := by decide +kernel
theorem dX6_words_113 : decode cX6_words 113 = .ok (.bipush 8, 2) := by decide +kernel
theorem dX6_words_115 : decode cX6_words 115 = .ok (.iload 4, 2) := by decide +kernel
theorem dX6_words_117 : decode cX6_words 117 = .ok (.imul, 1) := by decide +kernel
theorem dX6_words_118 : decode cX6_words 118 = .ok (.ishr, 1) := by decide +kernel
theorem dX6_words_119 : decode cX6_words 119 = .ok (.sipush 255, 3) := by decide +kernel
theorem dX6_words_122 : decode cX6_words 122 = .ok (.iand, 1) := by decide +kernel
theorem dX6_words_123 : decode cX6_words 123 = .ok (.iastore, 1) := by decide +kernel
theorem dX6_words_124 : decode cX6_words 124 = .ok (.aload_n 0, 1) := by decide +kernel
theorem dX6_words_125 : decode cX6_words 125 = .ok (.dup, 1) := by decide +kernel
theorem dX6_words_126 : decode cX6_words 126 = .ok (.getfield 101, 3) := by decide +kernel
theorem dX6_words_129 : decode cX6_words 129 = .ok (.iconst 1, 1) := by decide +kernel
theorem dX6_words_130 : decode cX6_words 130 = .ok (.iadd, 1) := by decide +kernel
theorem dX6_words_131 : decode cX6_words 131 = .ok (.putfield 101, 3) := by decide +kernel
theorem dX6_words_134 : decode cX6_words 134 = .ok (.iinc 4 (-1), 3) := by decide +kernel
theorem dX6_words_137 : decode cX6_words 137 = .ok (.goto (-45), 3) := by decide +kernel
theorem dX6_words_140 : decode cX6_words 140 = .ok (.aload_n 0, 1) := by decide +kernel
theorem dX6_words_141 : decode cX6_words 141 = .ok (.getfield 101, 3) := by decide +kernel
theorem dX6_words_144 : decode cX6_words 144 = .ok (.ireturn, 1) := by decide +kernel
theorem dX6_token_0 : decode cX6_token 0 = .ok (.aload_n 0, 1) := by decide +kernel
theorem dX6_token_1 : decode cX6_token 1 = .ok (.getfield 104, 3) := by decide +kernel
theorem dX6_token_4 : decode cX6_token 4 = .ok (.aload_n 0, 1) := by decide +kernel
theorem dX6_token_5 : decode cX6_token 5 = .ok (.getfield 101, 3) := by decide +kernel
theorem dX6_token_8 : decode cX6_token 8 = .ok (.if_icmp .ge 15, 3) := by decide +kernel
theorem dX6_token_11 : decode cX6_token 11 = .ok (.aload_n 0, 1) := by decide +kernel
theorem dX6_token_12 : decode cX6_token 12 = .ok (.getfield 7, 3) := by decide +kernel
theorem dX6_token_15 : decode cX6_token 15 = .ok (.aload_n 0, 1) := by decide +kernel
theorem dX6_token_16 : decode cX6_token 16 = .ok (.getfield 104, 3) := by decide +kernel
theorem dX6_token_19 : decode cX6_token 19 = .ok (.iaload, 1) := by decide +kernel
theorem dX6_token_20 : decode cX6_token 20 = .ok (.goto 4, 3) := by decide +kernel
theorem dX6_token_23 : decode cX6_token 23 = .ok (.iconst (-1), 1) := by decide +kernel
theorem dX6_token_24 : decode cX6_token 24 = .ok (.ireturn, 1) := by decide +kernel
theorem dX6_wrong_0 : decode cX6_wrong 0 = .ok (.aload_n 0, 1) := by decide +kernel
theorem dX6_wrong_1 : decode cX6_wrong 1 = .ok (.getfield 107, 3) := by decide +kernel
theorem dX6_wrong_4 : decode cX6_wrong 4 = .ok (.ifCond .ne 13, 3) := by decide +kernel
theorem dX6_wrong_7 : decode cX6_wrong 7 = .ok (.aload_n 0, 1) := by decide +kernel
theorem dX6_wrong_8 : decode cX6_wrong 8 = .ok (.iload_n 1, 1) := by decide +kernel
theorem dX6_wrong_9 : decode cX6_wrong 9 = .ok (.putfield 107, 3) := by decide +kernel
theorem dX6_wrong_12 : decode cX6_wrong 12 = .ok (.aload_n 0, 1) := by decide +kernel
theorem dX6_wrong_13 : decode cX6_wrong 13 = .ok (.iload_n 2, 1) := by decide +kernel
theorem dX6_wrong_14 : decode cX6_wrong 14 = .ok (.putfield 110, 3) := by decide +kernel
theorem dX6_wrong_17 : decode cX6_wrong 17 = .ok (.return_, 1) := by decide +kernel
theorem dX6_must_0 : decode cX6_must 0 = .ok (.aload_n 0, 1) := by decide +kernel
theorem dX6_must_1 : decode cX6_must 1 = .ok (.invokevirtual 113, 3) := by decide +kernel
theorem dX6_must_4 : decode cX6_must 4 = .ok (.iload_n 1, 1) := by decide +kernel
theorem dX6_must_5 : decode cX6_must 5 = .ok (.if_icmp .eq 14, 3) := by decide +kernel
theorem dX6_must_8 : decode cX6_must 8 = .ok (.aload_n 0, 1) := by decide +kernel
theorem dX6_must_9 : decode cX6_must 9 = .ok (.iconst 1, 1) := by decide +kernel
theorem dX6_must_10 : decode cX6_must 10 = .ok (.aload_n 0, 1) := by decide +kernel
theorem dX6_must_11 : decode cX6_must 11 = .ok (.getfield 104, 3) := by decide +kernel
theorem dX6_must_14 : decode cX6_must 14 = .ok (.invokevirtual 117, 3) := by decide +kernel
theorem dX6_must_17 : decode cX6_must 17 = .ok (.iconst 0, 1) := by decide +kernel
theorem dX6_must_18 : decode cX6_must 18 = .ok (.ireturn, 1) := by decide +kernel
theorem dX6_must_19 : decode cX6_must 19 = .ok (.aload_n 0, 1) := by decide +kernel
theorem dX6_must_20 : decode cX6_must 20 = .ok (.dup, 1) := by decide +kernel
theorem dX6_must_21 : decode cX6_must 21 = .ok (.getfield 104, 3) := by decide +kernel
theorem dX6_must_24 : decode cX6_must 24 = .ok (.iconst 1, 1) := by decide +kernel
theorem dX6_must_25 : decode cX6_must 25 = .ok (.iadd, 1) := by decide +kernel
theorem dX6_must_26 : decode cX6_must 26 = .ok (.putfield 104, 3) := by decide +kernel
theorem dX6_must_29 : decode cX6_must 29 = .ok (.iconst 1, 1) := by decide +kernel
theorem dX6_must_30 : decode cX6_must 30 = .ok (.ireturn, 1) := by decide +kernel
theorem dX6_in_0 : decode cX6_in 0 = .ok (.iload_n 0, 1) := by decide +kernel
theorem dX6_in_1 : decode cX6_in 1 = .ok (.iload_n 1, 1) := by decide +kernel
theorem dX6_in_2 : decode cX6_in 2 = .ok (.if_icmp .lt 12, 3) := by decide +kernel
theorem dX6_in_5 : decode cX6_in 5 = .ok (.iload_n 0, 1) := by decide +kernel
theorem dX6_in_6 : decode cX6_in 6 = .ok (.iload_n 2, 1) := by decide +kernel
theorem dX6_in_7 : decode cX6_in 7 = .ok (.if_icmp .gt 7, 3) := by decide +kernel
theorem dX6_in_10 : decode cX6_in 10 = .ok (.iconst 1, 1) := by decide +kernel
theorem dX6_in_11 : decode cX6_in 11 = .ok (.goto 4, 3) := by decide +kernel
theorem dX6_in_14 : decode cX6_in 14 = .ok (.iconst 0, 1) := by decide +kernel
theorem dX6_in_15 : decode cX6_in 15 = .ok (.ireturn, 1) := by decide +kernel
theorem dX6_emit_0 : decode cX6_emit 0 = .ok (.aload_n 0, 1) := by decide +kernel
theorem dX6_emit_1 : decode cX6_emit 1 = .ok (.getfield 13, 3) := by decide +kernel
theorem dX6_emit_4 : decode cX6_emit 4 = .ok (.aload_n 0, 1) := by decide +kernel
theorem dX6_emit_5 : decode cX6_emit 5 = .ok (.getfield 121, 3) := by decide +kernel
theorem dX6_emit_8 : decode cX6_emit 8 = .ok (.iload_n 1, 1) := by decide +kernel
theorem dX6_emit_9 : decode cX6_emit 9 = .ok (.iastore, 1) := by decide +kernel
theorem dX6_emit_10 : decode cX6_emit 10 = .ok (.aload_n 0, 1) := by decide +kernel
theorem dX6_emit_11 : decode cX6_emit 11 = .ok (.getfield 16, 3) := by decide +kernel
theorem dX6_emit_14 : decode cX6_emit 14 = .ok (.aload_n 0, 1) := by decide +kernel
theorem dX6_emit_15 : decode cX6_emit 15 = .ok (.getfield 121, 3) := by decide +kernel
theorem dX6_emit_18 : decode cX6_emit 18 = .ok (.iload_n 2, 1) := by decide +kernel
theorem dX6_emit_19 : decode cX6_emit 19 = .ok (.iastore, 1) := by decide +kernel
theorem dX6_emit_20 : decode cX6_emit 20 = .ok (.aload_n 0, 1) := by decide +kernel
theorem dX6_emit_21 : decode cX6_emit 21 = .ok (.dup, 1) := by decide +kernel
theorem dX6_emit_22 : decode cX6_emit 22 = .ok (.getfield 121, 3) := by decide +kernel
theorem dX6_emit_25 : decode cX6_emit 25 = .ok (.iconst 1, 1) := by decide +kernel
theorem dX6_emit_26 : decode cX6_emit 26 = .ok (.iadd, 1) := by decide +kernel
theorem dX6_emit_27 : decode cX6_emit 27 = .ok (.putfield 121, 3) := by decide +kernel
theorem dX6_emit_30 : decode cX6_emit 30 = .ok (.aload_n 0, 1) := by decide +kernel
theorem dX6_emit_31 : decode cX6_emit 31 = .ok (.getfield 121, 3) := by decide +kernel
theorem dX6_emit_34 : decode cX6_emit 34 = .ok (.iconst 1, 1) := by decide +kernel
theorem dX6_emit_35 : decode cX6_emit 35 = .ok (.isub, 1) := by decide +kernel
theorem dX6_emit_36 : decode cX6_emit 36 = .ok (.ireturn, 1) := by decide +kernel
theorem dX6_function_0 : decode cX6_function 0 = .ok (.aload_n 0, 1) := by decide +kernel
theorem dX6_function_1 : decode cX6_function 1 = .ok (.invokevirtual 113, 3) := by decide +kernel
theorem dX6_function_4 : decode cX6_function 4 = .ok (.iconst (-1), 1) := by decide +kernel
theorem dX6_function_5 : decode cX6_function 5 = .ok (.if_icmp .ne 9, 3) := by decide +kernel
theorem dX6_function_8 : decode cX6_function 8 = .ok (.aload_n 0, 1) := by decide +kernel
theorem dX6_function_9 : decode cX6_function 9 = .ok (.iconst 1, 1) := by decide +kernel
theorem dX6_function_10 : decode cX6_function 10 = .ok (.putfield 124, 3) := by decide +kernel
theorem dX6_function_13 : decode cX6_function 13 = .ok (.return_, 1) := by decide +kernel
theorem dX6_function_14 : decode cX6_function 14 = .ok (.aload_n 0, 1) := by decide +kernel
theorem dX6_function_15 : decode cX6_function 15 = .ok (.bipush 23, 2) := by decide +kernel
theorem dX6_function_17 : decode cX6_function 17 = .ok (.invokevirtual 128, 3) := by decide +kernel
theorem dX6_function_20 : decode cX6_function 20 = .ok (.ifCond .ne 4, 3) := by decide +kernel
theorem dX6_function_23 : decode cX6_function 23 = .ok (.return_, 1) := by decide +kernel
theorem dX6_function_24 : decode cX6_function 24 = .ok (.aload_n 0, 1) := by decide +kernel
theorem dX6_function_25 : decode cX6_function 25 = .ok (.invokevirtual 113, 3) := by decide +kernel
theorem dX6_function_28 : decode cX6_function 28 = .ok (.bipush 52, 2) := by decide +kernel
theorem dX6_function_30 : decode cX6_function 30 = .ok (.isub, 1) := by decide +kernel
theorem dX6_function_31 : decode cX6_function 31 = .ok (.istore_n 1, 1) := by decide +kernel
theorem dX6_function_32 : decode cX6_function 32 = .ok (.iload_n 1, 1) := by decide +kernel
theorem dX6_function_33 : decode cX6_function 33 = .ok (.iconst 0, 1) := by decide +kernel
theorem dX6_function_34 : decode cX6_function 34 = .ok (.iconst 5, 1) := by decide +kernel
theorem dX6_function_35 : decode cX6_function 35 = .ok (.invokestatic 132, 3) := by decide +kernel
theorem dX6_function_38 : decode cX6_function 38 = .ok (.ifCond .ne 13, 3) := by decide +kernel
theorem dX6_function_41 : decode cX6_function 41 = .ok (.aload_n 0, 1) := by decide +kernel
theorem dX6_function_42 : decode cX6_function 42 = .ok (.iconst 1, 1) := by decide +kernel
theorem dX6_function_43 : decode cX6_function 43 = .ok (.aload_n 0, 1) := by decide +kernel
theorem dX6_function_44 : decode cX6_function 44 = .ok (.getfield 104, 3) := by decide +kernel
theorem dX6_function_47 : decode cX6_function 47 = .ok (.invokevirtual 117, 3) := by decide +kernel
theorem dX6_function_50 : decode cX6_function 50 = .ok (.return_, 1) := by decide +kernel
theorem dX6_function_51 : decode cX6_function 51 = .ok (.aload_n 0, 1) := by decide +kernel
theorem dX6_function_52 : decode cX6_function 52 = .ok (.getfield 25, 3) := by decide +kernel
theorem dX6_function_55 : decode cX6_function 55 = .ok (.iload_n 1, 1) := by decide +kernel
theorem dX6_function_56 : decode cX6_function 56 = .ok (.iaload, 1) := by decide +kernel
theorem dX6_function_57 : decode cX6_function 57 = .ok (.ifCond .lt 13, 3) := by decide +kernel
theorem dX6_function_60 : decode cX6_function 60 = .ok (.aload_n 0, 1) := by decide +kernel
theorem dX6_function_61 : decode cX6_function 61 = .ok (.iconst 2, 1) := by decide +kernel
theorem dX6_function_62 : decode cX6_function 62 = .ok (.aload_n 0, 1) := by decide +kernel
theorem dX6_function_63 : decode cX6_function 63 = .ok (.getfield 104, 3) := by decide +kernel
theorem dX6_function_66 : decode cX6_function 66 = .ok (.invokevirtual 117, 3) := by decide +kernel
theorem dX6_function_69 : decode cX6_function 69 = .ok (.return_, 1) := by decide +kernel
theorem dX6_function_70 : decode cX6_function 70 = .ok (.aload_n 0, 1) := by decide +kernel
theorem dX6_function_71 : decode cX6_function 71 = .ok (.dup, 1) := by decide +kernel
theorem dX6_function_72 : decode cX6_function 72 = .ok (.getfield 104, 3) := by decide +kernel
theorem dX6_function_75 : decode cX6_function 75 = .ok (.iconst 1, 1) := by decide +kernel
theorem dX6_function_76 : decode cX6_function 76 = .ok (.iadd, 1) := by decide +kernel
theorem dX6_function_77 : decode cX6_function 77 = .ok (.putfield 104, 3) := by decide +kernel
theorem dX6_function_80 : decode cX6_function 80 = .ok (.aload_n 0, 1) := by decide +kernel
theorem dX6_function_81 : decode cX6_function 81 = .ok (.invokevirtual 113, 3) := by decide +kernel
theorem dX6_function_84 : decode cX6_function 84 = .ok (.bipush 64, 2) := by decide +kernel
theorem dX6_function_86 : decode cX6_function 86 = .ok (.bipush 67, 2) := by decide +kernel
theorem dX6_function_88 : decode cX6_function 88 = .ok (.invokestatic 132, 3) := by decide +kernel
theorem dX6_function_91 : decode cX6_function 91 = .ok (.ifCond .ne 13, 3) := by decide +kernel
theorem dX6_function_94 : decode cX6_function 94 = .ok (.aload_n 0, 1) := by decide +kernel
theorem dX6_function_95 : decode cX6_function 95 = .ok (.iconst 1, 1) := by decide +kernel
theorem dX6_function_96 : decode cX6_function 96 = .ok (.aload_n 0, 1) := by decide +kernel
theorem dX6_function_97 : decode cX6_function 97 = .ok (.getfield 104, 3) := by decide +kernel
theorem dX6_function_100 : decode cX6_function 100 = .ok (.invokevirtual 117, 3) := by decide +kernel
theorem dX6_function_103 : decode cX6_function 103 = .ok (.return_, 1) := by decide +kernel
theorem dX6_function_104 : decode cX6_function 104 = .ok (.aload_n 0, 1) := by decide +kernel
theorem dX6_function_105 : decode cX6_function 105 = .ok (.getfield 25, 3) := by decide +kernel
theorem dX6_function_108 : decode cX6_function 108 = .ok (.iload_n 1, 1) := by decide +kernel
theorem dX6_function_109 : decode cX6_function 109 = .ok (.aload_n 0, 1) := by decide +kernel
theorem dX6_function_110 : decode cX6_function 110 = .ok (.getfield 121, 3) := by decide +kernel
theorem dX6_function_113 : decode cX6_function 113 = .ok (.iastore, 1) := by decide +kernel
theorem dX6_function_114 : decode cX6_function 114 = .ok (.aload_n 0, 1) := by decide +kernel
theorem dX6_function_115 : decode cX6_function 115 = .ok (.getfield 28, 3) := by decide +kernel
theorem dX6_function_118 : decode cX6_function 118 = .ok (.iload_n 1, 1) := by decide +kernel
theorem dX6_function_119 : decode cX6_function 119 = .ok (.aload_n 0, 1) := by decide +kernel
theorem dX6_function_120 : decode cX6_function 120 = .ok (.invokevirtual 113, 3) := by decide +kernel
theorem dX6_function_123 : decode cX6_function 123 = .ok (.bipush 64, 2) := by decide +kernel
theorem dX6_function_125 : decode cX6_function 125 = .ok (.isub, 1) := by decide +kernel
theorem dX6_function_126 : decode cX6_function 126 = .ok (.iastore, 1) := by decide +kernel
theorem dX6_function_127 : decode cX6_function 127 = .ok (.aload_n 0, 1) := by decide +kernel
theorem dX6_function_128 : decode cX6_function 128 = .ok (.dup, 1) := by decide +kernel
theorem dX6_function_129 : decode cX6_function 129 = .ok (.getfield 104, 3) := by decide +kernel
theorem dX6_function_132 : decode cX6_function 132 = .ok (.iconst 1, 1) := by decide +kernel
theorem dX6_function_133 : decode cX6_function 133 = .ok (.iadd, 1) := by decide +kernel
theorem dX6_function_134 : decode cX6_function 134 = .ok (.putfield 104, 3) := by decide +kernel
theorem dX6_function_137 : decode cX6_function 137 = .ok (.aload_n 0, 1) := by decide +kernel
theorem dX6_function_138 : decode cX6_function 138 = .ok (.iconst 0, 1) := by decide +kernel
theorem dX6_function_139 : decode cX6_function 139 = .ok (.iconst 0, 1) := by decide +kernel
theorem dX6_function_140 : decode cX6_function 140 = .ok (.iconst 0, 1) := by decide +kernel
theorem dX6_function_141 : decode cX6_function 141 = .ok (.invokevirtual 136, 3) := by decide +kernel
theorem dX6_function_144 : decode cX6_function 144 = .ok (.return_, 1) := by decide +kernel
theorem dX6_begins_0 : decode cX6_begins 0 = .ok (.aload_n 0, 1) := by decide +kernel
theorem dX6_begins_1 : decode cX6_begins 1 = .ok (.getfield 140, 3) := by decide +kernel
theorem dX6_begins_4 : decode cX6_begins 4 = .ok (.iconst 4, 1) := by decide +kernel
theorem dX6_begins_5 : decode cX6_begins 5 = .ok (.if_icmp .ne 13, 3) := by decide +kernel
theorem dX6_begins_8 : decode cX6_begins 8 = .ok (.aload_n 0, 1) := by decide +kernel
theorem dX6_begins_9 : decode cX6_begins 9 = .ok (.iconst 3, 1) := by decide +kernel
theorem dX6_begins_10 : decode cX6_begins 10 = .ok (.aload_n 0, 1) := by decide +kernel
theorem dX6_begins_11 : decode cX6_begins 11 = .ok (.getfield 104, 3) := by decide +kernel
theorem dX6_begins_14 : decode cX6_begins 14 = .ok (.invokevirtual 117, 3) := by decide +kernel
theorem dX6_begins_17 : decode cX6_begins 17 = .ok (.return_, 1) := by decide +kernel
theorem dX6_begins_18 : decode cX6_begins 18 = .ok (.aload_n 0, 1) := by decide +kernel
theorem dX6_begins_19 : decode cX6_begins 19 = .ok (.getfield 46, 3) := by decide +kernel
theorem dX6_begins_22 : decode cX6_begins 22 = .ok (.aload_n 0, 1) := by decide +kernel
theorem dX6_begins_23 : decode cX6_begins 23 = .ok (.getfield 140, 3) := by decide +kernel
theorem dX6_begins_26 : decode cX6_begins 26 = .ok (.iload_n 1, 1) := by decide +kernel
theorem dX6_begins_27 : decode cX6_begins 27 = .ok (.iastore, 1) := by decide +kernel
theorem dX6_begins_28 : decode cX6_begins 28 = .ok (.aload_n 0, 1) := by decide +kernel
theorem dX6_begins_29 : decode cX6_begins 29 = .ok (.getfield 49, 3) := by decide +kernel
theorem dX6_begins_32 : decode cX6_begins 32 = .ok (.aload_n 0, 1) := by decide +kernel
theorem dX6_begins_33 : decode cX6_begins 33 = .ok (.getfield 140, 3) := by decide +kernel
theorem dX6_begins_36 : decode cX6_begins 36 = .ok (.iload_n 2, 1) := by decide +kernel
theorem dX6_begins_37 : decode cX6_begins 37 = .ok (.iastore, 1) := by decide +kernel
theorem dX6_begins_38 : decode cX6_begins 38 = .ok (.aload_n 0, 1) := by decide +kernel
theorem dX6_begins_39 : decode cX6_begins 39 = .ok (.getfield 52, 3) := by decide +kernel
theorem dX6_begins_42 : decode cX6_begins 42 = .ok (.aload_n 0, 1) := by decide +kernel
theorem dX6_begins_43 : decode cX6_begins 43 = .ok (.getfield 140, 3) := by decide +kernel
theorem dX6_begins_46 : decode cX6_begins 46 = .ok (.iload_n 3, 1) := by decide +kernel
theorem dX6_begins_47 : decode cX6_begins 47 = .ok (.iastore, 1) := by decide +kernel
theorem dX6_begins_48 : decode cX6_begins 48 = .ok (.aload_n 0, 1) := by decide +kernel
theorem dX6_begins_49 : decode cX6_begins 49 = .ok (.dup, 1) := by decide +kernel
theorem dX6_begins_50 : decode cX6_begins 50 = .ok (.getfield 140, 3) := by decide +kernel
theorem dX6_begins_53 : decode cX6_begins 53 = .ok (.iconst 1, 1) := by decide +kernel
theorem dX6_begins_54 : decode cX6_begins 54 = .ok (.iadd, 1) := by decide +kernel
theorem dX6_begins_55 : decode cX6_begins 55 = .ok (.putfield 140, 3) := by decide +kernel
theorem dX6_begins_58 : decode cX6_begins 58 = .ok (.aload_n 0, 1) := by decide +kernel
theorem dX6_begins_59 : decode cX6_begins 59 = .ok (.iconst 1, 1) := by decide +kernel
theorem dX6_begins_60 : decode cX6_begins 60 = .ok (.putfield 143, 3) := by decide +kernel
theorem dX6_begins_63 : decode cX6_begins 63 = .ok (.return_, 1) := by decide +kernel
theorem dX6_worth_0 : decode cX6_worth 0 = .ok (.aload_n 0, 1) := by decide +kernel
theorem dX6_worth_1 : decode cX6_worth 1 = .ok (.iconst 0, 1) := by decide +kernel
theorem dX6_worth_2 : decode cX6_worth 2 = .ok (.putfield 146, 3) := by decide +kernel
theorem dX6_worth_5 : decode cX6_worth 5 = .ok (.aload_n 0, 1) := by decide +kernel
theorem dX6_worth_6 : decode cX6_worth 6 = .ok (.iconst 0, 1) := by decide +kernel
theorem dX6_worth_7 : decode cX6_worth 7 = .ok (.putfield 149, 3) := by decide +kernel
theorem dX6_worth_10 : decode cX6_worth 10 = .ok (.aload_n 0, 1) := by decide +kernel
theorem dX6_worth_11 : decode cX6_worth 11 = .ok (.iload_n 1, 1) := by decide +kernel
theorem dX6_worth_12 : decode cX6_worth 12 = .ok (.iconst 0, 1) := by decide +kernel
theorem dX6_worth_13 : decode cX6_worth 13 = .ok (.invokevirtual 152, 3) := by decide +kernel
theorem dX6_worth_16 : decode cX6_worth 16 = .ok (.return_, 1) := by decide +kernel
theorem dX6_enters_0 : decode cX6_enters 0 = .ok (.aload_n 0, 1) := by decide +kernel
theorem dX6_enters_1 : decode cX6_enters 1 = .ok (.getfield 146, 3) := by decide +kernel
theorem dX6_enters_4 : decode cX6_enters 4 = .ok (.iconst 4, 1) := by decide +kernel
theorem dX6_enters_5 : decode cX6_enters 5 = .ok (.if_icmp .ne 13, 3) := by decide +kernel
theorem dX6_enters_8 : decode cX6_enters 8 = .ok (.aload_n 0, 1) := by decide +kernel
theorem dX6_enters_9 : decode cX6_enters 9 = .ok (.iconst 3, 1) := by decide +kernel
theorem dX6_enters_10 : decode cX6_enters 10 = .ok (.aload_n 0, 1) := by decide +kernel
theorem dX6_enters_11 : decode cX6_enters 11 = .ok (.getfield 104, 3) := by decide +kernel
theorem dX6_enters_14 : decode cX6_enters 14 = .ok (.invokevirtual 117, 3) := by decide +kernel
theorem dX6_enters_17 : decode cX6_enters 17 = .ok (.return_, 1) := by decide +kernel
theorem dX6_enters_18 : decode cX6_enters 18 = .ok (.aload_n 0, 1) := by decide +kernel
theorem dX6_enters_19 : decode cX6_enters 19 = .ok (.getfield 55, 3) := by decide +kernel
theorem dX6_enters_22 : decode cX6_enters 22 = .ok (.aload_n 0, 1) := by decide +kernel
theorem dX6_enters_23 : decode cX6_enters 23 = .ok (.getfield 146, 3) := by decide +kernel
theorem dX6_enters_26 : decode cX6_enters 26 = .ok (.iload_n 1, 1) := by decide +kernel
theorem dX6_enters_27 : decode cX6_enters 27 = .ok (.iastore, 1) := by decide +kernel
theorem dX6_enters_28 : decode cX6_enters 28 = .ok (.aload_n 0, 1) := by decide +kernel
theorem dX6_enters_29 : decode cX6_enters 29 = .ok (.getfield 64, 3) := by decide +kernel
theorem dX6_enters_32 : decode cX6_enters 32 = .ok (.aload_n 0, 1) := by decide +kernel
theorem dX6_enters_33 : decode cX6_enters 33 = .ok (.getfield 146, 3) := by decide +kernel
theorem dX6_enters_36 : decode cX6_enters 36 = .ok (.iload_n 2, 1) := by decide +kernel
theorem dX6_enters_37 : decode cX6_enters 37 = .ok (.iastore, 1) := by decide +kernel
theorem dX6_enters_38 : decode cX6_enters 38 = .ok (.aload_n 0, 1) := by decide +kernel
theorem dX6_enters_39 : decode cX6_enters 39 = .ok (.dup, 1) := by decide +kernel
theorem dX6_enters_40 : decode cX6_enters 40 = .ok (.getfield 146, 3) := by decide +kernel
theorem dX6_enters_43 : decode cX6_enters 43 = .ok (.iconst 1, 1) := by decide +kernel
theorem dX6_enters_44 : decode cX6_enters 44 = .ok (.iadd, 1) := by decide +kernel
theorem dX6_enters_45 : decode cX6_enters 45 = .ok (.putfield 146, 3) := by decide +kernel
theorem dX6_enters_48 : decode cX6_enters 48 = .ok (.aload_n 0, 1) := by decide +kernel
theorem dX6_enters_49 : decode cX6_enters 49 = .ok (.invokevirtual 155, 3) := by decide +kernel
theorem dX6_enters_52 : decode cX6_enters 52 = .ok (.return_, 1) := by decide +kernel
theorem dX6_fresh_0 : decode cX6_fresh 0 = .ok (.aload_n 0, 1) := by decide +kernel
theorem dX6_fresh_1 : decode cX6_fresh 1 = .ok (.getfield 61, 3) := by decide +kernel
theorem dX6_fresh_4 : decode cX6_fresh 4 = .ok (.aload_n 0, 1) := by decide +kernel
theorem dX6_fresh_5 : decode cX6_fresh 5 = .ok (.getfield 146, 3) := by decide +kernel
theorem dX6_fresh_8 : decode cX6_fresh 8 = .ok (.iconst 1, 1) := by decide +kernel
theorem dX6_fresh_9 : decode cX6_fresh 9 = .ok (.isub, 1) := by decide +kernel
theorem dX6_fresh_10 : decode cX6_fresh 10 = .ok (.aload_n 0, 1) := by decide +kernel
theorem dX6_fresh_11 : decode cX6_fresh 11 = .ok (.getfield 149, 3) := by decide +kernel
theorem dX6_fresh_14 : decode cX6_fresh 14 = .ok (.iastore, 1) := by decide +kernel
theorem dX6_fresh_15 : decode cX6_fresh 15 = .ok (.aload_n 0, 1) := by decide +kernel
theorem dX6_fresh_16 : decode cX6_fresh 16 = .ok (.getfield 58, 3) := by decide +kernel
theorem dX6_fresh_19 : decode cX6_fresh 19 = .ok (.aload_n 0, 1) := by decide +kernel
theorem dX6_fresh_20 : decode cX6_fresh 20 = .ok (.getfield 146, 3) := by decide +kernel
theorem dX6_fresh_23 : decode cX6_fresh 23 = .ok (.iconst 1, 1) := by decide +kernel
theorem dX6_fresh_24 : decode cX6_fresh 24 = .ok (.isub, 1) := by decide +kernel
theorem dX6_fresh_25 : decode cX6_fresh 25 = .ok (.iconst (-1), 1) := by decide +kernel
theorem dX6_fresh_26 : decode cX6_fresh 26 = .ok (.iastore, 1) := by decide +kernel
theorem dX6_fresh_27 : decode cX6_fresh 27 = .ok (.aload_n 0, 1) := by decide +kernel
theorem dX6_fresh_28 : decode cX6_fresh 28 = .ok (.iconst 3, 1) := by decide +kernel
theorem dX6_fresh_29 : decode cX6_fresh 29 = .ok (.putfield 143, 3) := by decide +kernel
theorem dX6_fresh_32 : decode cX6_fresh 32 = .ok (.return_, 1) := by decide +kernel
theorem dX6_blockEnds_0 : decode cX6_blockEnds 0 = .ok (.aload_n 0, 1) := by decide +kernel
theorem dX6_blockEnds_1 : decode cX6_blockEnds 1 = .ok (.dup, 1) := by decide +kernel
theorem dX6_blockEnds_2 : decode cX6_blockEnds 2 = .ok (.getfield 104, 3) := by decide +kernel
theorem dX6_blockEnds_5 : decode cX6_blockEnds 5 = .ok (.iconst 1, 1) := by decide +kernel
theorem dX6_blockEnds_6 : decode cX6_blockEnds 6 = .ok (.iadd, 1) := by decide +kernel
theorem dX6_blockEnds_7 : decode cX6_blockEnds 7 = .ok (.putfield 104, 3) := by decide +kernel
theorem dX6_blockEnds_10 : decode cX6_blockEnds 10 = .ok (.aload_n 0, 1) := by decide +kernel
theorem dX6_blockEnds_11 : decode cX6_blockEnds 11 = .ok (.dup, 1) := by decide +kernel
theorem dX6_blockEnds_12 : decode cX6_blockEnds 12 = .ok (.getfield 140, 3) := by decide +kernel
theorem dX6_blockEnds_15 : decode cX6_blockEnds 15 = .ok (.iconst 1, 1) := by decide +kernel
theorem dX6_blockEnds_16 : decode cX6_blockEnds 16 = .ok (.isub, 1) := by decide +kernel
theorem dX6_blockEnds_17 : decode cX6_blockEnds 17 = .ok (.putfield 140, 3) := by decide +kernel
theorem dX6_blockEnds_20 : decode cX6_blockEnds 20 = .ok (.aload_n 0, 1) := by decide +kernel
theorem dX6_blockEnds_21 : decode cX6_blockEnds 21 = .ok (.getfield 46, 3) := by decide +kernel
theorem dX6_blockEnds_24 : decode cX6_blockEnds 24 = .ok (.aload_n 0, 1) := by decide +kernel
theorem dX6_blockEnds_25 : decode cX6_blockEnds 25 = .ok (.getfield 140, 3) := by decide +kernel
theorem dX6_blockEnds_28 : decode cX6_blockEnds 28 = .ok (.iaload, 1) := by decide +kernel
theorem dX6_blockEnds_29 : decode cX6_blockEnds 29 = .ok (.istore_n 1, 1) := by decide +kernel
theorem dX6_blockEnds_30 : decode cX6_blockEnds 30 = .ok (.iload_n 1, 1) := by decide +kernel
theorem dX6_blockEnds_31 : decode cX6_blockEnds 31 = .ok (.ifCond .ne 26, 3) := by decide +kernel
theorem dX6_blockEnds_34 : decode cX6_blockEnds 34 = .ok (.aload_n 0, 1) := by decide +kernel
theorem dX6_blockEnds_35 : decode cX6_blockEnds 35 = .ok (.iconst 0, 1) := by decide +kernel
theorem dX6_blockEnds_36 : decode cX6_blockEnds 36 = .ok (.iconst 0, 1) := by decide +kernel
theorem dX6_blockEnds_37 : decode cX6_blockEnds 37 = .ok (.invokevirtual 158, 3) := by decide +kernel
theorem dX6_blockEnds_40 : decode cX6_blockEnds 40 = .ok (.pop, 1) := by decide +kernel
theorem dX6_blockEnds_41 : decode cX6_blockEnds 41 = .ok (.aload_n 0, 1) := by decide +kernel
theorem dX6_blockEnds_42 : decode cX6_blockEnds 42 = .ok (.bipush 15, 2) := by decide +kernel
theorem dX6_blockEnds_44 : decode cX6_blockEnds 44 = .ok (.iconst 0, 1) := by decide +kernel
theorem dX6_blockEnds_45 : decode cX6_blockEnds 45 = .ok (.invokevirtual 158, 3) := by decide +kernel
theorem dX6_blockEnds_48 : decode cX6_blockEnds 48 = .ok (.pop, 1) := by decide +kernel
theorem dX6_blockEnds_49 : decode cX6_blockEnds 49 = .ok (.aload_n 0, 1) := by decide +kernel
theorem dX6_blockEnds_50 : decode cX6_blockEnds 50 = .ok (.iconst 0, 1) := by decide +kernel
theorem dX6_blockEnds_51 : decode cX6_blockEnds 51 = .ok (.putfield 143, 3) := by decide +kernel
theorem dX6_blockEnds_54 : decode cX6_blockEnds 54 = .ok (.goto 101, 3) := by decide +kernel
theorem dX6_blockEnds_57 : decode cX6_blockEnds 57 = .ok (.iload_n 1, 1) := by decide +kernel
theorem dX6_blockEnds_58 : decode cX6_blockEnds 58 = .ok (.iconst 1, 1) := by decide +kernel
theorem dX6_blockEnds_59 : decode cX6_blockEnds 59 = .ok (.if_icmp .ne 57, 3) := by decide +kernel
theorem dX6_blockEnds_62 : decode cX6_blockEnds 62 = .ok (.aload_n 0, 1) := by decide +kernel
theorem dX6_blockEnds_63 : decode cX6_blockEnds 63 = .ok (.invokevirtual 113, 3) := by decide +kernel
theorem dX6_blockEnds_66 : decode cX6_blockEnds 66 = .ok (.iconst 1, 1) := by decide +kernel
theorem dX6_blockEnds_67 : decode cX6_blockEnds 67 = .ok (.if_icmp .ne 49, 3) := by decide +kernel
theorem dX6_blockEnds_70 : decode cX6_blockEnds 70 = .ok (.aload_n 0, 1) := by decide +kernel
theorem dX6_blockEnds_71 : decode cX6_blockEnds 71 = .ok (.dup, 1) := by decide +kernel
theorem dX6_blockEnds_72 : decode cX6_blockEnds 72 = .ok (.getfield 104, 3) := by decide +kernel
theorem dX6_blockEnds_75 : decode cX6_blockEnds 75 = .ok (.iconst 1, 1) := by decide +kernel
theorem dX6_blockEnds_76 : decode cX6_blockEnds 76 = .ok (.iadd, 1) := by decide +kernel
theorem dX6_blockEnds_77 : decode cX6_blockEnds 77 = .ok (.putfield 104, 3) := by decide +kernel
theorem dX6_blockEnds_80 : decode cX6_blockEnds 80 = .ok (.aload_n 0, 1) := by decide +kernel
theorem dX6_blockEnds_81 : decode cX6_blockEnds 81 = .ok (.bipush 14, 2) := by decide +kernel
theorem dX6_blockEnds_83 : decode cX6_blockEnds 83 = .ok (.iconst 0, 1) := by decide +kernel
theorem dX6_blockEnds_84 : decode cX6_blockEnds 84 = .ok (.invokevirtual 158, 3) := by decide +kernel
theorem dX6_blockEnds_87 : decode cX6_blockEnds 87 = .ok (.istore_n 2, 1) := by decide +kernel
theorem dX6_blockEnds_88 : decode cX6_blockEnds 88 = .ok (.aload_n 0, 1) := by decide +kernel
theorem dX6_blockEnds_89 : decode cX6_blockEnds 89 = .ok (.getfield 16, 3) := by decide +kernel
theorem dX6_blockEnds_92 : decode cX6_blockEnds 92 = .ok (.aload_n 0, 1) := by decide +kernel
theorem dX6_blockEnds_93 : decode cX6_blockEnds 93 = .ok (.getfield 49, 3) := by decide +kernel
theorem dX6_blockEnds_96 : decode cX6_blockEnds 96 = .ok (.aload_n 0, 1) := by decide +kernel
theorem dX6_blockEnds_97 : decode cX6_blockEnds 97 = .ok (.getfield 140, 3) := by decide +kernel
theorem dX6_blockEnds_100 : decode cX6_blockEnds 100 = .ok (.iaload, 1) := by decide +kernel
theorem dX6_blockEnds_101 : decode cX6_blockEnds 101 = .ok (.aload_n 0, 1) := by decide +kernel
theorem dX6_blockEnds_102 : decode cX6_blockEnds 102 = .ok (.getfield 121, 3) := by decide +kernel
theorem dX6_blockEnds_105 : decode cX6_blockEnds 105 = .ok (.iastore, 1) := by decide +kernel
theorem dX6_blockEnds_106 : decode cX6_blockEnds 106 = .ok (.aload_n 0, 1) := by decide +kernel
theorem dX6_blockEnds_107 : decode cX6_blockEnds 107 = .ok (.iconst 2, 1) := by decide +kernel
theorem dX6_blockEnds_108 : decode cX6_blockEnds 108 = .ok (.iload_n 2, 1) := by decide +kernel
theorem dX6_blockEnds_109 : decode cX6_blockEnds 109 = .ok (.iconst 0, 1) := by decide +kernel
theorem dX6_blockEnds_110 : decode cX6_blockEnds 110 = .ok (.invokevirtual 136, 3) := by decide +kernel
theorem dX6_blockEnds_113 : decode cX6_blockEnds 113 = .ok (.goto 42, 3) := by decide +kernel
theorem dX6_blockEnds_116 : decode cX6_blockEnds 116 = .ok (.iload_n 1, 1) := by decide +kernel
theorem dX6_blockEnds_117 : decode cX6_blockEnds 117 = .ok (.iconst 3, 1) := by decide +kernel
theorem dX6_blockEnds_118 : decode cX6_blockEnds 118 = .ok (.if_icmp .ne 19, 3) := by decide +kernel
theorem dX6_blockEnds_121 : decode cX6_blockEnds 121 = .ok (.aload_n 0, 1) := by decide +kernel
theorem dX6_blockEnds_122 : decode cX6_blockEnds 122 = .ok (.bipush 14, 2) := by decide +kernel
theorem dX6_blockEnds_124 : decode cX6_blockEnds 124 = .ok (.aload_n 0, 1) := by decide +kernel
theorem dX6_blockEnds_125 : decode cX6_blockEnds 125 = .ok (.getfield 52, 3) := by decide +kernel
theorem dX6_blockEnds_128 : decode cX6_blockEnds 128 = .ok (.aload_n 0, 1) := by decide +kernel
theorem dX6_blockEnds_129 : decode cX6_blockEnds 129 = .ok (.getfield 140, 3) := by decide +kernel
theorem dX6_blockEnds_132 : decode cX6_blockEnds 132 = .ok (.iaload, 1) := by decide +kernel
theorem dX6_blockEnds_133 : decode cX6_blockEnds 133 = .ok (.invokevirtual 158, 3) := by decide +kernel
theorem dX6_blockEnds_136 : decode cX6_blockEnds 136 = .ok (.pop, 1) := by decide +kernel
theorem dX6_blockEnds_137 : decode cX6_blockEnds 137 = .ok (.aload_n 0, 1) := by decide +kernel
theorem dX6_blockEnds_138 : decode cX6_blockEnds 138 = .ok (.getfield 16, 3) := by decide +kernel
theorem dX6_blockEnds_141 : decode cX6_blockEnds 141 = .ok (.aload_n 0, 1) := by decide +kernel
theorem dX6_blockEnds_142 : decode cX6_blockEnds 142 = .ok (.getfield 49, 3) := by decide +kernel
theorem dX6_blockEnds_145 : decode cX6_blockEnds 145 = .ok (.aload_n 0, 1) := by decide +kernel
theorem dX6_blockEnds_146 : decode cX6_blockEnds 146 = .ok (.getfield 140, 3) := by decide +kernel
theorem dX6_blockEnds_149 : decode cX6_blockEnds 149 = .ok (.iaload, 1) := by decide +kernel
theorem dX6_blockEnds_150 : decode cX6_blockEnds 150 = .ok (.aload_n 0, 1) := by decide +kernel
theorem dX6_blockEnds_151 : decode cX6_blockEnds 151 = .ok (.getfield 121, 3) := by decide +kernel
theorem dX6_blockEnds_154 : decode cX6_blockEnds 154 = .ok (.iastore, 1) := by decide +kernel
theorem dX6_blockEnds_155 : decode cX6_blockEnds 155 = .ok (.return_, 1) := by decide +kernel
theorem dX6_call_0 : decode cX6_call 0 = .ok (.aload_n 0, 1) := by decide +kernel
theorem dX6_call_1 : decode cX6_call 1 = .ok (.getfield 37, 3) := by decide +kernel
theorem dX6_call_4 : decode cX6_call 4 = .ok (.aload_n 0, 1) := by decide +kernel
theorem dX6_call_5 : decode cX6_call 5 = .ok (.getfield 162, 3) := by decide +kernel
theorem dX6_call_8 : decode cX6_call 8 = .ok (.aload_n 0, 1) := by decide +kernel
theorem dX6_call_9 : decode cX6_call 9 = .ok (.getfield 104, 3) := by decide +kernel
theorem dX6_call_12 : decode cX6_call 12 = .ok (.iastore, 1) := by decide +kernel
theorem dX6_call_13 : decode cX6_call 13 = .ok (.aload_n 0, 1) := by decide +kernel
theorem dX6_call_14 : decode cX6_call 14 = .ok (.getfield 40, 3) := by decide +kernel
theorem dX6_call_17 : decode cX6_call 17 = .ok (.aload_n 0, 1) := by decide +kernel
theorem dX6_call_18 : decode cX6_call 18 = .ok (.getfield 162, 3) := by decide +kernel
theorem dX6_call_21 : decode cX6_call 21 = .ok (.aload_n 0, 1) := by decide +kernel
theorem dX6_call_22 : decode cX6_call 22 = .ok (.invokevirtual 113, 3) := by decide +kernel
theorem dX6_call_25 : decode cX6_call 25 = .ok (.bipush 52, 2) := by decide +kernel
theorem dX6_call_27 : decode cX6_call 27 = .ok (.isub, 1) := by decide +kernel
theorem dX6_call_28 : decode cX6_call 28 = .ok (.iastore, 1) := by decide +kernel
theorem dX6_call_29 : decode cX6_call 29 = .ok (.aload_n 0, 1) := by decide +kernel
theorem dX6_call_30 : decode cX6_call 30 = .ok (.getfield 43, 3) := by decide +kernel
theorem dX6_call_33 : decode cX6_call 33 = .ok (.aload_n 0, 1) := by decide +kernel
theorem dX6_call_34 : decode cX6_call 34 = .ok (.getfield 162, 3) := by decide +kernel
theorem dX6_call_37 : decode cX6_call 37 = .ok (.iconst 0, 1) := by decide +kernel
theorem dX6_call_38 : decode cX6_call 38 = .ok (.iastore, 1) := by decide +kernel
theorem dX6_call_39 : decode cX6_call 39 = .ok (.aload_n 0, 1) := by decide +kernel
theorem dX6_call_40 : decode cX6_call 40 = .ok (.dup, 1) := by decide +kernel
theorem dX6_call_41 : decode cX6_call 41 = .ok (.getfield 162, 3) := by decide +kernel
theorem dX6_call_44 : decode cX6_call 44 = .ok (.iconst 1, 1) := by decide +kernel
theorem dX6_call_45 : decode cX6_call 45 = .ok (.iadd, 1) := by decide +kernel
theorem dX6_call_46 : decode cX6_call 46 = .ok (.putfield 162, 3) := by decide +kernel
theorem dX6_call_49 : decode cX6_call 49 = .ok (.aload_n 0, 1) := by decide +kernel
theorem dX6_call_50 : decode cX6_call 50 = .ok (.dup, 1) := by decide +kernel
theorem dX6_call_51 : decode cX6_call 51 = .ok (.getfield 104, 3) := by decide +kernel
theorem dX6_call_54 : decode cX6_call 54 = .ok (.iconst 1, 1) := by decide +kernel
theorem dX6_call_55 : decode cX6_call 55 = .ok (.iadd, 1) := by decide +kernel
theorem dX6_call_56 : decode cX6_call 56 = .ok (.putfield 104, 3) := by decide +kernel
theorem dX6_call_59 : decode cX6_call 59 = .ok (.aload_n 0, 1) := by decide +kernel
theorem dX6_call_60 : decode cX6_call 60 = .ok (.getfield 162, 3) := by decide +kernel
theorem dX6_call_63 : decode cX6_call 63 = .ok (.iconst 1, 1) := by decide +kernel
theorem dX6_call_64 : decode cX6_call 64 = .ok (.isub, 1) := by decide +kernel
theorem dX6_call_65 : decode cX6_call 65 = .ok (.ireturn, 1) := by decide +kernel
theorem dX6_callEnds_0 : decode cX6_callEnds 0 = .ok (.aload_n 0, 1) := by decide +kernel
theorem dX6_callEnds_1 : decode cX6_callEnds 1 = .ok (.bipush 7, 2) := by decide +kernel
theorem dX6_callEnds_3 : decode cX6_callEnds 3 = .ok (.iload_n 1, 1) := by decide +kernel
theorem dX6_callEnds_4 : decode cX6_callEnds 4 = .ok (.invokevirtual 158, 3) := by decide +kernel
theorem dX6_callEnds_7 : decode cX6_callEnds 7 = .ok (.pop, 1) := by decide +kernel
theorem dX6_callEnds_8 : decode cX6_callEnds 8 = .ok (.return_, 1) := by decide +kernel
theorem dX6_statement_0 : decode cX6_statement 0 = .ok (.aload_n 0, 1) := by decide +kernel
theorem dX6_statement_1 : decode cX6_statement 1 = .ok (.invokevirtual 113, 3) := by decide +kernel
theorem dX6_statement_4 : decode cX6_statement 4 = .ok (.istore_n 1, 1) := by decide +kernel
theorem dX6_statement_5 : decode cX6_statement 5 = .ok (.iload_n 1, 1) := by decide +kernel
theorem dX6_statement_6 : decode cX6_statement 6 = .ok (.bipush 9, 2) := by decide +kernel
theorem dX6_statement_8 : decode cX6_statement 8 = .ok (.if_icmp .ne 8, 3) := by decide +kernel
theorem dX6_statement_11 : decode cX6_statement 11 = .ok (.aload_n 0, 1) := by decide +kernel
theorem dX6_statement_12 : decode cX6_statement 12 = .ok (.invokevirtual 165, 3) := by decide +kernel
theorem dX6_statement_15 : decode cX6_statement 15 = .ok (.return_, 1) := by decide +kernel
theorem dX6_statement_16 : decode cX6_statement 16 = .ok (.aload_n 0, 1) := by decide +kernel
theorem dX6_statement_17 : decode cX6_statement 17 = .ok (.aload_n 0, 1) := by decide +kernel
theorem dX6_statement_18 : decode cX6_statement 18 = .ok (.bipush 8, 2) := by decide +kernel
theorem dX6_statement_20 : decode cX6_statement 20 = .ok (.iconst 0, 1) := by decide +kernel
theorem dX6_statement_21 : decode cX6_statement 21 = .ok (.invokevirtual 158, 3) := by decide +kernel
theorem dX6_statement_24 : decode cX6_statement 24 = .ok (.putfield 168, 3) := by decide +kernel
theorem dX6_statement_27 : decode cX6_statement 27 = .ok (.aload_n 0, 1) := by decide +kernel
theorem dX6_statement_28 : decode cX6_statement 28 = .ok (.iload_n 1, 1) := by decide +kernel
theorem dX6_statement_29 : decode cX6_statement 29 = .ok (.bipush 32, 2) := by decide +kernel
theorem dX6_statement_31 : decode cX6_statement 31 = .ok (.bipush 39, 2) := by decide +kernel
theorem dX6_statement_33 : decode cX6_statement 33 = .ok (.invokestatic 132, 3) := by decide +kernel
theorem dX6_statement_36 : decode cX6_statement 36 = .ok (.ifCond .eq 8, 3) := by decide +kernel
theorem dX6_statement_39 : decode cX6_statement 39 = .ok (.bipush 9, 2) := by decide +kernel
theorem dX6_statement_41 : decode cX6_statement 41 = .ok (.goto 21, 3) := by decide +kernel
theorem dX6_statement_44 : decode cX6_statement 44 = .ok (.iload_n 1, 1) := by decide +kernel
theorem dX6_statement_45 : decode cX6_statement 45 = .ok (.bipush 44, 2) := by decide +kernel
theorem dX6_statement_47 : decode cX6_statement 47 = .ok (.bipush 51, 2) := by decide +kernel
theorem dX6_statement_49 : decode cX6_statement 49 = .ok (.invokestatic 132, 3) := by decide +kernel
theorem dX6_statement_52 : decode cX6_statement 52 = .ok (.ifCond .eq 8, 3) := by decide +kernel
theorem dX6_statement_55 : decode cX6_statement 55 = .ok (.bipush 10, 2) := by decide +kernel
theorem dX6_statement_57 : decode cX6_statement 57 = .ok (.goto 5, 3) := by decide +kernel
theorem dX6_statement_60 : decode cX6_statement 60 = .ok (.bipush 11, 2) := by decide +kernel
theorem dX6_statement_62 : decode cX6_statement 62 = .ok (.putfield 171, 3) := by decide +kernel
theorem dX6_statement_65 : decode cX6_statement 65 = .ok (.iload_n 1, 1) := by decide +kernel
theorem dX6_statement_66 : decode cX6_statement 66 = .ok (.bipush 32, 2) := by decide +kernel
theorem dX6_statement_68 : decode cX6_statement 68 = .ok (.bipush 39, 2) := by decide +kernel
theorem dX6_statement_70 : decode cX6_statement 70 = .ok (.invokestatic 132, 3) := by decide +kernel
theorem dX6_statement_73 : decode cX6_statement 73 = .ok (.ifCond .ne 14, 3) := by decide +kernel
theorem dX6_statement_76 : decode cX6_statement 76 = .ok (.iload_n 1, 1) := by decide +kernel
theorem dX6_statement_77 : decode cX6_statement 77 = .ok (.bipush 44, 2) := by decide +kernel
theorem dX6_statement_79 : decode cX6_statement 79 = .ok (.bipush 51, 2) := by decide +kernel
theorem dX6_statement_81 : decode cX6_statement 81 = .ok (.invokestatic 132, 3) := by decide +kernel
theorem dX6_statement_84 : decode cX6_statement 84 = .ok (.ifCond .eq 54, 3) := by decide +kernel
theorem dX6_statement_87 : decode cX6_statement 87 = .ok (.aload_n 0, 1) := by decide +kernel
theorem dX6_statement_88 : decode cX6_statement 88 = .ok (.aload_n 0, 1) := by decide +kernel
theorem dX6_statement_89 : decode cX6_statement 89 = .ok (.getfield 171, 3) := by decide +kernel
theorem dX6_statement_92 : decode cX6_statement 92 = .ok (.bipush 9, 2) := by decide +kernel
theorem dX6_statement_94 : decode cX6_statement 94 = .ok (.if_icmp .ne 10, 3) := by decide +kernel
theorem dX6_statement_97 : decode cX6_statement 97 = .ok (.iload_n 1, 1) := by decide +kernel
theorem dX6_statement_98 : decode cX6_statement 98 = .ok (.bipush 32, 2) := by decide +kernel
theorem dX6_statement_100 : decode cX6_statement 100 = .ok (.isub, 1) := by decide +kernel
theorem dX6_statement_101 : decode cX6_statement 101 = .ok (.goto 7, 3) := by decide +kernel
theorem dX6_statement_104 : decode cX6_statement 104 = .ok (.iload_n 1, 1) := by decide +kernel
theorem dX6_statement_105 : decode cX6_statement 105 = .ok (.bipush 44, 2) := by decide +kernel
theorem dX6_statement_107 : decode cX6_statement 107 = .ok (.isub, 1) := by decide +kernel
theorem dX6_statement_108 : decode cX6_statement 108 = .ok (.putfield 174, 3) := by decide +kernel
theorem dX6_statement_111 : decode cX6_statement 111 = .ok (.aload_n 0, 1) := by decide +kernel
theorem dX6_statement_112 : decode cX6_statement 112 = .ok (.dup, 1) := by decide +kernel
theorem dX6_statement_113 : decode cX6_statement 113 = .ok (.getfield 104, 3) := by decide +kernel
theorem dX6_statement_116 : decode cX6_statement 116 = .ok (.iconst 1, 1) := by decide +kernel
theorem dX6_statement_117 : decode cX6_statement 117 = .ok (.iadd, 1) := by decide +kernel
theorem dX6_statement_118 : decode cX6_statement 118 = .ok (.putfield 104, 3) := by decide +kernel
theorem dX6_statement_121 : decode cX6_statement 121 = .ok (.aload_n 0, 1) := by decide +kernel
theorem dX6_statement_122 : decode cX6_statement 122 = .ok (.bipush 12, 2) := by decide +kernel
theorem dX6_statement_124 : decode cX6_statement 124 = .ok (.invokevirtual 128, 3) := by decide +kernel
theorem dX6_statement_127 : decode cX6_statement 127 = .ok (.ifCond .eq 241, 3) := by decide +kernel
theorem dX6_statement_130 : decode cX6_statement 130 = .ok (.aload_n 0, 1) := by decide +kernel
theorem dX6_statement_131 : decode cX6_statement 131 = .ok (.iconst 4, 1) := by decide +kernel
theorem dX6_statement_132 : decode cX6_statement 132 = .ok (.invokevirtual 177, 3) := by decide +kernel
theorem dX6_statement_135 : decode cX6_statement 135 = .ok (.goto 233, 3) := by decide +kernel
theorem dX6_statement_138 : decode cX6_statement 138 = .ok (.iload_n 1, 1) := by decide +kernel
theorem dX6_statement_139 : decode cX6_statement 139 = .ok (.bipush 40, 2) := by decide +kernel
theorem dX6_statement_141 : decode cX6_statement 141 = .ok (.bipush 43, 2) := by decide +kernel
theorem dX6_statement_143 : decode cX6_statement 143 = .ok (.invokestatic 132, 3) := by decide +kernel
theorem dX6_statement_146 : decode cX6_statement 146 = .ok (.ifCond .eq 38, 3) := by decide +kernel
theorem dX6_statement_149 : decode cX6_statement 149 = .ok (.aload_n 0, 1) := by decide +kernel
theorem dX6_statement_150 : decode cX6_statement 150 = .ok (.iload_n 1, 1) := by decide +kernel
theorem dX6_statement_151 : decode cX6_statement 151 = .ok (.bipush 40, 2) := by decide +kernel
theorem dX6_statement_153 : decode cX6_statement 153 = .ok (.isub, 1) := by decide +kernel
theorem dX6_statement_154 : decode cX6_statement 154 = .ok (.putfield 174, 3) := by decide +kernel
theorem dX6_statement_157 : decode cX6_statement 157 = .ok (.aload_n 0, 1) := by decide +kernel
theorem dX6_statement_158 : decode cX6_statement 158 = .ok (.dup, 1) := by decide +kernel
theorem dX6_statement_159 : decode cX6_statement 159 = .ok (.getfield 104, 3) := by decide +kernel
theorem dX6_statement_162 : decode cX6_statement 162 = .ok (.iconst 1, 1) := by decide +kernel
theorem dX6_statement_163 : decode cX6_statement 163 = .ok (.iadd, 1) := by decide +kernel
theorem dX6_statement_164 : decode cX6_statement 164 = .ok (.putfield 104, 3) := by decide +kernel
theorem dX6_statement_167 : decode cX6_statement 167 = .ok (.aload_n 0, 1) := by decide +kernel
theorem dX6_statement_168 : decode cX6_statement 168 = .ok (.bipush 21, 2) := by decide +kernel
theorem dX6_statement_170 : decode cX6_statement 170 = .ok (.invokevirtual 128, 3) := by decide +kernel
theorem dX6_statement_173 : decode cX6_statement 173 = .ok (.ifCond .eq 195, 3) := by decide +kernel
theorem dX6_statement_176 : decode cX6_statement 176 = .ok (.aload_n 0, 1) := by decide +kernel
theorem dX6_statement_177 : decode cX6_statement 177 = .ok (.iconst 3, 1) := by decide +kernel
theorem dX6_statement_178 : decode cX6_statement 178 = .ok (.invokevirtual 177, 3) := by decide +kernel
theorem dX6_statement_181 : decode cX6_statement 181 = .ok (.goto 187, 3) := by decide +kernel
theorem dX6_statement_184 : decode cX6_statement 184 = .ok (.iload_n 1, 1) := by decide +kernel
theorem dX6_statement_185 : decode cX6_statement 185 = .ok (.bipush 52, 2) := by decide +kernel
theorem dX6_statement_187 : decode cX6_statement 187 = .ok (.bipush 57, 2) := by decide +kernel
theorem dX6_statement_189 : decode cX6_statement 189 = .ok (.invokestatic 132, 3) := by decide +kernel
theorem dX6_statement_192 : decode cX6_statement 192 = .ok (.ifCond .eq 83, 3) := by decide +kernel
theorem dX6_statement_195 : decode cX6_statement 195 = .ok (.aload_n 0, 1) := by decide +kernel
theorem dX6_statement_196 : decode cX6_statement 196 = .ok (.invokevirtual 181, 3) := by decide +kernel
theorem dX6_statement_199 : decode cX6_statement 199 = .ok (.istore_n 2, 1) := by decide +kernel
theorem dX6_statement_200 : decode cX6_statement 200 = .ok (.aload_n 0, 1) := by decide +kernel
theorem dX6_statement_201 : decode cX6_statement 201 = .ok (.bipush 6, 2) := by decide +kernel
theorem dX6_statement_203 : decode cX6_statement 203 = .ok (.invokevirtual 128, 3) := by decide +kernel
theorem dX6_statement_206 : decode cX6_statement 206 = .ok (.ifCond .ne 4, 3) := by decide +kernel
theorem dX6_statement_209 : decode cX6_statement 209 = .ok (.return_, 1) := by decide +kernel
theorem dX6_statement_210 : decode cX6_statement 210 = .ok (.aload_n 0, 1) := by decide +kernel
theorem dX6_statement_211 : decode cX6_statement 211 = .ok (.invokevirtual 113, 3) := by decide +kernel
theorem dX6_statement_214 : decode cX6_statement 214 = .ok (.bipush 7, 2) := by decide +kernel
theorem dX6_statement_216 : decode cX6_statement 216 = .ok (.if_icmp .ne 36, 3) := by decide +kernel
theorem dX6_statement_219 : decode cX6_statement 219 = .ok (.aload_n 0, 1) := by decide +kernel
theorem dX6_statement_220 : decode cX6_statement 220 = .ok (.dup, 1) := by decide +kernel
theorem dX6_statement_221 : decode cX6_statement 221 = .ok (.getfield 104, 3) := by decide +kernel
theorem dX6_statement_224 : decode cX6_statement 224 = .ok (.iconst 1, 1) := by decide +kernel
theorem dX6_statement_225 : decode cX6_statement 225 = .ok (.iadd, 1) := by decide +kernel
theorem dX6_statement_226 : decode cX6_statement 226 = .ok (.putfield 104, 3) := by decide +kernel
theorem dX6_statement_229 : decode cX6_statement 229 = .ok (.aload_n 0, 1) := by decide +kernel
theorem dX6_statement_230 : decode cX6_statement 230 = .ok (.iload_n 2, 1) := by decide +kernel
theorem dX6_statement_231 : decode cX6_statement 231 = .ok (.invokevirtual 184, 3) := by decide +kernel
theorem dX6_statement_234 : decode cX6_statement 234 = .ok (.aload_n 0, 1) := by decide +kernel
theorem dX6_statement_235 : decode cX6_statement 235 = .ok (.bipush 12, 2) := by decide +kernel
theorem dX6_statement_237 : decode cX6_statement 237 = .ok (.iconst 0, 1) := by decide +kernel
theorem dX6_statement_238 : decode cX6_statement 238 = .ok (.invokevirtual 158, 3) := by decide +kernel
theorem dX6_statement_241 : decode cX6_statement 241 = .ok (.pop, 1) := by decide +kernel
theorem dX6_statement_242 : decode cX6_statement 242 = .ok (.aload_n 0, 1) := by decide +kernel
theorem dX6_statement_243 : decode cX6_statement 243 = .ok (.bipush 10, 2) := by decide +kernel
theorem dX6_statement_245 : decode cX6_statement 245 = .ok (.invokevirtual 128, 3) := by decide +kernel
theorem dX6_statement_248 : decode cX6_statement 248 = .ok (.pop, 1) := by decide +kernel
theorem dX6_statement_249 : decode cX6_statement 249 = .ok (.goto 23, 3) := by decide +kernel
theorem dX6_statement_252 : decode cX6_statement 252 = .ok (.aload_n 0, 1) := by decide +kernel
theorem dX6_statement_253 : decode cX6_statement 253 = .ok (.bipush 9, 2) := by decide +kernel
theorem dX6_statement_255 : decode cX6_statement 255 = .ok (.invokevirtual 177, 3) := by decide +kernel
theorem dX6_statement_258 : decode cX6_statement 258 = .ok (.aload_n 0, 1) := by decide +kernel
theorem dX6_statement_259 : decode cX6_statement 259 = .ok (.getfield 64, 3) := by decide +kernel
theorem dX6_statement_262 : decode cX6_statement 262 = .ok (.iconst 0, 1) := by decide +kernel
theorem dX6_statement_263 : decode cX6_statement 263 = .ok (.iload_n 2, 1) := by decide +kernel
theorem dX6_statement_264 : decode cX6_statement 264 = .ok (.iastore, 1) := by decide +kernel
theorem dX6_statement_265 : decode cX6_statement 265 = .ok (.aload_n 0, 1) := by decide +kernel
theorem dX6_statement_266 : decode cX6_statement 266 = .ok (.getfield 43, 3) := by decide +kernel
theorem dX6_statement_269 : decode cX6_statement 269 = .ok (.iload_n 2, 1) := by decide +kernel
theorem dX6_statement_270 : decode cX6_statement 270 = .ok (.iconst 1, 1) := by decide +kernel
theorem dX6_statement_271 : decode cX6_statement 271 = .ok (.iastore, 1) := by decide +kernel
theorem dX6_statement_272 : decode cX6_statement 272 = .ok (.goto 96, 3) := by decide +kernel
theorem dX6_statement_275 : decode cX6_statement 275 = .ok (.iload_n 1, 1) := by decide +kernel
theorem dX6_statement_276 : decode cX6_statement 276 = .ok (.ifCond .eq 8, 3) := by decide +kernel
theorem dX6_statement_279 : decode cX6_statement 279 = .ok (.iload_n 1, 1) := by decide +kernel
theorem dX6_statement_280 : decode cX6_statement 280 = .ok (.iconst 2, 1) := by decide +kernel
theorem dX6_statement_281 : decode cX6_statement 281 = .ok (.if_icmp .ne 39, 3) := by decide +kernel
theorem dX6_statement_284 : decode cX6_statement 284 = .ok (.aload_n 0, 1) := by decide +kernel
theorem dX6_statement_285 : decode cX6_statement 285 = .ok (.dup, 1) := by decide +kernel
theorem dX6_statement_286 : decode cX6_statement 286 = .ok (.getfield 104, 3) := by decide +kernel
theorem dX6_statement_289 : decode cX6_statement 289 = .ok (.iconst 1, 1) := by decide +kernel
theorem dX6_statement_290 : decode cX6_statement 290 = .ok (.iadd, 1) := by decide +kernel
theorem dX6_statement_291 : decode cX6_statement 291 = .ok (.putfield 104, 3) := by decide +kernel
theorem dX6_statement_294 : decode cX6_statement 294 = .ok (.aload_n 0, 1) := by decide +kernel
theorem dX6_statement_295 : decode cX6_statement 295 = .ok (.bipush 6, 2) := by decide +kernel
theorem dX6_statement_297 : decode cX6_statement 297 = .ok (.invokevirtual 128, 3) := by decide +kernel
theorem dX6_statement_300 : decode cX6_statement 300 = .ok (.ifCond .eq 68, 3) := by decide +kernel
theorem dX6_statement_303 : decode cX6_statement 303 = .ok (.aload_n 0, 1) := by decide +kernel
theorem dX6_statement_304 : decode cX6_statement 304 = .ok (.iload_n 1, 1) := by decide +kernel
theorem dX6_statement_305 : decode cX6_statement 305 = .ok (.ifCond .ne 7, 3) := by decide +kernel
theorem dX6_statement_308 : decode cX6_statement 308 = .ok (.iconst 5, 1) := by decide +kernel
theorem dX6_statement_309 : decode cX6_statement 309 = .ok (.goto 5, 3) := by decide +kernel
theorem dX6_statement_312 : decode cX6_statement 312 = .ok (.bipush 6, 2) := by decide +kernel
theorem dX6_statement_314 : decode cX6_statement 314 = .ok (.invokevirtual 177, 3) := by decide +kernel
theorem dX6_statement_317 : decode cX6_statement 317 = .ok (.goto 51, 3) := by decide +kernel
theorem dX6_statement_320 : decode cX6_statement 320 = .ok (.iload_n 1, 1) := by decide +kernel
theorem dX6_statement_321 : decode cX6_statement 321 = .ok (.iconst 3, 1) := by decide +kernel
theorem dX6_statement_322 : decode cX6_statement 322 = .ok (.if_icmp .eq 8, 3) := by decide +kernel
theorem dX6_statement_325 : decode cX6_statement 325 = .ok (.iload_n 1, 1) := by decide +kernel
theorem dX6_statement_326 : decode cX6_statement 326 = .ok (.iconst 4, 1) := by decide +kernel
theorem dX6_statement_327 : decode cX6_statement 327 = .ok (.if_icmp .ne 32, 3) := by decide +kernel
theorem dX6_statement_330 : decode cX6_statement 330 = .ok (.aload_n 0, 1) := by decide +kernel
theorem dX6_statement_331 : decode cX6_statement 331 = .ok (.dup, 1) := by decide +kernel
theorem dX6_statement_332 : decode cX6_statement 332 = .ok (.getfield 104, 3) := by decide +kernel
theorem dX6_statement_335 : decode cX6_statement 335 = .ok (.iconst 1, 1) := by decide +kernel
theorem dX6_statement_336 : decode cX6_statement 336 = .ok (.iadd, 1) := by decide +kernel
theorem dX6_statement_337 : decode cX6_statement 337 = .ok (.putfield 104, 3) := by decide +kernel
theorem dX6_statement_340 : decode cX6_statement 340 = .ok (.aload_n 0, 1) := by decide +kernel
theorem dX6_statement_341 : decode cX6_statement 341 = .ok (.iload_n 1, 1) := by decide +kernel
theorem dX6_statement_342 : decode cX6_statement 342 = .ok (.iconst 3, 1) := by decide +kernel
theorem dX6_statement_343 : decode cX6_statement 343 = .ok (.if_icmp .ne 8, 3) := by decide +kernel
theorem dX6_statement_346 : decode cX6_statement 346 = .ok (.bipush 7, 2) := by decide +kernel
theorem dX6_statement_348 : decode cX6_statement 348 = .ok (.goto 5, 3) := by decide +kernel
theorem dX6_statement_351 : decode cX6_statement 351 = .ok (.bipush 8, 2) := by decide +kernel
theorem dX6_statement_353 : decode cX6_statement 353 = .ok (.invokevirtual 177, 3) := by decide +kernel
theorem dX6_statement_356 : decode cX6_statement 356 = .ok (.goto 12, 3) := by decide +kernel
theorem dX6_statement_359 : decode cX6_statement 359 = .ok (.aload_n 0, 1) := by decide +kernel
theorem dX6_statement_360 : decode cX6_statement 360 = .ok (.iconst 1, 1) := by decide +kernel
theorem dX6_statement_361 : decode cX6_statement 361 = .ok (.aload_n 0, 1) := by decide +kernel
theorem dX6_statement_362 : decode cX6_statement 362 = .ok (.getfield 104, 3) := by decide +kernel
theorem dX6_statement_365 : decode cX6_statement 365 = .ok (.invokevirtual 117, 3) := by decide +kernel
theorem dX6_statement_368 : decode cX6_statement 368 = .ok (.return_, 1) := by decide +kernel
theorem dX6_piece_0 : decode cX6_piece 0 = .ok (.aload_n 0, 1) := by decide +kernel
theorem dX6_piece_1 : decode cX6_piece 1 = .ok (.invokevirtual 113, 3) := by decide +kernel
theorem dX6_piece_4 : decode cX6_piece 4 = .ok (.istore_n 1, 1) := by decide +kernel
theorem dX6_piece_5 : decode cX6_piece 5 = .ok (.aload_n 0, 1) := by decide +kernel
theorem dX6_piece_6 : decode cX6_piece 6 = .ok (.getfield 146, 3) := by decide +kernel
theorem dX6_piece_9 : decode cX6_piece 9 = .ok (.iconst 1, 1) := by decide +kernel
theorem dX6_piece_10 : decode cX6_piece 10 = .ok (.isub, 1) := by decide +kernel
theorem dX6_piece_11 : decode cX6_piece 11 = .ok (.istore_n 2, 1) := by decide +kernel
theorem dX6_piece_12 : decode cX6_piece 12 = .ok (.aload_n 0, 1) := by decide +kernel
theorem dX6_piece_13 : decode cX6_piece 13 = .ok (.getfield 58, 3) := by decide +kernel
theorem dX6_piece_16 : decode cX6_piece 16 = .ok (.iload_n 2, 1) := by decide +kernel
theorem dX6_piece_17 : decode cX6_piece 17 = .ok (.iaload, 1) := by decide +kernel
theorem dX6_piece_18 : decode cX6_piece 18 = .ok (.iconst (-1), 1) := by decide +kernel
theorem dX6_piece_19 : decode cX6_piece 19 = .ok (.if_icmp .ne 44, 3) := by decide +kernel
theorem dX6_piece_22 : decode cX6_piece 22 = .ok (.iload_n 1, 1) := by decide +kernel
theorem dX6_piece_23 : decode cX6_piece 23 = .ok (.bipush 14, 2) := by decide +kernel
theorem dX6_piece_25 : decode cX6_piece 25 = .ok (.if_icmp .eq 9, 3) := by decide +kernel
theorem dX6_piece_28 : decode cX6_piece 28 = .ok (.iload_n 1, 1) := by decide +kernel
theorem dX6_piece_29 : decode cX6_piece 29 = .ok (.bipush 20, 2) := by decide +kernel
theorem dX6_piece_31 : decode cX6_piece 31 = .ok (.if_icmp .ne 32, 3) := by decide +kernel
theorem dX6_piece_34 : decode cX6_piece 34 = .ok (.aload_n 0, 1) := by decide +kernel
theorem dX6_piece_35 : decode cX6_piece 35 = .ok (.getfield 58, 3) := by decide +kernel
theorem dX6_piece_38 : decode cX6_piece 38 = .ok (.iload_n 2, 1) := by decide +kernel
theorem dX6_piece_39 : decode cX6_piece 39 = .ok (.iload_n 1, 1) := by decide +kernel
theorem dX6_piece_40 : decode cX6_piece 40 = .ok (.bipush 14, 2) := by decide +kernel
theorem dX6_piece_42 : decode cX6_piece 42 = .ok (.if_icmp .ne 7, 3) := by decide +kernel
theorem dX6_piece_45 : decode cX6_piece 45 = .ok (.iconst 5, 1) := by decide +kernel
theorem dX6_piece_46 : decode cX6_piece 46 = .ok (.goto 5, 3) := by decide +kernel
theorem dX6_piece_49 : decode cX6_piece 49 = .ok (.bipush 6, 2) := by decide +kernel
theorem dX6_piece_51 : decode cX6_piece 51 = .ok (.iastore, 1) := by decide +kernel
theorem dX6_piece_52 : decode cX6_piece 52 = .ok (.aload_n 0, 1) := by decide +kernel
theorem dX6_piece_53 : decode cX6_piece 53 = .ok (.dup, 1) := by decide +kernel
theorem dX6_piece_54 : decode cX6_piece 54 = .ok (.getfield 104, 3) := by decide +kernel
theorem dX6_piece_57 : decode cX6_piece 57 = .ok (.iconst 1, 1) := by decide +kernel
theorem dX6_piece_58 : decode cX6_piece 58 = .ok (.iadd, 1) := by decide +kernel
theorem dX6_piece_59 : decode cX6_piece 59 = .ok (.putfield 104, 3) := by decide +kernel
theorem dX6_piece_62 : decode cX6_piece 62 = .ok (.return_, 1) := by decide +kernel
theorem dX6_piece_63 : decode cX6_piece 63 = .ok (.aload_n 0, 1) := by decide +kernel
theorem dX6_piece_64 : decode cX6_piece 64 = .ok (.iconst 4, 1) := by decide +kernel
theorem dX6_piece_65 : decode cX6_piece 65 = .ok (.putfield 143, 3) := by decide +kernel
theorem dX6_piece_68 : decode cX6_piece 68 = .ok (.iload_n 1, 1) := by decide +kernel
theorem dX6_piece_69 : decode cX6_piece 69 = .ok (.bipush 64, 2) := by decide +kernel
theorem dX6_piece_71 : decode cX6_piece 71 = .ok (.sipush 191, 3) := by decide +kernel
theorem dX6_piece_74 : decode cX6_piece 74 = .ok (.invokestatic 132, 3) := by decide +kernel
theorem dX6_piece_77 : decode cX6_piece 77 = .ok (.ifCond .eq 26, 3) := by decide +kernel
theorem dX6_piece_80 : decode cX6_piece 80 = .ok (.aload_n 0, 1) := by decide +kernel
theorem dX6_piece_81 : decode cX6_piece 81 = .ok (.iconst 0, 1) := by decide +kernel
theorem dX6_piece_82 : decode cX6_piece 82 = .ok (.iload_n 1, 1) := by decide +kernel
theorem dX6_piece_83 : decode cX6_piece 83 = .ok (.bipush 64, 2) := by decide +kernel
theorem dX6_piece_85 : decode cX6_piece 85 = .ok (.isub, 1) := by decide +kernel
theorem dX6_piece_86 : decode cX6_piece 86 = .ok (.invokevirtual 158, 3) := by decide +kernel
theorem dX6_piece_89 : decode cX6_piece 89 = .ok (.pop, 1) := by decide +kernel
theorem dX6_piece_90 : decode cX6_piece 90 = .ok (.aload_n 0, 1) := by decide +kernel
theorem dX6_piece_91 : decode cX6_piece 91 = .ok (.dup, 1) := by decide +kernel
theorem dX6_piece_92 : decode cX6_piece 92 = .ok (.getfield 104, 3) := by decide +kernel
theorem dX6_piece_95 : decode cX6_piece 95 = .ok (.iconst 1, 1) := by decide +kernel
theorem dX6_piece_96 : decode cX6_piece 96 = .ok (.iadd, 1) := by decide +kernel
theorem dX6_piece_97 : decode cX6_piece 97 = .ok (.putfield 104, 3) := by decide +kernel
theorem dX6_piece_100 : decode cX6_piece 100 = .ok (.goto 205, 3) := by decide +kernel
theorem dX6_piece_103 : decode cX6_piece 103 = .ok (.iload_n 1, 1) := by decide +kernel
theorem dX6_piece_104 : decode cX6_piece 104 = .ok (.iconst 5, 1) := by decide +kernel
theorem dX6_piece_105 : decode cX6_piece 105 = .ok (.if_icmp .ne 23, 3) := by decide +kernel
theorem dX6_piece_108 : decode cX6_piece 108 = .ok (.aload_n 0, 1) := by decide +kernel
theorem dX6_piece_109 : decode cX6_piece 109 = .ok (.iconst 1, 1) := by decide +kernel
theorem dX6_piece_110 : decode cX6_piece 110 = .ok (.iconst 0, 1) := by decide +kernel
theorem dX6_piece_111 : decode cX6_piece 111 = .ok (.invokevirtual 158, 3) := by decide +kernel
theorem dX6_piece_114 : decode cX6_piece 114 = .ok (.pop, 1) := by decide +kernel
theorem dX6_piece_115 : decode cX6_piece 115 = .ok (.aload_n 0, 1) := by decide +kernel
theorem dX6_piece_116 : decode cX6_piece 116 = .ok (.dup, 1) := by decide +kernel
theorem dX6_piece_117 : decode cX6_piece 117 = .ok (.getfield 104, 3) := by decide +kernel
theorem dX6_piece_120 : decode cX6_piece 120 = .ok (.iconst 1, 1) := by decide +kernel
theorem dX6_piece_121 : decode cX6_piece 121 = .ok (.iadd, 1) := by decide +kernel
theorem dX6_piece_122 : decode cX6_piece 122 = .ok (.putfield 104, 3) := by decide +kernel
theorem dX6_piece_125 : decode cX6_piece 125 = .ok (.goto 180, 3) := by decide +kernel
theorem dX6_piece_128 : decode cX6_piece 128 = .ok (.iload_n 1, 1) := by decide +kernel
theorem dX6_piece_129 : decode cX6_piece 129 = .ok (.bipush 32, 2) := by decide +kernel
theorem dX6_piece_131 : decode cX6_piece 131 = .ok (.bipush 39, 2) := by decide +kernel
theorem dX6_piece_133 : decode cX6_piece 133 = .ok (.invokestatic 132, 3) := by decide +kernel
theorem dX6_piece_136 : decode cX6_piece 136 = .ok (.ifCond .ne 14, 3) := by decide +kernel
theorem dX6_piece_139 : decode cX6_piece 139 = .ok (.iload_n 1, 1) := by decide +kernel
theorem dX6_piece_140 : decode cX6_piece 140 = .ok (.bipush 44, 2) := by decide +kernel
theorem dX6_piece_142 : decode cX6_piece 142 = .ok (.bipush 51, 2) := by decide +kernel
theorem dX6_piece_144 : decode cX6_piece 144 = .ok (.invokestatic 132, 3) := by decide +kernel
theorem dX6_piece_147 : decode cX6_piece 147 = .ok (.ifCond .eq 49, 3) := by decide +kernel
theorem dX6_piece_150 : decode cX6_piece 150 = .ok (.aload_n 0, 1) := by decide +kernel
theorem dX6_piece_151 : decode cX6_piece 151 = .ok (.iload_n 1, 1) := by decide +kernel
theorem dX6_piece_152 : decode cX6_piece 152 = .ok (.bipush 40, 2) := by decide +kernel
theorem dX6_piece_154 : decode cX6_piece 154 = .ok (.if_icmp .ge 7, 3) := by decide +kernel
theorem dX6_piece_157 : decode cX6_piece 157 = .ok (.iconst 2, 1) := by decide +kernel
theorem dX6_piece_158 : decode cX6_piece 158 = .ok (.goto 4, 3) := by decide +kernel
theorem dX6_piece_161 : decode cX6_piece 161 = .ok (.iconst 3, 1) := by decide +kernel
theorem dX6_piece_162 : decode cX6_piece 162 = .ok (.iload_n 1, 1) := by decide +kernel
theorem dX6_piece_163 : decode cX6_piece 163 = .ok (.bipush 40, 2) := by decide +kernel
theorem dX6_piece_165 : decode cX6_piece 165 = .ok (.if_icmp .ge 10, 3) := by decide +kernel
theorem dX6_piece_168 : decode cX6_piece 168 = .ok (.iload_n 1, 1) := by decide +kernel
theorem dX6_piece_169 : decode cX6_piece 169 = .ok (.bipush 32, 2) := by decide +kernel
theorem dX6_piece_171 : decode cX6_piece 171 = .ok (.isub, 1) := by decide +kernel
theorem dX6_piece_172 : decode cX6_piece 172 = .ok (.goto 7, 3) := by decide +kernel
theorem dX6_piece_175 : decode cX6_piece 175 = .ok (.iload_n 1, 1) := by decide +kernel
theorem dX6_piece_176 : decode cX6_piece 176 = .ok (.bipush 44, 2) := by decide +kernel
theorem dX6_piece_178 : decode cX6_piece 178 = .ok (.isub, 1) := by decide +kernel
theorem dX6_piece_179 : decode cX6_piece 179 = .ok (.invokevirtual 158, 3) := by decide +kernel
theorem dX6_piece_182 : decode cX6_piece 182 = .ok (.pop, 1) := by decide +kernel
theorem dX6_piece_183 : decode cX6_piece 183 = .ok (.aload_n 0, 1) := by decide +kernel
theorem dX6_piece_184 : decode cX6_piece 184 = .ok (.dup, 1) := by decide +kernel
theorem dX6_piece_185 : decode cX6_piece 185 = .ok (.getfield 104, 3) := by decide +kernel
theorem dX6_piece_188 : decode cX6_piece 188 = .ok (.iconst 1, 1) := by decide +kernel
theorem dX6_piece_189 : decode cX6_piece 189 = .ok (.iadd, 1) := by decide +kernel
theorem dX6_piece_190 : decode cX6_piece 190 = .ok (.putfield 104, 3) := by decide +kernel
theorem dX6_piece_193 : decode cX6_piece 193 = .ok (.goto 112, 3) := by decide +kernel
theorem dX6_piece_196 : decode cX6_piece 196 = .ok (.iload_n 1, 1) := by decide +kernel
theorem dX6_piece_197 : decode cX6_piece 197 = .ok (.bipush 40, 2) := by decide +kernel
theorem dX6_piece_199 : decode cX6_piece 199 = .ok (.bipush 43, 2) := by decide +kernel
theorem dX6_piece_201 : decode cX6_piece 201 = .ok (.invokestatic 132, 3) := by decide +kernel
theorem dX6_piece_204 : decode cX6_piece 204 = .ok (.ifCond .eq 34, 3) := by decide +kernel
theorem dX6_piece_207 : decode cX6_piece 207 = .ok (.aload_n 0, 1) := by decide +kernel
theorem dX6_piece_208 : decode cX6_piece 208 = .ok (.dup, 1) := by decide +kernel
theorem dX6_piece_209 : decode cX6_piece 209 = .ok (.getfield 104, 3) := by decide +kernel
theorem dX6_piece_212 : decode cX6_piece 212 = .ok (.iconst 1, 1) := by decide +kernel
theorem dX6_piece_213 : decode cX6_piece 213 = .ok (.iadd, 1) := by decide +kernel
theorem dX6_piece_214 : decode cX6_piece 214 = .ok (.putfield 104, 3) := by decide +kernel
theorem dX6_piece_217 : decode cX6_piece 217 = .ok (.aload_n 0, 1) := by decide +kernel
theorem dX6_piece_218 : decode cX6_piece 218 = .ok (.bipush 21, 2) := by decide +kernel
theorem dX6_piece_220 : decode cX6_piece 220 = .ok (.invokevirtual 128, 3) := by decide +kernel
theorem dX6_piece_223 : decode cX6_piece 223 = .ok (.ifCond .eq 82, 3) := by decide +kernel
theorem dX6_piece_226 : decode cX6_piece 226 = .ok (.aload_n 0, 1) := by decide +kernel
theorem dX6_piece_227 : decode cX6_piece 227 = .ok (.iconst 1, 1) := by decide +kernel
theorem dX6_piece_228 : decode cX6_piece 228 = .ok (.iload_n 1, 1) := by decide +kernel
theorem dX6_piece_229 : decode cX6_piece 229 = .ok (.bipush 40, 2) := by decide +kernel
theorem dX6_piece_231 : decode cX6_piece 231 = .ok (.isub, 1) := by decide +kernel
theorem dX6_piece_232 : decode cX6_piece 232 = .ok (.invokevirtual 152, 3) := by decide +kernel
theorem dX6_piece_235 : decode cX6_piece 235 = .ok (.goto 70, 3) := by decide +kernel
theorem dX6_piece_238 : decode cX6_piece 238 = .ok (.iload_n 1, 1) := by decide +kernel
theorem dX6_piece_239 : decode cX6_piece 239 = .ok (.bipush 52, 2) := by decide +kernel
theorem dX6_piece_241 : decode cX6_piece 241 = .ok (.bipush 57, 2) := by decide +kernel
theorem dX6_piece_243 : decode cX6_piece 243 = .ok (.invokestatic 132, 3) := by decide +kernel
theorem dX6_piece_246 : decode cX6_piece 246 = .ok (.ifCond .eq 25, 3) := by decide +kernel
theorem dX6_piece_249 : decode cX6_piece 249 = .ok (.aload_n 0, 1) := by decide +kernel
theorem dX6_piece_250 : decode cX6_piece 250 = .ok (.invokevirtual 181, 3) := by decide +kernel
theorem dX6_piece_253 : decode cX6_piece 253 = .ok (.istore_n 3, 1) := by decide +kernel
theorem dX6_piece_254 : decode cX6_piece 254 = .ok (.aload_n 0, 1) := by decide +kernel
theorem dX6_piece_255 : decode cX6_piece 255 = .ok (.bipush 6, 2) := by decide +kernel
theorem dX6_piece_257 : decode cX6_piece 257 = .ok (.invokevirtual 128, 3) := by decide +kernel
theorem dX6_piece_260 : decode cX6_piece 260 = .ok (.ifCond .eq 8, 3) := by decide +kernel
theorem dX6_piece_263 : decode cX6_piece 263 = .ok (.aload_n 0, 1) := by decide +kernel
theorem dX6_piece_264 : decode cX6_piece 264 = .ok (.iload_n 3, 1) := by decide +kernel
theorem dX6_piece_265 : decode cX6_piece 265 = .ok (.invokevirtual 187, 3) := by decide +kernel
theorem dX6_piece_268 : decode cX6_piece 268 = .ok (.goto 37, 3) := by decide +kernel
theorem dX6_piece_271 : decode cX6_piece 271 = .ok (.iload_n 1, 1) := by decide +kernel
theorem dX6_piece_272 : decode cX6_piece 272 = .ok (.bipush 6, 2) := by decide +kernel
theorem dX6_piece_274 : decode cX6_piece 274 = .ok (.if_icmp .ne 22, 3) := by decide +kernel
theorem dX6_piece_277 : decode cX6_piece 277 = .ok (.aload_n 0, 1) := by decide +kernel
theorem dX6_piece_278 : decode cX6_piece 278 = .ok (.dup, 1) := by decide +kernel
theorem dX6_piece_279 : decode cX6_piece 279 = .ok (.getfield 104, 3) := by decide +kernel
theorem dX6_piece_282 : decode cX6_piece 282 = .ok (.iconst 1, 1) := by decide +kernel
theorem dX6_piece_283 : decode cX6_piece 283 = .ok (.iadd, 1) := by decide +kernel
theorem dX6_piece_284 : decode cX6_piece 284 = .ok (.putfield 104, 3) := by decide +kernel
theorem dX6_piece_287 : decode cX6_piece 287 = .ok (.aload_n 0, 1) := by decide +kernel
theorem dX6_piece_288 : decode cX6_piece 288 = .ok (.iconst 0, 1) := by decide +kernel
theorem dX6_piece_289 : decode cX6_piece 289 = .ok (.iconst 0, 1) := by decide +kernel
theorem dX6_piece_290 : decode cX6_piece 290 = .ok (.invokevirtual 152, 3) := by decide +kernel
theorem dX6_piece_293 : decode cX6_piece 293 = .ok (.goto 12, 3) := by decide +kernel
theorem dX6_piece_296 : decode cX6_piece 296 = .ok (.aload_n 0, 1) := by decide +kernel
theorem dX6_piece_297 : decode cX6_piece 297 = .ok (.iconst 1, 1) := by decide +kernel
theorem dX6_piece_298 : decode cX6_piece 298 = .ok (.aload_n 0, 1) := by decide +kernel
theorem dX6_piece_299 : decode cX6_piece 299 = .ok (.getfield 104, 3) := by decide +kernel
theorem dX6_piece_302 : decode cX6_piece 302 = .ok (.invokevirtual 117, 3) := by decide +kernel
theorem dX6_piece_305 : decode cX6_piece 305 = .ok (.return_, 1) := by decide +kernel
theorem dX6_arguments_0 : decode cX6_arguments 0 = .ok (.aload_n 0, 1) := by decide +kernel
theorem dX6_arguments_1 : decode cX6_arguments 1 = .ok (.invokevirtual 113, 3) := by decide +kernel
theorem dX6_arguments_4 : decode cX6_arguments 4 = .ok (.bipush 7, 2) := by decide +kernel
theorem dX6_arguments_6 : decode cX6_arguments 6 = .ok (.if_icmp .ne 21, 3) := by decide +kernel
theorem dX6_arguments_9 : decode cX6_arguments 9 = .ok (.aload_n 0, 1) := by decide +kernel
theorem dX6_arguments_10 : decode cX6_arguments 10 = .ok (.dup, 1) := by decide +kernel
theorem dX6_arguments_11 : decode cX6_arguments 11 = .ok (.getfield 104, 3) := by decide +kernel
theorem dX6_arguments_14 : decode cX6_arguments 14 = .ok (.iconst 1, 1) := by decide +kernel
theorem dX6_arguments_15 : decode cX6_arguments 15 = .ok (.iadd, 1) := by decide +kernel
theorem dX6_arguments_16 : decode cX6_arguments 16 = .ok (.putfield 104, 3) := by decide +kernel
theorem dX6_arguments_19 : decode cX6_arguments 19 = .ok (.aload_n 0, 1) := by decide +kernel
theorem dX6_arguments_20 : decode cX6_arguments 20 = .ok (.iload_n 1, 1) := by decide +kernel
theorem dX6_arguments_21 : decode cX6_arguments 21 = .ok (.invokevirtual 184, 3) := by decide +kernel
theorem dX6_arguments_24 : decode cX6_arguments 24 = .ok (.goto 16, 3) := by decide +kernel
theorem dX6_arguments_27 : decode cX6_arguments 27 = .ok (.aload_n 0, 1) := by decide +kernel
theorem dX6_arguments_28 : decode cX6_arguments 28 = .ok (.getfield 43, 3) := by decide +kernel
theorem dX6_arguments_31 : decode cX6_arguments 31 = .ok (.iload_n 1, 1) := by decide +kernel
theorem dX6_arguments_32 : decode cX6_arguments 32 = .ok (.iconst 1, 1) := by decide +kernel
theorem dX6_arguments_33 : decode cX6_arguments 33 = .ok (.iastore, 1) := by decide +kernel
theorem dX6_arguments_34 : decode cX6_arguments 34 = .ok (.aload_n 0, 1) := by decide +kernel
theorem dX6_arguments_35 : decode cX6_arguments 35 = .ok (.iconst 2, 1) := by decide +kernel
theorem dX6_arguments_36 : decode cX6_arguments 36 = .ok (.iload_n 1, 1) := by decide +kernel
theorem dX6_arguments_37 : decode cX6_arguments 37 = .ok (.invokevirtual 152, 3) := by decide +kernel
theorem dX6_arguments_40 : decode cX6_arguments 40 = .ok (.return_, 1) := by decide +kernel
theorem dX6_levelOf_0 : decode cX6_levelOf 0 = .ok (.iload_n 0, 1) := by decide +kernel
theorem dX6_levelOf_1 : decode cX6_levelOf 1 = .ok (.bipush 18, 2) := by decide +kernel
theorem dX6_levelOf_3 : decode cX6_levelOf 3 = .ok (.if_icmp .eq 9, 3) := by decide +kernel
theorem dX6_levelOf_6 : decode cX6_levelOf 6 = .ok (.iload_n 0, 1) := by decide +kernel
theorem dX6_levelOf_7 : decode cX6_levelOf 7 = .ok (.bipush 19, 2) := by decide +kernel
theorem dX6_levelOf_9 : decode cX6_levelOf 9 = .ok (.if_icmp .ne 7, 3) := by decide +kernel
theorem dX6_levelOf_12 : decode cX6_levelOf 12 = .ok (.iconst 1, 1) := by decide +kernel
theorem dX6_levelOf_13 : decode cX6_levelOf 13 = .ok (.goto 36, 3) := by decide +kernel
theorem dX6_levelOf_16 : decode cX6_levelOf 16 = .ok (.iload_n 0, 1) := by decide +kernel
theorem dX6_levelOf_17 : decode cX6_levelOf 17 = .ok (.bipush 13, 2) := by decide +kernel
theorem dX6_levelOf_19 : decode cX6_levelOf 19 = .ok (.if_icmp .eq 9, 3) := by decide +kernel
theorem dX6_levelOf_22 : decode cX6_levelOf 22 = .ok (.iload_n 0, 1) := by decide +kernel
theorem dX6_levelOf_23 : decode cX6_levelOf 23 = .ok (.bipush 14, 2) := by decide +kernel
theorem dX6_levelOf_25 : decode cX6_levelOf 25 = .ok (.if_icmp .ne 7, 3) := by decide +kernel
theorem dX6_levelOf_28 : decode cX6_levelOf 28 = .ok (.iconst 2, 1) := by decide +kernel
theorem dX6_levelOf_29 : decode cX6_levelOf 29 = .ok (.goto 20, 3) := by decide +kernel
theorem dX6_levelOf_32 : decode cX6_levelOf 32 = .ok (.iload_n 0, 1) := by decide +kernel
theorem dX6_levelOf_33 : decode cX6_levelOf 33 = .ok (.bipush 15, 2) := by decide +kernel
theorem dX6_levelOf_35 : decode cX6_levelOf 35 = .ok (.if_icmp .lt 13, 3) := by decide +kernel
theorem dX6_levelOf_38 : decode cX6_levelOf 38 = .ok (.iload_n 0, 1) := by decide +kernel
theorem dX6_levelOf_39 : decode cX6_levelOf 39 = .ok (.bipush 17, 2) := by decide +kernel
theorem dX6_levelOf_41 : decode cX6_levelOf 41 = .ok (.if_icmp .gt 7, 3) := by decide +kernel
theorem dX6_levelOf_44 : decode cX6_levelOf 44 = .ok (.iconst 3, 1) := by decide +kernel
theorem dX6_levelOf_45 : decode cX6_levelOf 45 = .ok (.goto 4, 3) := by decide +kernel
theorem dX6_levelOf_48 : decode cX6_levelOf 48 = .ok (.iconst 0, 1) := by decide +kernel
theorem dX6_levelOf_49 : decode cX6_levelOf 49 = .ok (.ireturn, 1) := by decide +kernel
theorem dX6_reduce_0 : decode cX6_reduce 0 = .ok (.aload_n 0, 1) := by decide +kernel
theorem dX6_reduce_1 : decode cX6_reduce 1 = .ok (.getfield 149, 3) := by decide +kernel
theorem dX6_reduce_4 : decode cX6_reduce 4 = .ok (.aload_n 0, 1) := by decide +kernel
theorem dX6_reduce_5 : decode cX6_reduce 5 = .ok (.getfield 61, 3) := by decide +kernel
theorem dX6_reduce_8 : decode cX6_reduce 8 = .ok (.aload_n 0, 1) := by decide +kernel
theorem dX6_reduce_9 : decode cX6_reduce 9 = .ok (.getfield 146, 3) := by decide +kernel
theorem dX6_reduce_12 : decode cX6_reduce 12 = .ok (.iconst 1, 1) := by decide +kernel
theorem dX6_reduce_13 : decode cX6_reduce 13 = .ok (.isub, 1) := by decide +kernel
theorem dX6_reduce_14 : decode cX6_reduce 14 = .ok (.iaload, 1) := by decide +kernel
theorem dX6_reduce_15 : decode cX6_reduce 15 = .ok (.if_icmp .le 49, 3) := by decide +kernel
theorem dX6_reduce_18 : decode cX6_reduce 18 = .ok (.aload_n 0, 1) := by decide +kernel
theorem dX6_reduce_19 : decode cX6_reduce 19 = .ok (.getfield 70, 3) := by decide +kernel
theorem dX6_reduce_22 : decode cX6_reduce 22 = .ok (.aload_n 0, 1) := by decide +kernel
theorem dX6_reduce_23 : decode cX6_reduce 23 = .ok (.getfield 149, 3) := by decide +kernel
theorem dX6_reduce_26 : decode cX6_reduce 26 = .ok (.iconst 1, 1) := by decide +kernel
theorem dX6_reduce_27 : decode cX6_reduce 27 = .ok (.isub, 1) := by decide +kernel
theorem dX6_reduce_28 : decode cX6_reduce 28 = .ok (.iaload, 1) := by decide +kernel
theorem dX6_reduce_29 : decode cX6_reduce 29 = .ok (.iload_n 1, 1) := by decide +kernel
theorem dX6_reduce_30 : decode cX6_reduce 30 = .ok (.if_icmp .lt 34, 3) := by decide +kernel
theorem dX6_reduce_33 : decode cX6_reduce 33 = .ok (.aload_n 0, 1) := by decide +kernel
theorem dX6_reduce_34 : decode cX6_reduce 34 = .ok (.dup, 1) := by decide +kernel
theorem dX6_reduce_35 : decode cX6_reduce 35 = .ok (.getfield 149, 3) := by decide +kernel
theorem dX6_reduce_38 : decode cX6_reduce 38 = .ok (.iconst 1, 1) := by decide +kernel
theorem dX6_reduce_39 : decode cX6_reduce 39 = .ok (.isub, 1) := by decide +kernel
theorem dX6_reduce_40 : decode cX6_reduce 40 = .ok (.putfield 149, 3) := by decide +kernel
theorem dX6_reduce_43 : decode cX6_reduce 43 = .ok (.aload_n 0, 1) := by decide +kernel
theorem dX6_reduce_44 : decode cX6_reduce 44 = .ok (.aload_n 0, 1) := by decide +kernel
theorem dX6_reduce_45 : decode cX6_reduce 45 = .ok (.getfield 67, 3) := by decide +kernel
theorem dX6_reduce_48 : decode cX6_reduce 48 = .ok (.aload_n 0, 1) := by decide +kernel
theorem dX6_reduce_49 : decode cX6_reduce 49 = .ok (.getfield 149, 3) := by decide +kernel
theorem dX6_reduce_52 : decode cX6_reduce 52 = .ok (.iaload, 1) := by decide +kernel
theorem dX6_reduce_53 : decode cX6_reduce 53 = .ok (.bipush 20, 2) := by decide +kernel
theorem dX6_reduce_55 : decode cX6_reduce 55 = .ok (.iadd, 1) := by decide +kernel
theorem dX6_reduce_56 : decode cX6_reduce 56 = .ok (.iconst 0, 1) := by decide +kernel
theorem dX6_reduce_57 : decode cX6_reduce 57 = .ok (.invokevirtual 158, 3) := by decide +kernel
theorem dX6_reduce_60 : decode cX6_reduce 60 = .ok (.pop, 1) := by decide +kernel
theorem dX6_reduce_61 : decode cX6_reduce 61 = .ok (.goto (-61), 3) := by decide +kernel
theorem dX6_reduce_64 : decode cX6_reduce 64 = .ok (.return_, 1) := by decide +kernel
theorem dX6_behind_0 : decode cX6_behind 0 = .ok (.aload_n 0, 1) := by decide +kernel
theorem dX6_behind_1 : decode cX6_behind 1 = .ok (.getfield 146, 3) := by decide +kernel
theorem dX6_behind_4 : decode cX6_behind 4 = .ok (.iconst 1, 1) := by decide +kernel
theorem dX6_behind_5 : decode cX6_behind 5 = .ok (.isub, 1) := by decide +kernel
theorem dX6_behind_6 : decode cX6_behind 6 = .ok (.istore_n 1, 1) := by decide +kernel
theorem dX6_behind_7 : decode cX6_behind 7 = .ok (.aload_n 0, 1) := by decide +kernel
theorem dX6_behind_8 : decode cX6_behind 8 = .ok (.getfield 58, 3) := by decide +kernel
theorem dX6_behind_11 : decode cX6_behind 11 = .ok (.iload_n 1, 1) := by decide +kernel
theorem dX6_behind_12 : decode cX6_behind 12 = .ok (.iaload, 1) := by decide +kernel
theorem dX6_behind_13 : decode cX6_behind 13 = .ok (.iconst (-1), 1) := by decide +kernel
theorem dX6_behind_14 : decode cX6_behind 14 = .ok (.if_icmp .eq 22, 3) := by decide +kernel
theorem dX6_behind_17 : decode cX6_behind 17 = .ok (.aload_n 0, 1) := by decide +kernel
theorem dX6_behind_18 : decode cX6_behind 18 = .ok (.aload_n 0, 1) := by decide +kernel
theorem dX6_behind_19 : decode cX6_behind 19 = .ok (.getfield 58, 3) := by decide +kernel
theorem dX6_behind_22 : decode cX6_behind 22 = .ok (.iload_n 1, 1) := by decide +kernel
theorem dX6_behind_23 : decode cX6_behind 23 = .ok (.iaload, 1) := by decide +kernel
theorem dX6_behind_24 : decode cX6_behind 24 = .ok (.iconst 0, 1) := by decide +kernel
theorem dX6_behind_25 : decode cX6_behind 25 = .ok (.invokevirtual 158, 3) := by decide +kernel
theorem dX6_behind_28 : decode cX6_behind 28 = .ok (.pop, 1) := by decide +kernel
theorem dX6_behind_29 : decode cX6_behind 29 = .ok (.aload_n 0, 1) := by decide +kernel
theorem dX6_behind_30 : decode cX6_behind 30 = .ok (.getfield 58, 3) := by decide +kernel
theorem dX6_behind_33 : decode cX6_behind 33 = .ok (.iload_n 1, 1) := by decide +kernel
theorem dX6_behind_34 : decode cX6_behind 34 = .ok (.iconst (-1), 1) := by decide +kernel
theorem dX6_behind_35 : decode cX6_behind 35 = .ok (.iastore, 1) := by decide +kernel
theorem dX6_behind_36 : decode cX6_behind 36 = .ok (.aload_n 0, 1) := by decide +kernel
theorem dX6_behind_37 : decode cX6_behind 37 = .ok (.invokevirtual 113, 3) := by decide +kernel
theorem dX6_behind_40 : decode cX6_behind 40 = .ok (.invokestatic 190, 3) := by decide +kernel
theorem dX6_behind_43 : decode cX6_behind 43 = .ok (.istore_n 2, 1) := by decide +kernel
theorem dX6_behind_44 : decode cX6_behind 44 = .ok (.aload_n 0, 1) := by decide +kernel
theorem dX6_behind_45 : decode cX6_behind 45 = .ok (.iload_n 2, 1) := by decide +kernel
theorem dX6_behind_46 : decode cX6_behind 46 = .ok (.ifCond .ne 7, 3) := by decide +kernel
theorem dX6_behind_49 : decode cX6_behind 49 = .ok (.iconst 1, 1) := by decide +kernel
theorem dX6_behind_50 : decode cX6_behind 50 = .ok (.goto 13, 3) := by decide +kernel
theorem dX6_behind_53 : decode cX6_behind 53 = .ok (.iload_n 2, 1) := by decide +kernel
theorem dX6_behind_54 : decode cX6_behind 54 = .ok (.iconst 1, 1) := by decide +kernel
theorem dX6_behind_55 : decode cX6_behind 55 = .ok (.if_icmp .ne 7, 3) := by decide +kernel
theorem dX6_behind_58 : decode cX6_behind 58 = .ok (.iconst 2, 1) := by decide +kernel
theorem dX6_behind_59 : decode cX6_behind 59 = .ok (.goto 4, 3) := by decide +kernel
theorem dX6_behind_62 : decode cX6_behind 62 = .ok (.iload_n 2, 1) := by decide +kernel
theorem dX6_behind_63 : decode cX6_behind 63 = .ok (.invokevirtual 194, 3) := by decide +kernel
theorem dX6_behind_66 : decode cX6_behind 66 = .ok (.iload_n 2, 1) := by decide +kernel
theorem dX6_behind_67 : decode cX6_behind 67 = .ok (.iconst 1, 1) := by decide +kernel
theorem dX6_behind_68 : decode cX6_behind 68 = .ok (.if_icmp .ne 35, 3) := by decide +kernel
theorem dX6_behind_71 : decode cX6_behind 71 = .ok (.aload_n 0, 1) := by decide +kernel
theorem dX6_behind_72 : decode cX6_behind 72 = .ok (.getfield 149, 3) := by decide +kernel
theorem dX6_behind_75 : decode cX6_behind 75 = .ok (.aload_n 0, 1) := by decide +kernel
theorem dX6_behind_76 : decode cX6_behind 76 = .ok (.getfield 61, 3) := by decide +kernel
theorem dX6_behind_79 : decode cX6_behind 79 = .ok (.iload_n 1, 1) := by decide +kernel
theorem dX6_behind_80 : decode cX6_behind 80 = .ok (.iaload, 1) := by decide +kernel
theorem dX6_behind_81 : decode cX6_behind 81 = .ok (.if_icmp .le 22, 3) := by decide +kernel
theorem dX6_behind_84 : decode cX6_behind 84 = .ok (.aload_n 0, 1) := by decide +kernel
theorem dX6_behind_85 : decode cX6_behind 85 = .ok (.getfield 70, 3) := by decide +kernel
theorem dX6_behind_88 : decode cX6_behind 88 = .ok (.aload_n 0, 1) := by decide +kernel
theorem dX6_behind_89 : decode cX6_behind 89 = .ok (.getfield 149, 3) := by decide +kernel
theorem dX6_behind_92 : decode cX6_behind 92 = .ok (.iconst 1, 1) := by decide +kernel
theorem dX6_behind_93 : decode cX6_behind 93 = .ok (.isub, 1) := by decide +kernel
theorem dX6_behind_94 : decode cX6_behind 94 = .ok (.iaload, 1) := by decide +kernel
theorem dX6_behind_95 : decode cX6_behind 95 = .ok (.iconst 1, 1) := by decide +kernel
theorem dX6_behind_96 : decode cX6_behind 96 = .ok (.if_icmp .ne 7, 3) := by decide +kernel
theorem dX6_behind_99 : decode cX6_behind 99 = .ok (.iconst 1, 1) := by decide +kernel
theorem dX6_behind_100 : decode cX6_behind 100 = .ok (.goto 4, 3) := by decide +kernel
theorem dX6_behind_103 : decode cX6_behind 103 = .ok (.iconst 0, 1) := by decide +kernel
theorem dX6_behind_104 : decode cX6_behind 104 = .ok (.istore_n 3, 1) := by decide +kernel
theorem dX6_behind_105 : decode cX6_behind 105 = .ok (.iload_n 2, 1) := by decide +kernel
theorem dX6_behind_106 : decode cX6_behind 106 = .ok (.ifCond .le 56, 3) := by decide +kernel
theorem dX6_behind_109 : decode cX6_behind 109 = .ok (.iload_n 3, 1) := by decide +kernel
theorem dX6_behind_110 : decode cX6_behind 110 = .ok (.ifCond .ne 52, 3) := by decide +kernel
theorem dX6_behind_113 : decode cX6_behind 113 = .ok (.aload_n 0, 1) := by decide +kernel
theorem dX6_behind_114 : decode cX6_behind 114 = .ok (.getfield 67, 3) := by decide +kernel
theorem dX6_behind_117 : decode cX6_behind 117 = .ok (.aload_n 0, 1) := by decide +kernel
theorem dX6_behind_118 : decode cX6_behind 118 = .ok (.getfield 149, 3) := by decide +kernel
theorem dX6_behind_121 : decode cX6_behind 121 = .ok (.aload_n 0, 1) := by decide +kernel
theorem dX6_behind_122 : decode cX6_behind 122 = .ok (.invokevirtual 113, 3) := by decide +kernel
theorem dX6_behind_125 : decode cX6_behind 125 = .ok (.iastore, 1) := by decide +kernel
theorem dX6_behind_126 : decode cX6_behind 126 = .ok (.aload_n 0, 1) := by decide +kernel
theorem dX6_behind_127 : decode cX6_behind 127 = .ok (.getfield 70, 3) := by decide +kernel
theorem dX6_behind_130 : decode cX6_behind 130 = .ok (.aload_n 0, 1) := by decide +kernel
theorem dX6_behind_131 : decode cX6_behind 131 = .ok (.getfield 149, 3) := by decide +kernel
theorem dX6_behind_134 : decode cX6_behind 134 = .ok (.iload_n 2, 1) := by decide +kernel
theorem dX6_behind_135 : decode cX6_behind 135 = .ok (.iastore, 1) := by decide +kernel
theorem dX6_behind_136 : decode cX6_behind 136 = .ok (.aload_n 0, 1) := by decide +kernel
theorem dX6_behind_137 : decode cX6_behind 137 = .ok (.dup, 1) := by decide +kernel
theorem dX6_behind_138 : decode cX6_behind 138 = .ok (.getfield 149, 3) := by decide +kernel
theorem dX6_behind_141 : decode cX6_behind 141 = .ok (.iconst 1, 1) := by decide +kernel
theorem dX6_behind_142 : decode cX6_behind 142 = .ok (.iadd, 1) := by decide +kernel
theorem dX6_behind_143 : decode cX6_behind 143 = .ok (.putfield 149, 3) := by decide +kernel
theorem dX6_behind_146 : decode cX6_behind 146 = .ok (.aload_n 0, 1) := by decide +kernel
theorem dX6_behind_147 : decode cX6_behind 147 = .ok (.dup, 1) := by decide +kernel
theorem dX6_behind_148 : decode cX6_behind 148 = .ok (.getfield 104, 3) := by decide +kernel
theorem dX6_behind_151 : decode cX6_behind 151 = .ok (.iconst 1, 1) := by decide +kernel
theorem dX6_behind_152 : decode cX6_behind 152 = .ok (.iadd, 1) := by decide +kernel
theorem dX6_behind_153 : decode cX6_behind 153 = .ok (.putfield 104, 3) := by decide +kernel
theorem dX6_behind_156 : decode cX6_behind 156 = .ok (.aload_n 0, 1) := by decide +kernel
theorem dX6_behind_157 : decode cX6_behind 157 = .ok (.iconst 3, 1) := by decide +kernel
theorem dX6_behind_158 : decode cX6_behind 158 = .ok (.putfield 143, 3) := by decide +kernel
theorem dX6_behind_161 : decode cX6_behind 161 = .ok (.return_, 1) := by decide +kernel
theorem dX6_behind_162 : decode cX6_behind 162 = .ok (.iload_n 3, 1) := by decide +kernel
theorem dX6_behind_163 : decode cX6_behind 163 = .ok (.ifCond .eq 13, 3) := by decide +kernel
theorem dX6_behind_166 : decode cX6_behind 166 = .ok (.aload_n 0, 1) := by decide +kernel
theorem dX6_behind_167 : decode cX6_behind 167 = .ok (.iconst 1, 1) := by decide +kernel
theorem dX6_behind_168 : decode cX6_behind 168 = .ok (.aload_n 0, 1) := by decide +kernel
theorem dX6_behind_169 : decode cX6_behind 169 = .ok (.getfield 104, 3) := by decide +kernel
theorem dX6_behind_172 : decode cX6_behind 172 = .ok (.invokevirtual 117, 3) := by decide +kernel
theorem dX6_behind_175 : decode cX6_behind 175 = .ok (.return_, 1) := by decide +kernel
theorem dX6_behind_176 : decode cX6_behind 176 = .ok (.aload_n 0, 1) := by decide +kernel
theorem dX6_behind_177 : decode cX6_behind 177 = .ok (.aload_n 0, 1) := by decide +kernel
theorem dX6_behind_178 : decode cX6_behind 178 = .ok (.getfield 55, 3) := by decide +kernel
theorem dX6_behind_181 : decode cX6_behind 181 = .ok (.iload_n 1, 1) := by decide +kernel
theorem dX6_behind_182 : decode cX6_behind 182 = .ok (.iaload, 1) := by decide +kernel
theorem dX6_behind_183 : decode cX6_behind 183 = .ok (.aload_n 0, 1) := by decide +kernel
theorem dX6_behind_184 : decode cX6_behind 184 = .ok (.getfield 64, 3) := by decide +kernel
theorem dX6_behind_187 : decode cX6_behind 187 = .ok (.iload_n 1, 1) := by decide +kernel
theorem dX6_behind_188 : decode cX6_behind 188 = .ok (.iaload, 1) := by decide +kernel
theorem dX6_behind_189 : decode cX6_behind 189 = .ok (.invokevirtual 197, 3) := by decide +kernel
theorem dX6_behind_192 : decode cX6_behind 192 = .ok (.return_, 1) := by decide +kernel
theorem dX6_valueEnds_0 : decode cX6_valueEnds 0 = .ok (.iload_n 1, 1) := by decide +kernel
theorem dX6_valueEnds_1 : decode cX6_valueEnds 1 = .ok (.ifCond .ne 25, 3) := by decide +kernel
theorem dX6_valueEnds_4 : decode cX6_valueEnds 4 = .ok (.aload_n 0, 1) := by decide +kernel
theorem dX6_valueEnds_5 : decode cX6_valueEnds 5 = .ok (.bipush 7, 2) := by decide +kernel
theorem dX6_valueEnds_7 : decode cX6_valueEnds 7 = .ok (.invokevirtual 128, 3) := by decide +kernel
theorem dX6_valueEnds_10 : decode cX6_valueEnds 10 = .ok (.ifCond .eq 199, 3) := by decide +kernel
theorem dX6_valueEnds_13 : decode cX6_valueEnds 13 = .ok (.aload_n 0, 1) := by decide +kernel
theorem dX6_valueEnds_14 : decode cX6_valueEnds 14 = .ok (.dup, 1) := by decide +kernel
theorem dX6_valueEnds_15 : decode cX6_valueEnds 15 = .ok (.getfield 146, 3) := by decide +kernel
theorem dX6_valueEnds_18 : decode cX6_valueEnds 18 = .ok (.iconst 1, 1) := by decide +kernel
theorem dX6_valueEnds_19 : decode cX6_valueEnds 19 = .ok (.isub, 1) := by decide +kernel
theorem dX6_valueEnds_20 : decode cX6_valueEnds 20 = .ok (.putfield 146, 3) := by decide +kernel
theorem dX6_valueEnds_23 : decode cX6_valueEnds 23 = .ok (.goto 186, 3) := by decide +kernel
theorem dX6_valueEnds_26 : decode cX6_valueEnds 26 = .ok (.iload_n 1, 1) := by decide +kernel
theorem dX6_valueEnds_27 : decode cX6_valueEnds 27 = .ok (.iconst 1, 1) := by decide +kernel
theorem dX6_valueEnds_28 : decode cX6_valueEnds 28 = .ok (.if_icmp .ne 32, 3) := by decide +kernel
theorem dX6_valueEnds_31 : decode cX6_valueEnds 31 = .ok (.aload_n 0, 1) := by decide +kernel
theorem dX6_valueEnds_32 : decode cX6_valueEnds 32 = .ok (.bipush 22, 2) := by decide +kernel
theorem dX6_valueEnds_34 : decode cX6_valueEnds 34 = .ok (.invokevirtual 128, 3) := by decide +kernel
theorem dX6_valueEnds_37 : decode cX6_valueEnds 37 = .ok (.ifCond .eq 172, 3) := by decide +kernel
theorem dX6_valueEnds_40 : decode cX6_valueEnds 40 = .ok (.aload_n 0, 1) := by decide +kernel
theorem dX6_valueEnds_41 : decode cX6_valueEnds 41 = .ok (.iconst 4, 1) := by decide +kernel
theorem dX6_valueEnds_42 : decode cX6_valueEnds 42 = .ok (.iload_n 2, 1) := by decide +kernel
theorem dX6_valueEnds_43 : decode cX6_valueEnds 43 = .ok (.invokevirtual 158, 3) := by decide +kernel
theorem dX6_valueEnds_46 : decode cX6_valueEnds 46 = .ok (.pop, 1) := by decide +kernel
theorem dX6_valueEnds_47 : decode cX6_valueEnds 47 = .ok (.aload_n 0, 1) := by decide +kernel
theorem dX6_valueEnds_48 : decode cX6_valueEnds 48 = .ok (.dup, 1) := by decide +kernel
theorem dX6_valueEnds_49 : decode cX6_valueEnds 49 = .ok (.getfield 146, 3) := by decide +kernel
theorem dX6_valueEnds_52 : decode cX6_valueEnds 52 = .ok (.iconst 1, 1) := by decide +kernel
theorem dX6_valueEnds_53 : decode cX6_valueEnds 53 = .ok (.isub, 1) := by decide +kernel
theorem dX6_valueEnds_54 : decode cX6_valueEnds 54 = .ok (.putfield 146, 3) := by decide +kernel
theorem dX6_valueEnds_57 : decode cX6_valueEnds 57 = .ok (.goto 152, 3) := by decide +kernel
theorem dX6_valueEnds_60 : decode cX6_valueEnds 60 = .ok (.iload_n 1, 1) := by decide +kernel
theorem dX6_valueEnds_61 : decode cX6_valueEnds 61 = .ok (.iconst 2, 1) := by decide +kernel
theorem dX6_valueEnds_62 : decode cX6_valueEnds 62 = .ok (.if_icmp .eq 9, 3) := by decide +kernel
theorem dX6_valueEnds_65 : decode cX6_valueEnds 65 = .ok (.iload_n 1, 1) := by decide +kernel
theorem dX6_valueEnds_66 : decode cX6_valueEnds 66 = .ok (.bipush 9, 2) := by decide +kernel
theorem dX6_valueEnds_68 : decode cX6_valueEnds 68 = .ok (.if_icmp .ne 12, 3) := by decide +kernel
theorem dX6_valueEnds_71 : decode cX6_valueEnds 71 = .ok (.aload_n 0, 1) := by decide +kernel
theorem dX6_valueEnds_72 : decode cX6_valueEnds 72 = .ok (.iload_n 1, 1) := by decide +kernel
theorem dX6_valueEnds_73 : decode cX6_valueEnds 73 = .ok (.iload_n 2, 1) := by decide +kernel
theorem dX6_valueEnds_74 : decode cX6_valueEnds 74 = .ok (.invokevirtual 200, 3) := by decide +kernel
theorem dX6_valueEnds_77 : decode cX6_valueEnds 77 = .ok (.goto 132, 3) := by decide +kernel
theorem dX6_valueEnds_80 : decode cX6_valueEnds 80 = .ok (.iload_n 1, 1) := by decide +kernel
theorem dX6_valueEnds_81 : decode cX6_valueEnds 81 = .ok (.iconst 3, 1) := by decide +kernel
theorem dX6_valueEnds_82 : decode cX6_valueEnds 82 = .ok (.if_icmp .ne 29, 3) := by decide +kernel
theorem dX6_valueEnds_85 : decode cX6_valueEnds 85 = .ok (.aload_n 0, 1) := by decide +kernel
theorem dX6_valueEnds_86 : decode cX6_valueEnds 86 = .ok (.bipush 22, 2) := by decide +kernel
theorem dX6_valueEnds_88 : decode cX6_valueEnds 88 = .ok (.invokevirtual 128, 3) := by decide +kernel
theorem dX6_valueEnds_91 : decode cX6_valueEnds 91 = .ok (.ifCond .eq 118, 3) := by decide +kernel
theorem dX6_valueEnds_94 : decode cX6_valueEnds 94 = .ok (.aload_n 0, 1) := by decide +kernel
theorem dX6_valueEnds_95 : decode cX6_valueEnds 95 = .ok (.bipush 12, 2) := by decide +kernel
theorem dX6_valueEnds_97 : decode cX6_valueEnds 97 = .ok (.invokevirtual 128, 3) := by decide +kernel
theorem dX6_valueEnds_100 : decode cX6_valueEnds 100 = .ok (.ifCond .eq 109, 3) := by decide +kernel
theorem dX6_valueEnds_103 : decode cX6_valueEnds 103 = .ok (.aload_n 0, 1) := by decide +kernel
theorem dX6_valueEnds_104 : decode cX6_valueEnds 104 = .ok (.iconst 4, 1) := by decide +kernel
theorem dX6_valueEnds_105 : decode cX6_valueEnds 105 = .ok (.invokevirtual 177, 3) := by decide +kernel
theorem dX6_valueEnds_108 : decode cX6_valueEnds 108 = .ok (.goto 101, 3) := by decide +kernel
theorem dX6_valueEnds_111 : decode cX6_valueEnds 111 = .ok (.iload_n 1, 1) := by decide +kernel
theorem dX6_valueEnds_112 : decode cX6_valueEnds 112 = .ok (.iconst 5, 1) := by decide +kernel
theorem dX6_valueEnds_113 : decode cX6_valueEnds 113 = .ok (.if_icmp .eq 9, 3) := by decide +kernel
theorem dX6_valueEnds_116 : decode cX6_valueEnds 116 = .ok (.iload_n 1, 1) := by decide +kernel
theorem dX6_valueEnds_117 : decode cX6_valueEnds 117 = .ok (.bipush 6, 2) := by decide +kernel
theorem dX6_valueEnds_119 : decode cX6_valueEnds 119 = .ok (.if_icmp .ne 42, 3) := by decide +kernel
theorem dX6_valueEnds_122 : decode cX6_valueEnds 122 = .ok (.aload_n 0, 1) := by decide +kernel
theorem dX6_valueEnds_123 : decode cX6_valueEnds 123 = .ok (.bipush 7, 2) := by decide +kernel
theorem dX6_valueEnds_125 : decode cX6_valueEnds 125 = .ok (.invokevirtual 128, 3) := by decide +kernel
theorem dX6_valueEnds_128 : decode cX6_valueEnds 128 = .ok (.ifCond .eq 81, 3) := by decide +kernel
theorem dX6_valueEnds_131 : decode cX6_valueEnds 131 = .ok (.aload_n 0, 1) := by decide +kernel
theorem dX6_valueEnds_132 : decode cX6_valueEnds 132 = .ok (.bipush 13, 2) := by decide +kernel
theorem dX6_valueEnds_134 : decode cX6_valueEnds 134 = .ok (.iconst 0, 1) := by decide +kernel
theorem dX6_valueEnds_135 : decode cX6_valueEnds 135 = .ok (.invokevirtual 158, 3) := by decide +kernel
theorem dX6_valueEnds_138 : decode cX6_valueEnds 138 = .ok (.istore_n 3, 1) := by decide +kernel
theorem dX6_valueEnds_139 : decode cX6_valueEnds 139 = .ok (.aload_n 0, 1) := by decide +kernel
theorem dX6_valueEnds_140 : decode cX6_valueEnds 140 = .ok (.iload_n 1, 1) := by decide +kernel
theorem dX6_valueEnds_141 : decode cX6_valueEnds 141 = .ok (.iconst 5, 1) := by decide +kernel
theorem dX6_valueEnds_142 : decode cX6_valueEnds 142 = .ok (.if_icmp .ne 7, 3) := by decide +kernel
theorem dX6_valueEnds_145 : decode cX6_valueEnds 145 = .ok (.iconst 1, 1) := by decide +kernel
theorem dX6_valueEnds_146 : decode cX6_valueEnds 146 = .ok (.goto 4, 3) := by decide +kernel
theorem dX6_valueEnds_149 : decode cX6_valueEnds 149 = .ok (.iconst 3, 1) := by decide +kernel
theorem dX6_valueEnds_150 : decode cX6_valueEnds 150 = .ok (.iload_n 3, 1) := by decide +kernel
theorem dX6_valueEnds_151 : decode cX6_valueEnds 151 = .ok (.aload_n 0, 1) := by decide +kernel
theorem dX6_valueEnds_152 : decode cX6_valueEnds 152 = .ok (.getfield 168, 3) := by decide +kernel
theorem dX6_valueEnds_155 : decode cX6_valueEnds 155 = .ok (.invokevirtual 136, 3) := by decide +kernel
theorem dX6_valueEnds_158 : decode cX6_valueEnds 158 = .ok (.goto 51, 3) := by decide +kernel
theorem dX6_valueEnds_161 : decode cX6_valueEnds 161 = .ok (.aload_n 0, 1) := by decide +kernel
theorem dX6_valueEnds_162 : decode cX6_valueEnds 162 = .ok (.bipush 10, 2) := by decide +kernel
theorem dX6_valueEnds_164 : decode cX6_valueEnds 164 = .ok (.invokevirtual 128, 3) := by decide +kernel
theorem dX6_valueEnds_167 : decode cX6_valueEnds 167 = .ok (.ifCond .eq 42, 3) := by decide +kernel
theorem dX6_valueEnds_170 : decode cX6_valueEnds 170 = .ok (.aload_n 0, 1) := by decide +kernel
theorem dX6_valueEnds_171 : decode cX6_valueEnds 171 = .ok (.iload_n 1, 1) := by decide +kernel
theorem dX6_valueEnds_172 : decode cX6_valueEnds 172 = .ok (.iconst 4, 1) := by decide +kernel
theorem dX6_valueEnds_173 : decode cX6_valueEnds 173 = .ok (.if_icmp .ne 10, 3) := by decide +kernel
theorem dX6_valueEnds_176 : decode cX6_valueEnds 176 = .ok (.aload_n 0, 1) := by decide +kernel
theorem dX6_valueEnds_177 : decode cX6_valueEnds 177 = .ok (.getfield 171, 3) := by decide +kernel
theorem dX6_valueEnds_180 : decode cX6_valueEnds 180 = .ok (.goto 16, 3) := by decide +kernel
theorem dX6_valueEnds_183 : decode cX6_valueEnds 183 = .ok (.iload_n 1, 1) := by decide +kernel
theorem dX6_valueEnds_184 : decode cX6_valueEnds 184 = .ok (.bipush 7, 2) := by decide +kernel
theorem dX6_valueEnds_186 : decode cX6_valueEnds 186 = .ok (.if_icmp .ne 8, 3) := by decide +kernel
theorem dX6_valueEnds_189 : decode cX6_valueEnds 189 = .ok (.bipush 15, 2) := by decide +kernel
theorem dX6_valueEnds_191 : decode cX6_valueEnds 191 = .ok (.goto 5, 3) := by decide +kernel
theorem dX6_valueEnds_194 : decode cX6_valueEnds 194 = .ok (.bipush 16, 2) := by decide +kernel
theorem dX6_valueEnds_196 : decode cX6_valueEnds 196 = .ok (.aload_n 0, 1) := by decide +kernel
theorem dX6_valueEnds_197 : decode cX6_valueEnds 197 = .ok (.getfield 174, 3) := by decide +kernel
theorem dX6_valueEnds_200 : decode cX6_valueEnds 200 = .ok (.invokevirtual 158, 3) := by decide +kernel
theorem dX6_valueEnds_203 : decode cX6_valueEnds 203 = .ok (.pop, 1) := by decide +kernel
theorem dX6_valueEnds_204 : decode cX6_valueEnds 204 = .ok (.aload_n 0, 1) := by decide +kernel
theorem dX6_valueEnds_205 : decode cX6_valueEnds 205 = .ok (.iconst 2, 1) := by decide +kernel
theorem dX6_valueEnds_206 : decode cX6_valueEnds 206 = .ok (.putfield 143, 3) := by decide +kernel
theorem dX6_valueEnds_209 : decode cX6_valueEnds 209 = .ok (.return_, 1) := by decide +kernel
theorem dX6_argumentEnds_0 : decode cX6_argumentEnds 0 = .ok (.aload_n 0, 1) := by decide +kernel
theorem dX6_argumentEnds_1 : decode cX6_argumentEnds 1 = .ok (.invokevirtual 113, 3) := by decide +kernel
theorem dX6_argumentEnds_4 : decode cX6_argumentEnds 4 = .ok (.bipush 11, 2) := by decide +kernel
theorem dX6_argumentEnds_6 : decode cX6_argumentEnds 6 = .ok (.if_icmp .ne 28, 3) := by decide +kernel
theorem dX6_argumentEnds_9 : decode cX6_argumentEnds 9 = .ok (.aload_n 0, 1) := by decide +kernel
theorem dX6_argumentEnds_10 : decode cX6_argumentEnds 10 = .ok (.dup, 1) := by decide +kernel
theorem dX6_argumentEnds_11 : decode cX6_argumentEnds 11 = .ok (.getfield 104, 3) := by decide +kernel
theorem dX6_argumentEnds_14 : decode cX6_argumentEnds 14 = .ok (.iconst 1, 1) := by decide +kernel
theorem dX6_argumentEnds_15 : decode cX6_argumentEnds 15 = .ok (.iadd, 1) := by decide +kernel
theorem dX6_argumentEnds_16 : decode cX6_argumentEnds 16 = .ok (.putfield 104, 3) := by decide +kernel
theorem dX6_argumentEnds_19 : decode cX6_argumentEnds 19 = .ok (.aload_n 0, 1) := by decide +kernel
theorem dX6_argumentEnds_20 : decode cX6_argumentEnds 20 = .ok (.getfield 43, 3) := by decide +kernel
theorem dX6_argumentEnds_23 : decode cX6_argumentEnds 23 = .ok (.iload_n 2, 1) := by decide +kernel
theorem dX6_argumentEnds_24 : decode cX6_argumentEnds 24 = .ok (.dup2, 1) := by decide +kernel
theorem dX6_argumentEnds_25 : decode cX6_argumentEnds 25 = .ok (.iaload, 1) := by decide +kernel
theorem dX6_argumentEnds_26 : decode cX6_argumentEnds 26 = .ok (.iconst 1, 1) := by decide +kernel
theorem dX6_argumentEnds_27 : decode cX6_argumentEnds 27 = .ok (.iadd, 1) := by decide +kernel
theorem dX6_argumentEnds_28 : decode cX6_argumentEnds 28 = .ok (.iastore, 1) := by decide +kernel
theorem dX6_argumentEnds_29 : decode cX6_argumentEnds 29 = .ok (.aload_n 0, 1) := by decide +kernel
theorem dX6_argumentEnds_30 : decode cX6_argumentEnds 30 = .ok (.invokevirtual 155, 3) := by decide +kernel
theorem dX6_argumentEnds_33 : decode cX6_argumentEnds 33 = .ok (.return_, 1) := by decide +kernel
theorem dX6_argumentEnds_34 : decode cX6_argumentEnds 34 = .ok (.aload_n 0, 1) := by decide +kernel
theorem dX6_argumentEnds_35 : decode cX6_argumentEnds 35 = .ok (.bipush 7, 2) := by decide +kernel
theorem dX6_argumentEnds_37 : decode cX6_argumentEnds 37 = .ok (.invokevirtual 128, 3) := by decide +kernel
theorem dX6_argumentEnds_40 : decode cX6_argumentEnds 40 = .ok (.ifCond .ne 4, 3) := by decide +kernel
theorem dX6_argumentEnds_43 : decode cX6_argumentEnds 43 = .ok (.return_, 1) := by decide +kernel
theorem dX6_argumentEnds_44 : decode cX6_argumentEnds 44 = .ok (.aload_n 0, 1) := by decide +kernel
theorem dX6_argumentEnds_45 : decode cX6_argumentEnds 45 = .ok (.iload_n 2, 1) := by decide +kernel
theorem dX6_argumentEnds_46 : decode cX6_argumentEnds 46 = .ok (.invokevirtual 184, 3) := by decide +kernel
theorem dX6_argumentEnds_49 : decode cX6_argumentEnds 49 = .ok (.iload_n 1, 1) := by decide +kernel
theorem dX6_argumentEnds_50 : decode cX6_argumentEnds 50 = .ok (.iconst 2, 1) := by decide +kernel
theorem dX6_argumentEnds_51 : decode cX6_argumentEnds 51 = .ok (.if_icmp .ne 16, 3) := by decide +kernel
theorem dX6_argumentEnds_54 : decode cX6_argumentEnds 54 = .ok (.aload_n 0, 1) := by decide +kernel
theorem dX6_argumentEnds_55 : decode cX6_argumentEnds 55 = .ok (.dup, 1) := by decide +kernel
theorem dX6_argumentEnds_56 : decode cX6_argumentEnds 56 = .ok (.getfield 146, 3) := by decide +kernel
theorem dX6_argumentEnds_59 : decode cX6_argumentEnds 59 = .ok (.iconst 1, 1) := by decide +kernel
theorem dX6_argumentEnds_60 : decode cX6_argumentEnds 60 = .ok (.isub, 1) := by decide +kernel
theorem dX6_argumentEnds_61 : decode cX6_argumentEnds 61 = .ok (.putfield 146, 3) := by decide +kernel
theorem dX6_argumentEnds_64 : decode cX6_argumentEnds 64 = .ok (.goto 23, 3) := by decide +kernel
theorem dX6_argumentEnds_67 : decode cX6_argumentEnds 67 = .ok (.aload_n 0, 1) := by decide +kernel
theorem dX6_argumentEnds_68 : decode cX6_argumentEnds 68 = .ok (.bipush 12, 2) := by decide +kernel
theorem dX6_argumentEnds_70 : decode cX6_argumentEnds 70 = .ok (.iconst 0, 1) := by decide +kernel
theorem dX6_argumentEnds_71 : decode cX6_argumentEnds 71 = .ok (.invokevirtual 158, 3) := by decide +kernel
theorem dX6_argumentEnds_74 : decode cX6_argumentEnds 74 = .ok (.pop, 1) := by decide +kernel
theorem dX6_argumentEnds_75 : decode cX6_argumentEnds 75 = .ok (.aload_n 0, 1) := by decide +kernel
theorem dX6_argumentEnds_76 : decode cX6_argumentEnds 76 = .ok (.iconst 2, 1) := by decide +kernel
theorem dX6_argumentEnds_77 : decode cX6_argumentEnds 77 = .ok (.putfield 143, 3) := by decide +kernel
theorem dX6_argumentEnds_80 : decode cX6_argumentEnds 80 = .ok (.aload_n 0, 1) := by decide +kernel
theorem dX6_argumentEnds_81 : decode cX6_argumentEnds 81 = .ok (.bipush 10, 2) := by decide +kernel
theorem dX6_argumentEnds_83 : decode cX6_argumentEnds 83 = .ok (.invokevirtual 128, 3) := by decide +kernel
theorem dX6_argumentEnds_86 : decode cX6_argumentEnds 86 = .ok (.pop, 1) := by decide +kernel
theorem dX6_argumentEnds_87 : decode cX6_argumentEnds 87 = .ok (.return_, 1) := by decide +kernel
theorem dX6_readText_0 : decode cX6_readText 0 = .ok (.aload_n 0, 1) := by decide +kernel
theorem dX6_readText_1 : decode cX6_readText 1 = .ok (.iconst 0, 1) := by decide +kernel
theorem dX6_readText_2 : decode cX6_readText 2 = .ok (.putfield 107, 3) := by decide +kernel
theorem dX6_readText_5 : decode cX6_readText 5 = .ok (.aload_n 0, 1) := by decide +kernel
theorem dX6_readText_6 : decode cX6_readText 6 = .ok (.iconst 0, 1) := by decide +kernel
theorem dX6_readText_7 : decode cX6_readText 7 = .ok (.putfield 104, 3) := by decide +kernel
theorem dX6_readText_10 : decode cX6_readText 10 = .ok (.aload_n 0, 1) := by decide +kernel
theorem dX6_readText_11 : decode cX6_readText 11 = .ok (.iconst 0, 1) := by decide +kernel
theorem dX6_readText_12 : decode cX6_readText 12 = .ok (.putfield 143, 3) := by decide +kernel
theorem dX6_readText_15 : decode cX6_readText 15 = .ok (.aload_n 0, 1) := by decide +kernel
theorem dX6_readText_16 : decode cX6_readText 16 = .ok (.iconst 0, 1) := by decide +kernel
theorem dX6_readText_17 : decode cX6_readText 17 = .ok (.putfield 124, 3) := by decide +kernel
theorem dX6_readText_20 : decode cX6_readText 20 = .ok (.aload_n 0, 1) := by decide +kernel
theorem dX6_readText_21 : decode cX6_readText 21 = .ok (.iconst 0, 1) := by decide +kernel
theorem dX6_readText_22 : decode cX6_readText 22 = .ok (.putfield 121, 3) := by decide +kernel
theorem dX6_readText_25 : decode cX6_readText 25 = .ok (.aload_n 0, 1) := by decide +kernel
theorem dX6_readText_26 : decode cX6_readText 26 = .ok (.iconst 0, 1) := by decide +kernel
theorem dX6_readText_27 : decode cX6_readText 27 = .ok (.putfield 162, 3) := by decide +kernel
theorem dX6_readText_30 : decode cX6_readText 30 = .ok (.aload_n 0, 1) := by decide +kernel
theorem dX6_readText_31 : decode cX6_readText 31 = .ok (.iconst 0, 1) := by decide +kernel
theorem dX6_readText_32 : decode cX6_readText 32 = .ok (.putfield 140, 3) := by decide +kernel
theorem dX6_readText_35 : decode cX6_readText 35 = .ok (.iconst 0, 1) := by decide +kernel
theorem dX6_readText_36 : decode cX6_readText 36 = .ok (.istore_n 1, 1) := by decide +kernel
theorem dX6_readText_37 : decode cX6_readText 37 = .ok (.iload_n 1, 1) := by decide +kernel
theorem dX6_readText_38 : decode cX6_readText 38 = .ok (.bipush 6, 2) := by decide +kernel
theorem dX6_readText_40 : decode cX6_readText 40 = .ok (.if_icmp .ge 23, 3) := by decide +kernel
theorem dX6_readText_43 : decode cX6_readText 43 = .ok (.aload_n 0, 1) := by decide +kernel
theorem dX6_readText_44 : decode cX6_readText 44 = .ok (.getfield 25, 3) := by decide +kernel
theorem dX6_readText_47 : decode cX6_readText 47 = .ok (.iload_n 1, 1) := by decide +kernel
theorem dX6_readText_48 : decode cX6_readText 48 = .ok (.iconst (-1), 1) := by decide +kernel
theorem dX6_readText_49 : decode cX6_readText 49 = .ok (.iastore, 1) := by decide +kernel
theorem dX6_readText_50 : decode cX6_readText 50 = .ok (.aload_n 0, 1) := by decide +kernel
theorem dX6_readText_51 : decode cX6_readText 51 = .ok (.getfield 28, 3) := by decide +kernel
theorem dX6_readText_54 : decode cX6_readText 54 = .ok (.iload_n 1, 1) := by decide +kernel
theorem dX6_readText_55 : decode cX6_readText 55 = .ok (.iconst 0, 1) := by decide +kernel
theorem dX6_readText_56 : decode cX6_readText 56 = .ok (.iastore, 1) := by decide +kernel
theorem dX6_readText_57 : decode cX6_readText 57 = .ok (.iinc 1 1, 3) := by decide +kernel
theorem dX6_readText_60 : decode cX6_readText 60 = .ok (.goto (-23), 3) := by decide +kernel
theorem dX6_readText_63 : decode cX6_readText 63 = .ok (.iconst 0, 1) := by decide +kernel
theorem dX6_readText_64 : decode cX6_readText 64 = .ok (.istore_n 1, 1) := by decide +kernel
theorem dX6_readText_65 : decode cX6_readText 65 = .ok (.iload_n 1, 1) := by decide +kernel
theorem dX6_readText_66 : decode cX6_readText 66 = .ok (.sipush 2000, 3) := by decide +kernel
theorem dX6_readText_69 : decode cX6_readText 69 = .ok (.if_icmp .ge 96, 3) := by decide +kernel
theorem dX6_readText_72 : decode cX6_readText 72 = .ok (.aload_n 0, 1) := by decide +kernel
theorem dX6_readText_73 : decode cX6_readText 73 = .ok (.getfield 107, 3) := by decide +kernel
theorem dX6_readText_76 : decode cX6_readText 76 = .ok (.ifCond .ne 89, 3) := by decide +kernel
theorem dX6_readText_79 : decode cX6_readText 79 = .ok (.aload_n 0, 1) := by decide +kernel
theorem dX6_readText_80 : decode cX6_readText 80 = .ok (.getfield 124, 3) := by decide +kernel
theorem dX6_readText_83 : decode cX6_readText 83 = .ok (.ifCond .ne 82, 3) := by decide +kernel
theorem dX6_readText_86 : decode cX6_readText 86 = .ok (.aload_n 0, 1) := by decide +kernel
theorem dX6_readText_87 : decode cX6_readText 87 = .ok (.getfield 143, 3) := by decide +kernel
theorem dX6_readText_90 : decode cX6_readText 90 = .ok (.ifCond .ne 10, 3) := by decide +kernel
theorem dX6_readText_93 : decode cX6_readText 93 = .ok (.aload_n 0, 1) := by decide +kernel
theorem dX6_readText_94 : decode cX6_readText 94 = .ok (.invokevirtual 203, 3) := by decide +kernel
theorem dX6_readText_97 : decode cX6_readText 97 = .ok (.goto 62, 3) := by decide +kernel
theorem dX6_readText_100 : decode cX6_readText 100 = .ok (.aload_n 0, 1) := by decide +kernel
theorem dX6_readText_101 : decode cX6_readText 101 = .ok (.getfield 143, 3) := by decide +kernel
theorem dX6_readText_104 : decode cX6_readText 104 = .ok (.iconst 1, 1) := by decide +kernel
theorem dX6_readText_105 : decode cX6_readText 105 = .ok (.if_icmp .ne 20, 3) := by decide +kernel
theorem dX6_readText_108 : decode cX6_readText 108 = .ok (.aload_n 0, 1) := by decide +kernel
theorem dX6_readText_109 : decode cX6_readText 109 = .ok (.bipush 8, 2) := by decide +kernel
theorem dX6_readText_111 : decode cX6_readText 111 = .ok (.invokevirtual 128, 3) := by decide +kernel
theorem dX6_readText_114 : decode cX6_readText 114 = .ok (.ifCond .eq 45, 3) := by decide +kernel
theorem dX6_readText_117 : decode cX6_readText 117 = .ok (.aload_n 0, 1) := by decide +kernel
theorem dX6_readText_118 : decode cX6_readText 118 = .ok (.iconst 2, 1) := by decide +kernel
theorem dX6_readText_119 : decode cX6_readText 119 = .ok (.putfield 143, 3) := by decide +kernel
theorem dX6_readText_122 : decode cX6_readText 122 = .ok (.goto 37, 3) := by decide +kernel
theorem dX6_readText_125 : decode cX6_readText 125 = .ok (.aload_n 0, 1) := by decide +kernel
theorem dX6_readText_126 : decode cX6_readText 126 = .ok (.getfield 143, 3) := by decide +kernel
theorem dX6_readText_129 : decode cX6_readText 129 = .ok (.iconst 2, 1) := by decide +kernel
theorem dX6_readText_130 : decode cX6_readText 130 = .ok (.if_icmp .ne 10, 3) := by decide +kernel
theorem dX6_readText_133 : decode cX6_readText 133 = .ok (.aload_n 0, 1) := by decide +kernel
theorem dX6_readText_134 : decode cX6_readText 134 = .ok (.invokevirtual 206, 3) := by decide +kernel
theorem dX6_readText_137 : decode cX6_readText 137 = .ok (.goto 22, 3) := by decide +kernel
theorem dX6_readText_140 : decode cX6_readText 140 = .ok (.aload_n 0, 1) := by decide +kernel
theorem dX6_readText_141 : decode cX6_readText 141 = .ok (.getfield 143, 3) := by decide +kernel
theorem dX6_readText_144 : decode cX6_readText 144 = .ok (.iconst 3, 1) := by decide +kernel
theorem dX6_readText_145 : decode cX6_readText 145 = .ok (.if_icmp .ne 10, 3) := by decide +kernel
theorem dX6_readText_148 : decode cX6_readText 148 = .ok (.aload_n 0, 1) := by decide +kernel
theorem dX6_readText_149 : decode cX6_readText 149 = .ok (.invokevirtual 209, 3) := by decide +kernel
theorem dX6_readText_152 : decode cX6_readText 152 = .ok (.goto 7, 3) := by decide +kernel
theorem dX6_readText_155 : decode cX6_readText 155 = .ok (.aload_n 0, 1) := by decide +kernel
theorem dX6_readText_156 : decode cX6_readText 156 = .ok (.invokevirtual 212, 3) := by decide +kernel
theorem dX6_readText_159 : decode cX6_readText 159 = .ok (.iinc 1 1, 3) := by decide +kernel
theorem dX6_readText_162 : decode cX6_readText 162 = .ok (.goto (-97), 3) := by decide +kernel
theorem dX6_readText_165 : decode cX6_readText 165 = .ok (.iconst 0, 1) := by decide +kernel
theorem dX6_readText_166 : decode cX6_readText 166 = .ok (.istore_n 1, 1) := by decide +kernel
theorem dX6_readText_167 : decode cX6_readText 167 = .ok (.iload_n 1, 1) := by decide +kernel
theorem dX6_readText_168 : decode cX6_readText 168 = .ok (.aload_n 0, 1) := by decide +kernel
theorem dX6_readText_169 : decode cX6_readText 169 = .ok (.getfield 162, 3) := by decide +kernel
theorem dX6_readText_172 : decode cX6_readText 172 = .ok (.if_icmp .ge 79, 3) := by decide +kernel
theorem dX6_readText_175 : decode cX6_readText 175 = .ok (.aload_n 0, 1) := by decide +kernel
theorem dX6_readText_176 : decode cX6_readText 176 = .ok (.getfield 107, 3) := by decide +kernel
theorem dX6_readText_179 : decode cX6_readText 179 = .ok (.ifCond .ne 72, 3) := by decide +kernel
theorem dX6_readText_182 : decode cX6_readText 182 = .ok (.aload_n 0, 1) := by decide +kernel
theorem dX6_readText_183 : decode cX6_readText 183 = .ok (.getfield 25, 3) := by decide +kernel
theorem dX6_readText_186 : decode cX6_readText 186 = .ok (.aload_n 0, 1) := by decide +kernel
theorem dX6_readText_187 : decode cX6_readText 187 = .ok (.getfield 40, 3) := by decide +kernel
theorem dX6_readText_190 : decode cX6_readText 190 = .ok (.iload_n 1, 1) := by decide +kernel
theorem dX6_readText_191 : decode cX6_readText 191 = .ok (.iaload, 1) := by decide +kernel
theorem dX6_readText_192 : decode cX6_readText 192 = .ok (.iaload, 1) := by decide +kernel
theorem dX6_readText_193 : decode cX6_readText 193 = .ok (.ifCond .lt 7, 3) := by decide +kernel
theorem dX6_readText_196 : decode cX6_readText 196 = .ok (.iconst 1, 1) := by decide +kernel
theorem dX6_readText_197 : decode cX6_readText 197 = .ok (.goto 4, 3) := by decide +kernel
theorem dX6_readText_200 : decode cX6_readText 200 = .ok (.iconst 0, 1) := by decide +kernel
theorem dX6_readText_201 : decode cX6_readText 201 = .ok (.istore_n 2, 1) := by decide +kernel
theorem dX6_readText_202 : decode cX6_readText 202 = .ok (.iload_n 2, 1) := by decide +kernel
theorem dX6_readText_203 : decode cX6_readText 203 = .ok (.ifCond .eq 23, 3) := by decide +kernel
theorem dX6_readText_206 : decode cX6_readText 206 = .ok (.aload_n 0, 1) := by decide +kernel
theorem dX6_readText_207 : decode cX6_readText 207 = .ok (.getfield 28, 3) := by decide +kernel
theorem dX6_readText_210 : decode cX6_readText 210 = .ok (.aload_n 0, 1) := by decide +kernel
theorem dX6_readText_211 : decode cX6_readText 211 = .ok (.getfield 40, 3) := by decide +kernel
theorem dX6_readText_214 : decode cX6_readText 214 = .ok (.iload_n 1, 1) := by decide +kernel
theorem dX6_readText_215 : decode cX6_readText 215 = .ok (.iaload, 1) := by decide +kernel
theorem dX6_readText_216 : decode cX6_readText 216 = .ok (.iaload, 1) := by decide +kernel
theorem dX6_readText_217 : decode cX6_readText 217 = .ok (.aload_n 0, 1) := by decide +kernel
theorem dX6_readText_218 : decode cX6_readText 218 = .ok (.getfield 43, 3) := by decide +kernel
theorem dX6_readText_221 : decode cX6_readText 221 = .ok (.iload_n 1, 1) := by decide +kernel
theorem dX6_readText_222 : decode cX6_readText 222 = .ok (.iaload, 1) := by decide +kernel
theorem dX6_readText_223 : decode cX6_readText 223 = .ok (.if_icmp .eq 22, 3) := by decide +kernel
theorem dX6_readText_226 : decode cX6_readText 226 = .ok (.aload_n 0, 1) := by decide +kernel
theorem dX6_readText_227 : decode cX6_readText 227 = .ok (.iload_n 2, 1) := by decide +kernel
theorem dX6_readText_228 : decode cX6_readText 228 = .ok (.ifCond .eq 7, 3) := by decide +kernel
theorem dX6_readText_231 : decode cX6_readText 231 = .ok (.iconst 5, 1) := by decide +kernel
theorem dX6_readText_232 : decode cX6_readText 232 = .ok (.goto 4, 3) := by decide +kernel
theorem dX6_readText_235 : decode cX6_readText 235 = .ok (.iconst 4, 1) := by decide +kernel
theorem dX6_readText_236 : decode cX6_readText 236 = .ok (.aload_n 0, 1) := by decide +kernel
theorem dX6_readText_237 : decode cX6_readText 237 = .ok (.getfield 37, 3) := by decide +kernel
theorem dX6_readText_240 : decode cX6_readText 240 = .ok (.iload_n 1, 1) := by decide +kernel
theorem dX6_readText_241 : decode cX6_readText 241 = .ok (.iaload, 1) := by decide +kernel
theorem dX6_readText_242 : decode cX6_readText 242 = .ok (.invokevirtual 117, 3) := by decide +kernel
theorem dX6_readText_245 : decode cX6_readText 245 = .ok (.iinc 1 1, 3) := by decide +kernel
theorem dX6_readText_248 : decode cX6_readText 248 = .ok (.goto (-81), 3) := by decide +kernel
theorem dX6_readText_251 : decode cX6_readText 251 = .ok (.aload_n 0, 1) := by decide +kernel
theorem dX6_readText_252 : decode cX6_readText 252 = .ok (.getfield 25, 3) := by decide +kernel
theorem dX6_readText_255 : decode cX6_readText 255 = .ok (.iconst 0, 1) := by decide +kernel
theorem dX6_readText_256 : decode cX6_readText 256 = .ok (.iaload, 1) := by decide +kernel
theorem dX6_readText_257 : decode cX6_readText 257 = .ok (.ifCond .lt 12, 3) := by decide +kernel
theorem dX6_readText_260 : decode cX6_readText 260 = .ok (.aload_n 0, 1) := by decide +kernel
theorem dX6_readText_261 : decode cX6_readText 261 = .ok (.getfield 28, 3) := by decide +kernel
theorem dX6_readText_264 : decode cX6_readText 264 = .ok (.iconst 0, 1) := by decide +kernel
theorem dX6_readText_265 : decode cX6_readText 265 = .ok (.iaload, 1) := by decide +kernel
theorem dX6_readText_266 : decode cX6_readText 266 = .ok (.ifCond .le 13, 3) := by decide +kernel
theorem dX6_readText_269 : decode cX6_readText 269 = .ok (.aload_n 0, 1) := by decide +kernel
theorem dX6_readText_270 : decode cX6_readText 270 = .ok (.bipush 6, 2) := by decide +kernel
theorem dX6_readText_272 : decode cX6_readText 272 = .ok (.aload_n 0, 1) := by decide +kernel
theorem dX6_readText_273 : decode cX6_readText 273 = .ok (.getfield 101, 3) := by decide +kernel
theorem dX6_readText_276 : decode cX6_readText 276 = .ok (.invokevirtual 117, 3) := by decide +kernel
theorem dX6_readText_279 : decode cX6_readText 279 = .ok (.return_, 1) := by decide +kernel
theorem dX6_nothing_0 : decode cX6_nothing 0 = .ok (.iconst 0, 1) := by decide +kernel
theorem dX6_nothing_1 : decode cX6_nothing 1 = .ok (.istore_n 1, 1) := by decide +kernel
theorem dX6_nothing_2 : decode cX6_nothing 2 = .ok (.iload_n 1, 1) := by decide +kernel
theorem dX6_nothing_3 : decode cX6_nothing 3 = .ok (.bipush 8, 2) := by decide +kernel
theorem dX6_nothing_5 : decode cX6_nothing 5 = .ok (.if_icmp .ge 16, 3) := by decide +kernel
theorem dX6_nothing_8 : decode cX6_nothing 8 = .ok (.aload_n 0, 1) := by decide +kernel
theorem dX6_nothing_9 : decode cX6_nothing 9 = .ok (.getfield 73, 3) := by decide +kernel
theorem dX6_nothing_12 : decode cX6_nothing 12 = .ok (.iload_n 1, 1) := by decide +kernel
theorem dX6_nothing_13 : decode cX6_nothing 13 = .ok (.iconst 0, 1) := by decide +kernel
theorem dX6_nothing_14 : decode cX6_nothing 14 = .ok (.iastore, 1) := by decide +kernel
theorem dX6_nothing_15 : decode cX6_nothing 15 = .ok (.iinc 1 1, 3) := by decide +kernel
theorem dX6_nothing_18 : decode cX6_nothing 18 = .ok (.goto (-16), 3) := by decide +kernel
theorem dX6_nothing_21 : decode cX6_nothing 21 = .ok (.iconst 0, 1) := by decide +kernel
theorem dX6_nothing_22 : decode cX6_nothing 22 = .ok (.istore_n 1, 1) := by decide +kernel
theorem dX6_nothing_23 : decode cX6_nothing 23 = .ok (.iload_n 1, 1) := by decide +kernel
theorem dX6_nothing_24 : decode cX6_nothing 24 = .ok (.bipush 32, 2) := by decide +kernel
theorem dX6_nothing_26 : decode cX6_nothing 26 = .ok (.if_icmp .ge 16, 3) := by decide +kernel
theorem dX6_nothing_29 : decode cX6_nothing 29 = .ok (.aload_n 0, 1) := by decide +kernel
theorem dX6_nothing_30 : decode cX6_nothing 30 = .ok (.getfield 76, 3) := by decide +kernel
theorem dX6_nothing_33 : decode cX6_nothing 33 = .ok (.iload_n 1, 1) := by decide +kernel
theorem dX6_nothing_34 : decode cX6_nothing 34 = .ok (.iconst 0, 1) := by decide +kernel
theorem dX6_nothing_35 : decode cX6_nothing 35 = .ok (.iastore, 1) := by decide +kernel
theorem dX6_nothing_36 : decode cX6_nothing 36 = .ok (.iinc 1 1, 3) := by decide +kernel
theorem dX6_nothing_39 : decode cX6_nothing 39 = .ok (.goto (-16), 3) := by decide +kernel
theorem dX6_nothing_42 : decode cX6_nothing 42 = .ok (.aload_n 0, 1) := by decide +kernel
theorem dX6_nothing_43 : decode cX6_nothing 43 = .ok (.iconst 0, 1) := by decide +kernel
theorem dX6_nothing_44 : decode cX6_nothing 44 = .ok (.putfield 215, 3) := by decide +kernel
theorem dX6_nothing_47 : decode cX6_nothing 47 = .ok (.aload_n 0, 1) := by decide +kernel
theorem dX6_nothing_48 : decode cX6_nothing 48 = .ok (.iconst 0, 1) := by decide +kernel
theorem dX6_nothing_49 : decode cX6_nothing 49 = .ok (.putfield 218, 3) := by decide +kernel
theorem dX6_nothing_52 : decode cX6_nothing 52 = .ok (.aload_n 0, 1) := by decide +kernel
theorem dX6_nothing_53 : decode cX6_nothing 53 = .ok (.iconst 0, 1) := by decide +kernel
theorem dX6_nothing_54 : decode cX6_nothing 54 = .ok (.putfield 221, 3) := by decide +kernel
theorem dX6_nothing_57 : decode cX6_nothing 57 = .ok (.aload_n 0, 1) := by decide +kernel
theorem dX6_nothing_58 : decode cX6_nothing 58 = .ok (.iconst 0, 1) := by decide +kernel
theorem dX6_nothing_59 : decode cX6_nothing 59 = .ok (.putfield 224, 3) := by decide +kernel
theorem dX6_nothing_62 : decode cX6_nothing 62 = .ok (.return_, 1) := by decide +kernel
theorem dX6_compile_0 : decode cX6_compile 0 = .ok (.aload_n 0, 1) := by decide +kernel
theorem dX6_compile_1 : decode cX6_compile 1 = .ok (.iconst 0, 1) := by decide +kernel
theorem dX6_compile_2 : decode cX6_compile 2 = .ok (.putfield 97, 3) := by decide +kernel
theorem dX6_compile_5 : decode cX6_compile 5 = .ok (.aload_n 0, 1) := by decide +kernel
theorem dX6_compile_6 : decode cX6_compile 6 = .ok (.invokevirtual 227, 3) := by decide +kernel
theorem dX6_compile_9 : decode cX6_compile 9 = .ok (.aload_n 0, 1) := by decide +kernel
theorem dX6_compile_10 : decode cX6_compile 10 = .ok (.iconst 0, 1) := by decide +kernel
theorem dX6_compile_11 : decode cX6_compile 11 = .ok (.putfield 101, 3) := by decide +kernel
theorem dX6_compile_14 : decode cX6_compile 14 = .ok (.aload_n 0, 1) := by decide +kernel
theorem dX6_compile_15 : decode cX6_compile 15 = .ok (.getfield 107, 3) := by decide +kernel
theorem dX6_compile_18 : decode cX6_compile 18 = .ok (.ifCond .le 17, 3) := by decide +kernel
theorem dX6_compile_21 : decode cX6_compile 21 = .ok (.sipush (-1000), 3) := by decide +kernel
theorem dX6_compile_24 : decode cX6_compile 24 = .ok (.aload_n 0, 1) := by decide +kernel
theorem dX6_compile_25 : decode cX6_compile 25 = .ok (.getfield 107, 3) := by decide +kernel
theorem dX6_compile_28 : decode cX6_compile 28 = .ok (.imul, 1) := by decide +kernel
theorem dX6_compile_29 : decode cX6_compile 29 = .ok (.aload_n 0, 1) := by decide +kernel
theorem dX6_compile_30 : decode cX6_compile 30 = .ok (.getfield 110, 3) := by decide +kernel
theorem dX6_compile_33 : decode cX6_compile 33 = .ok (.isub, 1) := by decide +kernel
theorem dX6_compile_34 : decode cX6_compile 34 = .ok (.ireturn, 1) := by decide +kernel
theorem dX6_compile_35 : decode cX6_compile 35 = .ok (.aload_n 0, 1) := by decide +kernel
theorem dX6_compile_36 : decode cX6_compile 36 = .ok (.iconst 0, 1) := by decide +kernel
theorem dX6_compile_37 : decode cX6_compile 37 = .ok (.putfield 230, 3) := by decide +kernel
theorem dX6_compile_40 : decode cX6_compile 40 = .ok (.iconst 0, 1) := by decide +kernel
theorem dX6_compile_41 : decode cX6_compile 41 = .ok (.istore_n 1, 1) := by decide +kernel
theorem dX6_compile_42 : decode cX6_compile 42 = .ok (.iload_n 1, 1) := by decide +kernel
theorem dX6_compile_43 : decode cX6_compile 43 = .ok (.bipush 6, 2) := by decide +kernel
theorem dX6_compile_45 : decode cX6_compile 45 = .ok (.if_icmp .ge 56, 3) := by decide +kernel
theorem dX6_compile_48 : decode cX6_compile 48 = .ok (.aload_n 0, 1) := by decide +kernel
theorem dX6_compile_49 : decode cX6_compile 49 = .ok (.getfield 31, 3) := by decide +kernel
theorem dX6_compile_52 : decode cX6_compile 52 = .ok (.iload_n 1, 1) := by decide +kernel
theorem dX6_compile_53 : decode cX6_compile 53 = .ok (.aload_n 0, 1) := by decide +kernel
theorem dX6_compile_54 : decode cX6_compile 54 = .ok (.getfield 25, 3) := by decide +kernel
theorem dX6_compile_57 : decode cX6_compile 57 = .ok (.iload_n 1, 1) := by decide +kernel
theorem dX6_compile_58 : decode cX6_compile 58 = .ok (.iaload, 1) := by decide +kernel
theorem dX6_compile_59 : decode cX6_compile 59 = .ok (.iastore, 1) := by decide +kernel
theorem dX6_compile_60 : decode cX6_compile 60 = .ok (.aload_n 0, 1) := by decide +kernel
theorem dX6_compile_61 : decode cX6_compile 61 = .ok (.getfield 34, 3) := by decide +kernel
theorem dX6_compile_64 : decode cX6_compile 64 = .ok (.iload_n 1, 1) := by decide +kernel
theorem dX6_compile_65 : decode cX6_compile 65 = .ok (.aload_n 0, 1) := by decide +kernel
theorem dX6_compile_66 : decode cX6_compile 66 = .ok (.getfield 28, 3) := by decide +kernel
theorem dX6_compile_69 : decode cX6_compile 69 = .ok (.iload_n 1, 1) := by decide +kernel
theorem dX6_compile_70 : decode cX6_compile 70 = .ok (.iaload, 1) := by decide +kernel
theorem dX6_compile_71 : decode cX6_compile 71 = .ok (.iastore, 1) := by decide +kernel
theorem dX6_compile_72 : decode cX6_compile 72 = .ok (.aload_n 0, 1) := by decide +kernel
theorem dX6_compile_73 : decode cX6_compile 73 = .ok (.dup, 1) := by decide +kernel
theorem dX6_compile_74 : decode cX6_compile 74 = .ok (.getfield 230, 3) := by decide +kernel
theorem dX6_compile_77 : decode cX6_compile 77 = .ok (.aload_n 0, 1) := by decide +kernel
theorem dX6_compile_78 : decode cX6_compile 78 = .ok (.getfield 31, 3) := by decide +kernel
theorem dX6_compile_81 : decode cX6_compile 81 = .ok (.iload_n 1, 1) := by decide +kernel
theorem dX6_compile_82 : decode cX6_compile 82 = .ok (.iaload, 1) := by decide +kernel
theorem dX6_compile_83 : decode cX6_compile 83 = .ok (.ifCond .lt 7, 3) := by decide +kernel
theorem dX6_compile_86 : decode cX6_compile 86 = .ok (.iconst 1, 1) := by decide +kernel
theorem dX6_compile_87 : decode cX6_compile 87 = .ok (.goto 4, 3) := by decide +kernel
theorem dX6_compile_90 : decode cX6_compile 90 = .ok (.iconst 0, 1) := by decide +kernel
theorem dX6_compile_91 : decode cX6_compile 91 = .ok (.iadd, 1) := by decide +kernel
theorem dX6_compile_92 : decode cX6_compile 92 = .ok (.putfield 230, 3) := by decide +kernel
theorem dX6_compile_95 : decode cX6_compile 95 = .ok (.iinc 1 1, 3) := by decide +kernel
theorem dX6_compile_98 : decode cX6_compile 98 = .ok (.goto (-56), 3) := by decide +kernel
theorem dX6_compile_101 : decode cX6_compile 101 = .ok (.iconst 0, 1) := by decide +kernel
theorem dX6_compile_102 : decode cX6_compile 102 = .ok (.istore_n 1, 1) := by decide +kernel
theorem dX6_compile_103 : decode cX6_compile 103 = .ok (.iload_n 1, 1) := by decide +kernel
theorem dX6_compile_104 : decode cX6_compile 104 = .ok (.aload_n 0, 1) := by decide +kernel
theorem dX6_compile_105 : decode cX6_compile 105 = .ok (.getfield 121, 3) := by decide +kernel
theorem dX6_compile_108 : decode cX6_compile 108 = .ok (.if_icmp .ge 58, 3) := by decide +kernel
theorem dX6_compile_111 : decode cX6_compile 111 = .ok (.aload_n 0, 1) := by decide +kernel
theorem dX6_compile_112 : decode cX6_compile 112 = .ok (.getfield 19, 3) := by decide +kernel
theorem dX6_compile_115 : decode cX6_compile 115 = .ok (.iload_n 1, 1) := by decide +kernel
theorem dX6_compile_116 : decode cX6_compile 116 = .ok (.aload_n 0, 1) := by decide +kernel
theorem dX6_compile_117 : decode cX6_compile 117 = .ok (.getfield 13, 3) := by decide +kernel
theorem dX6_compile_120 : decode cX6_compile 120 = .ok (.iload_n 1, 1) := by decide +kernel
theorem dX6_compile_121 : decode cX6_compile 121 = .ok (.iaload, 1) := by decide +kernel
theorem dX6_compile_122 : decode cX6_compile 122 = .ok (.iastore, 1) := by decide +kernel
theorem dX6_compile_123 : decode cX6_compile 123 = .ok (.aload_n 0, 1) := by decide +kernel
theorem dX6_compile_124 : decode cX6_compile 124 = .ok (.getfield 22, 3) := by decide +kernel
theorem dX6_compile_127 : decode cX6_compile 127 = .ok (.iload_n 1, 1) := by decide +kernel
theorem dX6_compile_128 : decode cX6_compile 128 = .ok (.aload_n 0, 1) := by decide +kernel
theorem dX6_compile_129 : decode cX6_compile 129 = .ok (.getfield 13, 3) := by decide +kernel
theorem dX6_compile_132 : decode cX6_compile 132 = .ok (.iload_n 1, 1) := by decide +kernel
theorem dX6_compile_133 : decode cX6_compile 133 = .ok (.iaload, 1) := by decide +kernel
theorem dX6_compile_134 : decode cX6_compile 134 = .ok (.bipush 7, 2) := by decide +kernel
theorem dX6_compile_136 : decode cX6_compile 136 = .ok (.if_icmp .ne 17, 3) := by decide +kernel
theorem dX6_compile_139 : decode cX6_compile 139 = .ok (.aload_n 0, 1) := by decide +kernel
theorem dX6_compile_140 : decode cX6_compile 140 = .ok (.getfield 40, 3) := by decide +kernel
theorem dX6_compile_143 : decode cX6_compile 143 = .ok (.aload_n 0, 1) := by decide +kernel
theorem dX6_compile_144 : decode cX6_compile 144 = .ok (.getfield 16, 3) := by decide +kernel
theorem dX6_compile_147 : decode cX6_compile 147 = .ok (.iload_n 1, 1) := by decide +kernel
theorem dX6_compile_148 : decode cX6_compile 148 = .ok (.iaload, 1) := by decide +kernel
theorem dX6_compile_149 : decode cX6_compile 149 = .ok (.iaload, 1) := by decide +kernel
theorem dX6_compile_150 : decode cX6_compile 150 = .ok (.goto 9, 3) := by decide +kernel
theorem dX6_compile_153 : decode cX6_compile 153 = .ok (.aload_n 0, 1) := by decide +kernel
theorem dX6_compile_154 : decode cX6_compile 154 = .ok (.getfield 16, 3) := by decide +kernel
theorem dX6_compile_157 : decode cX6_compile 157 = .ok (.iload_n 1, 1) := by decide +kernel
theorem dX6_compile_158 : decode cX6_compile 158 = .ok (.iaload, 1) := by decide +kernel
theorem dX6_compile_159 : decode cX6_compile 159 = .ok (.iastore, 1) := by decide +kernel
theorem dX6_compile_160 : decode cX6_compile 160 = .ok (.iinc 1 1, 3) := by decide +kernel
theorem dX6_compile_163 : decode cX6_compile 163 = .ok (.goto (-60), 3) := by decide +kernel
theorem dX6_compile_166 : decode cX6_compile 166 = .ok (.aload_n 0, 1) := by decide +kernel
theorem dX6_compile_167 : decode cX6_compile 167 = .ok (.iconst 0, 1) := by decide +kernel
theorem dX6_compile_168 : decode cX6_compile 168 = .ok (.putfield 233, 3) := by decide +kernel
theorem dX6_compile_171 : decode cX6_compile 171 = .ok (.aload_n 0, 1) := by decide +kernel
theorem dX6_compile_172 : decode cX6_compile 172 = .ok (.invokevirtual 236, 3) := by decide +kernel
theorem dX6_compile_175 : decode cX6_compile 175 = .ok (.aload_n 0, 1) := by decide +kernel
theorem dX6_compile_176 : decode cX6_compile 176 = .ok (.getfield 230, 3) := by decide +kernel
theorem dX6_compile_179 : decode cX6_compile 179 = .ok (.ireturn, 1) := by decide +kernel
theorem dX6_enter_0 : decode cX6_enter 0 = .ok (.aload_n 0, 1) := by decide +kernel
theorem dX6_enter_1 : decode cX6_enter 1 = .ok (.getfield 88, 3) := by decide +kernel
theorem dX6_enter_4 : decode cX6_enter 4 = .ok (.aload_n 0, 1) := by decide +kernel
theorem dX6_enter_5 : decode cX6_enter 5 = .ok (.getfield 221, 3) := by decide +kernel
theorem dX6_enter_8 : decode cX6_enter 8 = .ok (.iload_n 2, 1) := by decide +kernel
theorem dX6_enter_9 : decode cX6_enter 9 = .ok (.iastore, 1) := by decide +kernel
theorem dX6_enter_10 : decode cX6_enter 10 = .ok (.aload_n 0, 1) := by decide +kernel
theorem dX6_enter_11 : decode cX6_enter 11 = .ok (.getfield 91, 3) := by decide +kernel
theorem dX6_enter_14 : decode cX6_enter 14 = .ok (.aload_n 0, 1) := by decide +kernel
theorem dX6_enter_15 : decode cX6_enter 15 = .ok (.getfield 221, 3) := by decide +kernel
theorem dX6_enter_18 : decode cX6_enter 18 = .ok (.aload_n 0, 1) := by decide +kernel
theorem dX6_enter_19 : decode cX6_enter 19 = .ok (.getfield 224, 3) := by decide +kernel
theorem dX6_enter_22 : decode cX6_enter 22 = .ok (.iastore, 1) := by decide +kernel
theorem dX6_enter_23 : decode cX6_enter 23 = .ok (.iconst 0, 1) := by decide +kernel
theorem dX6_enter_24 : decode cX6_enter 24 = .ok (.istore_n 3, 1) := by decide +kernel
theorem dX6_enter_25 : decode cX6_enter 25 = .ok (.iload_n 3, 1) := by decide +kernel
theorem dX6_enter_26 : decode cX6_enter 26 = .ok (.bipush 8, 2) := by decide +kernel
theorem dX6_enter_28 : decode cX6_enter 28 = .ok (.if_icmp .ge 24, 3) := by decide +kernel
theorem dX6_enter_31 : decode cX6_enter 31 = .ok (.aload_n 0, 1) := by decide +kernel
theorem dX6_enter_32 : decode cX6_enter 32 = .ok (.getfield 85, 3) := by decide +kernel
theorem dX6_enter_35 : decode cX6_enter 35 = .ok (.bipush 8, 2) := by decide +kernel
theorem dX6_enter_37 : decode cX6_enter 37 = .ok (.aload_n 0, 1) := by decide +kernel
theorem dX6_enter_38 : decode cX6_enter 38 = .ok (.getfield 221, 3) := by decide +kernel
theorem dX6_enter_41 : decode cX6_enter 41 = .ok (.imul, 1) := by decide +kernel
theorem dX6_enter_42 : decode cX6_enter 42 = .ok (.iload_n 3, 1) := by decide +kernel
theorem dX6_enter_43 : decode cX6_enter 43 = .ok (.iadd, 1) := by decide +kernel
theorem dX6_enter_44 : decode cX6_enter 44 = .ok (.iconst 0, 1) := by decide +kernel
theorem dX6_enter_45 : decode cX6_enter 45 = .ok (.iastore, 1) := by decide +kernel
theorem dX6_enter_46 : decode cX6_enter 46 = .ok (.iinc 3 1, 3) := by decide +kernel
theorem dX6_enter_49 : decode cX6_enter 49 = .ok (.goto (-24), 3) := by decide +kernel
theorem dX6_enter_52 : decode cX6_enter 52 = .ok (.aload_n 0, 1) := by decide +kernel
theorem dX6_enter_53 : decode cX6_enter 53 = .ok (.dup, 1) := by decide +kernel
theorem dX6_enter_54 : decode cX6_enter 54 = .ok (.getfield 221, 3) := by decide +kernel
theorem dX6_enter_57 : decode cX6_enter 57 = .ok (.iconst 1, 1) := by decide +kernel
theorem dX6_enter_58 : decode cX6_enter 58 = .ok (.iadd, 1) := by decide +kernel
theorem dX6_enter_59 : decode cX6_enter 59 = .ok (.putfield 221, 3) := by decide +kernel
theorem dX6_enter_62 : decode cX6_enter 62 = .ok (.aload_n 0, 1) := by decide +kernel
theorem dX6_enter_63 : decode cX6_enter 63 = .ok (.aload_n 0, 1) := by decide +kernel
theorem dX6_enter_64 : decode cX6_enter 64 = .ok (.getfield 31, 3) := by decide +kernel
theorem dX6_enter_67 : decode cX6_enter 67 = .ok (.iload_n 1, 1) := by decide +kernel
theorem dX6_enter_68 : decode cX6_enter 68 = .ok (.iaload, 1) := by decide +kernel
theorem dX6_enter_69 : decode cX6_enter 69 = .ok (.putfield 239, 3) := by decide +kernel
theorem dX6_enter_72 : decode cX6_enter 72 = .ok (.return_, 1) := by decide +kernel
theorem dX6_start_0 : decode cX6_start 0 = .ok (.aload_n 0, 1) := by decide +kernel
theorem dX6_start_1 : decode cX6_start 1 = .ok (.aload_n 0, 1) := by decide +kernel
theorem dX6_start_2 : decode cX6_start 2 = .ok (.getfield 230, 3) := by decide +kernel
theorem dX6_start_5 : decode cX6_start 5 = .ok (.ifCond .ne 7, 3) := by decide +kernel
theorem dX6_start_8 : decode cX6_start 8 = .ok (.iconst 1, 1) := by decide +kernel
theorem dX6_start_9 : decode cX6_start 9 = .ok (.goto 4, 3) := by decide +kernel
theorem dX6_start_12 : decode cX6_start 12 = .ok (.iconst 0, 1) := by decide +kernel
theorem dX6_start_13 : decode cX6_start 13 = .ok (.putfield 97, 3) := by decide +kernel
theorem dX6_start_16 : decode cX6_start 16 = .ok (.aload_n 0, 1) := by decide +kernel
theorem dX6_start_17 : decode cX6_start 17 = .ok (.getfield 97, 3) := by decide +kernel
theorem dX6_start_20 : decode cX6_start 20 = .ok (.ifCond .le 5, 3) := by decide +kernel
theorem dX6_start_23 : decode cX6_start 23 = .ok (.iconst 0, 1) := by decide +kernel
theorem dX6_start_24 : decode cX6_start 24 = .ok (.ireturn, 1) := by decide +kernel
theorem dX6_start_25 : decode cX6_start 25 = .ok (.aload_n 0, 1) := by decide +kernel
theorem dX6_start_26 : decode cX6_start 26 = .ok (.invokevirtual 236, 3) := by decide +kernel
theorem dX6_start_29 : decode cX6_start 29 = .ok (.aload_n 0, 1) := by decide +kernel
theorem dX6_start_30 : decode cX6_start 30 = .ok (.iconst 0, 1) := by decide +kernel
theorem dX6_start_31 : decode cX6_start 31 = .ok (.iconst 0, 1) := by decide +kernel
theorem dX6_start_32 : decode cX6_start 32 = .ok (.invokevirtual 242, 3) := by decide +kernel
theorem dX6_start_35 : decode cX6_start 35 = .ok (.aload_n 0, 1) := by decide +kernel
theorem dX6_start_36 : decode cX6_start 36 = .ok (.iconst 1, 1) := by decide +kernel
theorem dX6_start_37 : decode cX6_start 37 = .ok (.putfield 233, 3) := by decide +kernel
theorem dX6_start_40 : decode cX6_start 40 = .ok (.iconst 1, 1) := by decide +kernel
theorem dX6_start_41 : decode cX6_start 41 = .ok (.ireturn, 1) := by decide +kernel
theorem dX6_key_0 : decode cX6_key 0 = .ok (.aload_n 0, 1) := by decide +kernel
theorem dX6_key_1 : decode cX6_key 1 = .ok (.iload_n 1, 1) := by decide +kernel
theorem dX6_key_2 : decode cX6_key 2 = .ok (.sipush (-32768), 3) := by decide +kernel
theorem dX6_key_5 : decode cX6_key 5 = .ok (.if_icmp .lt 10, 3) := by decide +kernel
theorem dX6_key_8 : decode cX6_key 8 = .ok (.iload_n 1, 1) := by decide +kernel
theorem dX6_key_9 : decode cX6_key 9 = .ok (.sipush 32767, 3) := by decide +kernel
theorem dX6_key_12 : decode cX6_key 12 = .ok (.if_icmp .le 7, 3) := by decide +kernel
theorem dX6_key_15 : decode cX6_key 15 = .ok (.iconst 1, 1) := by decide +kernel
theorem dX6_key_16 : decode cX6_key 16 = .ok (.goto 17, 3) := by decide +kernel
theorem dX6_key_19 : decode cX6_key 19 = .ok (.aload_n 0, 1) := by decide +kernel
theorem dX6_key_20 : decode cX6_key 20 = .ok (.getfield 245, 3) := by decide +kernel
theorem dX6_key_23 : decode cX6_key 23 = .ok (.bipush 8, 2) := by decide +kernel
theorem dX6_key_25 : decode cX6_key 25 = .ok (.if_icmp .ne 7, 3) := by decide +kernel
theorem dX6_key_28 : decode cX6_key 28 = .ok (.iconst 2, 1) := by decide +kernel
theorem dX6_key_29 : decode cX6_key 29 = .ok (.goto 4, 3) := by decide +kernel
theorem dX6_key_32 : decode cX6_key 32 = .ok (.iconst 0, 1) := by decide +kernel
theorem dX6_key_33 : decode cX6_key 33 = .ok (.putfield 97, 3) := by decide +kernel
theorem dX6_key_36 : decode cX6_key 36 = .ok (.aload_n 0, 1) := by decide +kernel
theorem dX6_key_37 : decode cX6_key 37 = .ok (.getfield 97, 3) := by decide +kernel
theorem dX6_key_40 : decode cX6_key 40 = .ok (.ifCond .ne 23, 3) := by decide +kernel
theorem dX6_key_43 : decode cX6_key 43 = .ok (.aload_n 0, 1) := by decide +kernel
theorem dX6_key_44 : decode cX6_key 44 = .ok (.getfield 79, 3) := by decide +kernel
theorem dX6_key_47 : decode cX6_key 47 = .ok (.aload_n 0, 1) := by decide +kernel
theorem dX6_key_48 : decode cX6_key 48 = .ok (.getfield 245, 3) := by decide +kernel
theorem dX6_key_51 : decode cX6_key 51 = .ok (.iload_n 1, 1) := by decide +kernel
theorem dX6_key_52 : decode cX6_key 52 = .ok (.iastore, 1) := by decide +kernel
theorem dX6_key_53 : decode cX6_key 53 = .ok (.aload_n 0, 1) := by decide +kernel
theorem dX6_key_54 : decode cX6_key 54 = .ok (.dup, 1) := by decide +kernel
theorem dX6_key_55 : decode cX6_key 55 = .ok (.getfield 245, 3) := by decide +kernel
theorem dX6_key_58 : decode cX6_key 58 = .ok (.iconst 1, 1) := by decide +kernel
theorem dX6_key_59 : decode cX6_key 59 = .ok (.iadd, 1) := by decide +kernel
theorem dX6_key_60 : decode cX6_key 60 = .ok (.putfield 245, 3) := by decide +kernel
theorem dX6_key_63 : decode cX6_key 63 = .ok (.aload_n 0, 1) := by decide +kernel
theorem dX6_key_64 : decode cX6_key 64 = .ok (.getfield 245, 3) := by decide +kernel
theorem dX6_key_67 : decode cX6_key 67 = .ok (.ireturn, 1) := by decide +kernel
theorem dX6_wrap_0 : decode cX6_wrap 0 = .ok (.iload_n 0, 1) := by decide +kernel
theorem dX6_wrap_1 : decode cX6_wrap 1 = .ok (.bipush 16, 2) := by decide +kernel
theorem dX6_wrap_3 : decode cX6_wrap 3 = .ok (.ishl, 1) := by decide +kernel
theorem dX6_wrap_4 : decode cX6_wrap 4 = .ok (.bipush 16, 2) := by decide +kernel
theorem dX6_wrap_6 : decode cX6_wrap 6 = .ok (.ishr, 1) := by decide +kernel
theorem dX6_wrap_7 : decode cX6_wrap 7 = .ok (.ireturn, 1) := by decide +kernel
theorem dX6_push_0 : decode cX6_push 0 = .ok (.aload_n 0, 1) := by decide +kernel
theorem dX6_push_1 : decode cX6_push 1 = .ok (.getfield 94, 3) := by decide +kernel
theorem dX6_push_4 : decode cX6_push 4 = .ok (.aload_n 0, 1) := by decide +kernel
theorem dX6_push_5 : decode cX6_push 5 = .ok (.getfield 224, 3) := by decide +kernel
theorem dX6_push_8 : decode cX6_push 8 = .ok (.iload_n 1, 1) := by decide +kernel
theorem dX6_push_9 : decode cX6_push 9 = .ok (.invokestatic 248, 3) := by decide +kernel
theorem dX6_push_12 : decode cX6_push 12 = .ok (.iastore, 1) := by decide +kernel
theorem dX6_push_13 : decode cX6_push 13 = .ok (.aload_n 0, 1) := by decide +kernel
theorem dX6_push_14 : decode cX6_push 14 = .ok (.dup, 1) := by decide +kernel
theorem dX6_push_15 : decode cX6_push 15 = .ok (.getfield 224, 3) := by decide +kernel
theorem dX6_push_18 : decode cX6_push 18 = .ok (.iconst 1, 1) := by decide +kernel
theorem dX6_push_19 : decode cX6_push 19 = .ok (.iadd, 1) := by decide +kernel
theorem dX6_push_20 : decode cX6_push 20 = .ok (.putfield 224, 3) := by decide +kernel
theorem dX6_push_23 : decode cX6_push 23 = .ok (.return_, 1) := by decide +kernel
theorem dX6_pop_0 : decode cX6_pop 0 = .ok (.aload_n 0, 1) := by decide +kernel
theorem dX6_pop_1 : decode cX6_pop 1 = .ok (.dup, 1) := by decide +kernel
theorem dX6_pop_2 : decode cX6_pop 2 = .ok (.getfield 224, 3) := by decide +kernel
theorem dX6_pop_5 : decode cX6_pop 5 = .ok (.iconst 1, 1) := by decide +kernel
theorem dX6_pop_6 : decode cX6_pop 6 = .ok (.isub, 1) := by decide +kernel
theorem dX6_pop_7 : decode cX6_pop 7 = .ok (.putfield 224, 3) := by decide +kernel
theorem dX6_pop_10 : decode cX6_pop 10 = .ok (.aload_n 0, 1) := by decide +kernel
theorem dX6_pop_11 : decode cX6_pop 11 = .ok (.getfield 94, 3) := by decide +kernel
theorem dX6_pop_14 : decode cX6_pop 14 = .ok (.aload_n 0, 1) := by decide +kernel
theorem dX6_pop_15 : decode cX6_pop 15 = .ok (.getfield 224, 3) := by decide +kernel
theorem dX6_pop_18 : decode cX6_pop 18 = .ok (.iaload, 1) := by decide +kernel
theorem dX6_pop_19 : decode cX6_pop 19 = .ok (.ireturn, 1) := by decide +kernel
theorem dX6_reads_0 : decode cX6_reads 0 = .ok (.aload_n 0, 1) := by decide +kernel
theorem dX6_reads_1 : decode cX6_reads 1 = .ok (.getfield 245, 3) := by decide +kernel
theorem dX6_reads_4 : decode cX6_reads 4 = .ok (.ifCond .ne 19, 3) := by decide +kernel
theorem dX6_reads_7 : decode cX6_reads 7 = .ok (.aload_n 0, 1) := by decide +kernel
theorem dX6_reads_8 : decode cX6_reads 8 = .ok (.iconst 2, 1) := by decide +kernel
theorem dX6_reads_9 : decode cX6_reads 9 = .ok (.putfield 233, 3) := by decide +kernel
theorem dX6_reads_12 : decode cX6_reads 12 = .ok (.aload_n 0, 1) := by decide +kernel
theorem dX6_reads_13 : decode cX6_reads 13 = .ok (.dup, 1) := by decide +kernel
theorem dX6_reads_14 : decode cX6_reads 14 = .ok (.getfield 239, 3) := by decide +kernel
theorem dX6_reads_17 : decode cX6_reads 17 = .ok (.iconst 1, 1) := by decide +kernel
theorem dX6_reads_18 : decode cX6_reads 18 = .ok (.isub, 1) := by decide +kernel
theorem dX6_reads_19 : decode cX6_reads 19 = .ok (.putfield 239, 3) := by decide +kernel
theorem dX6_reads_22 : decode cX6_reads 22 = .ok (.return_, 1) := by decide +kernel
theorem dX6_reads_23 : decode cX6_reads 23 = .ok (.aload_n 0, 1) := by decide +kernel
theorem dX6_reads_24 : decode cX6_reads 24 = .ok (.aload_n 0, 1) := by decide +kernel
theorem dX6_reads_25 : decode cX6_reads 25 = .ok (.getfield 79, 3) := by decide +kernel
theorem dX6_reads_28 : decode cX6_reads 28 = .ok (.iconst 0, 1) := by decide +kernel
theorem dX6_reads_29 : decode cX6_reads 29 = .ok (.iaload, 1) := by decide +kernel
theorem dX6_reads_30 : decode cX6_reads 30 = .ok (.invokevirtual 251, 3) := by decide +kernel
theorem dX6_reads_33 : decode cX6_reads 33 = .ok (.aload_n 0, 1) := by decide +kernel
theorem dX6_reads_34 : decode cX6_reads 34 = .ok (.dup, 1) := by decide +kernel
theorem dX6_reads_35 : decode cX6_reads 35 = .ok (.getfield 245, 3) := by decide +kernel
theorem dX6_reads_38 : decode cX6_reads 38 = .ok (.iconst 1, 1) := by decide +kernel
theorem dX6_reads_39 : decode cX6_reads 39 = .ok (.isub, 1) := by decide +kernel
theorem dX6_reads_40 : decode cX6_reads 40 = .ok (.putfield 245, 3) := by decide +kernel
theorem dX6_reads_43 : decode cX6_reads 43 = .ok (.iconst 0, 1) := by decide +kernel
theorem dX6_reads_44 : decode cX6_reads 44 = .ok (.istore_n 1, 1) := by decide +kernel
theorem dX6_reads_45 : decode cX6_reads 45 = .ok (.iload_n 1, 1) := by decide +kernel
theorem dX6_reads_46 : decode cX6_reads 46 = .ok (.aload_n 0, 1) := by decide +kernel
theorem dX6_reads_47 : decode cX6_reads 47 = .ok (.getfield 245, 3) := by decide +kernel
theorem dX6_reads_50 : decode cX6_reads 50 = .ok (.if_icmp .ge 23, 3) := by decide +kernel
theorem dX6_reads_53 : decode cX6_reads 53 = .ok (.aload_n 0, 1) := by decide +kernel
theorem dX6_reads_54 : decode cX6_reads 54 = .ok (.getfield 79, 3) := by decide +kernel
theorem dX6_reads_57 : decode cX6_reads 57 = .ok (.iload_n 1, 1) := by decide +kernel
theorem dX6_reads_58 : decode cX6_reads 58 = .ok (.aload_n 0, 1) := by decide +kernel
theorem dX6_reads_59 : decode cX6_reads 59 = .ok (.getfield 79, 3) := by decide +kernel
theorem dX6_reads_62 : decode cX6_reads 62 = .ok (.iload_n 1, 1) := by decide +kernel
theorem dX6_reads_63 : decode cX6_reads 63 = .ok (.iconst 1, 1) := by decide +kernel
theorem dX6_reads_64 : decode cX6_reads 64 = .ok (.iadd, 1) := by decide +kernel
theorem dX6_reads_65 : decode cX6_reads 65 = .ok (.iaload, 1) := by decide +kernel
theorem dX6_reads_66 : decode cX6_reads 66 = .ok (.iastore, 1) := by decide +kernel
theorem dX6_reads_67 : decode cX6_reads 67 = .ok (.iinc 1 1, 3) := by decide +kernel
theorem dX6_reads_70 : decode cX6_reads 70 = .ok (.goto (-25), 3) := by decide +kernel
theorem dX6_reads_73 : decode cX6_reads 73 = .ok (.return_, 1) := by decide +kernel
theorem dX6_operates_0 : decode cX6_operates 0 = .ok (.aload_n 0, 1) := by decide +kernel
theorem dX6_operates_1 : decode cX6_operates 1 = .ok (.invokevirtual 254, 3) := by decide +kernel
theorem dX6_operates_4 : decode cX6_operates 4 = .ok (.istore_n 2, 1) := by decide +kernel
theorem dX6_operates_5 : decode cX6_operates 5 = .ok (.aload_n 0, 1) := by decide +kernel
theorem dX6_operates_6 : decode cX6_operates 6 = .ok (.invokevirtual 254, 3) := by decide +kernel
theorem dX6_operates_9 : decode cX6_operates 9 = .ok (.istore_n 3, 1) := by decide +kernel
theorem dX6_operates_10 : decode cX6_operates 10 = .ok (.iload_n 1, 1) := by decide +kernel
theorem dX6_operates_11 : decode cX6_operates 11 = .ok (.bipush 16, 2) := by decide +kernel
theorem dX6_operates_13 : decode cX6_operates 13 = .ok (.if_icmp .eq 9, 3) := by decide +kernel
theorem dX6_operates_16 : decode cX6_operates 16 = .ok (.iload_n 1, 1) := by decide +kernel
theorem dX6_operates_17 : decode cX6_operates 17 = .ok (.bipush 17, 2) := by decide +kernel
theorem dX6_operates_19 : decode cX6_operates 19 = .ok (.if_icmp .ne 13, 3) := by decide +kernel
theorem dX6_operates_22 : decode cX6_operates 22 = .ok (.iload_n 2, 1) := by decide +kernel
theorem dX6_operates_23 : decode cX6_operates 23 = .ok (.ifCond .ne 9, 3) := by decide +kernel
theorem dX6_operates_26 : decode cX6_operates 26 = .ok (.aload_n 0, 1) := by decide +kernel
theorem dX6_operates_27 : decode cX6_operates 27 = .ok (.iconst 4, 1) := by decide +kernel
theorem dX6_operates_28 : decode cX6_operates 28 = .ok (.putfield 233, 3) := by decide +kernel
theorem dX6_operates_31 : decode cX6_operates 31 = .ok (.return_, 1) := by decide +kernel
theorem dX6_operates_32 : decode cX6_operates 32 = .ok (.aload_n 0, 1) := by decide +kernel
theorem dX6_operates_33 : decode cX6_operates 33 = .ok (.iload_n 1, 1) := by decide +kernel
theorem dX6_operates_34 : decode cX6_operates 34 = .ok (.bipush 13, 2) := by decide +kernel
theorem dX6_operates_36 : decode cX6_operates 36 = .ok (.if_icmp .ne 9, 3) := by decide +kernel
theorem dX6_operates_39 : decode cX6_operates 39 = .ok (.iload_n 3, 1) := by decide +kernel
theorem dX6_operates_40 : decode cX6_operates 40 = .ok (.iload_n 2, 1) := by decide +kernel
theorem dX6_operates_41 : decode cX6_operates 41 = .ok (.iadd, 1) := by decide +kernel
theorem dX6_operates_42 : decode cX6_operates 42 = .ok (.goto 80, 3) := by decide +kernel
theorem dX6_operates_45 : decode cX6_operates 45 = .ok (.iload_n 1, 1) := by decide +kernel
theorem dX6_operates_46 : decode cX6_operates 46 = .ok (.bipush 14, 2) := by decide +kernel
theorem dX6_operates_48 : decode cX6_operates 48 = .ok (.if_icmp .ne 9, 3) := by decide +kernel
theorem dX6_operates_51 : decode cX6_operates 51 = .ok (.iload_n 3, 1) := by decide +kernel
theorem dX6_operates_52 : decode cX6_operates 52 = .ok (.iload_n 2, 1) := by decide +kernel
theorem dX6_operates_53 : decode cX6_operates 53 = .ok (.isub, 1) := by decide +kernel
theorem dX6_operates_54 : decode cX6_operates 54 = .ok (.goto 68, 3) := by decide +kernel
theorem dX6_operates_57 : decode cX6_operates 57 = .ok (.iload_n 1, 1) := by decide +kernel
theorem dX6_operates_58 : decode cX6_operates 58 = .ok (.bipush 15, 2) := by decide +kernel
theorem dX6_operates_60 : decode cX6_operates 60 = .ok (.if_icmp .ne 9, 3) := by decide +kernel
theorem dX6_operates_63 : decode cX6_operates 63 = .ok (.iload_n 3, 1) := by decide +kernel
theorem dX6_operates_64 : decode cX6_operates 64 = .ok (.iload_n 2, 1) := by decide +kernel
theorem dX6_operates_65 : decode cX6_operates 65 = .ok (.imul, 1) := by decide +kernel
theorem dX6_operates_66 : decode cX6_operates 66 = .ok (.goto 56, 3) := by decide +kernel
theorem dX6_operates_69 : decode cX6_operates 69 = .ok (.iload_n 1, 1) := by decide +kernel
theorem dX6_operates_70 : decode cX6_operates 70 = .ok (.bipush 16, 2) := by decide +kernel
theorem dX6_operates_72 : decode cX6_operates 72 = .ok (.if_icmp .ne 9, 3) := by decide +kernel
theorem dX6_operates_75 : decode cX6_operates 75 = .ok (.iload_n 3, 1) := by decide +kernel
theorem dX6_operates_76 : decode cX6_operates 76 = .ok (.iload_n 2, 1) := by decide +kernel
theorem dX6_operates_77 : decode cX6_operates 77 = .ok (.idiv, 1) := by decide +kernel
theorem dX6_operates_78 : decode cX6_operates 78 = .ok (.goto 44, 3) := by decide +kernel
theorem dX6_operates_81 : decode cX6_operates 81 = .ok (.iload_n 1, 1) := by decide +kernel
theorem dX6_operates_82 : decode cX6_operates 82 = .ok (.bipush 17, 2) := by decide +kernel
theorem dX6_operates_84 : decode cX6_operates 84 = .ok (.if_icmp .ne 9, 3) := by decide +kernel
theorem dX6_operates_87 : decode cX6_operates 87 = .ok (.iload_n 3, 1) := by decide +kernel
theorem dX6_operates_88 : decode cX6_operates 88 = .ok (.iload_n 2, 1) := by decide +kernel
theorem dX6_operates_89 : decode cX6_operates 89 = .ok (.irem, 1) := by decide +kernel
theorem dX6_operates_90 : decode cX6_operates 90 = .ok (.goto 32, 3) := by decide +kernel
theorem dX6_operates_93 : decode cX6_operates 93 = .ok (.iload_n 1, 1) := by decide +kernel
theorem dX6_operates_94 : decode cX6_operates 94 = .ok (.bipush 18, 2) := by decide +kernel
theorem dX6_operates_96 : decode cX6_operates 96 = .ok (.if_icmp .ne 16, 3) := by decide +kernel
theorem dX6_operates_99 : decode cX6_operates 99 = .ok (.iload_n 3, 1) := by decide +kernel
theorem dX6_operates_100 : decode cX6_operates 100 = .ok (.iload_n 2, 1) := by decide +kernel
theorem dX6_operates_101 : decode cX6_operates 101 = .ok (.if_icmp .ge 7, 3) := by decide +kernel
theorem dX6_operates_104 : decode cX6_operates 104 = .ok (.iconst 1, 1) := by decide +kernel
theorem dX6_operates_105 : decode cX6_operates 105 = .ok (.goto 17, 3) := by decide +kernel
theorem dX6_operates_108 : decode cX6_operates 108 = .ok (.iconst 0, 1) := by decide +kernel
theorem dX6_operates_109 : decode cX6_operates 109 = .ok (.goto 13, 3) := by decide +kernel
theorem dX6_operates_112 : decode cX6_operates 112 = .ok (.iload_n 3, 1) := by decide +kernel
theorem dX6_operates_113 : decode cX6_operates 113 = .ok (.iload_n 2, 1) := by decide +kernel
theorem dX6_operates_114 : decode cX6_operates 114 = .ok (.if_icmp .ne 7, 3) := by decide +kernel
theorem dX6_operates_117 : decode cX6_operates 117 = .ok (.iconst 1, 1) := by decide +kernel
theorem dX6_operates_118 : decode cX6_operates 118 = .ok (.goto 4, 3) := by decide +kernel
theorem dX6_operates_121 : decode cX6_operates 121 = .ok (.iconst 0, 1) := by decide +kernel
theorem dX6_operates_122 : decode cX6_operates 122 = .ok (.invokevirtual 251, 3) := by decide +kernel
theorem dX6_operates_125 : decode cX6_operates 125 = .ok (.return_, 1) := by decide +kernel
theorem dX6_calls_0 : decode cX6_calls 0 = .ok (.aload_n 0, 1) := by decide +kernel
theorem dX6_calls_1 : decode cX6_calls 1 = .ok (.getfield 221, 3) := by decide +kernel
theorem dX6_calls_4 : decode cX6_calls 4 = .ok (.bipush 10, 2) := by decide +kernel
theorem dX6_calls_6 : decode cX6_calls 6 = .ok (.if_icmp .ne 10, 3) := by decide +kernel
theorem dX6_calls_9 : decode cX6_calls 9 = .ok (.aload_n 0, 1) := by decide +kernel
theorem dX6_calls_10 : decode cX6_calls 10 = .ok (.bipush 6, 2) := by decide +kernel
theorem dX6_calls_12 : decode cX6_calls 12 = .ok (.putfield 233, 3) := by decide +kernel
theorem dX6_calls_15 : decode cX6_calls 15 = .ok (.return_, 1) := by decide +kernel
theorem dX6_calls_16 : decode cX6_calls 16 = .ok (.aload_n 0, 1) := by decide +kernel
theorem dX6_calls_17 : decode cX6_calls 17 = .ok (.getfield 34, 3) := by decide +kernel
theorem dX6_calls_20 : decode cX6_calls 20 = .ok (.iload_n 1, 1) := by decide +kernel
theorem dX6_calls_21 : decode cX6_calls 21 = .ok (.iaload, 1) := by decide +kernel
theorem dX6_calls_22 : decode cX6_calls 22 = .ok (.istore_n 2, 1) := by decide +kernel
theorem dX6_calls_23 : decode cX6_calls 23 = .ok (.aload_n 0, 1) := by decide +kernel
theorem dX6_calls_24 : decode cX6_calls 24 = .ok (.getfield 224, 3) := by decide +kernel
theorem dX6_calls_27 : decode cX6_calls 27 = .ok (.iload_n 2, 1) := by decide +kernel
theorem dX6_calls_28 : decode cX6_calls 28 = .ok (.isub, 1) := by decide +kernel
theorem dX6_calls_29 : decode cX6_calls 29 = .ok (.istore_n 3, 1) := by decide +kernel
theorem dX6_calls_30 : decode cX6_calls 30 = .ok (.aload_n 0, 1) := by decide +kernel
theorem dX6_calls_31 : decode cX6_calls 31 = .ok (.iload_n 3, 1) := by decide +kernel
theorem dX6_calls_32 : decode cX6_calls 32 = .ok (.putfield 224, 3) := by decide +kernel
theorem dX6_calls_35 : decode cX6_calls 35 = .ok (.aload_n 0, 1) := by decide +kernel
theorem dX6_calls_36 : decode cX6_calls 36 = .ok (.iload_n 1, 1) := by decide +kernel
theorem dX6_calls_37 : decode cX6_calls 37 = .ok (.aload_n 0, 1) := by decide +kernel
theorem dX6_calls_38 : decode cX6_calls 38 = .ok (.getfield 239, 3) := by decide +kernel
theorem dX6_calls_41 : decode cX6_calls 41 = .ok (.invokevirtual 242, 3) := by decide +kernel
theorem dX6_calls_44 : decode cX6_calls 44 = .ok (.iconst 0, 1) := by decide +kernel
theorem dX6_calls_45 : decode cX6_calls 45 = .ok (.istore 4, 2) := by decide +kernel
theorem dX6_calls_47 : decode cX6_calls 47 = .ok (.iload 4, 2) := by decide +kernel
theorem dX6_calls_49 : decode cX6_calls 49 = .ok (.iload_n 2, 1) := by decide +kernel
theorem dX6_calls_50 : decode cX6_calls 50 = .ok (.if_icmp .ge 35, 3) := by decide +kernel
theorem dX6_calls_53 : decode cX6_calls 53 = .ok (.aload_n 0, 1) := by decide +kernel
theorem dX6_calls_54 : decode cX6_calls 54 = .ok (.getfield 85, 3) := by decide +kernel
theorem dX6_calls_57 : decode cX6_calls 57 = .ok (.bipush 8, 2) := by decide +kernel
theorem dX6_calls_59 : decode cX6_calls 59 = .ok (.aload_n 0, 1) := by decide +kernel
theorem dX6_calls_60 : decode cX6_calls 60 = .ok (.getfield 221, 3) := by decide +kernel
theorem dX6_calls_63 : decode cX6_calls 63 = .ok (.iconst 1, 1) := by decide +kernel
theorem dX6_calls_64 : decode cX6_calls 64 = .ok (.isub, 1) := by decide +kernel
theorem dX6_calls_65 : decode cX6_calls 65 = .ok (.imul, 1) := by decide +kernel
theorem dX6_calls_66 : decode cX6_calls 66 = .ok (.iload 4, 2) := by decide +kernel
theorem dX6_calls_68 : decode cX6_calls 68 = .ok (.iadd, 1) := by decide +kernel
theorem dX6_calls_69 : decode cX6_calls 69 = .ok (.aload_n 0, 1) := by decide +kernel
theorem dX6_calls_70 : decode cX6_calls 70 = .ok (.getfield 94, 3) := by decide +kernel
theorem dX6_calls_73 : decode cX6_calls 73 = .ok (.iload_n 3, 1) := by decide +kernel
theorem dX6_calls_74 : decode cX6_calls 74 = .ok (.iload 4, 2) := by decide +kernel
theorem dX6_calls_76 : decode cX6_calls 76 = .ok (.iadd, 1) := by decide +kernel
theorem dX6_calls_77 : decode cX6_calls 77 = .ok (.iaload, 1) := by decide +kernel
theorem dX6_calls_78 : decode cX6_calls 78 = .ok (.iastore, 1) := by decide +kernel
theorem dX6_calls_79 : decode cX6_calls 79 = .ok (.iinc 4 1, 3) := by decide +kernel
theorem dX6_calls_82 : decode cX6_calls 82 = .ok (.goto (-35), 3) := by decide +kernel
theorem dX6_calls_85 : decode cX6_calls 85 = .ok (.return_, 1) := by decide +kernel
theorem dX6_returns_0 : decode cX6_returns 0 = .ok (.aload_n 0, 1) := by decide +kernel
theorem dX6_returns_1 : decode cX6_returns 1 = .ok (.invokevirtual 254, 3) := by decide +kernel
theorem dX6_returns_4 : decode cX6_returns 4 = .ok (.istore_n 1, 1) := by decide +kernel
theorem dX6_returns_5 : decode cX6_returns 5 = .ok (.aload_n 0, 1) := by decide +kernel
theorem dX6_returns_6 : decode cX6_returns 6 = .ok (.dup, 1) := by decide +kernel
theorem dX6_returns_7 : decode cX6_returns 7 = .ok (.getfield 221, 3) := by decide +kernel
theorem dX6_returns_10 : decode cX6_returns 10 = .ok (.iconst 1, 1) := by decide +kernel
theorem dX6_returns_11 : decode cX6_returns 11 = .ok (.isub, 1) := by decide +kernel
theorem dX6_returns_12 : decode cX6_returns 12 = .ok (.putfield 221, 3) := by decide +kernel
theorem dX6_returns_15 : decode cX6_returns 15 = .ok (.aload_n 0, 1) := by decide +kernel
theorem dX6_returns_16 : decode cX6_returns 16 = .ok (.aload_n 0, 1) := by decide +kernel
theorem dX6_returns_17 : decode cX6_returns 17 = .ok (.getfield 91, 3) := by decide +kernel
theorem dX6_returns_20 : decode cX6_returns 20 = .ok (.aload_n 0, 1) := by decide +kernel
theorem dX6_returns_21 : decode cX6_returns 21 = .ok (.getfield 221, 3) := by decide +kernel
theorem dX6_returns_24 : decode cX6_returns 24 = .ok (.iaload, 1) := by decide +kernel
theorem dX6_returns_25 : decode cX6_returns 25 = .ok (.putfield 224, 3) := by decide +kernel
theorem dX6_returns_28 : decode cX6_returns 28 = .ok (.aload_n 0, 1) := by decide +kernel
theorem dX6_returns_29 : decode cX6_returns 29 = .ok (.getfield 221, 3) := by decide +kernel
theorem dX6_returns_32 : decode cX6_returns 32 = .ok (.ifCond .ne 9, 3) := by decide +kernel
theorem dX6_returns_35 : decode cX6_returns 35 = .ok (.aload_n 0, 1) := by decide +kernel
theorem dX6_returns_36 : decode cX6_returns 36 = .ok (.iconst 3, 1) := by decide +kernel
theorem dX6_returns_37 : decode cX6_returns 37 = .ok (.putfield 233, 3) := by decide +kernel
theorem dX6_returns_40 : decode cX6_returns 40 = .ok (.return_, 1) := by decide +kernel
theorem dX6_returns_41 : decode cX6_returns 41 = .ok (.aload_n 0, 1) := by decide +kernel
theorem dX6_returns_42 : decode cX6_returns 42 = .ok (.aload_n 0, 1) := by decide +kernel
theorem dX6_returns_43 : decode cX6_returns 43 = .ok (.getfield 88, 3) := by decide +kernel
theorem dX6_returns_46 : decode cX6_returns 46 = .ok (.aload_n 0, 1) := by decide +kernel
theorem dX6_returns_47 : decode cX6_returns 47 = .ok (.getfield 221, 3) := by decide +kernel
theorem dX6_returns_50 : decode cX6_returns 50 = .ok (.iaload, 1) := by decide +kernel
theorem dX6_returns_51 : decode cX6_returns 51 = .ok (.putfield 239, 3) := by decide +kernel
theorem dX6_returns_54 : decode cX6_returns 54 = .ok (.aload_n 0, 1) := by decide +kernel
theorem dX6_returns_55 : decode cX6_returns 55 = .ok (.iload_n 1, 1) := by decide +kernel
theorem dX6_returns_56 : decode cX6_returns 56 = .ok (.invokevirtual 251, 3) := by decide +kernel
theorem dX6_returns_59 : decode cX6_returns 59 = .ok (.return_, 1) := by decide +kernel
theorem dX6_place_0 : decode cX6_place 0 = .ok (.iload_n 2, 1) := by decide +kernel
theorem dX6_place_1 : decode cX6_place 1 = .ok (.ifCond .eq 10, 3) := by decide +kernel
theorem dX6_place_4 : decode cX6_place 4 = .ok (.aload_n 0, 1) := by decide +kernel
theorem dX6_place_5 : decode cX6_place 5 = .ok (.invokevirtual 254, 3) := by decide +kernel
theorem dX6_place_8 : decode cX6_place 8 = .ok (.goto 4, 3) := by decide +kernel
theorem dX6_place_11 : decode cX6_place 11 = .ok (.iconst 0, 1) := by decide +kernel
theorem dX6_place_12 : decode cX6_place 12 = .ok (.istore_n 3, 1) := by decide +kernel
theorem dX6_place_13 : decode cX6_place 13 = .ok (.aload_n 0, 1) := by decide +kernel
theorem dX6_place_14 : decode cX6_place 14 = .ok (.invokevirtual 254, 3) := by decide +kernel
theorem dX6_place_17 : decode cX6_place 17 = .ok (.istore 4, 2) := by decide +kernel
theorem dX6_place_19 : decode cX6_place 19 = .ok (.iload 4, 2) := by decide +kernel
theorem dX6_place_21 : decode cX6_place 21 = .ok (.ifCond .lt 10, 3) := by decide +kernel
theorem dX6_place_24 : decode cX6_place 24 = .ok (.iload 4, 2) := by decide +kernel
theorem dX6_place_26 : decode cX6_place 26 = .ok (.bipush 7, 2) := by decide +kernel
theorem dX6_place_28 : decode cX6_place 28 = .ok (.if_icmp .le 11, 3) := by decide +kernel
theorem dX6_place_31 : decode cX6_place 31 = .ok (.aload_n 0, 1) := by decide +kernel
theorem dX6_place_32 : decode cX6_place 32 = .ok (.iconst 5, 1) := by decide +kernel
theorem dX6_place_33 : decode cX6_place 33 = .ok (.putfield 233, 3) := by decide +kernel
theorem dX6_place_36 : decode cX6_place 36 = .ok (.goto 39, 3) := by decide +kernel
theorem dX6_place_39 : decode cX6_place 39 = .ok (.iload_n 2, 1) := by decide +kernel
theorem dX6_place_40 : decode cX6_place 40 = .ok (.ifCond .eq 19, 3) := by decide +kernel
theorem dX6_place_43 : decode cX6_place 43 = .ok (.aload_n 0, 1) := by decide +kernel
theorem dX6_place_44 : decode cX6_place 44 = .ok (.getfield 76, 3) := by decide +kernel
theorem dX6_place_47 : decode cX6_place 47 = .ok (.bipush 8, 2) := by decide +kernel
theorem dX6_place_49 : decode cX6_place 49 = .ok (.iload_n 1, 1) := by decide +kernel
theorem dX6_place_50 : decode cX6_place 50 = .ok (.imul, 1) := by decide +kernel
theorem dX6_place_51 : decode cX6_place 51 = .ok (.iload 4, 2) := by decide +kernel
theorem dX6_place_53 : decode cX6_place 53 = .ok (.iadd, 1) := by decide +kernel
theorem dX6_place_54 : decode cX6_place 54 = .ok (.iload_n 3, 1) := by decide +kernel
theorem dX6_place_55 : decode cX6_place 55 = .ok (.iastore, 1) := by decide +kernel
theorem dX6_place_56 : decode cX6_place 56 = .ok (.goto 19, 3) := by decide +kernel
theorem dX6_place_59 : decode cX6_place 59 = .ok (.aload_n 0, 1) := by decide +kernel
theorem dX6_place_60 : decode cX6_place 60 = .ok (.aload_n 0, 1) := by decide +kernel
theorem dX6_place_61 : decode cX6_place 61 = .ok (.getfield 76, 3) := by decide +kernel
theorem dX6_place_64 : decode cX6_place 64 = .ok (.bipush 8, 2) := by decide +kernel
theorem dX6_place_66 : decode cX6_place 66 = .ok (.iload_n 1, 1) := by decide +kernel
theorem dX6_place_67 : decode cX6_place 67 = .ok (.imul, 1) := by decide +kernel
theorem dX6_place_68 : decode cX6_place 68 = .ok (.iload 4, 2) := by decide +kernel
theorem dX6_place_70 : decode cX6_place 70 = .ok (.iadd, 1) := by decide +kernel
theorem dX6_place_71 : decode cX6_place 71 = .ok (.iaload, 1) := by decide +kernel
theorem dX6_place_72 : decode cX6_place 72 = .ok (.invokevirtual 251, 3) := by decide +kernel
theorem dX6_place_75 : decode cX6_place 75 = .ok (.return_, 1) := by decide +kernel
theorem dX6_prints_0 : decode cX6_prints 0 = .ok (.aload_n 0, 1) := by decide +kernel
theorem dX6_prints_1 : decode cX6_prints 1 = .ok (.getfield 82, 3) := by decide +kernel
theorem dX6_prints_4 : decode cX6_prints 4 = .ok (.aload_n 0, 1) := by decide +kernel
theorem dX6_prints_5 : decode cX6_prints 5 = .ok (.getfield 215, 3) := by decide +kernel
theorem dX6_prints_8 : decode cX6_prints 8 = .ok (.bipush 32, 2) := by decide +kernel
theorem dX6_prints_10 : decode cX6_prints 10 = .ok (.irem, 1) := by decide +kernel
theorem dX6_prints_11 : decode cX6_prints 11 = .ok (.aload_n 0, 1) := by decide +kernel
theorem dX6_prints_12 : decode cX6_prints 12 = .ok (.invokevirtual 254, 3) := by decide +kernel
theorem dX6_prints_15 : decode cX6_prints 15 = .ok (.iastore, 1) := by decide +kernel
theorem dX6_prints_16 : decode cX6_prints 16 = .ok (.aload_n 0, 1) := by decide +kernel
theorem dX6_prints_17 : decode cX6_prints 17 = .ok (.dup, 1) := by decide +kernel
theorem dX6_prints_18 : decode cX6_prints 18 = .ok (.getfield 215, 3) := by decide +kernel
theorem dX6_prints_21 : decode cX6_prints 21 = .ok (.iconst 1, 1) := by decide +kernel
theorem dX6_prints_22 : decode cX6_prints 22 = .ok (.iadd, 1) := by decide +kernel
theorem dX6_prints_23 : decode cX6_prints 23 = .ok (.putfield 215, 3) := by decide +kernel
theorem dX6_prints_26 : decode cX6_prints 26 = .ok (.return_, 1) := by decide +kernel
theorem dX6_does_0 : decode cX6_does 0 = .ok (.bipush 8, 2) := by decide +kernel
theorem dX6_does_2 : decode cX6_does 2 = .ok (.aload_n 0, 1) := by decide +kernel
theorem dX6_does_3 : decode cX6_does 3 = .ok (.getfield 221, 3) := by decide +kernel
theorem dX6_does_6 : decode cX6_does 6 = .ok (.iconst 1, 1) := by decide +kernel
theorem dX6_does_7 : decode cX6_does 7 = .ok (.isub, 1) := by decide +kernel
theorem dX6_does_8 : decode cX6_does 8 = .ok (.imul, 1) := by decide +kernel
theorem dX6_does_9 : decode cX6_does 9 = .ok (.istore_n 3, 1) := by decide +kernel
theorem dX6_does_10 : decode cX6_does 10 = .ok (.iload_n 1, 1) := by decide +kernel
theorem dX6_does_11 : decode cX6_does 11 = .ok (.tableswitch 261 0 16 #[81, 89, 96, 109, 124, 133, 145, 164, 261, 172, 185, 200, 209, 217, 239, 247, 254], 81) := by decide +kernel
theorem dX6_does_92 : decode cX6_does 92 = .ok (.aload_n 0, 1) := by decide +kernel
theorem dX6_does_93 : decode cX6_does 93 = .ok (.iload_n 2, 1) := by decide +kernel
theorem dX6_does_94 : decode cX6_does 94 = .ok (.invokevirtual 251, 3) := by decide +kernel
theorem dX6_does_97 : decode cX6_does 97 = .ok (.goto 183, 3) := by decide +kernel
theorem dX6_does_100 : decode cX6_does 100 = .ok (.aload_n 0, 1) := by decide +kernel
theorem dX6_does_101 : decode cX6_does 101 = .ok (.invokevirtual 257, 3) := by decide +kernel
theorem dX6_does_104 : decode cX6_does 104 = .ok (.goto 176, 3) := by decide +kernel
theorem dX6_does_107 : decode cX6_does 107 = .ok (.aload_n 0, 1) := by decide +kernel
theorem dX6_does_108 : decode cX6_does 108 = .ok (.aload_n 0, 1) := by decide +kernel
theorem dX6_does_109 : decode cX6_does 109 = .ok (.getfield 73, 3) := by decide +kernel
theorem dX6_does_112 : decode cX6_does 112 = .ok (.iload_n 2, 1) := by decide +kernel
theorem dX6_does_113 : decode cX6_does 113 = .ok (.iaload, 1) := by decide +kernel
theorem dX6_does_114 : decode cX6_does 114 = .ok (.invokevirtual 251, 3) := by decide +kernel
theorem dX6_does_117 : decode cX6_does 117 = .ok (.goto 163, 3) := by decide +kernel
theorem dX6_does_120 : decode cX6_does 120 = .ok (.aload_n 0, 1) := by decide +kernel
theorem dX6_does_121 : decode cX6_does 121 = .ok (.aload_n 0, 1) := by decide +kernel
theorem dX6_does_122 : decode cX6_does 122 = .ok (.getfield 85, 3) := by decide +kernel
theorem dX6_does_125 : decode cX6_does 125 = .ok (.iload_n 3, 1) := by decide +kernel
theorem dX6_does_126 : decode cX6_does 126 = .ok (.iload_n 2, 1) := by decide +kernel
theorem dX6_does_127 : decode cX6_does 127 = .ok (.iadd, 1) := by decide +kernel
theorem dX6_does_128 : decode cX6_does 128 = .ok (.iaload, 1) := by decide +kernel
theorem dX6_does_129 : decode cX6_does 129 = .ok (.invokevirtual 251, 3) := by decide +kernel
theorem dX6_does_132 : decode cX6_does 132 = .ok (.goto 148, 3) := by decide +kernel
theorem dX6_does_135 : decode cX6_does 135 = .ok (.aload_n 0, 1) := by decide +kernel
theorem dX6_does_136 : decode cX6_does 136 = .ok (.iload_n 2, 1) := by decide +kernel
theorem dX6_does_137 : decode cX6_does 137 = .ok (.iconst 0, 1) := by decide +kernel
theorem dX6_does_138 : decode cX6_does 138 = .ok (.invokevirtual 260, 3) := by decide +kernel
theorem dX6_does_141 : decode cX6_does 141 = .ok (.goto 139, 3) := by decide +kernel
theorem dX6_does_144 : decode cX6_does 144 = .ok (.aload_n 0, 1) := by decide +kernel
theorem dX6_does_145 : decode cX6_does 145 = .ok (.aload_n 0, 1) := by decide +kernel
theorem dX6_does_146 : decode cX6_does 146 = .ok (.invokevirtual 254, 3) := by decide +kernel
theorem dX6_does_149 : decode cX6_does 149 = .ok (.ineg, 1) := by decide +kernel
theorem dX6_does_150 : decode cX6_does 150 = .ok (.invokevirtual 251, 3) := by decide +kernel
theorem dX6_does_153 : decode cX6_does 153 = .ok (.goto 127, 3) := by decide +kernel
theorem dX6_does_156 : decode cX6_does 156 = .ok (.aload_n 0, 1) := by decide +kernel
theorem dX6_does_157 : decode cX6_does 157 = .ok (.aload_n 0, 1) := by decide +kernel
theorem dX6_does_158 : decode cX6_does 158 = .ok (.invokevirtual 254, 3) := by decide +kernel
theorem dX6_does_161 : decode cX6_does 161 = .ok (.ifCond .ne 7, 3) := by decide +kernel
theorem dX6_does_164 : decode cX6_does 164 = .ok (.iconst 1, 1) := by decide +kernel
theorem dX6_does_165 : decode cX6_does 165 = .ok (.goto 4, 3) := by decide +kernel
theorem dX6_does_168 : decode cX6_does 168 = .ok (.iconst 0, 1) := by decide +kernel
theorem dX6_does_169 : decode cX6_does 169 = .ok (.invokevirtual 251, 3) := by decide +kernel
theorem dX6_does_172 : decode cX6_does 172 = .ok (.goto 108, 3) := by decide +kernel
theorem dX6_does_175 : decode cX6_does 175 = .ok (.aload_n 0, 1) := by decide +kernel
theorem dX6_does_176 : decode cX6_does 176 = .ok (.iload_n 2, 1) := by decide +kernel
theorem dX6_does_177 : decode cX6_does 177 = .ok (.invokevirtual 264, 3) := by decide +kernel
theorem dX6_does_180 : decode cX6_does 180 = .ok (.goto 100, 3) := by decide +kernel
theorem dX6_does_183 : decode cX6_does 183 = .ok (.aload_n 0, 1) := by decide +kernel
theorem dX6_does_184 : decode cX6_does 184 = .ok (.getfield 73, 3) := by decide +kernel
theorem dX6_does_187 : decode cX6_does 187 = .ok (.iload_n 2, 1) := by decide +kernel
theorem dX6_does_188 : decode cX6_does 188 = .ok (.aload_n 0, 1) := by decide +kernel
theorem dX6_does_189 : decode cX6_does 189 = .ok (.invokevirtual 254, 3) := by decide +kernel
theorem dX6_does_192 : decode cX6_does 192 = .ok (.iastore, 1) := by decide +kernel
theorem dX6_does_193 : decode cX6_does 193 = .ok (.goto 87, 3) := by decide +kernel
theorem dX6_does_196 : decode cX6_does 196 = .ok (.aload_n 0, 1) := by decide +kernel
theorem dX6_does_197 : decode cX6_does 197 = .ok (.getfield 85, 3) := by decide +kernel
theorem dX6_does_200 : decode cX6_does 200 = .ok (.iload_n 3, 1) := by decide +kernel
theorem dX6_does_201 : decode cX6_does 201 = .ok (.iload_n 2, 1) := by decide +kernel
theorem dX6_does_202 : decode cX6_does 202 = .ok (.iadd, 1) := by decide +kernel
theorem dX6_does_203 : decode cX6_does 203 = .ok (.aload_n 0, 1) := by decide +kernel
theorem dX6_does_204 : decode cX6_does 204 = .ok (.invokevirtual 254, 3) := by decide +kernel
theorem dX6_does_207 : decode cX6_does 207 = .ok (.iastore, 1) := by decide +kernel
theorem dX6_does_208 : decode cX6_does 208 = .ok (.goto 72, 3) := by decide +kernel
theorem dX6_does_211 : decode cX6_does 211 = .ok (.aload_n 0, 1) := by decide +kernel
theorem dX6_does_212 : decode cX6_does 212 = .ok (.iload_n 2, 1) := by decide +kernel
theorem dX6_does_213 : decode cX6_does 213 = .ok (.iconst 1, 1) := by decide +kernel
theorem dX6_does_214 : decode cX6_does 214 = .ok (.invokevirtual 260, 3) := by decide +kernel
theorem dX6_does_217 : decode cX6_does 217 = .ok (.goto 63, 3) := by decide +kernel
theorem dX6_does_220 : decode cX6_does 220 = .ok (.aload_n 0, 1) := by decide +kernel
theorem dX6_does_221 : decode cX6_does 221 = .ok (.invokevirtual 254, 3) := by decide +kernel
theorem dX6_does_224 : decode cX6_does 224 = .ok (.pop, 1) := by decide +kernel
theorem dX6_does_225 : decode cX6_does 225 = .ok (.goto 55, 3) := by decide +kernel
theorem dX6_does_228 : decode cX6_does 228 = .ok (.aload_n 0, 1) := by decide +kernel
theorem dX6_does_229 : decode cX6_does 229 = .ok (.aload_n 0, 1) := by decide +kernel
theorem dX6_does_230 : decode cX6_does 230 = .ok (.invokevirtual 254, 3) := by decide +kernel
theorem dX6_does_233 : decode cX6_does 233 = .ok (.ifCond .ne 7, 3) := by decide +kernel
theorem dX6_does_236 : decode cX6_does 236 = .ok (.iload_n 2, 1) := by decide +kernel
theorem dX6_does_237 : decode cX6_does 237 = .ok (.goto 7, 3) := by decide +kernel
theorem dX6_does_240 : decode cX6_does 240 = .ok (.aload_n 0, 1) := by decide +kernel
theorem dX6_does_241 : decode cX6_does 241 = .ok (.getfield 239, 3) := by decide +kernel
theorem dX6_does_244 : decode cX6_does 244 = .ok (.putfield 239, 3) := by decide +kernel
theorem dX6_does_247 : decode cX6_does 247 = .ok (.goto 33, 3) := by decide +kernel
theorem dX6_does_250 : decode cX6_does 250 = .ok (.aload_n 0, 1) := by decide +kernel
theorem dX6_does_251 : decode cX6_does 251 = .ok (.iload_n 2, 1) := by decide +kernel
theorem dX6_does_252 : decode cX6_does 252 = .ok (.putfield 239, 3) := by decide +kernel
theorem dX6_does_255 : decode cX6_does 255 = .ok (.goto 25, 3) := by decide +kernel
theorem dX6_does_258 : decode cX6_does 258 = .ok (.aload_n 0, 1) := by decide +kernel
theorem dX6_does_259 : decode cX6_does 259 = .ok (.invokevirtual 266, 3) := by decide +kernel
theorem dX6_does_262 : decode cX6_does 262 = .ok (.goto 18, 3) := by decide +kernel
theorem dX6_does_265 : decode cX6_does 265 = .ok (.aload_n 0, 1) := by decide +kernel
theorem dX6_does_266 : decode cX6_does 266 = .ok (.invokevirtual 269, 3) := by decide +kernel
theorem dX6_does_269 : decode cX6_does 269 = .ok (.goto 11, 3) := by decide +kernel
theorem dX6_does_272 : decode cX6_does 272 = .ok (.aload_n 0, 1) := by decide +kernel
theorem dX6_does_273 : decode cX6_does 273 = .ok (.iload_n 1, 1) := by decide +kernel
theorem dX6_does_274 : decode cX6_does 274 = .ok (.bipush 20, 2) := by decide +kernel
theorem dX6_does_276 : decode cX6_does 276 = .ok (.isub, 1) := by decide +kernel
theorem dX6_does_277 : decode cX6_does 277 = .ok (.invokevirtual 272, 3) := by decide +kernel
theorem dX6_does_280 : decode cX6_does 280 = .ok (.return_, 1) := by decide +kernel
theorem dX6_run_0 : decode cX6_run 0 = .ok (.aload_n 0, 1) := by decide +kernel
theorem dX6_run_1 : decode cX6_run 1 = .ok (.iload_n 1, 1) := by decide +kernel
theorem dX6_run_2 : decode cX6_run 2 = .ok (.iconst 1, 1) := by decide +kernel
theorem dX6_run_3 : decode cX6_run 3 = .ok (.if_icmp .lt 10, 3) := by decide +kernel
theorem dX6_run_6 : decode cX6_run 6 = .ok (.iload_n 1, 1) := by decide +kernel
theorem dX6_run_7 : decode cX6_run 7 = .ok (.sipush 200, 3) := by decide +kernel
theorem dX6_run_10 : decode cX6_run 10 = .ok (.if_icmp .le 7, 3) := by decide +kernel
theorem dX6_run_13 : decode cX6_run 13 = .ok (.iconst 1, 1) := by decide +kernel
theorem dX6_run_14 : decode cX6_run 14 = .ok (.goto 15, 3) := by decide +kernel
theorem dX6_run_17 : decode cX6_run 17 = .ok (.aload_n 0, 1) := by decide +kernel
theorem dX6_run_18 : decode cX6_run 18 = .ok (.getfield 233, 3) := by decide +kernel
theorem dX6_run_21 : decode cX6_run 21 = .ok (.ifCond .ne 7, 3) := by decide +kernel
theorem dX6_run_24 : decode cX6_run 24 = .ok (.iconst 2, 1) := by decide +kernel
theorem dX6_run_25 : decode cX6_run 25 = .ok (.goto 4, 3) := by decide +kernel
theorem dX6_run_28 : decode cX6_run 28 = .ok (.iconst 0, 1) := by decide +kernel
theorem dX6_run_29 : decode cX6_run 29 = .ok (.putfield 97, 3) := by decide +kernel
theorem dX6_run_32 : decode cX6_run 32 = .ok (.aload_n 0, 1) := by decide +kernel
theorem dX6_run_33 : decode cX6_run 33 = .ok (.getfield 97, 3) := by decide +kernel
theorem dX6_run_36 : decode cX6_run 36 = .ok (.ifCond .le 5, 3) := by decide +kernel
theorem dX6_run_39 : decode cX6_run 39 = .ok (.iconst 0, 1) := by decide +kernel
theorem dX6_run_40 : decode cX6_run 40 = .ok (.ireturn, 1) := by decide +kernel
theorem dX6_run_41 : decode cX6_run 41 = .ok (.aload_n 0, 1) := by decide +kernel
theorem dX6_run_42 : decode cX6_run 42 = .ok (.aload_n 0, 1) := by decide +kernel
theorem dX6_run_43 : decode cX6_run 43 = .ok (.getfield 233, 3) := by decide +kernel
theorem dX6_run_46 : decode cX6_run 46 = .ok (.iconst 2, 1) := by decide +kernel
theorem dX6_run_47 : decode cX6_run 47 = .ok (.if_icmp .ne 14, 3) := by decide +kernel
theorem dX6_run_50 : decode cX6_run 50 = .ok (.aload_n 0, 1) := by decide +kernel
theorem dX6_run_51 : decode cX6_run 51 = .ok (.getfield 245, 3) := by decide +kernel
theorem dX6_run_54 : decode cX6_run 54 = .ok (.ifCond .le 7, 3) := by decide +kernel
theorem dX6_run_57 : decode cX6_run 57 = .ok (.iconst 1, 1) := by decide +kernel
theorem dX6_run_58 : decode cX6_run 58 = .ok (.goto 7, 3) := by decide +kernel
theorem dX6_run_61 : decode cX6_run 61 = .ok (.aload_n 0, 1) := by decide +kernel
theorem dX6_run_62 : decode cX6_run 62 = .ok (.getfield 233, 3) := by decide +kernel
theorem dX6_run_65 : decode cX6_run 65 = .ok (.putfield 233, 3) := by decide +kernel
theorem dX6_run_68 : decode cX6_run 68 = .ok (.iconst 0, 1) := by decide +kernel
theorem dX6_run_69 : decode cX6_run 69 = .ok (.istore_n 2, 1) := by decide +kernel
theorem dX6_run_70 : decode cX6_run 70 = .ok (.iconst 1, 1) := by decide +kernel
theorem dX6_run_71 : decode cX6_run 71 = .ok (.istore_n 3, 1) := by decide +kernel
theorem dX6_run_72 : decode cX6_run 72 = .ok (.aload_n 0, 1) := by decide +kernel
theorem dX6_run_73 : decode cX6_run 73 = .ok (.getfield 233, 3) := by decide +kernel
theorem dX6_run_76 : decode cX6_run 76 = .ok (.iconst 1, 1) := by decide +kernel
theorem dX6_run_77 : decode cX6_run 77 = .ok (.if_icmp .ne 113, 3) := by decide +kernel
theorem dX6_run_80 : decode cX6_run 80 = .ok (.iload_n 3, 1) := by decide +kernel
theorem dX6_run_81 : decode cX6_run 81 = .ok (.ifCond .eq 109, 3) := by decide +kernel
theorem dX6_run_84 : decode cX6_run 84 = .ok (.aload_n 0, 1) := by decide +kernel
theorem dX6_run_85 : decode cX6_run 85 = .ok (.getfield 19, 3) := by decide +kernel
theorem dX6_run_88 : decode cX6_run 88 = .ok (.aload_n 0, 1) := by decide +kernel
theorem dX6_run_89 : decode cX6_run 89 = .ok (.getfield 239, 3) := by decide +kernel
theorem dX6_run_92 : decode cX6_run 92 = .ok (.iaload, 1) := by decide +kernel
theorem dX6_run_93 : decode cX6_run 93 = .ok (.bipush 8, 2) := by decide +kernel
theorem dX6_run_95 : decode cX6_run 95 = .ok (.if_icmp .ne 56, 3) := by decide +kernel
theorem dX6_run_98 : decode cX6_run 98 = .ok (.iload_n 2, 1) := by decide +kernel
theorem dX6_run_99 : decode cX6_run 99 = .ok (.iload_n 1, 1) := by decide +kernel
theorem dX6_run_100 : decode cX6_run 100 = .ok (.if_icmp .ge 7, 3) := by decide +kernel
theorem dX6_run_103 : decode cX6_run 103 = .ok (.iconst 1, 1) := by decide +kernel
theorem dX6_run_104 : decode cX6_run 104 = .ok (.goto 4, 3) := by decide +kernel
theorem dX6_run_107 : decode cX6_run 107 = .ok (.iconst 0, 1) := by decide +kernel
theorem dX6_run_108 : decode cX6_run 108 = .ok (.istore_n 3, 1) := by decide +kernel
theorem dX6_run_109 : decode cX6_run 109 = .ok (.iinc 2 1, 3) := by decide +kernel
theorem dX6_run_112 : decode cX6_run 112 = .ok (.aload_n 0, 1) := by decide +kernel
theorem dX6_run_113 : decode cX6_run 113 = .ok (.dup, 1) := by decide +kernel
theorem dX6_run_114 : decode cX6_run 114 = .ok (.getfield 218, 3) := by decide +kernel
theorem dX6_run_117 : decode cX6_run 117 = .ok (.iload_n 3, 1) := by decide +kernel
theorem dX6_run_118 : decode cX6_run 118 = .ok (.ifCond .eq 7, 3) := by decide +kernel
theorem dX6_run_121 : decode cX6_run 121 = .ok (.iconst 1, 1) := by decide +kernel
theorem dX6_run_122 : decode cX6_run 122 = .ok (.goto 4, 3) := by decide +kernel
theorem dX6_run_125 : decode cX6_run 125 = .ok (.iconst 0, 1) := by decide +kernel
theorem dX6_run_126 : decode cX6_run 126 = .ok (.iadd, 1) := by decide +kernel
theorem dX6_run_127 : decode cX6_run 127 = .ok (.putfield 218, 3) := by decide +kernel
theorem dX6_run_130 : decode cX6_run 130 = .ok (.aload_n 0, 1) := by decide +kernel
theorem dX6_run_131 : decode cX6_run 131 = .ok (.dup, 1) := by decide +kernel
theorem dX6_run_132 : decode cX6_run 132 = .ok (.getfield 239, 3) := by decide +kernel
theorem dX6_run_135 : decode cX6_run 135 = .ok (.iload_n 3, 1) := by decide +kernel
theorem dX6_run_136 : decode cX6_run 136 = .ok (.ifCond .eq 7, 3) := by decide +kernel
theorem dX6_run_139 : decode cX6_run 139 = .ok (.iconst 1, 1) := by decide +kernel
theorem dX6_run_140 : decode cX6_run 140 = .ok (.goto 4, 3) := by decide +kernel
theorem dX6_run_143 : decode cX6_run 143 = .ok (.iconst 0, 1) := by decide +kernel
theorem dX6_run_144 : decode cX6_run 144 = .ok (.iadd, 1) := by decide +kernel
theorem dX6_run_145 : decode cX6_run 145 = .ok (.putfield 239, 3) := by decide +kernel
theorem dX6_run_148 : decode cX6_run 148 = .ok (.goto (-76), 3) := by decide +kernel
theorem dX6_run_151 : decode cX6_run 151 = .ok (.aload_n 0, 1) := by decide +kernel
theorem dX6_run_152 : decode cX6_run 152 = .ok (.dup, 1) := by decide +kernel
theorem dX6_run_153 : decode cX6_run 153 = .ok (.getfield 239, 3) := by decide +kernel
theorem dX6_run_156 : decode cX6_run 156 = .ok (.iconst 1, 1) := by decide +kernel
theorem dX6_run_157 : decode cX6_run 157 = .ok (.iadd, 1) := by decide +kernel
theorem dX6_run_158 : decode cX6_run 158 = .ok (.putfield 239, 3) := by decide +kernel
theorem dX6_run_161 : decode cX6_run 161 = .ok (.aload_n 0, 1) := by decide +kernel
theorem dX6_run_162 : decode cX6_run 162 = .ok (.aload_n 0, 1) := by decide +kernel
theorem dX6_run_163 : decode cX6_run 163 = .ok (.getfield 19, 3) := by decide +kernel
theorem dX6_run_166 : decode cX6_run 166 = .ok (.aload_n 0, 1) := by decide +kernel
theorem dX6_run_167 : decode cX6_run 167 = .ok (.getfield 239, 3) := by decide +kernel
theorem dX6_run_170 : decode cX6_run 170 = .ok (.iconst 1, 1) := by decide +kernel
theorem dX6_run_171 : decode cX6_run 171 = .ok (.isub, 1) := by decide +kernel
theorem dX6_run_172 : decode cX6_run 172 = .ok (.iaload, 1) := by decide +kernel
theorem dX6_run_173 : decode cX6_run 173 = .ok (.aload_n 0, 1) := by decide +kernel
theorem dX6_run_174 : decode cX6_run 174 = .ok (.getfield 22, 3) := by decide +kernel
theorem dX6_run_177 : decode cX6_run 177 = .ok (.aload_n 0, 1) := by decide +kernel
theorem dX6_run_178 : decode cX6_run 178 = .ok (.getfield 239, 3) := by decide +kernel
theorem dX6_run_181 : decode cX6_run 181 = .ok (.iconst 1, 1) := by decide +kernel
theorem dX6_run_182 : decode cX6_run 182 = .ok (.isub, 1) := by decide +kernel
theorem dX6_run_183 : decode cX6_run 183 = .ok (.iaload, 1) := by decide +kernel
theorem dX6_run_184 : decode cX6_run 184 = .ok (.invokevirtual 275, 3) := by decide +kernel
theorem dX6_run_187 : decode cX6_run 187 = .ok (.goto (-115), 3) := by decide +kernel
theorem dX6_run_190 : decode cX6_run 190 = .ok (.aload_n 0, 1) := by decide +kernel
theorem dX6_run_191 : decode cX6_run 191 = .ok (.getfield 233, 3) := by decide +kernel
theorem dX6_run_194 : decode cX6_run 194 = .ok (.ireturn, 1) := by decide +kernel
theorem dX6_shown_0 : decode cX6_shown 0 = .ok (.aload_n 0, 1) := by decide +kernel
theorem dX6_shown_1 : decode cX6_shown 1 = .ok (.iload_n 1, 1) := by decide +kernel
theorem dX6_shown_2 : decode cX6_shown 2 = .ok (.ifCond .lt 17, 3) := by decide +kernel
theorem dX6_shown_5 : decode cX6_shown 5 = .ok (.iload_n 1, 1) := by decide +kernel
theorem dX6_shown_6 : decode cX6_shown 6 = .ok (.aload_n 0, 1) := by decide +kernel
theorem dX6_shown_7 : decode cX6_shown 7 = .ok (.getfield 215, 3) := by decide +kernel
theorem dX6_shown_10 : decode cX6_shown 10 = .ok (.if_icmp .ge 9, 3) := by decide +kernel
theorem dX6_shown_13 : decode cX6_shown 13 = .ok (.iload_n 1, 1) := by decide +kernel
theorem dX6_shown_14 : decode cX6_shown 14 = .ok (.bipush 32, 2) := by decide +kernel
theorem dX6_shown_16 : decode cX6_shown 16 = .ok (.if_icmp .lt 7, 3) := by decide +kernel
theorem dX6_shown_19 : decode cX6_shown 19 = .ok (.iconst 1, 1) := by decide +kernel
theorem dX6_shown_20 : decode cX6_shown 20 = .ok (.goto 4, 3) := by decide +kernel
theorem dX6_shown_23 : decode cX6_shown 23 = .ok (.iconst 0, 1) := by decide +kernel
theorem dX6_shown_24 : decode cX6_shown 24 = .ok (.putfield 97, 3) := by decide +kernel
theorem dX6_shown_27 : decode cX6_shown 27 = .ok (.aload_n 0, 1) := by decide +kernel
theorem dX6_shown_28 : decode cX6_shown 28 = .ok (.getfield 97, 3) := by decide +kernel
theorem dX6_shown_31 : decode cX6_shown 31 = .ok (.ifCond .le 7, 3) := by decide +kernel
theorem dX6_shown_34 : decode cX6_shown 34 = .ok (.iconst 0, 1) := by decide +kernel
theorem dX6_shown_35 : decode cX6_shown 35 = .ok (.goto 19, 3) := by decide +kernel
theorem dX6_shown_38 : decode cX6_shown 38 = .ok (.aload_n 0, 1) := by decide +kernel
theorem dX6_shown_39 : decode cX6_shown 39 = .ok (.getfield 82, 3) := by decide +kernel
theorem dX6_shown_42 : decode cX6_shown 42 = .ok (.aload_n 0, 1) := by decide +kernel
theorem dX6_shown_43 : decode cX6_shown 43 = .ok (.getfield 215, 3) := by decide +kernel
theorem dX6_shown_46 : decode cX6_shown 46 = .ok (.iconst 1, 1) := by decide +kernel
theorem dX6_shown_47 : decode cX6_shown 47 = .ok (.isub, 1) := by decide +kernel
theorem dX6_shown_48 : decode cX6_shown 48 = .ok (.iload_n 1, 1) := by decide +kernel
theorem dX6_shown_49 : decode cX6_shown 49 = .ok (.isub, 1) := by decide +kernel
theorem dX6_shown_50 : decode cX6_shown 50 = .ok (.bipush 32, 2) := by decide +kernel
theorem dX6_shown_52 : decode cX6_shown 52 = .ok (.irem, 1) := by decide +kernel
theorem dX6_shown_53 : decode cX6_shown 53 = .ok (.iaload, 1) := by decide +kernel
theorem dX6_shown_54 : decode cX6_shown 54 = .ok (.ireturn, 1) := by decide +kernel
theorem dX6_global_0 : decode cX6_global 0 = .ok (.aload_n 0, 1) := by decide +kernel
theorem dX6_global_1 : decode cX6_global 1 = .ok (.iload_n 1, 1) := by decide +kernel
theorem dX6_global_2 : decode cX6_global 2 = .ok (.ifCond .lt 9, 3) := by decide +kernel
theorem dX6_global_5 : decode cX6_global 5 = .ok (.iload_n 1, 1) := by decide +kernel
theorem dX6_global_6 : decode cX6_global 6 = .ok (.bipush 7, 2) := by decide +kernel
theorem dX6_global_8 : decode cX6_global 8 = .ok (.if_icmp .le 7, 3) := by decide +kernel
theorem dX6_global_11 : decode cX6_global 11 = .ok (.iconst 1, 1) := by decide +kernel
theorem dX6_global_12 : decode cX6_global 12 = .ok (.goto 4, 3) := by decide +kernel
theorem dX6_global_15 : decode cX6_global 15 = .ok (.iconst 0, 1) := by decide +kernel
theorem dX6_global_16 : decode cX6_global 16 = .ok (.putfield 97, 3) := by decide +kernel
theorem dX6_global_19 : decode cX6_global 19 = .ok (.aload_n 0, 1) := by decide +kernel
theorem dX6_global_20 : decode cX6_global 20 = .ok (.getfield 97, 3) := by decide +kernel
theorem dX6_global_23 : decode cX6_global 23 = .ok (.ifCond .le 7, 3) := by decide +kernel
theorem dX6_global_26 : decode cX6_global 26 = .ok (.iconst 0, 1) := by decide +kernel
theorem dX6_global_27 : decode cX6_global 27 = .ok (.goto 9, 3) := by decide +kernel
theorem dX6_global_30 : decode cX6_global 30 = .ok (.aload_n 0, 1) := by decide +kernel
theorem dX6_global_31 : decode cX6_global 31 = .ok (.getfield 73, 3) := by decide +kernel
theorem dX6_global_34 : decode cX6_global 34 = .ok (.iload_n 1, 1) := by decide +kernel
theorem dX6_global_35 : decode cX6_global 35 = .ok (.iaload, 1) := by decide +kernel
theorem dX6_global_36 : decode cX6_global 36 = .ok (.ireturn, 1) := by decide +kernel
theorem dX6_array_0 : decode cX6_array 0 = .ok (.aload_n 0, 1) := by decide +kernel
theorem dX6_array_1 : decode cX6_array 1 = .ok (.iload_n 1, 1) := by decide +kernel
theorem dX6_array_2 : decode cX6_array 2 = .ok (.ifCond .lt 18, 3) := by decide +kernel
theorem dX6_array_5 : decode cX6_array 5 = .ok (.iload_n 1, 1) := by decide +kernel
theorem dX6_array_6 : decode cX6_array 6 = .ok (.iconst 3, 1) := by decide +kernel
theorem dX6_array_7 : decode cX6_array 7 = .ok (.if_icmp .gt 13, 3) := by decide +kernel
theorem dX6_array_10 : decode cX6_array 10 = .ok (.iload_n 2, 1) := by decide +kernel
theorem dX6_array_11 : decode cX6_array 11 = .ok (.ifCond .lt 9, 3) := by decide +kernel
theorem dX6_array_14 : decode cX6_array 14 = .ok (.iload_n 2, 1) := by decide +kernel
theorem dX6_array_15 : decode cX6_array 15 = .ok (.bipush 7, 2) := by decide +kernel
theorem dX6_array_17 : decode cX6_array 17 = .ok (.if_icmp .le 7, 3) := by decide +kernel
theorem dX6_array_20 : decode cX6_array 20 = .ok (.iconst 1, 1) := by decide +kernel
theorem dX6_array_21 : decode cX6_array 21 = .ok (.goto 4, 3) := by decide +kernel
theorem dX6_array_24 : decode cX6_array 24 = .ok (.iconst 0, 1) := by decide +kernel
theorem dX6_array_25 : decode cX6_array 25 = .ok (.putfield 97, 3) := by decide +kernel
theorem dX6_array_28 : decode cX6_array 28 = .ok (.aload_n 0, 1) := by decide +kernel
theorem dX6_array_29 : decode cX6_array 29 = .ok (.getfield 97, 3) := by decide +kernel
theorem dX6_array_32 : decode cX6_array 32 = .ok (.ifCond .le 7, 3) := by decide +kernel
theorem dX6_array_35 : decode cX6_array 35 = .ok (.iconst 0, 1) := by decide +kernel
theorem dX6_array_36 : decode cX6_array 36 = .ok (.goto 14, 3) := by decide +kernel
theorem dX6_array_39 : decode cX6_array 39 = .ok (.aload_n 0, 1) := by decide +kernel
theorem dX6_array_40 : decode cX6_array 40 = .ok (.getfield 76, 3) := by decide +kernel
theorem dX6_array_43 : decode cX6_array 43 = .ok (.bipush 8, 2) := by decide +kernel
theorem dX6_array_45 : decode cX6_array 45 = .ok (.iload_n 1, 1) := by decide +kernel
theorem dX6_array_46 : decode cX6_array 46 = .ok (.imul, 1) := by decide +kernel
theorem dX6_array_47 : decode cX6_array 47 = .ok (.iload_n 2, 1) := by decide +kernel
theorem dX6_array_48 : decode cX6_array 48 = .ok (.iadd, 1) := by decide +kernel
theorem dX6_array_49 : decode cX6_array 49 = .ok (.iaload, 1) := by decide +kernel
theorem dX6_array_50 : decode cX6_array 50 = .ok (.ireturn, 1) := by decide +kernel
theorem dX6_about_0 : decode cX6_about 0 = .ok (.aload_n 0, 1) := by decide +kernel
theorem dX6_about_1 : decode cX6_about 1 = .ok (.iconst 0, 1) := by decide +kernel
theorem dX6_about_2 : decode cX6_about 2 = .ok (.putfield 97, 3) := by decide +kernel
theorem dX6_about_5 : decode cX6_about 5 = .ok (.iload_n 1, 1) := by decide +kernel
theorem dX6_about_6 : decode cX6_about 6 = .ok (.tableswitch 77 0 6 #[42, 47, 52, 57, 62, 67, 72], 42) := by decide +kernel
theorem dX6_about_48 : decode cX6_about 48 = .ok (.aload_n 0, 1) := by decide +kernel
theorem dX6_about_49 : decode cX6_about 49 = .ok (.getfield 233, 3) := by decide +kernel
theorem dX6_about_52 : decode cX6_about 52 = .ok (.ireturn, 1) := by decide +kernel
theorem dX6_about_53 : decode cX6_about 53 = .ok (.aload_n 0, 1) := by decide +kernel
theorem dX6_about_54 : decode cX6_about 54 = .ok (.getfield 101, 3) := by decide +kernel
theorem dX6_about_57 : decode cX6_about 57 = .ok (.ireturn, 1) := by decide +kernel
theorem dX6_about_58 : decode cX6_about 58 = .ok (.aload_n 0, 1) := by decide +kernel
theorem dX6_about_59 : decode cX6_about 59 = .ok (.getfield 230, 3) := by decide +kernel
theorem dX6_about_62 : decode cX6_about 62 = .ok (.ireturn, 1) := by decide +kernel
theorem dX6_about_63 : decode cX6_about 63 = .ok (.aload_n 0, 1) := by decide +kernel
theorem dX6_about_64 : decode cX6_about 64 = .ok (.getfield 218, 3) := by decide +kernel
theorem dX6_about_67 : decode cX6_about 67 = .ok (.ireturn, 1) := by decide +kernel
theorem dX6_about_68 : decode cX6_about 68 = .ok (.aload_n 0, 1) := by decide +kernel
theorem dX6_about_69 : decode cX6_about 69 = .ok (.getfield 215, 3) := by decide +kernel
theorem dX6_about_72 : decode cX6_about 72 = .ok (.ireturn, 1) := by decide +kernel
theorem dX6_about_73 : decode cX6_about 73 = .ok (.aload_n 0, 1) := by decide +kernel
theorem dX6_about_74 : decode cX6_about 74 = .ok (.getfield 245, 3) := by decide +kernel
theorem dX6_about_77 : decode cX6_about 77 = .ok (.ireturn, 1) := by decide +kernel
theorem dX6_about_78 : decode cX6_about 78 = .ok (.aload_n 0, 1) := by decide +kernel
theorem dX6_about_79 : decode cX6_about 79 = .ok (.getfield 221, 3) := by decide +kernel
theorem dX6_about_82 : decode cX6_about 82 = .ok (.ireturn, 1) := by decide +kernel
theorem dX6_about_83 : decode cX6_about 83 = .ok (.iconst (-1), 1) := by decide +kernel
theorem dX6_about_84 : decode cX6_about 84 = .ok (.ireturn, 1) := by decide +kernel
