theorem dX6_arrives_108 : decode cX6_arrives 108 = .ok (.iload_n 3, 1) := by decide +kernel
theorem dX6_arrives_109 : decode cX6_arrives 109 = .ok (.invokevirtual 148, 3) := by decide +kernel
theorem dX6_arrives_112 : decode cX6_arrives 112 = .ok (.aload_n 0, 1) := by decide +kernel
theorem dX6_arrives_113 : decode cX6_arrives 113 = .ok (.iload_n 1, 1) := by decide +kernel
theorem dX6_arrives_114 : decode cX6_arrives 114 = .ok (.iload_n 2, 1) := by decide +kernel
theorem dX6_arrives_115 : decode cX6_arrives 115 = .ok (.invokevirtual 151, 3) := by decide +kernel
theorem dX6_arrives_118 : decode cX6_arrives 118 = .ok (.aload_n 0, 1) := by decide +kernel
theorem dX6_arrives_119 : decode cX6_arrives 119 = .ok (.getfield 7, 3) := by decide +kernel
theorem dX6_arrives_122 : decode cX6_arrives 122 = .ok (.iconst 4, 1) := by decide +kernel
theorem dX6_arrives_123 : decode cX6_arrives 123 = .ok (.iaload, 1) := by decide +kernel
theorem dX6_arrives_124 : decode cX6_arrives 124 = .ok (.iconst 1, 1) := by decide +kernel
theorem dX6_arrives_125 : decode cX6_arrives 125 = .ok (.isub, 1) := by decide +kernel
theorem dX6_arrives_126 : decode cX6_arrives 126 = .ok (.ireturn, 1) := by decide +kernel
theorem dX6_arrive_0 : decode cX6_arrive 0 = .ok (.aload_n 0, 1) := by decide +kernel
theorem dX6_arrive_1 : decode cX6_arrive 1 = .ok (.iload_n 1, 1) := by decide +kernel
theorem dX6_arrive_2 : decode cX6_arrive 2 = .ok (.iload_n 2, 1) := by decide +kernel
theorem dX6_arrive_3 : decode cX6_arrive 3 = .ok (.invokevirtual 75, 3) := by decide +kernel
theorem dX6_arrive_6 : decode cX6_arrive 6 = .ok (.ifCond .ne 5, 3) := by decide +kernel
theorem dX6_arrive_9 : decode cX6_arrive 9 = .ok (.iconst (-1), 1) := by decide +kernel
theorem dX6_arrive_10 : decode cX6_arrive 10 = .ok (.ireturn, 1) := by decide +kernel
theorem dX6_arrive_11 : decode cX6_arrive 11 = .ok (.iload_n 3, 1) := by decide +kernel
theorem dX6_arrive_12 : decode cX6_arrive 12 = .ok (.iconst 1, 1) := by decide +kernel
theorem dX6_arrive_13 : decode cX6_arrive 13 = .ok (.bipush 12, 2) := by decide +kernel
theorem dX6_arrive_15 : decode cX6_arrive 15 = .ok (.invokestatic 36, 3) := by decide +kernel
theorem dX6_arrive_18 : decode cX6_arrive 18 = .ok (.ifCond .eq 16, 3) := by decide +kernel
theorem dX6_arrive_21 : decode cX6_arrive 21 = .ok (.aload_n 0, 1) := by decide +kernel
theorem dX6_arrive_22 : decode cX6_arrive 22 = .ok (.iconst 3, 1) := by decide +kernel
theorem dX6_arrive_23 : decode cX6_arrive 23 = .ok (.iload_n 1, 1) := by decide +kernel
theorem dX6_arrive_24 : decode cX6_arrive 24 = .ok (.imul, 1) := by decide +kernel
theorem dX6_arrive_25 : decode cX6_arrive 25 = .ok (.iload_n 2, 1) := by decide +kernel
theorem dX6_arrive_26 : decode cX6_arrive 26 = .ok (.iadd, 1) := by decide +kernel
theorem dX6_arrive_27 : decode cX6_arrive 27 = .ok (.iload_n 3, 1) := by decide +kernel
theorem dX6_arrive_28 : decode cX6_arrive 28 = .ok (.invokevirtual 154, 3) := by decide +kernel
theorem dX6_arrive_31 : decode cX6_arrive 31 = .ok (.goto 5, 3) := by decide +kernel
theorem dX6_arrive_34 : decode cX6_arrive 34 = .ok (.bipush (-2), 2) := by decide +kernel
theorem dX6_arrive_36 : decode cX6_arrive 36 = .ok (.ireturn, 1) := by decide +kernel
theorem dX6_firstSize_0 : decode cX6_firstSize 0 = .ok (.aload_n 0, 1) := by decide +kernel
theorem dX6_firstSize_1 : decode cX6_firstSize 1 = .ok (.getfield 7, 3) := by decide +kernel
theorem dX6_firstSize_4 : decode cX6_firstSize 4 = .ok (.aload_n 0, 1) := by decide +kernel
theorem dX6_firstSize_5 : decode cX6_firstSize 5 = .ok (.getfield 7, 3) := by decide +kernel
theorem dX6_firstSize_8 : decode cX6_firstSize 8 = .ok (.iload_n 1, 1) := by decide +kernel
theorem dX6_firstSize_9 : decode cX6_firstSize 9 = .ok (.iconst 0, 1) := by decide +kernel
theorem dX6_firstSize_10 : decode cX6_firstSize 10 = .ok (.invokestatic 107, 3) := by decide +kernel
theorem dX6_firstSize_13 : decode cX6_firstSize 13 = .ok (.iaload, 1) := by decide +kernel
theorem dX6_firstSize_14 : decode cX6_firstSize 14 = .ok (.iconst 1, 1) := by decide +kernel
theorem dX6_firstSize_15 : decode cX6_firstSize 15 = .ok (.invokestatic 92, 3) := by decide +kernel
theorem dX6_firstSize_18 : decode cX6_firstSize 18 = .ok (.iaload, 1) := by decide +kernel
theorem dX6_firstSize_19 : decode cX6_firstSize 19 = .ok (.ireturn, 1) := by decide +kernel
theorem dX6_departs_0 : decode cX6_departs 0 = .ok (.aload_n 0, 1) := by decide +kernel
theorem dX6_departs_1 : decode cX6_departs 1 = .ok (.iload_n 2, 1) := by decide +kernel
theorem dX6_departs_2 : decode cX6_departs 2 = .ok (.iconst 0, 1) := by decide +kernel
theorem dX6_departs_3 : decode cX6_departs 3 = .ok (.invokevirtual 132, 3) := by decide +kernel
theorem dX6_departs_6 : decode cX6_departs 6 = .ok (.istore_n 3, 1) := by decide +kernel
theorem dX6_departs_7 : decode cX6_departs 7 = .ok (.aload_n 0, 1) := by decide +kernel
theorem dX6_departs_8 : decode cX6_departs 8 = .ok (.getfield 7, 3) := by decide +kernel
theorem dX6_departs_11 : decode cX6_departs 11 = .ok (.iload_n 1, 1) := by decide +kernel
theorem dX6_departs_12 : decode cX6_departs 12 = .ok (.iconst 4, 1) := by decide +kernel
theorem dX6_departs_13 : decode cX6_departs 13 = .ok (.invokestatic 44, 3) := by decide +kernel
theorem dX6_departs_16 : decode cX6_departs 16 = .ok (.dup2, 1) := by decide +kernel
theorem dX6_departs_17 : decode cX6_departs 17 = .ok (.iaload, 1) := by decide +kernel
theorem dX6_departs_18 : decode cX6_departs 18 = .ok (.iload_n 3, 1) := by decide +kernel
theorem dX6_departs_19 : decode cX6_departs 19 = .ok (.isub, 1) := by decide +kernel
theorem dX6_departs_20 : decode cX6_departs 20 = .ok (.iastore, 1) := by decide +kernel
theorem dX6_departs_21 : decode cX6_departs 21 = .ok (.aload_n 0, 1) := by decide +kernel
theorem dX6_departs_22 : decode cX6_departs 22 = .ok (.getfield 7, 3) := by decide +kernel
theorem dX6_departs_25 : decode cX6_departs 25 = .ok (.iload_n 1, 1) := by decide +kernel
theorem dX6_departs_26 : decode cX6_departs 26 = .ok (.bipush 9, 2) := by decide +kernel
theorem dX6_departs_28 : decode cX6_departs 28 = .ok (.invokestatic 44, 3) := by decide +kernel
theorem dX6_departs_31 : decode cX6_departs 31 = .ok (.dup2, 1) := by decide +kernel
theorem dX6_departs_32 : decode cX6_departs 32 = .ok (.iaload, 1) := by decide +kernel
theorem dX6_departs_33 : decode cX6_departs 33 = .ok (.iconst 1, 1) := by decide +kernel
theorem dX6_departs_34 : decode cX6_departs 34 = .ok (.iadd, 1) := by decide +kernel
theorem dX6_departs_35 : decode cX6_departs 35 = .ok (.iastore, 1) := by decide +kernel
theorem dX6_departs_36 : decode cX6_departs 36 = .ok (.return_, 1) := by decide +kernel
theorem dX6_sends_0 : decode cX6_sends 0 = .ok (.iconst 0, 1) := by decide +kernel
theorem dX6_sends_1 : decode cX6_sends 1 = .ok (.istore_n 2, 1) := by decide +kernel
theorem dX6_sends_2 : decode cX6_sends 2 = .ok (.aload_n 0, 1) := by decide +kernel
theorem dX6_sends_3 : decode cX6_sends 3 = .ok (.iload_n 1, 1) := by decide +kernel
theorem dX6_sends_4 : decode cX6_sends 4 = .ok (.invokevirtual 110, 3) := by decide +kernel
theorem dX6_sends_7 : decode cX6_sends 7 = .ok (.ifCond .ne 5, 3) := by decide +kernel
theorem dX6_sends_10 : decode cX6_sends 10 = .ok (.iconst 0, 1) := by decide +kernel
theorem dX6_sends_11 : decode cX6_sends 11 = .ok (.ireturn, 1) := by decide +kernel
theorem dX6_sends_12 : decode cX6_sends 12 = .ok (.aload_n 0, 1) := by decide +kernel
theorem dX6_sends_13 : decode cX6_sends 13 = .ok (.getfield 7, 3) := by decide +kernel
theorem dX6_sends_16 : decode cX6_sends 16 = .ok (.iload_n 1, 1) := by decide +kernel
theorem dX6_sends_17 : decode cX6_sends 17 = .ok (.iconst 4, 1) := by decide +kernel
theorem dX6_sends_18 : decode cX6_sends 18 = .ok (.invokestatic 44, 3) := by decide +kernel
theorem dX6_sends_21 : decode cX6_sends 21 = .ok (.dup2, 1) := by decide +kernel
theorem dX6_sends_22 : decode cX6_sends 22 = .ok (.iaload, 1) := by decide +kernel
theorem dX6_sends_23 : decode cX6_sends 23 = .ok (.aload_n 0, 1) := by decide +kernel
theorem dX6_sends_24 : decode cX6_sends 24 = .ok (.getfield 7, 3) := by decide +kernel
theorem dX6_sends_27 : decode cX6_sends 27 = .ok (.iload_n 1, 1) := by decide +kernel
theorem dX6_sends_28 : decode cX6_sends 28 = .ok (.iconst 5, 1) := by decide +kernel
theorem dX6_sends_29 : decode cX6_sends 29 = .ok (.invokestatic 44, 3) := by decide +kernel
theorem dX6_sends_32 : decode cX6_sends 32 = .ok (.iaload, 1) := by decide +kernel
theorem dX6_sends_33 : decode cX6_sends 33 = .ok (.iadd, 1) := by decide +kernel
theorem dX6_sends_34 : decode cX6_sends 34 = .ok (.iastore, 1) := by decide +kernel
theorem dX6_sends_35 : decode cX6_sends 35 = .ok (.iconst 1, 1) := by decide +kernel
theorem dX6_sends_36 : decode cX6_sends 36 = .ok (.istore_n 3, 1) := by decide +kernel
theorem dX6_sends_37 : decode cX6_sends 37 = .ok (.iload_n 3, 1) := by decide +kernel
theorem dX6_sends_38 : decode cX6_sends 38 = .ok (.ifCond .eq 323, 3) := by decide +kernel
theorem dX6_sends_41 : decode cX6_sends 41 = .ok (.aload_n 0, 1) := by decide +kernel
theorem dX6_sends_42 : decode cX6_sends 42 = .ok (.iload_n 1, 1) := by decide +kernel
theorem dX6_sends_43 : decode cX6_sends 43 = .ok (.invokevirtual 110, 3) := by decide +kernel
theorem dX6_sends_46 : decode cX6_sends 46 = .ok (.ifCond .eq 315, 3) := by decide +kernel
theorem dX6_sends_49 : decode cX6_sends 49 = .ok (.aload_n 0, 1) := by decide +kernel
theorem dX6_sends_50 : decode cX6_sends 50 = .ok (.getfield 7, 3) := by decide +kernel
theorem dX6_sends_53 : decode cX6_sends 53 = .ok (.iload_n 1, 1) := by decide +kernel
theorem dX6_sends_54 : decode cX6_sends 54 = .ok (.bipush 8, 2) := by decide +kernel
theorem dX6_sends_56 : decode cX6_sends 56 = .ok (.invokestatic 44, 3) := by decide +kernel
theorem dX6_sends_59 : decode cX6_sends 59 = .ok (.iaload, 1) := by decide +kernel
theorem dX6_sends_60 : decode cX6_sends 60 = .ok (.iconst 1, 1) := by decide +kernel
theorem dX6_sends_61 : decode cX6_sends 61 = .ok (.if_icmp .ne 226, 3) := by decide +kernel
theorem dX6_sends_64 : decode cX6_sends 64 = .ok (.iconst 3, 1) := by decide +kernel
theorem dX6_sends_65 : decode cX6_sends 65 = .ok (.iload_n 1, 1) := by decide +kernel
theorem dX6_sends_66 : decode cX6_sends 66 = .ok (.imul, 1) := by decide +kernel
theorem dX6_sends_67 : decode cX6_sends 67 = .ok (.aload_n 0, 1) := by decide +kernel
theorem dX6_sends_68 : decode cX6_sends 68 = .ok (.getfield 7, 3) := by decide +kernel
theorem dX6_sends_71 : decode cX6_sends 71 = .ok (.iload_n 1, 1) := by decide +kernel
theorem dX6_sends_72 : decode cX6_sends 72 = .ok (.bipush 6, 2) := by decide +kernel
theorem dX6_sends_74 : decode cX6_sends 74 = .ok (.invokestatic 44, 3) := by decide +kernel
theorem dX6_sends_77 : decode cX6_sends 77 = .ok (.iaload, 1) := by decide +kernel
theorem dX6_sends_78 : decode cX6_sends 78 = .ok (.iadd, 1) := by decide +kernel
theorem dX6_sends_79 : decode cX6_sends 79 = .ok (.istore 4, 2) := by decide +kernel
theorem dX6_sends_81 : decode cX6_sends 81 = .ok (.aload_n 0, 1) := by decide +kernel
theorem dX6_sends_82 : decode cX6_sends 82 = .ok (.getfield 7, 3) := by decide +kernel
theorem dX6_sends_85 : decode cX6_sends 85 = .ok (.iload 4, 2) := by decide +kernel
theorem dX6_sends_87 : decode cX6_sends 87 = .ok (.bipush 12, 2) := by decide +kernel
theorem dX6_sends_89 : decode cX6_sends 89 = .ok (.invokestatic 48, 3) := by decide +kernel
theorem dX6_sends_92 : decode cX6_sends 92 = .ok (.iaload, 1) := by decide +kernel
theorem dX6_sends_93 : decode cX6_sends 93 = .ok (.ifCond .le 55, 3) := by decide +kernel
theorem dX6_sends_96 : decode cX6_sends 96 = .ok (.aload_n 0, 1) := by decide +kernel
theorem dX6_sends_97 : decode cX6_sends 97 = .ok (.getfield 7, 3) := by decide +kernel
theorem dX6_sends_100 : decode cX6_sends 100 = .ok (.iload_n 1, 1) := by decide +kernel
theorem dX6_sends_101 : decode cX6_sends 101 = .ok (.bipush 7, 2) := by decide +kernel
theorem dX6_sends_103 : decode cX6_sends 103 = .ok (.invokestatic 44, 3) := by decide +kernel
theorem dX6_sends_106 : decode cX6_sends 106 = .ok (.iaload, 1) := by decide +kernel
theorem dX6_sends_107 : decode cX6_sends 107 = .ok (.iconst 1, 1) := by decide +kernel
theorem dX6_sends_108 : decode cX6_sends 108 = .ok (.if_icmp .ne 40, 3) := by decide +kernel
theorem dX6_sends_111 : decode cX6_sends 111 = .ok (.aload_n 0, 1) := by decide +kernel
theorem dX6_sends_112 : decode cX6_sends 112 = .ok (.getfield 7, 3) := by decide +kernel
theorem dX6_sends_115 : decode cX6_sends 115 = .ok (.iload 4, 2) := by decide +kernel
theorem dX6_sends_117 : decode cX6_sends 117 = .ok (.iconst 5, 1) := by decide +kernel
theorem dX6_sends_118 : decode cX6_sends 118 = .ok (.invokestatic 48, 3) := by decide +kernel
theorem dX6_sends_121 : decode cX6_sends 121 = .ok (.dup2, 1) := by decide +kernel
theorem dX6_sends_122 : decode cX6_sends 122 = .ok (.iaload, 1) := by decide +kernel
theorem dX6_sends_123 : decode cX6_sends 123 = .ok (.aload_n 0, 1) := by decide +kernel
theorem dX6_sends_124 : decode cX6_sends 124 = .ok (.getfield 7, 3) := by decide +kernel
theorem dX6_sends_127 : decode cX6_sends 127 = .ok (.iload 4, 2) := by decide +kernel
theorem dX6_sends_129 : decode cX6_sends 129 = .ok (.iconst 4, 1) := by decide +kernel
theorem dX6_sends_130 : decode cX6_sends 130 = .ok (.invokestatic 48, 3) := by decide +kernel
theorem dX6_sends_133 : decode cX6_sends 133 = .ok (.iaload, 1) := by decide +kernel
theorem dX6_sends_134 : decode cX6_sends 134 = .ok (.iadd, 1) := by decide +kernel
theorem dX6_sends_135 : decode cX6_sends 135 = .ok (.iastore, 1) := by decide +kernel
theorem dX6_sends_136 : decode cX6_sends 136 = .ok (.aload_n 0, 1) := by decide +kernel
theorem dX6_sends_137 : decode cX6_sends 137 = .ok (.getfield 7, 3) := by decide +kernel
theorem dX6_sends_140 : decode cX6_sends 140 = .ok (.iload_n 1, 1) := by decide +kernel
theorem dX6_sends_141 : decode cX6_sends 141 = .ok (.bipush 7, 2) := by decide +kernel
theorem dX6_sends_143 : decode cX6_sends 143 = .ok (.invokestatic 44, 3) := by decide +kernel
theorem dX6_sends_146 : decode cX6_sends 146 = .ok (.iconst 0, 1) := by decide +kernel
theorem dX6_sends_147 : decode cX6_sends 147 = .ok (.iastore, 1) := by decide +kernel
theorem dX6_sends_148 : decode cX6_sends 148 = .ok (.aload_n 0, 1) := by decide +kernel
theorem dX6_sends_149 : decode cX6_sends 149 = .ok (.getfield 7, 3) := by decide +kernel
theorem dX6_sends_152 : decode cX6_sends 152 = .ok (.iload 4, 2) := by decide +kernel
theorem dX6_sends_154 : decode cX6_sends 154 = .ok (.bipush 12, 2) := by decide +kernel
theorem dX6_sends_156 : decode cX6_sends 156 = .ok (.invokestatic 48, 3) := by decide +kernel
theorem dX6_sends_159 : decode cX6_sends 159 = .ok (.iaload, 1) := by decide +kernel
theorem dX6_sends_160 : decode cX6_sends 160 = .ok (.ifCond .eq 23, 3) := by decide +kernel
theorem dX6_sends_163 : decode cX6_sends 163 = .ok (.aload_n 0, 1) := by decide +kernel
theorem dX6_sends_164 : decode cX6_sends 164 = .ok (.iload 4, 2) := by decide +kernel
theorem dX6_sends_166 : decode cX6_sends 166 = .ok (.invokevirtual 157, 3) := by decide +kernel
theorem dX6_sends_169 : decode cX6_sends 169 = .ok (.aload_n 0, 1) := by decide +kernel
theorem dX6_sends_170 : decode cX6_sends 170 = .ok (.getfield 7, 3) := by decide +kernel
theorem dX6_sends_173 : decode cX6_sends 173 = .ok (.iload 4, 2) := by decide +kernel
theorem dX6_sends_175 : decode cX6_sends 175 = .ok (.iconst 5, 1) := by decide +kernel
theorem dX6_sends_176 : decode cX6_sends 176 = .ok (.invokestatic 48, 3) := by decide +kernel
theorem dX6_sends_179 : decode cX6_sends 179 = .ok (.iaload, 1) := by decide +kernel
theorem dX6_sends_180 : decode cX6_sends 180 = .ok (.if_icmp .le 44, 3) := by decide +kernel
theorem dX6_sends_183 : decode cX6_sends 183 = .ok (.aload_n 0, 1) := by decide +kernel
theorem dX6_sends_184 : decode cX6_sends 184 = .ok (.getfield 7, 3) := by decide +kernel
theorem dX6_sends_187 : decode cX6_sends 187 = .ok (.iload_n 1, 1) := by decide +kernel
theorem dX6_sends_188 : decode cX6_sends 188 = .ok (.bipush 6, 2) := by decide +kernel
theorem dX6_sends_190 : decode cX6_sends 190 = .ok (.invokestatic 44, 3) := by decide +kernel
theorem dX6_sends_193 : decode cX6_sends 193 = .ok (.aload_n 0, 1) := by decide +kernel
theorem dX6_sends_194 : decode cX6_sends 194 = .ok (.getfield 7, 3) := by decide +kernel
theorem dX6_sends_197 : decode cX6_sends 197 = .ok (.iload_n 1, 1) := by decide +kernel
theorem dX6_sends_198 : decode cX6_sends 198 = .ok (.bipush 6, 2) := by decide +kernel
theorem dX6_sends_200 : decode cX6_sends 200 = .ok (.invokestatic 44, 3) := by decide +kernel
theorem dX6_sends_203 : decode cX6_sends 203 = .ok (.iaload, 1) := by decide +kernel
theorem dX6_sends_204 : decode cX6_sends 204 = .ok (.iconst 1, 1) := by decide +kernel
theorem dX6_sends_205 : decode cX6_sends 205 = .ok (.iadd, 1) := by decide +kernel
theorem dX6_sends_206 : decode cX6_sends 206 = .ok (.iconst 3, 1) := by decide +kernel
theorem dX6_sends_207 : decode cX6_sends 207 = .ok (.irem, 1) := by decide +kernel
theorem dX6_sends_208 : decode cX6_sends 208 = .ok (.iastore, 1) := by decide +kernel
theorem dX6_sends_209 : decode cX6_sends 209 = .ok (.aload_n 0, 1) := by decide +kernel
theorem dX6_sends_210 : decode cX6_sends 210 = .ok (.getfield 7, 3) := by decide +kernel
theorem dX6_sends_213 : decode cX6_sends 213 = .ok (.iload_n 1, 1) := by decide +kernel
theorem dX6_sends_214 : decode cX6_sends 214 = .ok (.bipush 7, 2) := by decide +kernel
theorem dX6_sends_216 : decode cX6_sends 216 = .ok (.invokestatic 44, 3) := by decide +kernel
theorem dX6_sends_219 : decode cX6_sends 219 = .ok (.iconst 1, 1) := by decide +kernel
theorem dX6_sends_220 : decode cX6_sends 220 = .ok (.iastore, 1) := by decide +kernel
theorem dX6_sends_221 : decode cX6_sends 221 = .ok (.goto 63, 3) := by decide +kernel
theorem dX6_sends_224 : decode cX6_sends 224 = .ok (.aload_n 0, 1) := by decide +kernel
theorem dX6_sends_225 : decode cX6_sends 225 = .ok (.iload 4, 2) := by decide +kernel
theorem dX6_sends_227 : decode cX6_sends 227 = .ok (.invokevirtual 157, 3) := by decide +kernel
theorem dX6_sends_230 : decode cX6_sends 230 = .ok (.aload_n 0, 1) := by decide +kernel
theorem dX6_sends_231 : decode cX6_sends 231 = .ok (.getfield 7, 3) := by decide +kernel
theorem dX6_sends_234 : decode cX6_sends 234 = .ok (.iload_n 1, 1) := by decide +kernel
theorem dX6_sends_235 : decode cX6_sends 235 = .ok (.iconst 4, 1) := by decide +kernel
theorem dX6_sends_236 : decode cX6_sends 236 = .ok (.invokestatic 44, 3) := by decide +kernel
theorem dX6_sends_239 : decode cX6_sends 239 = .ok (.iaload, 1) := by decide +kernel
theorem dX6_sends_240 : decode cX6_sends 240 = .ok (.if_icmp .le 8, 3) := by decide +kernel
theorem dX6_sends_243 : decode cX6_sends 243 = .ok (.iconst 0, 1) := by decide +kernel
theorem dX6_sends_244 : decode cX6_sends 244 = .ok (.istore_n 3, 1) := by decide +kernel
theorem dX6_sends_245 : decode cX6_sends 245 = .ok (.goto 39, 3) := by decide +kernel
theorem dX6_sends_248 : decode cX6_sends 248 = .ok (.aload_n 0, 1) := by decide +kernel
theorem dX6_sends_249 : decode cX6_sends 249 = .ok (.getfield 7, 3) := by decide +kernel
theorem dX6_sends_252 : decode cX6_sends 252 = .ok (.iload 4, 2) := by decide +kernel
theorem dX6_sends_254 : decode cX6_sends 254 = .ok (.iconst 5, 1) := by decide +kernel
theorem dX6_sends_255 : decode cX6_sends 255 = .ok (.invokestatic 48, 3) := by decide +kernel
theorem dX6_sends_258 : decode cX6_sends 258 = .ok (.dup2, 1) := by decide +kernel
theorem dX6_sends_259 : decode cX6_sends 259 = .ok (.iaload, 1) := by decide +kernel
theorem dX6_sends_260 : decode cX6_sends 260 = .ok (.aload_n 0, 1) := by decide +kernel
theorem dX6_sends_261 : decode cX6_sends 261 = .ok (.iload 4, 2) := by decide +kernel
theorem dX6_sends_263 : decode cX6_sends 263 = .ok (.invokevirtual 157, 3) := by decide +kernel
theorem dX6_sends_266 : decode cX6_sends 266 = .ok (.isub, 1) := by decide +kernel
theorem dX6_sends_267 : decode cX6_sends 267 = .ok (.iastore, 1) := by decide +kernel
theorem dX6_sends_268 : decode cX6_sends 268 = .ok (.aload_n 0, 1) := by decide +kernel
theorem dX6_sends_269 : decode cX6_sends 269 = .ok (.iload_n 1, 1) := by decide +kernel
theorem dX6_sends_270 : decode cX6_sends 270 = .ok (.iload 4, 2) := by decide +kernel
theorem dX6_sends_272 : decode cX6_sends 272 = .ok (.invokevirtual 160, 3) := by decide +kernel
theorem dX6_sends_275 : decode cX6_sends 275 = .ok (.aload_n 0, 1) := by decide +kernel
theorem dX6_sends_276 : decode cX6_sends 276 = .ok (.iload 4, 2) := by decide +kernel
theorem dX6_sends_278 : decode cX6_sends 278 = .ok (.invokevirtual 135, 3) := by decide +kernel
theorem dX6_sends_281 : decode cX6_sends 281 = .ok (.iinc 2 1, 3) := by decide +kernel
theorem dX6_sends_284 : decode cX6_sends 284 = .ok (.goto (-247), 3) := by decide +kernel
theorem dX6_sends_287 : decode cX6_sends 287 = .ok (.iconst 3, 1) := by decide +kernel
theorem dX6_sends_288 : decode cX6_sends 288 = .ok (.iload_n 1, 1) := by decide +kernel
theorem dX6_sends_289 : decode cX6_sends 289 = .ok (.imul, 1) := by decide +kernel
theorem dX6_sends_290 : decode cX6_sends 290 = .ok (.istore 4, 2) := by decide +kernel
theorem dX6_sends_292 : decode cX6_sends 292 = .ok (.aload_n 0, 1) := by decide +kernel
theorem dX6_sends_293 : decode cX6_sends 293 = .ok (.getfield 7, 3) := by decide +kernel
theorem dX6_sends_296 : decode cX6_sends 296 = .ok (.iload 4, 2) := by decide +kernel
theorem dX6_sends_298 : decode cX6_sends 298 = .ok (.bipush 12, 2) := by decide +kernel
theorem dX6_sends_300 : decode cX6_sends 300 = .ok (.invokestatic 48, 3) := by decide +kernel
theorem dX6_sends_303 : decode cX6_sends 303 = .ok (.iaload, 1) := by decide +kernel
theorem dX6_sends_304 : decode cX6_sends 304 = .ok (.ifCond .ne 9, 3) := by decide +kernel
theorem dX6_sends_307 : decode cX6_sends 307 = .ok (.iinc 4 1, 3) := by decide +kernel
theorem dX6_sends_310 : decode cX6_sends 310 = .ok (.goto (-18), 3) := by decide +kernel
theorem dX6_sends_313 : decode cX6_sends 313 = .ok (.aload_n 0, 1) := by decide +kernel
theorem dX6_sends_314 : decode cX6_sends 314 = .ok (.iload 4, 2) := by decide +kernel
theorem dX6_sends_316 : decode cX6_sends 316 = .ok (.invokevirtual 157, 3) := by decide +kernel
theorem dX6_sends_319 : decode cX6_sends 319 = .ok (.aload_n 0, 1) := by decide +kernel
theorem dX6_sends_320 : decode cX6_sends 320 = .ok (.getfield 7, 3) := by decide +kernel
theorem dX6_sends_323 : decode cX6_sends 323 = .ok (.iload_n 1, 1) := by decide +kernel
theorem dX6_sends_324 : decode cX6_sends 324 = .ok (.iconst 4, 1) := by decide +kernel
theorem dX6_sends_325 : decode cX6_sends 325 = .ok (.invokestatic 44, 3) := by decide +kernel
theorem dX6_sends_328 : decode cX6_sends 328 = .ok (.iaload, 1) := by decide +kernel
theorem dX6_sends_329 : decode cX6_sends 329 = .ok (.if_icmp .gt 7, 3) := by decide +kernel
theorem dX6_sends_332 : decode cX6_sends 332 = .ok (.iconst 1, 1) := by decide +kernel
theorem dX6_sends_333 : decode cX6_sends 333 = .ok (.goto 4, 3) := by decide +kernel
theorem dX6_sends_336 : decode cX6_sends 336 = .ok (.iconst 0, 1) := by decide +kernel
theorem dX6_sends_337 : decode cX6_sends 337 = .ok (.istore_n 3, 1) := by decide +kernel
theorem dX6_sends_338 : decode cX6_sends 338 = .ok (.iload_n 3, 1) := by decide +kernel
theorem dX6_sends_339 : decode cX6_sends 339 = .ok (.ifCond .eq 19, 3) := by decide +kernel
theorem dX6_sends_342 : decode cX6_sends 342 = .ok (.aload_n 0, 1) := by decide +kernel
theorem dX6_sends_343 : decode cX6_sends 343 = .ok (.iload_n 1, 1) := by decide +kernel
theorem dX6_sends_344 : decode cX6_sends 344 = .ok (.iload 4, 2) := by decide +kernel
theorem dX6_sends_346 : decode cX6_sends 346 = .ok (.invokevirtual 160, 3) := by decide +kernel
theorem dX6_sends_349 : decode cX6_sends 349 = .ok (.aload_n 0, 1) := by decide +kernel
theorem dX6_sends_350 : decode cX6_sends 350 = .ok (.iload 4, 2) := by decide +kernel
theorem dX6_sends_352 : decode cX6_sends 352 = .ok (.invokevirtual 135, 3) := by decide +kernel
theorem dX6_sends_355 : decode cX6_sends 355 = .ok (.iinc 2 1, 3) := by decide +kernel
theorem dX6_sends_358 : decode cX6_sends 358 = .ok (.goto (-321), 3) := by decide +kernel
theorem dX6_sends_361 : decode cX6_sends 361 = .ok (.iload_n 2, 1) := by decide +kernel
theorem dX6_sends_362 : decode cX6_sends 362 = .ok (.ireturn, 1) := by decide +kernel
theorem dX6_tick_0 : decode cX6_tick 0 = .ok (.iconst 0, 1) := by decide +kernel
theorem dX6_tick_1 : decode cX6_tick 1 = .ok (.istore_n 1, 1) := by decide +kernel
theorem dX6_tick_2 : decode cX6_tick 2 = .ok (.iconst 0, 1) := by decide +kernel
theorem dX6_tick_3 : decode cX6_tick 3 = .ok (.istore_n 2, 1) := by decide +kernel
theorem dX6_tick_4 : decode cX6_tick 4 = .ok (.iload_n 2, 1) := by decide +kernel
theorem dX6_tick_5 : decode cX6_tick 5 = .ok (.aload_n 0, 1) := by decide +kernel
theorem dX6_tick_6 : decode cX6_tick 6 = .ok (.getfield 7, 3) := by decide +kernel
theorem dX6_tick_9 : decode cX6_tick 9 = .ok (.iconst 1, 1) := by decide +kernel
theorem dX6_tick_10 : decode cX6_tick 10 = .ok (.iaload, 1) := by decide +kernel
theorem dX6_tick_11 : decode cX6_tick 11 = .ok (.if_icmp .ge 17, 3) := by decide +kernel
theorem dX6_tick_14 : decode cX6_tick 14 = .ok (.iload_n 1, 1) := by decide +kernel
theorem dX6_tick_15 : decode cX6_tick 15 = .ok (.aload_n 0, 1) := by decide +kernel
theorem dX6_tick_16 : decode cX6_tick 16 = .ok (.iload_n 2, 1) := by decide +kernel
theorem dX6_tick_17 : decode cX6_tick 17 = .ok (.invokevirtual 163, 3) := by decide +kernel
theorem dX6_tick_20 : decode cX6_tick 20 = .ok (.iadd, 1) := by decide +kernel
theorem dX6_tick_21 : decode cX6_tick 21 = .ok (.istore_n 1, 1) := by decide +kernel
theorem dX6_tick_22 : decode cX6_tick 22 = .ok (.iinc 2 1, 3) := by decide +kernel
theorem dX6_tick_25 : decode cX6_tick 25 = .ok (.goto (-21), 3) := by decide +kernel
theorem dX6_tick_28 : decode cX6_tick 28 = .ok (.iconst 0, 1) := by decide +kernel
theorem dX6_tick_29 : decode cX6_tick 29 = .ok (.istore_n 2, 1) := by decide +kernel
theorem dX6_tick_30 : decode cX6_tick 30 = .ok (.iload_n 2, 1) := by decide +kernel
theorem dX6_tick_31 : decode cX6_tick 31 = .ok (.iconst 3, 1) := by decide +kernel
theorem dX6_tick_32 : decode cX6_tick 32 = .ok (.aload_n 0, 1) := by decide +kernel
theorem dX6_tick_33 : decode cX6_tick 33 = .ok (.getfield 7, 3) := by decide +kernel
theorem dX6_tick_36 : decode cX6_tick 36 = .ok (.iconst 1, 1) := by decide +kernel
theorem dX6_tick_37 : decode cX6_tick 37 = .ok (.iaload, 1) := by decide +kernel
theorem dX6_tick_38 : decode cX6_tick 38 = .ok (.imul, 1) := by decide +kernel
theorem dX6_tick_39 : decode cX6_tick 39 = .ok (.if_icmp .ge 53, 3) := by decide +kernel
theorem dX6_tick_42 : decode cX6_tick 42 = .ok (.aload_n 0, 1) := by decide +kernel
theorem dX6_tick_43 : decode cX6_tick 43 = .ok (.getfield 7, 3) := by decide +kernel
theorem dX6_tick_46 : decode cX6_tick 46 = .ok (.iload_n 2, 1) := by decide +kernel
theorem dX6_tick_47 : decode cX6_tick 47 = .ok (.iconst 3, 1) := by decide +kernel
theorem dX6_tick_48 : decode cX6_tick 48 = .ok (.invokestatic 48, 3) := by decide +kernel
theorem dX6_tick_51 : decode cX6_tick 51 = .ok (.aload_n 0, 1) := by decide +kernel
theorem dX6_tick_52 : decode cX6_tick 52 = .ok (.getfield 7, 3) := by decide +kernel
theorem dX6_tick_55 : decode cX6_tick 55 = .ok (.iload_n 2, 1) := by decide +kernel
theorem dX6_tick_56 : decode cX6_tick 56 = .ok (.iconst 1, 1) := by decide +kernel
theorem dX6_tick_57 : decode cX6_tick 57 = .ok (.invokestatic 48, 3) := by decide +kernel
theorem dX6_tick_60 : decode cX6_tick 60 = .ok (.iaload, 1) := by decide +kernel
theorem dX6_tick_61 : decode cX6_tick 61 = .ok (.aload_n 0, 1) := by decide +kernel
theorem dX6_tick_62 : decode cX6_tick 62 = .ok (.getfield 7, 3) := by decide +kernel
theorem dX6_tick_65 : decode cX6_tick 65 = .ok (.iload_n 2, 1) := by decide +kernel
theorem dX6_tick_66 : decode cX6_tick 66 = .ok (.iconst 3, 1) := by decide +kernel
theorem dX6_tick_67 : decode cX6_tick 67 = .ok (.invokestatic 48, 3) := by decide +kernel
theorem dX6_tick_70 : decode cX6_tick 70 = .ok (.iaload, 1) := by decide +kernel
theorem dX6_tick_71 : decode cX6_tick 71 = .ok (.aload_n 0, 1) := by decide +kernel
theorem dX6_tick_72 : decode cX6_tick 72 = .ok (.getfield 7, 3) := by decide +kernel
theorem dX6_tick_75 : decode cX6_tick 75 = .ok (.iload_n 2, 1) := by decide +kernel
theorem dX6_tick_76 : decode cX6_tick 76 = .ok (.iconst 2, 1) := by decide +kernel
theorem dX6_tick_77 : decode cX6_tick 77 = .ok (.invokestatic 48, 3) := by decide +kernel
theorem dX6_tick_80 : decode cX6_tick 80 = .ok (.iaload, 1) := by decide +kernel
theorem dX6_tick_81 : decode cX6_tick 81 = .ok (.iadd, 1) := by decide +kernel
theorem dX6_tick_82 : decode cX6_tick 82 = .ok (.invokestatic 68, 3) := by decide +kernel
theorem dX6_tick_85 : decode cX6_tick 85 = .ok (.iastore, 1) := by decide +kernel
theorem dX6_tick_86 : decode cX6_tick 86 = .ok (.iinc 2 1, 3) := by decide +kernel
theorem dX6_tick_89 : decode cX6_tick 89 = .ok (.goto (-59), 3) := by decide +kernel
theorem dX6_tick_92 : decode cX6_tick 92 = .ok (.iconst 0, 1) := by decide +kernel
theorem dX6_tick_93 : decode cX6_tick 93 = .ok (.istore_n 2, 1) := by decide +kernel
theorem dX6_tick_94 : decode cX6_tick 94 = .ok (.iload_n 2, 1) := by decide +kernel
theorem dX6_tick_95 : decode cX6_tick 95 = .ok (.iconst 3, 1) := by decide +kernel
theorem dX6_tick_96 : decode cX6_tick 96 = .ok (.aload_n 0, 1) := by decide +kernel
theorem dX6_tick_97 : decode cX6_tick 97 = .ok (.getfield 7, 3) := by decide +kernel
theorem dX6_tick_100 : decode cX6_tick 100 = .ok (.iconst 1, 1) := by decide +kernel
theorem dX6_tick_101 : decode cX6_tick 101 = .ok (.iaload, 1) := by decide +kernel
theorem dX6_tick_102 : decode cX6_tick 102 = .ok (.imul, 1) := by decide +kernel
theorem dX6_tick_103 : decode cX6_tick 103 = .ok (.if_icmp .ge 71, 3) := by decide +kernel
theorem dX6_tick_106 : decode cX6_tick 106 = .ok (.aload_n 0, 1) := by decide +kernel
theorem dX6_tick_107 : decode cX6_tick 107 = .ok (.getfield 7, 3) := by decide +kernel
theorem dX6_tick_110 : decode cX6_tick 110 = .ok (.iload_n 2, 1) := by decide +kernel
theorem dX6_tick_111 : decode cX6_tick 111 = .ok (.bipush 10, 2) := by decide +kernel
theorem dX6_tick_113 : decode cX6_tick 113 = .ok (.invokestatic 48, 3) := by decide +kernel
theorem dX6_tick_116 : decode cX6_tick 116 = .ok (.iaload, 1) := by decide +kernel
theorem dX6_tick_117 : decode cX6_tick 117 = .ok (.iconst 1, 1) := by decide +kernel
theorem dX6_tick_118 : decode cX6_tick 118 = .ok (.if_icmp .ne 50, 3) := by decide +kernel
theorem dX6_tick_121 : decode cX6_tick 121 = .ok (.aload_n 0, 1) := by decide +kernel
theorem dX6_tick_122 : decode cX6_tick 122 = .ok (.getfield 7, 3) := by decide +kernel
theorem dX6_tick_125 : decode cX6_tick 125 = .ok (.iload_n 2, 1) := by decide +kernel
theorem dX6_tick_126 : decode cX6_tick 126 = .ok (.bipush 8, 2) := by decide +kernel
theorem dX6_tick_128 : decode cX6_tick 128 = .ok (.invokestatic 48, 3) := by decide +kernel
theorem dX6_tick_131 : decode cX6_tick 131 = .ok (.iaload, 1) := by decide +kernel
theorem dX6_tick_132 : decode cX6_tick 132 = .ok (.ifCond .ne 36, 3) := by decide +kernel
theorem dX6_tick_135 : decode cX6_tick 135 = .ok (.aload_n 0, 1) := by decide +kernel
theorem dX6_tick_136 : decode cX6_tick 136 = .ok (.getfield 7, 3) := by decide +kernel
theorem dX6_tick_139 : decode cX6_tick 139 = .ok (.iload_n 2, 1) := by decide +kernel
theorem dX6_tick_140 : decode cX6_tick 140 = .ok (.bipush 7, 2) := by decide +kernel
theorem dX6_tick_142 : decode cX6_tick 142 = .ok (.invokestatic 48, 3) := by decide +kernel
theorem dX6_tick_145 : decode cX6_tick 145 = .ok (.iaload, 1) := by decide +kernel
theorem dX6_tick_146 : decode cX6_tick 146 = .ok (.iconst 2, 1) := by decide +kernel
theorem dX6_tick_147 : decode cX6_tick 147 = .ok (.iadd, 1) := by decide +kernel
theorem dX6_tick_148 : decode cX6_tick 148 = .ok (.aload_n 0, 1) := by decide +kernel
theorem dX6_tick_149 : decode cX6_tick 149 = .ok (.iload_n 2, 1) := by decide +kernel
theorem dX6_tick_150 : decode cX6_tick 150 = .ok (.invokevirtual 113, 3) := by decide +kernel
theorem dX6_tick_153 : decode cX6_tick 153 = .ok (.if_icmp .gt 15, 3) := by decide +kernel
theorem dX6_tick_156 : decode cX6_tick 156 = .ok (.aload_n 0, 1) := by decide +kernel
theorem dX6_tick_157 : decode cX6_tick 157 = .ok (.getfield 7, 3) := by decide +kernel
theorem dX6_tick_160 : decode cX6_tick 160 = .ok (.iload_n 2, 1) := by decide +kernel
theorem dX6_tick_161 : decode cX6_tick 161 = .ok (.bipush 10, 2) := by decide +kernel
theorem dX6_tick_163 : decode cX6_tick 163 = .ok (.invokestatic 48, 3) := by decide +kernel
theorem dX6_tick_166 : decode cX6_tick 166 = .ok (.iconst 0, 1) := by decide +kernel
theorem dX6_tick_167 : decode cX6_tick 167 = .ok (.iastore, 1) := by decide +kernel
theorem dX6_tick_168 : decode cX6_tick 168 = .ok (.iinc 2 1, 3) := by decide +kernel
theorem dX6_tick_171 : decode cX6_tick 171 = .ok (.goto (-77), 3) := by decide +kernel
theorem dX6_tick_174 : decode cX6_tick 174 = .ok (.aload_n 0, 1) := by decide +kernel
theorem dX6_tick_175 : decode cX6_tick 175 = .ok (.getfield 7, 3) := by decide +kernel
theorem dX6_tick_178 : decode cX6_tick 178 = .ok (.iconst 3, 1) := by decide +kernel
theorem dX6_tick_179 : decode cX6_tick 179 = .ok (.dup2, 1) := by decide +kernel
theorem dX6_tick_180 : decode cX6_tick 180 = .ok (.iaload, 1) := by decide +kernel
theorem dX6_tick_181 : decode cX6_tick 181 = .ok (.iconst 1, 1) := by decide +kernel
theorem dX6_tick_182 : decode cX6_tick 182 = .ok (.iadd, 1) := by decide +kernel
theorem dX6_tick_183 : decode cX6_tick 183 = .ok (.iastore, 1) := by decide +kernel
theorem dX6_tick_184 : decode cX6_tick 184 = .ok (.iload_n 1, 1) := by decide +kernel
theorem dX6_tick_185 : decode cX6_tick 185 = .ok (.ireturn, 1) := by decide +kernel
theorem dX6_ticking_0 : decode cX6_ticking 0 = .ok (.iconst 0, 1) := by decide +kernel
theorem dX6_ticking_1 : decode cX6_ticking 1 = .ok (.istore_n 2, 1) := by decide +kernel
theorem dX6_ticking_2 : decode cX6_ticking 2 = .ok (.iconst 0, 1) := by decide +kernel
theorem dX6_ticking_3 : decode cX6_ticking 3 = .ok (.istore_n 3, 1) := by decide +kernel
theorem dX6_ticking_4 : decode cX6_ticking 4 = .ok (.iload_n 3, 1) := by decide +kernel
theorem dX6_ticking_5 : decode cX6_ticking 5 = .ok (.iload_n 1, 1) := by decide +kernel
theorem dX6_ticking_6 : decode cX6_ticking 6 = .ok (.if_icmp .ge 16, 3) := by decide +kernel
theorem dX6_ticking_9 : decode cX6_ticking 9 = .ok (.iload_n 2, 1) := by decide +kernel
theorem dX6_ticking_10 : decode cX6_ticking 10 = .ok (.aload_n 0, 1) := by decide +kernel
theorem dX6_ticking_11 : decode cX6_ticking 11 = .ok (.invokevirtual 166, 3) := by decide +kernel
theorem dX6_ticking_14 : decode cX6_ticking 14 = .ok (.iadd, 1) := by decide +kernel
theorem dX6_ticking_15 : decode cX6_ticking 15 = .ok (.istore_n 2, 1) := by decide +kernel
theorem dX6_ticking_16 : decode cX6_ticking 16 = .ok (.iinc 3 1, 3) := by decide +kernel
theorem dX6_ticking_19 : decode cX6_ticking 19 = .ok (.goto (-15), 3) := by decide +kernel
theorem dX6_ticking_22 : decode cX6_ticking 22 = .ok (.iload_n 2, 1) := by decide +kernel
theorem dX6_ticking_23 : decode cX6_ticking 23 = .ok (.ireturn, 1) := by decide +kernel
theorem dX6_ticks_0 : decode cX6_ticks 0 = .ok (.iload_n 1, 1) := by decide +kernel
theorem dX6_ticks_1 : decode cX6_ticks 1 = .ok (.iconst 1, 1) := by decide +kernel
theorem dX6_ticks_2 : decode cX6_ticks 2 = .ok (.bipush 20, 2) := by decide +kernel
theorem dX6_ticks_4 : decode cX6_ticks 4 = .ok (.invokestatic 36, 3) := by decide +kernel
theorem dX6_ticks_7 : decode cX6_ticks 7 = .ok (.ifCond .eq 11, 3) := by decide +kernel
theorem dX6_ticks_10 : decode cX6_ticks 10 = .ok (.aload_n 0, 1) := by decide +kernel
theorem dX6_ticks_11 : decode cX6_ticks 11 = .ok (.iload_n 1, 1) := by decide +kernel
theorem dX6_ticks_12 : decode cX6_ticks 12 = .ok (.invokevirtual 169, 3) := by decide +kernel
theorem dX6_ticks_15 : decode cX6_ticks 15 = .ok (.goto 5, 3) := by decide +kernel
theorem dX6_ticks_18 : decode cX6_ticks 18 = .ok (.bipush (-2), 2) := by decide +kernel
theorem dX6_ticks_20 : decode cX6_ticks 20 = .ok (.ireturn, 1) := by decide +kernel
theorem dX6_flushes_0 : decode cX6_flushes 0 = .ok (.iconst 0, 1) := by decide +kernel
theorem dX6_flushes_1 : decode cX6_flushes 1 = .ok (.istore_n 2, 1) := by decide +kernel
theorem dX6_flushes_2 : decode cX6_flushes 2 = .ok (.iconst 3, 1) := by decide +kernel
theorem dX6_flushes_3 : decode cX6_flushes 3 = .ok (.iload_n 1, 1) := by decide +kernel
theorem dX6_flushes_4 : decode cX6_flushes 4 = .ok (.imul, 1) := by decide +kernel
theorem dX6_flushes_5 : decode cX6_flushes 5 = .ok (.istore_n 3, 1) := by decide +kernel
theorem dX6_flushes_6 : decode cX6_flushes 6 = .ok (.iload_n 3, 1) := by decide +kernel
theorem dX6_flushes_7 : decode cX6_flushes 7 = .ok (.iconst 3, 1) := by decide +kernel
theorem dX6_flushes_8 : decode cX6_flushes 8 = .ok (.iload_n 1, 1) := by decide +kernel
theorem dX6_flushes_9 : decode cX6_flushes 9 = .ok (.imul, 1) := by decide +kernel
theorem dX6_flushes_10 : decode cX6_flushes 10 = .ok (.iconst 3, 1) := by decide +kernel
theorem dX6_flushes_11 : decode cX6_flushes 11 = .ok (.iadd, 1) := by decide +kernel
theorem dX6_flushes_12 : decode cX6_flushes 12 = .ok (.if_icmp .ge 47, 3) := by decide +kernel
theorem dX6_flushes_15 : decode cX6_flushes 15 = .ok (.aload_n 0, 1) := by decide +kernel
theorem dX6_flushes_16 : decode cX6_flushes 16 = .ok (.getfield 7, 3) := by decide +kernel
theorem dX6_flushes_19 : decode cX6_flushes 19 = .ok (.iload_n 3, 1) := by decide +kernel
theorem dX6_flushes_20 : decode cX6_flushes 20 = .ok (.bipush 12, 2) := by decide +kernel
theorem dX6_flushes_22 : decode cX6_flushes 22 = .ok (.invokestatic 48, 3) := by decide +kernel
theorem dX6_flushes_25 : decode cX6_flushes 25 = .ok (.iaload, 1) := by decide +kernel
theorem dX6_flushes_26 : decode cX6_flushes 26 = .ok (.ifCond .le 27, 3) := by decide +kernel
theorem dX6_flushes_29 : decode cX6_flushes 29 = .ok (.aload_n 0, 1) := by decide +kernel
theorem dX6_flushes_30 : decode cX6_flushes 30 = .ok (.iload_n 1, 1) := by decide +kernel
theorem dX6_flushes_31 : decode cX6_flushes 31 = .ok (.bipush 9, 2) := by decide +kernel
theorem dX6_flushes_33 : decode cX6_flushes 33 = .ok (.aload_n 0, 1) := by decide +kernel
theorem dX6_flushes_34 : decode cX6_flushes 34 = .ok (.iload_n 3, 1) := by decide +kernel
theorem dX6_flushes_35 : decode cX6_flushes 35 = .ok (.iconst 0, 1) := by decide +kernel
theorem dX6_flushes_36 : decode cX6_flushes 36 = .ok (.invokevirtual 132, 3) := by decide +kernel
theorem dX6_flushes_39 : decode cX6_flushes 39 = .ok (.invokevirtual 138, 3) := by decide +kernel
theorem dX6_flushes_42 : decode cX6_flushes 42 = .ok (.aload_n 0, 1) := by decide +kernel
theorem dX6_flushes_43 : decode cX6_flushes 43 = .ok (.iload_n 3, 1) := by decide +kernel
theorem dX6_flushes_44 : decode cX6_flushes 44 = .ok (.invokevirtual 135, 3) := by decide +kernel
theorem dX6_flushes_47 : decode cX6_flushes 47 = .ok (.iinc 2 1, 3) := by decide +kernel
theorem dX6_flushes_50 : decode cX6_flushes 50 = .ok (.goto (-35), 3) := by decide +kernel
theorem dX6_flushes_53 : decode cX6_flushes 53 = .ok (.iinc 3 1, 3) := by decide +kernel
theorem dX6_flushes_56 : decode cX6_flushes 56 = .ok (.goto (-50), 3) := by decide +kernel
theorem dX6_flushes_59 : decode cX6_flushes 59 = .ok (.iload_n 2, 1) := by decide +kernel
theorem dX6_flushes_60 : decode cX6_flushes 60 = .ok (.ireturn, 1) := by decide +kernel
theorem dX6_flush_0 : decode cX6_flush 0 = .ok (.aload_n 0, 1) := by decide +kernel
theorem dX6_flush_1 : decode cX6_flush 1 = .ok (.iload_n 1, 1) := by decide +kernel
theorem dX6_flush_2 : decode cX6_flush 2 = .ok (.invokevirtual 40, 3) := by decide +kernel
theorem dX6_flush_5 : decode cX6_flush 5 = .ok (.ifCond .eq 11, 3) := by decide +kernel
theorem dX6_flush_8 : decode cX6_flush 8 = .ok (.aload_n 0, 1) := by decide +kernel
theorem dX6_flush_9 : decode cX6_flush 9 = .ok (.iload_n 1, 1) := by decide +kernel
theorem dX6_flush_10 : decode cX6_flush 10 = .ok (.invokevirtual 172, 3) := by decide +kernel
theorem dX6_flush_13 : decode cX6_flush 13 = .ok (.goto 4, 3) := by decide +kernel
theorem dX6_flush_16 : decode cX6_flush 16 = .ok (.iconst (-1), 1) := by decide +kernel
theorem dX6_flush_17 : decode cX6_flush 17 = .ok (.ireturn, 1) := by decide +kernel
theorem dX6_traffic_0 : decode cX6_traffic 0 = .ok (.iload_n 1, 1) := by decide +kernel
theorem dX6_traffic_1 : decode cX6_traffic 1 = .ok (.ifCond .lt 22, 3) := by decide +kernel
theorem dX6_traffic_4 : decode cX6_traffic 4 = .ok (.iload_n 2, 1) := by decide +kernel
theorem dX6_traffic_5 : decode cX6_traffic 5 = .ok (.iconst 1, 1) := by decide +kernel
theorem dX6_traffic_6 : decode cX6_traffic 6 = .ok (.bipush 16, 2) := by decide +kernel
theorem dX6_traffic_8 : decode cX6_traffic 8 = .ok (.invokestatic 36, 3) := by decide +kernel
theorem dX6_traffic_11 : decode cX6_traffic 11 = .ok (.ifCond .eq 12, 3) := by decide +kernel
theorem dX6_traffic_14 : decode cX6_traffic 14 = .ok (.iload_n 3, 1) := by decide +kernel
theorem dX6_traffic_15 : decode cX6_traffic 15 = .ok (.iconst 1, 1) := by decide +kernel
theorem dX6_traffic_16 : decode cX6_traffic 16 = .ok (.iconst 3, 1) := by decide +kernel
theorem dX6_traffic_17 : decode cX6_traffic 17 = .ok (.invokestatic 36, 3) := by decide +kernel
theorem dX6_traffic_20 : decode cX6_traffic 20 = .ok (.ifCond .ne 6, 3) := by decide +kernel
theorem dX6_traffic_23 : decode cX6_traffic 23 = .ok (.bipush (-2), 2) := by decide +kernel
theorem dX6_traffic_25 : decode cX6_traffic 25 = .ok (.ireturn, 1) := by decide +kernel
theorem dX6_traffic_26 : decode cX6_traffic 26 = .ok (.iload_n 1, 1) := by decide +kernel
theorem dX6_traffic_27 : decode cX6_traffic 27 = .ok (.i2l, 1) := by decide +kernel
theorem dX6_traffic_28 : decode cX6_traffic 28 = .ok (.lstore 4, 2) := by decide +kernel
theorem dX6_traffic_30 : decode cX6_traffic 30 = .ok (.iconst 0, 1) := by decide +kernel
theorem dX6_traffic_31 : decode cX6_traffic 31 = .ok (.istore 6, 2) := by decide +kernel
theorem dX6_traffic_33 : decode cX6_traffic 33 = .ok (.iconst 0, 1) := by decide +kernel
theorem dX6_traffic_34 : decode cX6_traffic 34 = .ok (.istore 7, 2) := by decide +kernel
theorem dX6_traffic_36 : decode cX6_traffic 36 = .ok (.iload 7, 2) := by decide +kernel
theorem dX6_traffic_38 : decode cX6_traffic 38 = .ok (.iload_n 2, 1) := by decide +kernel
theorem dX6_traffic_39 : decode cX6_traffic 39 = .ok (.if_icmp .ge 106, 3) := by decide +kernel
theorem dX6_traffic_42 : decode cX6_traffic 42 = .ok (.iconst 0, 1) := by decide +kernel
theorem dX6_traffic_43 : decode cX6_traffic 43 = .ok (.istore 8, 2) := by decide +kernel
theorem dX6_traffic_45 : decode cX6_traffic 45 = .ok (.iload 8, 2) := by decide +kernel
theorem dX6_traffic_47 : decode cX6_traffic 47 = .ok (.iload_n 3, 1) := by decide +kernel
theorem dX6_traffic_48 : decode cX6_traffic 48 = .ok (.if_icmp .ge 86, 3) := by decide +kernel
theorem dX6_traffic_51 : decode cX6_traffic 51 = .ok (.lload 4, 2) := by decide +kernel
theorem dX6_traffic_53 : decode cX6_traffic 53 = .ok (.ldc2_w 175, 3) := by decide +kernel
theorem dX6_traffic_56 : decode cX6_traffic 56 = .ok (.lmul, 1) := by decide +kernel
theorem dX6_traffic_57 : decode cX6_traffic 57 = .ok (.ldc2_w 177, 3) := by decide +kernel
theorem dX6_traffic_60 : decode cX6_traffic 60 = .ok (.ladd, 1) := by decide +kernel
theorem dX6_traffic_61 : decode cX6_traffic 61 = .ok (.ldc2_w 179, 3) := by decide +kernel
theorem dX6_traffic_64 : decode cX6_traffic 64 = .ok (.lrem, 1) := by decide +kernel
theorem dX6_traffic_65 : decode cX6_traffic 65 = .ok (.lstore 4, 2) := by decide +kernel
theorem dX6_traffic_67 : decode cX6_traffic 67 = .ok (.lload 4, 2) := by decide +kernel
theorem dX6_traffic_69 : decode cX6_traffic 69 = .ok (.ldc2_w 181, 3) := by decide +kernel
theorem dX6_traffic_72 : decode cX6_traffic 72 = .ok (.ldiv, 1) := by decide +kernel
theorem dX6_traffic_73 : decode cX6_traffic 73 = .ok (.l2i, 1) := by decide +kernel
theorem dX6_traffic_74 : decode cX6_traffic 74 = .ok (.istore 9, 2) := by decide +kernel
theorem dX6_traffic_76 : decode cX6_traffic 76 = .ok (.iconst 3, 1) := by decide +kernel
theorem dX6_traffic_77 : decode cX6_traffic 77 = .ok (.iload 9, 2) := by decide +kernel
theorem dX6_traffic_79 : decode cX6_traffic 79 = .ok (.aload_n 0, 1) := by decide +kernel
theorem dX6_traffic_80 : decode cX6_traffic 80 = .ok (.getfield 7, 3) := by decide +kernel
theorem dX6_traffic_83 : decode cX6_traffic 83 = .ok (.iconst 1, 1) := by decide +kernel
theorem dX6_traffic_84 : decode cX6_traffic 84 = .ok (.iaload, 1) := by decide +kernel
theorem dX6_traffic_85 : decode cX6_traffic 85 = .ok (.irem, 1) := by decide +kernel
theorem dX6_traffic_86 : decode cX6_traffic 86 = .ok (.imul, 1) := by decide +kernel
theorem dX6_traffic_87 : decode cX6_traffic 87 = .ok (.iload 9, 2) := by decide +kernel
theorem dX6_traffic_89 : decode cX6_traffic 89 = .ok (.bipush 8, 2) := by decide +kernel
theorem dX6_traffic_91 : decode cX6_traffic 91 = .ok (.idiv, 1) := by decide +kernel
theorem dX6_traffic_92 : decode cX6_traffic 92 = .ok (.iconst 3, 1) := by decide +kernel
theorem dX6_traffic_93 : decode cX6_traffic 93 = .ok (.irem, 1) := by decide +kernel
theorem dX6_traffic_94 : decode cX6_traffic 94 = .ok (.iadd, 1) := by decide +kernel
theorem dX6_traffic_95 : decode cX6_traffic 95 = .ok (.istore 10, 2) := by decide +kernel
theorem dX6_traffic_97 : decode cX6_traffic 97 = .ok (.iload 6, 2) := by decide +kernel
theorem dX6_traffic_99 : decode cX6_traffic 99 = .ok (.aload_n 0, 1) := by decide +kernel
theorem dX6_traffic_100 : decode cX6_traffic 100 = .ok (.iload 10, 2) := by decide +kernel
theorem dX6_traffic_102 : decode cX6_traffic 102 = .ok (.iload 9, 2) := by decide +kernel
theorem dX6_traffic_104 : decode cX6_traffic 104 = .ok (.bipush 32, 2) := by decide +kernel
theorem dX6_traffic_106 : decode cX6_traffic 106 = .ok (.idiv, 1) := by decide +kernel
theorem dX6_traffic_107 : decode cX6_traffic 107 = .ok (.bipush 12, 2) := by decide +kernel
theorem dX6_traffic_109 : decode cX6_traffic 109 = .ok (.irem, 1) := by decide +kernel
theorem dX6_traffic_110 : decode cX6_traffic 110 = .ok (.iconst 1, 1) := by decide +kernel
theorem dX6_traffic_111 : decode cX6_traffic 111 = .ok (.iadd, 1) := by decide +kernel
theorem dX6_traffic_112 : decode cX6_traffic 112 = .ok (.invokevirtual 154, 3) := by decide +kernel
theorem dX6_traffic_115 : decode cX6_traffic 115 = .ok (.bipush (-6), 2) := by decide +kernel
theorem dX6_traffic_117 : decode cX6_traffic 117 = .ok (.if_icmp .ne 7, 3) := by decide +kernel
theorem dX6_traffic_120 : decode cX6_traffic 120 = .ok (.iconst 1, 1) := by decide +kernel
theorem dX6_traffic_121 : decode cX6_traffic 121 = .ok (.goto 4, 3) := by decide +kernel
theorem dX6_traffic_124 : decode cX6_traffic 124 = .ok (.iconst 0, 1) := by decide +kernel
theorem dX6_traffic_125 : decode cX6_traffic 125 = .ok (.iadd, 1) := by decide +kernel
theorem dX6_traffic_126 : decode cX6_traffic 126 = .ok (.istore 6, 2) := by decide +kernel
theorem dX6_traffic_128 : decode cX6_traffic 128 = .ok (.iinc 8 1, 3) := by decide +kernel
theorem dX6_traffic_131 : decode cX6_traffic 131 = .ok (.goto (-86), 3) := by decide +kernel
theorem dX6_traffic_134 : decode cX6_traffic 134 = .ok (.aload_n 0, 1) := by decide +kernel
theorem dX6_traffic_135 : decode cX6_traffic 135 = .ok (.invokevirtual 166, 3) := by decide +kernel
theorem dX6_traffic_138 : decode cX6_traffic 138 = .ok (.pop, 1) := by decide +kernel
theorem dX6_traffic_139 : decode cX6_traffic 139 = .ok (.iinc 7 1, 3) := by decide +kernel
theorem dX6_traffic_142 : decode cX6_traffic 142 = .ok (.goto (-106), 3) := by decide +kernel
theorem dX6_traffic_145 : decode cX6_traffic 145 = .ok (.iload 6, 2) := by decide +kernel
theorem dX6_traffic_147 : decode cX6_traffic 147 = .ok (.ireturn, 1) := by decide +kernel
theorem dX6_freeShared_0 : decode cX6_freeShared 0 = .ok (.aload_n 0, 1) := by decide +kernel
theorem dX6_freeShared_1 : decode cX6_freeShared 1 = .ok (.invokevirtual 62, 3) := by decide +kernel
theorem dX6_freeShared_4 : decode cX6_freeShared 4 = .ok (.ireturn, 1) := by decide +kernel
theorem dX6_sharedPool_0 : decode cX6_sharedPool 0 = .ok (.aload_n 0, 1) := by decide +kernel
theorem dX6_sharedPool_1 : decode cX6_sharedPool 1 = .ok (.invokevirtual 55, 3) := by decide +kernel
theorem dX6_sharedPool_4 : decode cX6_sharedPool 4 = .ok (.ireturn, 1) := by decide +kernel
theorem dX6_freeGuarantee_0 : decode cX6_freeGuarantee 0 = .ok (.aload_n 0, 1) := by decide +kernel
theorem dX6_freeGuarantee_1 : decode cX6_freeGuarantee 1 = .ok (.iload_n 1, 1) := by decide +kernel
theorem dX6_freeGuarantee_2 : decode cX6_freeGuarantee 2 = .ok (.invokevirtual 40, 3) := by decide +kernel
theorem dX6_freeGuarantee_5 : decode cX6_freeGuarantee 5 = .ok (.ifCond .eq 11, 3) := by decide +kernel
theorem dX6_freeGuarantee_8 : decode cX6_freeGuarantee 8 = .ok (.aload_n 0, 1) := by decide +kernel
theorem dX6_freeGuarantee_9 : decode cX6_freeGuarantee 9 = .ok (.iload_n 1, 1) := by decide +kernel
theorem dX6_freeGuarantee_10 : decode cX6_freeGuarantee 10 = .ok (.invokevirtual 65, 3) := by decide +kernel
theorem dX6_freeGuarantee_13 : decode cX6_freeGuarantee 13 = .ok (.goto 4, 3) := by decide +kernel
theorem dX6_freeGuarantee_16 : decode cX6_freeGuarantee 16 = .ok (.iconst (-1), 1) := by decide +kernel
theorem dX6_freeGuarantee_17 : decode cX6_freeGuarantee 17 = .ok (.ireturn, 1) := by decide +kernel
theorem dX6_ofPort_0 : decode cX6_ofPort 0 = .ok (.aload_n 0, 1) := by decide +kernel
theorem dX6_ofPort_1 : decode cX6_ofPort 1 = .ok (.iload_n 1, 1) := by decide +kernel
theorem dX6_ofPort_2 : decode cX6_ofPort 2 = .ok (.invokevirtual 40, 3) := by decide +kernel
theorem dX6_ofPort_5 : decode cX6_ofPort 5 = .ok (.ifCond .eq 16, 3) := by decide +kernel
theorem dX6_ofPort_8 : decode cX6_ofPort 8 = .ok (.aload_n 0, 1) := by decide +kernel
theorem dX6_ofPort_9 : decode cX6_ofPort 9 = .ok (.getfield 7, 3) := by decide +kernel
theorem dX6_ofPort_12 : decode cX6_ofPort 12 = .ok (.iload_n 1, 1) := by decide +kernel
theorem dX6_ofPort_13 : decode cX6_ofPort 13 = .ok (.iload_n 2, 1) := by decide +kernel
theorem dX6_ofPort_14 : decode cX6_ofPort 14 = .ok (.invokestatic 44, 3) := by decide +kernel
theorem dX6_ofPort_17 : decode cX6_ofPort 17 = .ok (.iaload, 1) := by decide +kernel
theorem dX6_ofPort_18 : decode cX6_ofPort 18 = .ok (.goto 4, 3) := by decide +kernel
theorem dX6_ofPort_21 : decode cX6_ofPort 21 = .ok (.iconst (-1), 1) := by decide +kernel
theorem dX6_ofPort_22 : decode cX6_ofPort 22 = .ok (.ireturn, 1) := by decide +kernel
theorem dX6_ofQueue_0 : decode cX6_ofQueue 0 = .ok (.aload_n 0, 1) := by decide +kernel
theorem dX6_ofQueue_1 : decode cX6_ofQueue 1 = .ok (.iload_n 1, 1) := by decide +kernel
theorem dX6_ofQueue_2 : decode cX6_ofQueue 2 = .ok (.iload_n 2, 1) := by decide +kernel
theorem dX6_ofQueue_3 : decode cX6_ofQueue 3 = .ok (.invokevirtual 75, 3) := by decide +kernel
theorem dX6_ofQueue_6 : decode cX6_ofQueue 6 = .ok (.ifCond .eq 20, 3) := by decide +kernel
theorem dX6_ofQueue_9 : decode cX6_ofQueue 9 = .ok (.aload_n 0, 1) := by decide +kernel
theorem dX6_ofQueue_10 : decode cX6_ofQueue 10 = .ok (.getfield 7, 3) := by decide +kernel
theorem dX6_ofQueue_13 : decode cX6_ofQueue 13 = .ok (.iconst 3, 1) := by decide +kernel
theorem dX6_ofQueue_14 : decode cX6_ofQueue 14 = .ok (.iload_n 1, 1) := by decide +kernel
theorem dX6_ofQueue_15 : decode cX6_ofQueue 15 = .ok (.imul, 1) := by decide +kernel
theorem dX6_ofQueue_16 : decode cX6_ofQueue 16 = .ok (.iload_n 2, 1) := by decide +kernel
theorem dX6_ofQueue_17 : decode cX6_ofQueue 17 = .ok (.iadd, 1) := by decide +kernel
theorem dX6_ofQueue_18 : decode cX6_ofQueue 18 = .ok (.iload_n 3, 1) := by decide +kernel
theorem dX6_ofQueue_19 : decode cX6_ofQueue 19 = .ok (.invokestatic 48, 3) := by decide +kernel
theorem dX6_ofQueue_22 : decode cX6_ofQueue 22 = .ok (.iaload, 1) := by decide +kernel
theorem dX6_ofQueue_23 : decode cX6_ofQueue 23 = .ok (.goto 4, 3) := by decide +kernel
theorem dX6_ofQueue_26 : decode cX6_ofQueue 26 = .ok (.iconst (-1), 1) := by decide +kernel
theorem dX6_ofQueue_27 : decode cX6_ofQueue 27 = .ok (.ireturn, 1) := by decide +kernel
theorem dX6_grantOf_0 : decode cX6_grantOf 0 = .ok (.aload_n 0, 1) := by decide +kernel
theorem dX6_grantOf_1 : decode cX6_grantOf 1 = .ok (.iload_n 1, 1) := by decide +kernel
theorem dX6_grantOf_2 : decode cX6_grantOf 2 = .ok (.iconst 2, 1) := by decide +kernel
theorem dX6_grantOf_3 : decode cX6_grantOf 3 = .ok (.invokevirtual 183, 3) := by decide +kernel
theorem dX6_grantOf_6 : decode cX6_grantOf 6 = .ok (.ireturn, 1) := by decide +kernel
theorem dX6_threshold_0 : decode cX6_threshold 0 = .ok (.aload_n 0, 1) := by decide +kernel
theorem dX6_threshold_1 : decode cX6_threshold 1 = .ok (.iload_n 1, 1) := by decide +kernel
theorem dX6_threshold_2 : decode cX6_threshold 2 = .ok (.iload_n 2, 1) := by decide +kernel
theorem dX6_threshold_3 : decode cX6_threshold 3 = .ok (.invokevirtual 75, 3) := by decide +kernel
theorem dX6_threshold_6 : decode cX6_threshold 6 = .ok (.ifCond .eq 15, 3) := by decide +kernel
theorem dX6_threshold_9 : decode cX6_threshold 9 = .ok (.aload_n 0, 1) := by decide +kernel
theorem dX6_threshold_10 : decode cX6_threshold 10 = .ok (.iconst 3, 1) := by decide +kernel
theorem dX6_threshold_11 : decode cX6_threshold 11 = .ok (.iload_n 1, 1) := by decide +kernel
theorem dX6_threshold_12 : decode cX6_threshold 12 = .ok (.imul, 1) := by decide +kernel
theorem dX6_threshold_13 : decode cX6_threshold 13 = .ok (.iload_n 2, 1) := by decide +kernel
theorem dX6_threshold_14 : decode cX6_threshold 14 = .ok (.iadd, 1) := by decide +kernel
theorem dX6_threshold_15 : decode cX6_threshold 15 = .ok (.invokevirtual 113, 3) := by decide +kernel
theorem dX6_threshold_18 : decode cX6_threshold 18 = .ok (.goto 4, 3) := by decide +kernel
theorem dX6_threshold_21 : decode cX6_threshold 21 = .ok (.iconst (-1), 1) := by decide +kernel
theorem dX6_threshold_22 : decode cX6_threshold 22 = .ok (.ireturn, 1) := by decide +kernel
theorem dX6_guaranteedCells_0 : decode cX6_guaranteedCells 0 = .ok (.aload_n 0, 1) := by decide +kernel
theorem dX6_guaranteedCells_1 : decode cX6_guaranteedCells 1 = .ok (.iload_n 1, 1) := by decide +kernel
theorem dX6_guaranteedCells_2 : decode cX6_guaranteedCells 2 = .ok (.iload_n 2, 1) := by decide +kernel
theorem dX6_guaranteedCells_3 : decode cX6_guaranteedCells 3 = .ok (.bipush 6, 2) := by decide +kernel
theorem dX6_guaranteedCells_5 : decode cX6_guaranteedCells 5 = .ok (.invokevirtual 186, 3) := by decide +kernel
theorem dX6_guaranteedCells_8 : decode cX6_guaranteedCells 8 = .ok (.ireturn, 1) := by decide +kernel
theorem dX6_sharedCells_0 : decode cX6_sharedCells 0 = .ok (.aload_n 0, 1) := by decide +kernel
theorem dX6_sharedCells_1 : decode cX6_sharedCells 1 = .ok (.iload_n 1, 1) := by decide +kernel
theorem dX6_sharedCells_2 : decode cX6_sharedCells 2 = .ok (.iload_n 2, 1) := by decide +kernel
theorem dX6_sharedCells_3 : decode cX6_sharedCells 3 = .ok (.bipush 7, 2) := by decide +kernel
theorem dX6_sharedCells_5 : decode cX6_sharedCells 5 = .ok (.invokevirtual 186, 3) := by decide +kernel
theorem dX6_sharedCells_8 : decode cX6_sharedCells 8 = .ok (.ireturn, 1) := by decide +kernel
theorem dX6_headroomCells_0 : decode cX6_headroomCells 0 = .ok (.aload_n 0, 1) := by decide +kernel
theorem dX6_headroomCells_1 : decode cX6_headroomCells 1 = .ok (.iload_n 1, 1) := by decide +kernel
theorem dX6_headroomCells_2 : decode cX6_headroomCells 2 = .ok (.iload_n 2, 1) := by decide +kernel
theorem dX6_headroomCells_3 : decode cX6_headroomCells 3 = .ok (.bipush 8, 2) := by decide +kernel
theorem dX6_headroomCells_5 : decode cX6_headroomCells 5 = .ok (.invokevirtual 186, 3) := by decide +kernel
theorem dX6_headroomCells_8 : decode cX6_headroomCells 8 = .ok (.ireturn, 1) := by decide +kernel
theorem dX6_burstTank_0 : decode cX6_burstTank 0 = .ok (.aload_n 0, 1) := by decide +kernel
theorem dX6_burstTank_1 : decode cX6_burstTank 1 = .ok (.iload_n 1, 1) := by decide +kernel
theorem dX6_burstTank_2 : decode cX6_burstTank 2 = .ok (.iload_n 2, 1) := by decide +kernel
theorem dX6_burstTank_3 : decode cX6_burstTank 3 = .ok (.iconst 3, 1) := by decide +kernel
theorem dX6_burstTank_4 : decode cX6_burstTank 4 = .ok (.invokevirtual 186, 3) := by decide +kernel
theorem dX6_burstTank_7 : decode cX6_burstTank 7 = .ok (.ireturn, 1) := by decide +kernel
theorem dX6_isPaused_0 : decode cX6_isPaused 0 = .ok (.aload_n 0, 1) := by decide +kernel
theorem dX6_isPaused_1 : decode cX6_isPaused 1 = .ok (.iload_n 1, 1) := by decide +kernel
theorem dX6_isPaused_2 : decode cX6_isPaused 2 = .ok (.iload_n 2, 1) := by decide +kernel
theorem dX6_isPaused_3 : decode cX6_isPaused 3 = .ok (.bipush 10, 2) := by decide +kernel
theorem dX6_isPaused_5 : decode cX6_isPaused 5 = .ok (.invokevirtual 186, 3) := by decide +kernel
theorem dX6_isPaused_8 : decode cX6_isPaused 8 = .ok (.ireturn, 1) := by decide +kernel
theorem dX6_pauses_0 : decode cX6_pauses 0 = .ok (.aload_n 0, 1) := by decide +kernel
theorem dX6_pauses_1 : decode cX6_pauses 1 = .ok (.iload_n 1, 1) := by decide +kernel
theorem dX6_pauses_2 : decode cX6_pauses 2 = .ok (.iload_n 2, 1) := by decide +kernel
theorem dX6_pauses_3 : decode cX6_pauses 3 = .ok (.bipush 11, 2) := by decide +kernel
theorem dX6_pauses_5 : decode cX6_pauses 5 = .ok (.invokevirtual 186, 3) := by decide +kernel
theorem dX6_pauses_8 : decode cX6_pauses 8 = .ok (.ireturn, 1) := by decide +kernel
theorem dX6_credit_0 : decode cX6_credit 0 = .ok (.aload_n 0, 1) := by decide +kernel
theorem dX6_credit_1 : decode cX6_credit 1 = .ok (.iload_n 1, 1) := by decide +kernel
theorem dX6_credit_2 : decode cX6_credit 2 = .ok (.iconst 4, 1) := by decide +kernel
theorem dX6_credit_3 : decode cX6_credit 3 = .ok (.invokevirtual 183, 3) := by decide +kernel
theorem dX6_credit_6 : decode cX6_credit 6 = .ok (.ireturn, 1) := by decide +kernel
theorem dX6_deficit_0 : decode cX6_deficit 0 = .ok (.aload_n 0, 1) := by decide +kernel
theorem dX6_deficit_1 : decode cX6_deficit 1 = .ok (.iload_n 1, 1) := by decide +kernel
theorem dX6_deficit_2 : decode cX6_deficit 2 = .ok (.iload_n 2, 1) := by decide +kernel
theorem dX6_deficit_3 : decode cX6_deficit 3 = .ok (.iconst 5, 1) := by decide +kernel
theorem dX6_deficit_4 : decode cX6_deficit 4 = .ok (.invokevirtual 186, 3) := by decide +kernel
theorem dX6_deficit_7 : decode cX6_deficit 7 = .ok (.ireturn, 1) := by decide +kernel
theorem dX6_losses_0 : decode cX6_losses 0 = .ok (.aload_n 0, 1) := by decide +kernel
theorem dX6_losses_1 : decode cX6_losses 1 = .ok (.iload_n 1, 1) := by decide +kernel
theorem dX6_losses_2 : decode cX6_losses 2 = .ok (.invokevirtual 40, 3) := by decide +kernel
theorem dX6_losses_5 : decode cX6_losses 5 = .ok (.ifCond .ne 5, 3) := by decide +kernel
theorem dX6_losses_8 : decode cX6_losses 8 = .ok (.iconst (-1), 1) := by decide +kernel
theorem dX6_losses_9 : decode cX6_losses 9 = .ok (.ireturn, 1) := by decide +kernel
theorem dX6_losses_10 : decode cX6_losses 10 = .ok (.iload_n 2, 1) := by decide +kernel
theorem dX6_losses_11 : decode cX6_losses 11 = .ok (.iconst 2, 1) := by decide +kernel
theorem dX6_losses_12 : decode cX6_losses 12 = .ok (.if_icmp .eq 25, 3) := by decide +kernel
theorem dX6_losses_15 : decode cX6_losses 15 = .ok (.iload_n 2, 1) := by decide +kernel
theorem dX6_losses_16 : decode cX6_losses 16 = .ok (.iconst 3, 1) := by decide +kernel
theorem dX6_losses_17 : decode cX6_losses 17 = .ok (.if_icmp .eq 20, 3) := by decide +kernel
theorem dX6_losses_20 : decode cX6_losses 20 = .ok (.iload_n 2, 1) := by decide +kernel
theorem dX6_losses_21 : decode cX6_losses 21 = .ok (.iconst 5, 1) := by decide +kernel
theorem dX6_losses_22 : decode cX6_losses 22 = .ok (.if_icmp .eq 15, 3) := by decide +kernel
theorem dX6_losses_25 : decode cX6_losses 25 = .ok (.iload_n 2, 1) := by decide +kernel
theorem dX6_losses_26 : decode cX6_losses 26 = .ok (.bipush 8, 2) := by decide +kernel
theorem dX6_losses_28 : decode cX6_losses 28 = .ok (.if_icmp .eq 9, 3) := by decide +kernel
theorem dX6_losses_31 : decode cX6_losses 31 = .ok (.iload_n 2, 1) := by decide +kernel
theorem dX6_losses_32 : decode cX6_losses 32 = .ok (.bipush 9, 2) := by decide +kernel
theorem dX6_losses_34 : decode cX6_losses 34 = .ok (.if_icmp .ne 7, 3) := by decide +kernel
theorem dX6_losses_37 : decode cX6_losses 37 = .ok (.iconst 1, 1) := by decide +kernel
theorem dX6_losses_38 : decode cX6_losses 38 = .ok (.goto 4, 3) := by decide +kernel
theorem dX6_losses_41 : decode cX6_losses 41 = .ok (.iconst 0, 1) := by decide +kernel
theorem dX6_losses_42 : decode cX6_losses 42 = .ok (.istore_n 3, 1) := by decide +kernel
theorem dX6_losses_43 : decode cX6_losses 43 = .ok (.iload_n 3, 1) := by decide +kernel
theorem dX6_losses_44 : decode cX6_losses 44 = .ok (.ifCond .eq 19, 3) := by decide +kernel
theorem dX6_losses_47 : decode cX6_losses 47 = .ok (.aload_n 0, 1) := by decide +kernel
theorem dX6_losses_48 : decode cX6_losses 48 = .ok (.getfield 7, 3) := by decide +kernel
theorem dX6_losses_51 : decode cX6_losses 51 = .ok (.iload_n 1, 1) := by decide +kernel
theorem dX6_losses_52 : decode cX6_losses 52 = .ok (.bipush 11, 2) := by decide +kernel
theorem dX6_losses_54 : decode cX6_losses 54 = .ok (.iload_n 2, 1) := by decide +kernel
theorem dX6_losses_55 : decode cX6_losses 55 = .ok (.iadd, 1) := by decide +kernel
theorem dX6_losses_56 : decode cX6_losses 56 = .ok (.invokestatic 44, 3) := by decide +kernel
theorem dX6_losses_59 : decode cX6_losses 59 = .ok (.iaload, 1) := by decide +kernel
theorem dX6_losses_60 : decode cX6_losses 60 = .ok (.goto 5, 3) := by decide +kernel
theorem dX6_losses_63 : decode cX6_losses 63 = .ok (.bipush (-2), 2) := by decide +kernel
theorem dX6_losses_65 : decode cX6_losses 65 = .ok (.ireturn, 1) := by decide +kernel
theorem dX6_lostCells_0 : decode cX6_lostCells 0 = .ok (.aload_n 0, 1) := by decide +kernel
theorem dX6_lostCells_1 : decode cX6_lostCells 1 = .ok (.iload_n 1, 1) := by decide +kernel
theorem dX6_lostCells_2 : decode cX6_lostCells 2 = .ok (.bipush 10, 2) := by decide +kernel
theorem dX6_lostCells_4 : decode cX6_lostCells 4 = .ok (.invokevirtual 183, 3) := by decide +kernel
theorem dX6_lostCells_7 : decode cX6_lostCells 7 = .ok (.ireturn, 1) := by decide +kernel
theorem dX6_lossCause_0 : decode cX6_lossCause 0 = .ok (.iload_n 1, 1) := by decide +kernel
theorem dX6_lossCause_1 : decode cX6_lossCause 1 = .ok (.iconst 0, 1) := by decide +kernel
theorem dX6_lossCause_2 : decode cX6_lossCause 2 = .ok (.iconst 3, 1) := by decide +kernel
theorem dX6_lossCause_3 : decode cX6_lossCause 3 = .ok (.invokestatic 36, 3) := by decide +kernel
theorem dX6_lossCause_6 : decode cX6_lossCause 6 = .ok (.ifCond .ne 5, 3) := by decide +kernel
theorem dX6_lossCause_9 : decode cX6_lossCause 9 = .ok (.iconst (-1), 1) := by decide +kernel
theorem dX6_lossCause_10 : decode cX6_lossCause 10 = .ok (.ireturn, 1) := by decide +kernel
theorem dX6_lossCause_11 : decode cX6_lossCause 11 = .ok (.aload_n 0, 1) := by decide +kernel
theorem dX6_lossCause_12 : decode cX6_lossCause 12 = .ok (.getfield 7, 3) := by decide +kernel
theorem dX6_lossCause_15 : decode cX6_lossCause 15 = .ok (.iconst 5, 1) := by decide +kernel
theorem dX6_lossCause_16 : decode cX6_lossCause 16 = .ok (.iaload, 1) := by decide +kernel
theorem dX6_lossCause_17 : decode cX6_lossCause 17 = .ok (.iconst 1, 1) := by decide +kernel
theorem dX6_lossCause_18 : decode cX6_lossCause 18 = .ok (.if_icmp .ne 15, 3) := by decide +kernel
theorem dX6_lossCause_21 : decode cX6_lossCause 21 = .ok (.aload_n 0, 1) := by decide +kernel
theorem dX6_lossCause_22 : decode cX6_lossCause 22 = .ok (.getfield 7, 3) := by decide +kernel
theorem dX6_lossCause_25 : decode cX6_lossCause 25 = .ok (.bipush 6, 2) := by decide +kernel
theorem dX6_lossCause_27 : decode cX6_lossCause 27 = .ok (.iload_n 1, 1) := by decide +kernel
theorem dX6_lossCause_28 : decode cX6_lossCause 28 = .ok (.iadd, 1) := by decide +kernel
theorem dX6_lossCause_29 : decode cX6_lossCause 29 = .ok (.iaload, 1) := by decide +kernel
theorem dX6_lossCause_30 : decode cX6_lossCause 30 = .ok (.goto 5, 3) := by decide +kernel
theorem dX6_lossCause_33 : decode cX6_lossCause 33 = .ok (.bipush (-5), 2) := by decide +kernel
theorem dX6_lossCause_35 : decode cX6_lossCause 35 = .ok (.ireturn, 1) := by decide +kernel
theorem dX6_departed_0 : decode cX6_departed 0 = .ok (.aload_n 0, 1) := by decide +kernel
theorem dX6_departed_1 : decode cX6_departed 1 = .ok (.iload_n 1, 1) := by decide +kernel
theorem dX6_departed_2 : decode cX6_departed 2 = .ok (.bipush 9, 2) := by decide +kernel
theorem dX6_departed_4 : decode cX6_departed 4 = .ok (.invokevirtual 183, 3) := by decide +kernel
theorem dX6_departed_7 : decode cX6_departed 7 = .ok (.ireturn, 1) := by decide +kernel
theorem dX6_admitted_0 : decode cX6_admitted 0 = .ok (.aload_n 0, 1) := by decide +kernel
theorem dX6_admitted_1 : decode cX6_admitted 1 = .ok (.getfield 7, 3) := by decide +kernel
theorem dX6_admitted_4 : decode cX6_admitted 4 = .ok (.iconst 4, 1) := by decide +kernel
theorem dX6_admitted_5 : decode cX6_admitted 5 = .ok (.iaload, 1) := by decide +kernel
theorem dX6_admitted_6 : decode cX6_admitted 6 = .ok (.ireturn, 1) := by decide +kernel
theorem dX6_time_0 : decode cX6_time 0 = .ok (.aload_n 0, 1) := by decide +kernel
theorem dX6_time_1 : decode cX6_time 1 = .ok (.getfield 7, 3) := by decide +kernel
theorem dX6_time_4 : decode cX6_time 4 = .ok (.iconst 3, 1) := by decide +kernel
theorem dX6_time_5 : decode cX6_time 5 = .ok (.iaload, 1) := by decide +kernel
theorem dX6_time_6 : decode cX6_time 6 = .ok (.ireturn, 1) := by decide +kernel
theorem dX6_queueLength_0 : decode cX6_queueLength 0 = .ok (.aload_n 0, 1) := by decide +kernel
theorem dX6_queueLength_1 : decode cX6_queueLength 1 = .ok (.iload_n 1, 1) := by decide +kernel
theorem dX6_queueLength_2 : decode cX6_queueLength 2 = .ok (.iload_n 2, 1) := by decide +kernel
theorem dX6_queueLength_3 : decode cX6_queueLength 3 = .ok (.bipush 12, 2) := by decide +kernel
theorem dX6_queueLength_5 : decode cX6_queueLength 5 = .ok (.invokevirtual 186, 3) := by decide +kernel
theorem dX6_queueLength_8 : decode cX6_queueLength 8 = .ok (.ireturn, 1) := by decide +kernel
theorem dX6_packetAt_0 : decode cX6_packetAt 0 = .ok (.aload_n 0, 1) := by decide +kernel
theorem dX6_packetAt_1 : decode cX6_packetAt 1 = .ok (.iload_n 1, 1) := by decide +kernel
theorem dX6_packetAt_2 : decode cX6_packetAt 2 = .ok (.iload_n 2, 1) := by decide +kernel
theorem dX6_packetAt_3 : decode cX6_packetAt 3 = .ok (.invokevirtual 75, 3) := by decide +kernel
theorem dX6_packetAt_6 : decode cX6_packetAt 6 = .ok (.ifCond .eq 28, 3) := by decide +kernel
theorem dX6_packetAt_9 : decode cX6_packetAt 9 = .ok (.iload_n 3, 1) := by decide +kernel
theorem dX6_packetAt_10 : decode cX6_packetAt 10 = .ok (.iconst 0, 1) := by decide +kernel
theorem dX6_packetAt_11 : decode cX6_packetAt 11 = .ok (.aload_n 0, 1) := by decide +kernel
theorem dX6_packetAt_12 : decode cX6_packetAt 12 = .ok (.getfield 7, 3) := by decide +kernel
theorem dX6_packetAt_15 : decode cX6_packetAt 15 = .ok (.iconst 3, 1) := by decide +kernel
theorem dX6_packetAt_16 : decode cX6_packetAt 16 = .ok (.iload_n 1, 1) := by decide +kernel
theorem dX6_packetAt_17 : decode cX6_packetAt 17 = .ok (.imul, 1) := by decide +kernel
theorem dX6_packetAt_18 : decode cX6_packetAt 18 = .ok (.iload_n 2, 1) := by decide +kernel
theorem dX6_packetAt_19 : decode cX6_packetAt 19 = .ok (.iadd, 1) := by decide +kernel
theorem dX6_packetAt_20 : decode cX6_packetAt 20 = .ok (.bipush 12, 2) := by decide +kernel
theorem dX6_packetAt_22 : decode cX6_packetAt 22 = .ok (.invokestatic 48, 3) := by decide +kernel
theorem dX6_packetAt_25 : decode cX6_packetAt 25 = .ok (.iaload, 1) := by decide +kernel
theorem dX6_packetAt_26 : decode cX6_packetAt 26 = .ok (.iconst 1, 1) := by decide +kernel
theorem dX6_packetAt_27 : decode cX6_packetAt 27 = .ok (.isub, 1) := by decide +kernel
theorem dX6_packetAt_28 : decode cX6_packetAt 28 = .ok (.invokestatic 36, 3) := by decide +kernel
theorem dX6_packetAt_31 : decode cX6_packetAt 31 = .ok (.ifCond .ne 5, 3) := by decide +kernel
theorem dX6_packetAt_34 : decode cX6_packetAt 34 = .ok (.iconst (-1), 1) := by decide +kernel
theorem dX6_packetAt_35 : decode cX6_packetAt 35 = .ok (.ireturn, 1) := by decide +kernel
theorem dX6_packetAt_36 : decode cX6_packetAt 36 = .ok (.aload_n 0, 1) := by decide +kernel
theorem dX6_packetAt_37 : decode cX6_packetAt 37 = .ok (.getfield 7, 3) := by decide +kernel
theorem dX6_packetAt_40 : decode cX6_packetAt 40 = .ok (.aload_n 0, 1) := by decide +kernel
theorem dX6_packetAt_41 : decode cX6_packetAt 41 = .ok (.getfield 7, 3) := by decide +kernel
theorem dX6_packetAt_44 : decode cX6_packetAt 44 = .ok (.iconst 3, 1) := by decide +kernel
theorem dX6_packetAt_45 : decode cX6_packetAt 45 = .ok (.iload_n 1, 1) := by decide +kernel
theorem dX6_packetAt_46 : decode cX6_packetAt 46 = .ok (.imul, 1) := by decide +kernel
theorem dX6_packetAt_47 : decode cX6_packetAt 47 = .ok (.iload_n 2, 1) := by decide +kernel
theorem dX6_packetAt_48 : decode cX6_packetAt 48 = .ok (.iadd, 1) := by decide +kernel
theorem dX6_packetAt_49 : decode cX6_packetAt 49 = .ok (.iload_n 3, 1) := by decide +kernel
theorem dX6_packetAt_50 : decode cX6_packetAt 50 = .ok (.invokestatic 107, 3) := by decide +kernel
theorem dX6_packetAt_53 : decode cX6_packetAt 53 = .ok (.iaload, 1) := by decide +kernel
theorem dX6_packetAt_54 : decode cX6_packetAt 54 = .ok (.iconst 0, 1) := by decide +kernel
theorem dX6_packetAt_55 : decode cX6_packetAt 55 = .ok (.invokestatic 92, 3) := by decide +kernel
theorem dX6_packetAt_58 : decode cX6_packetAt 58 = .ok (.iaload, 1) := by decide +kernel
theorem dX6_packetAt_59 : decode cX6_packetAt 59 = .ok (.ireturn, 1) := by decide +kernel
theorem dX6_fragments_0 : decode cX6_fragments 0 = .ok (.aload_n 0, 1) := by decide +kernel
theorem dX6_fragments_1 : decode cX6_fragments 1 = .ok (.iload_n 1, 1) := by decide +kernel
theorem dX6_fragments_2 : decode cX6_fragments 2 = .ok (.invokevirtual 190, 3) := by decide +kernel
theorem dX6_fragments_5 : decode cX6_fragments 5 = .ok (.istore_n 2, 1) := by decide +kernel
theorem dX6_fragments_6 : decode cX6_fragments 6 = .ok (.iload_n 2, 1) := by decide +kernel
theorem dX6_fragments_7 : decode cX6_fragments 7 = .ok (.ifCond .ge 7, 3) := by decide +kernel
theorem dX6_fragments_10 : decode cX6_fragments 10 = .ok (.iconst (-1), 1) := by decide +kernel
theorem dX6_fragments_11 : decode cX6_fragments 11 = .ok (.goto 13, 3) := by decide +kernel
theorem dX6_fragments_14 : decode cX6_fragments 14 = .ok (.aload_n 0, 1) := by decide +kernel
theorem dX6_fragments_15 : decode cX6_fragments 15 = .ok (.getfield 7, 3) := by decide +kernel
theorem dX6_fragments_18 : decode cX6_fragments 18 = .ok (.iload_n 2, 1) := by decide +kernel
theorem dX6_fragments_19 : decode cX6_fragments 19 = .ok (.iconst 2, 1) := by decide +kernel
theorem dX6_fragments_20 : decode cX6_fragments 20 = .ok (.invokestatic 92, 3) := by decide +kernel
theorem dX6_fragments_23 : decode cX6_fragments 23 = .ok (.iaload, 1) := by decide +kernel
theorem dX6_fragments_24 : decode cX6_fragments 24 = .ok (.ireturn, 1) := by decide +kernel
theorem dX6_ofFragment_0 : decode cX6_ofFragment 0 = .ok (.aload_n 0, 1) := by decide +kernel
theorem dX6_ofFragment_1 : decode cX6_ofFragment 1 = .ok (.iload_n 1, 1) := by decide +kernel
theorem dX6_ofFragment_2 : decode cX6_ofFragment 2 = .ok (.invokevirtual 190, 3) := by decide +kernel
theorem dX6_ofFragment_5 : decode cX6_ofFragment 5 = .ok (.istore 4, 2) := by decide +kernel
theorem dX6_ofFragment_7 : decode cX6_ofFragment 7 = .ok (.iload 4, 2) := by decide +kernel
theorem dX6_ofFragment_9 : decode cX6_ofFragment 9 = .ok (.ifCond .lt 40, 3) := by decide +kernel
theorem dX6_ofFragment_12 : decode cX6_ofFragment 12 = .ok (.iload_n 2, 1) := by decide +kernel
theorem dX6_ofFragment_13 : decode cX6_ofFragment 13 = .ok (.iconst 0, 1) := by decide +kernel
theorem dX6_ofFragment_14 : decode cX6_ofFragment 14 = .ok (.aload_n 0, 1) := by decide +kernel
theorem dX6_ofFragment_15 : decode cX6_ofFragment 15 = .ok (.getfield 7, 3) := by decide +kernel
theorem dX6_ofFragment_18 : decode cX6_ofFragment 18 = .ok (.iload 4, 2) := by decide +kernel
theorem dX6_ofFragment_20 : decode cX6_ofFragment 20 = .ok (.iconst 2, 1) := by decide +kernel
theorem dX6_ofFragment_21 : decode cX6_ofFragment 21 = .ok (.invokestatic 92, 3) := by decide +kernel
theorem dX6_ofFragment_24 : decode cX6_ofFragment 24 = .ok (.iaload, 1) := by decide +kernel
theorem dX6_ofFragment_25 : decode cX6_ofFragment 25 = .ok (.iconst 1, 1) := by decide +kernel
theorem dX6_ofFragment_26 : decode cX6_ofFragment 26 = .ok (.isub, 1) := by decide +kernel
theorem dX6_ofFragment_27 : decode cX6_ofFragment 27 = .ok (.invokestatic 36, 3) := by decide +kernel
theorem dX6_ofFragment_30 : decode cX6_ofFragment 30 = .ok (.ifCond .eq 19, 3) := by decide +kernel
theorem dX6_ofFragment_33 : decode cX6_ofFragment 33 = .ok (.aload_n 0, 1) := by decide +kernel
theorem dX6_ofFragment_34 : decode cX6_ofFragment 34 = .ok (.getfield 7, 3) := by decide +kernel
theorem dX6_ofFragment_37 : decode cX6_ofFragment 37 = .ok (.iload 4, 2) := by decide +kernel
theorem dX6_ofFragment_39 : decode cX6_ofFragment 39 = .ok (.iload_n 3, 1) := by decide +kernel
theorem dX6_ofFragment_40 : decode cX6_ofFragment 40 = .ok (.iload_n 2, 1) := by decide +kernel
theorem dX6_ofFragment_41 : decode cX6_ofFragment 41 = .ok (.iadd, 1) := by decide +kernel
theorem dX6_ofFragment_42 : decode cX6_ofFragment 42 = .ok (.invokestatic 92, 3) := by decide +kernel
theorem dX6_ofFragment_45 : decode cX6_ofFragment 45 = .ok (.iaload, 1) := by decide +kernel
theorem dX6_ofFragment_46 : decode cX6_ofFragment 46 = .ok (.goto 4, 3) := by decide +kernel
theorem dX6_ofFragment_49 : decode cX6_ofFragment 49 = .ok (.iconst (-1), 1) := by decide +kernel
theorem dX6_ofFragment_50 : decode cX6_ofFragment 50 = .ok (.ireturn, 1) := by decide +kernel
theorem dX6_fragmentStart_0 : decode cX6_fragmentStart 0 = .ok (.aload_n 0, 1) := by decide +kernel
theorem dX6_fragmentStart_1 : decode cX6_fragmentStart 1 = .ok (.iload_n 1, 1) := by decide +kernel
theorem dX6_fragmentStart_2 : decode cX6_fragmentStart 2 = .ok (.iload_n 2, 1) := by decide +kernel
theorem dX6_fragmentStart_3 : decode cX6_fragmentStart 3 = .ok (.iconst 4, 1) := by decide +kernel
theorem dX6_fragmentStart_4 : decode cX6_fragmentStart 4 = .ok (.invokevirtual 193, 3) := by decide +kernel
theorem dX6_fragmentStart_7 : decode cX6_fragmentStart 7 = .ok (.ireturn, 1) := by decide +kernel
theorem dX6_fragmentLength_0 : decode cX6_fragmentLength 0 = .ok (.aload_n 0, 1) := by decide +kernel
theorem dX6_fragmentLength_1 : decode cX6_fragmentLength 1 = .ok (.iload_n 1, 1) := by decide +kernel
theorem dX6_fragmentLength_2 : decode cX6_fragmentLength 2 = .ok (.iload_n 2, 1) := by decide +kernel
theorem dX6_fragmentLength_3 : decode cX6_fragmentLength 3 = .ok (.bipush 16, 2) := by decide +kernel
theorem dX6_fragmentLength_5 : decode cX6_fragmentLength 5 = .ok (.invokevirtual 193, 3) := by decide +kernel
theorem dX6_fragmentLength_8 : decode cX6_fragmentLength 8 = .ok (.ireturn, 1) := by decide +kernel
theorem dX6_freeRuns_0 : decode cX6_freeRuns 0 = .ok (.iconst 0, 1) := by decide +kernel
theorem dX6_freeRuns_1 : decode cX6_freeRuns 1 = .ok (.istore_n 1, 1) := by decide +kernel
theorem dX6_freeRuns_2 : decode cX6_freeRuns 2 = .ok (.iconst 0, 1) := by decide +kernel
theorem dX6_freeRuns_3 : decode cX6_freeRuns 3 = .ok (.istore_n 2, 1) := by decide +kernel
theorem dX6_freeRuns_4 : decode cX6_freeRuns 4 = .ok (.iload_n 2, 1) := by decide +kernel
theorem dX6_freeRuns_5 : decode cX6_freeRuns 5 = .ok (.aload_n 0, 1) := by decide +kernel
theorem dX6_freeRuns_6 : decode cX6_freeRuns 6 = .ok (.getfield 7, 3) := by decide +kernel
theorem dX6_freeRuns_9 : decode cX6_freeRuns 9 = .ok (.iconst 0, 1) := by decide +kernel
theorem dX6_freeRuns_10 : decode cX6_freeRuns 10 = .ok (.iaload, 1) := by decide +kernel
theorem dX6_freeRuns_11 : decode cX6_freeRuns 11 = .ok (.if_icmp .ge 25, 3) := by decide +kernel
theorem dX6_freeRuns_14 : decode cX6_freeRuns 14 = .ok (.iload_n 1, 1) := by decide +kernel
theorem dX6_freeRuns_15 : decode cX6_freeRuns 15 = .ok (.aload_n 0, 1) := by decide +kernel
theorem dX6_freeRuns_16 : decode cX6_freeRuns 16 = .ok (.iload_n 2, 1) := by decide +kernel
theorem dX6_freeRuns_17 : decode cX6_freeRuns 17 = .ok (.invokevirtual 98, 3) := by decide +kernel
theorem dX6_freeRuns_20 : decode cX6_freeRuns 20 = .ok (.ifCond .le 7, 3) := by decide +kernel
theorem dX6_freeRuns_23 : decode cX6_freeRuns 23 = .ok (.iconst 1, 1) := by decide +kernel
theorem dX6_freeRuns_24 : decode cX6_freeRuns 24 = .ok (.goto 4, 3) := by decide +kernel
theorem dX6_freeRuns_27 : decode cX6_freeRuns 27 = .ok (.iconst 0, 1) := by decide +kernel
theorem dX6_freeRuns_28 : decode cX6_freeRuns 28 = .ok (.iadd, 1) := by decide +kernel
theorem dX6_freeRuns_29 : decode cX6_freeRuns 29 = .ok (.istore_n 1, 1) := by decide +kernel
theorem dX6_freeRuns_30 : decode cX6_freeRuns 30 = .ok (.iinc 2 1, 3) := by decide +kernel
theorem dX6_freeRuns_33 : decode cX6_freeRuns 33 = .ok (.goto (-29), 3) := by decide +kernel
theorem dX6_freeRuns_36 : decode cX6_freeRuns 36 = .ok (.iload_n 1, 1) := by decide +kernel
theorem dX6_freeRuns_37 : decode cX6_freeRuns 37 = .ok (.ireturn, 1) := by decide +kernel
theorem dX6_beginOf_0 : decode cX6_beginOf 0 = .ok (.iload_n 1, 1) := by decide +kernel
theorem dX6_beginOf_1 : decode cX6_beginOf 1 = .ok (.istore_n 2, 1) := by decide +kernel
theorem dX6_beginOf_2 : decode cX6_beginOf 2 = .ok (.iconst 0, 1) := by decide +kernel
theorem dX6_beginOf_3 : decode cX6_beginOf 3 = .ok (.istore_n 3, 1) := by decide +kernel
theorem dX6_beginOf_4 : decode cX6_beginOf 4 = .ok (.iload_n 3, 1) := by decide +kernel
theorem dX6_beginOf_5 : decode cX6_beginOf 5 = .ok (.aload_n 0, 1) := by decide +kernel
theorem dX6_beginOf_6 : decode cX6_beginOf 6 = .ok (.getfield 7, 3) := by decide +kernel
theorem dX6_beginOf_9 : decode cX6_beginOf 9 = .ok (.iconst 0, 1) := by decide +kernel
theorem dX6_beginOf_10 : decode cX6_beginOf 10 = .ok (.iaload, 1) := by decide +kernel
theorem dX6_beginOf_11 : decode cX6_beginOf 11 = .ok (.if_icmp .ge 26, 3) := by decide +kernel
theorem dX6_beginOf_14 : decode cX6_beginOf 14 = .ok (.aload_n 0, 1) := by decide +kernel
theorem dX6_beginOf_15 : decode cX6_beginOf 15 = .ok (.iload_n 3, 1) := by decide +kernel
theorem dX6_beginOf_16 : decode cX6_beginOf 16 = .ok (.invokevirtual 98, 3) := by decide +kernel
theorem dX6_beginOf_19 : decode cX6_beginOf 19 = .ok (.ifCond .le 12, 3) := by decide +kernel
theorem dX6_beginOf_22 : decode cX6_beginOf 22 = .ok (.iload_n 2, 1) := by decide +kernel
theorem dX6_beginOf_23 : decode cX6_beginOf 23 = .ok (.ifCond .ne 5, 3) := by decide +kernel
theorem dX6_beginOf_26 : decode cX6_beginOf 26 = .ok (.iload_n 3, 1) := by decide +kernel
theorem dX6_beginOf_27 : decode cX6_beginOf 27 = .ok (.ireturn, 1) := by decide +kernel
theorem dX6_beginOf_28 : decode cX6_beginOf 28 = .ok (.iinc 2 (-1), 3) := by decide +kernel
theorem dX6_beginOf_31 : decode cX6_beginOf 31 = .ok (.iinc 3 1, 3) := by decide +kernel
theorem dX6_beginOf_34 : decode cX6_beginOf 34 = .ok (.goto (-30), 3) := by decide +kernel
theorem dX6_beginOf_37 : decode cX6_beginOf 37 = .ok (.iconst (-1), 1) := by decide +kernel
theorem dX6_beginOf_38 : decode cX6_beginOf 38 = .ok (.ireturn, 1) := by decide +kernel
theorem dX6_runStart_0 : decode cX6_runStart 0 = .ok (.iload_n 1, 1) := by decide +kernel
theorem dX6_runStart_1 : decode cX6_runStart 1 = .ok (.ifCond .ge 7, 3) := by decide +kernel
theorem dX6_runStart_4 : decode cX6_runStart 4 = .ok (.iconst (-1), 1) := by decide +kernel
theorem dX6_runStart_5 : decode cX6_runStart 5 = .ok (.goto 20, 3) := by decide +kernel
theorem dX6_runStart_8 : decode cX6_runStart 8 = .ok (.aload_n 0, 1) := by decide +kernel
theorem dX6_runStart_9 : decode cX6_runStart 9 = .ok (.iload_n 1, 1) := by decide +kernel
theorem dX6_runStart_10 : decode cX6_runStart 10 = .ok (.invokevirtual 196, 3) := by decide +kernel
theorem dX6_runStart_13 : decode cX6_runStart 13 = .ok (.ifCond .ge 7, 3) := by decide +kernel
theorem dX6_runStart_16 : decode cX6_runStart 16 = .ok (.iconst (-1), 1) := by decide +kernel
theorem dX6_runStart_17 : decode cX6_runStart 17 = .ok (.goto 8, 3) := by decide +kernel
theorem dX6_runStart_20 : decode cX6_runStart 20 = .ok (.aload_n 0, 1) := by decide +kernel
theorem dX6_runStart_21 : decode cX6_runStart 21 = .ok (.iload_n 1, 1) := by decide +kernel
theorem dX6_runStart_22 : decode cX6_runStart 22 = .ok (.invokevirtual 196, 3) := by decide +kernel
theorem dX6_runStart_25 : decode cX6_runStart 25 = .ok (.ireturn, 1) := by decide +kernel
theorem dX6_runLength_0 : decode cX6_runLength 0 = .ok (.iload_n 1, 1) := by decide +kernel
theorem dX6_runLength_1 : decode cX6_runLength 1 = .ok (.ifCond .ge 7, 3) := by decide +kernel
theorem dX6_runLength_4 : decode cX6_runLength 4 = .ok (.iconst (-1), 1) := by decide +kernel
theorem dX6_runLength_5 : decode cX6_runLength 5 = .ok (.goto 8, 3) := by decide +kernel
theorem dX6_runLength_8 : decode cX6_runLength 8 = .ok (.aload_n 0, 1) := by decide +kernel
theorem dX6_runLength_9 : decode cX6_runLength 9 = .ok (.iload_n 1, 1) := by decide +kernel
theorem dX6_runLength_10 : decode cX6_runLength 10 = .ok (.invokevirtual 196, 3) := by decide +kernel
theorem dX6_runLength_13 : decode cX6_runLength 13 = .ok (.istore_n 2, 1) := by decide +kernel
theorem dX6_runLength_14 : decode cX6_runLength 14 = .ok (.iload_n 2, 1) := by decide +kernel
theorem dX6_runLength_15 : decode cX6_runLength 15 = .ok (.ifCond .ge 7, 3) := by decide +kernel
theorem dX6_runLength_18 : decode cX6_runLength 18 = .ok (.iconst (-1), 1) := by decide +kernel
theorem dX6_runLength_19 : decode cX6_runLength 19 = .ok (.goto 8, 3) := by decide +kernel
theorem dX6_runLength_22 : decode cX6_runLength 22 = .ok (.aload_n 0, 1) := by decide +kernel
theorem dX6_runLength_23 : decode cX6_runLength 23 = .ok (.iload_n 2, 1) := by decide +kernel
theorem dX6_runLength_24 : decode cX6_runLength 24 = .ok (.invokevirtual 98, 3) := by decide +kernel
theorem dX6_runLength_27 : decode cX6_runLength 27 = .ok (.ireturn, 1) := by decide +kernel
theorem dX6_stageFor_0 : decode cX6_stageFor 0 = .ok (.aload_n 0, 1) := by decide +kernel
theorem dX6_stageFor_1 : decode cX6_stageFor 1 = .ok (.iload_n 1, 1) := by decide +kernel
theorem dX6_stageFor_2 : decode cX6_stageFor 2 = .ok (.iload_n 2, 1) := by decide +kernel
theorem dX6_stageFor_3 : decode cX6_stageFor 3 = .ok (.invokevirtual 75, 3) := by decide +kernel
theorem dX6_stageFor_6 : decode cX6_stageFor 6 = .ok (.ifCond .ne 5, 3) := by decide +kernel
theorem dX6_stageFor_9 : decode cX6_stageFor 9 = .ok (.iconst (-1), 1) := by decide +kernel
theorem dX6_stageFor_10 : decode cX6_stageFor 10 = .ok (.ireturn, 1) := by decide +kernel
theorem dX6_stageFor_11 : decode cX6_stageFor 11 = .ok (.iload_n 3, 1) := by decide +kernel
theorem dX6_stageFor_12 : decode cX6_stageFor 12 = .ok (.iconst 1, 1) := by decide +kernel
theorem dX6_stageFor_13 : decode cX6_stageFor 13 = .ok (.bipush 12, 2) := by decide +kernel
theorem dX6_stageFor_15 : decode cX6_stageFor 15 = .ok (.invokestatic 36, 3) := by decide +kernel
theorem dX6_stageFor_18 : decode cX6_stageFor 18 = .ok (.ifCond .ne 6, 3) := by decide +kernel
theorem dX6_stageFor_21 : decode cX6_stageFor 21 = .ok (.bipush (-2), 2) := by decide +kernel
theorem dX6_stageFor_23 : decode cX6_stageFor 23 = .ok (.ireturn, 1) := by decide +kernel
theorem dX6_stageFor_24 : decode cX6_stageFor 24 = .ok (.aload_n 0, 1) := by decide +kernel
theorem dX6_stageFor_25 : decode cX6_stageFor 25 = .ok (.iconst 3, 1) := by decide +kernel
theorem dX6_stageFor_26 : decode cX6_stageFor 26 = .ok (.iload_n 1, 1) := by decide +kernel
theorem dX6_stageFor_27 : decode cX6_stageFor 27 = .ok (.imul, 1) := by decide +kernel
theorem dX6_stageFor_28 : decode cX6_stageFor 28 = .ok (.iload_n 2, 1) := by decide +kernel
theorem dX6_stageFor_29 : decode cX6_stageFor 29 = .ok (.iadd, 1) := by decide +kernel
theorem dX6_stageFor_30 : decode cX6_stageFor 30 = .ok (.iload_n 3, 1) := by decide +kernel
theorem dX6_stageFor_31 : decode cX6_stageFor 31 = .ok (.invokevirtual 142, 3) := by decide +kernel
theorem dX6_stageFor_34 : decode cX6_stageFor 34 = .ok (.istore 4, 2) := by decide +kernel
theorem dX6_stageFor_36 : decode cX6_stageFor 36 = .ok (.iload 4, 2) := by decide +kernel
theorem dX6_stageFor_38 : decode cX6_stageFor 38 = .ok (.ifCond .ne 8, 3) := by decide +kernel
theorem dX6_stageFor_41 : decode cX6_stageFor 41 = .ok (.bipush (-6), 2) := by decide +kernel
theorem dX6_stageFor_43 : decode cX6_stageFor 43 = .ok (.goto 5, 3) := by decide +kernel
theorem dX6_stageFor_46 : decode cX6_stageFor 46 = .ok (.iload 4, 2) := by decide +kernel
theorem dX6_stageFor_48 : decode cX6_stageFor 48 = .ok (.ireturn, 1) := by decide +kernel
theorem dX6_largestAdmissible_0 : decode cX6_largestAdmissible 0 = .ok (.aload_n 0, 1) := by decide +kernel
theorem dX6_largestAdmissible_1 : decode cX6_largestAdmissible 1 = .ok (.iload_n 1, 1) := by decide +kernel
theorem dX6_largestAdmissible_2 : decode cX6_largestAdmissible 2 = .ok (.iload_n 2, 1) := by decide +kernel
theorem dX6_largestAdmissible_3 : decode cX6_largestAdmissible 3 = .ok (.invokevirtual 75, 3) := by decide +kernel
theorem dX6_largestAdmissible_6 : decode cX6_largestAdmissible 6 = .ok (.ifCond .ne 5, 3) := by decide +kernel
theorem dX6_largestAdmissible_9 : decode cX6_largestAdmissible 9 = .ok (.iconst (-1), 1) := by decide +kernel
theorem dX6_largestAdmissible_10 : decode cX6_largestAdmissible 10 = .ok (.ireturn, 1) := by decide +kernel
theorem dX6_largestAdmissible_11 : decode cX6_largestAdmissible 11 = .ok (.bipush 12, 2) := by decide +kernel
theorem dX6_largestAdmissible_13 : decode cX6_largestAdmissible 13 = .ok (.istore_n 3, 1) := by decide +kernel
theorem dX6_largestAdmissible_14 : decode cX6_largestAdmissible 14 = .ok (.iload_n 3, 1) := by decide +kernel
theorem dX6_largestAdmissible_15 : decode cX6_largestAdmissible 15 = .ok (.ifCond .le 22, 3) := by decide +kernel
theorem dX6_largestAdmissible_18 : decode cX6_largestAdmissible 18 = .ok (.aload_n 0, 1) := by decide +kernel
theorem dX6_largestAdmissible_19 : decode cX6_largestAdmissible 19 = .ok (.iconst 3, 1) := by decide +kernel
theorem dX6_largestAdmissible_20 : decode cX6_largestAdmissible 20 = .ok (.iload_n 1, 1) := by decide +kernel
theorem dX6_largestAdmissible_21 : decode cX6_largestAdmissible 21 = .ok (.imul, 1) := by decide +kernel
theorem dX6_largestAdmissible_22 : decode cX6_largestAdmissible 22 = .ok (.iload_n 2, 1) := by decide +kernel
theorem dX6_largestAdmissible_23 : decode cX6_largestAdmissible 23 = .ok (.iadd, 1) := by decide +kernel
theorem dX6_largestAdmissible_24 : decode cX6_largestAdmissible 24 = .ok (.iload_n 3, 1) := by decide +kernel
theorem dX6_largestAdmissible_25 : decode cX6_largestAdmissible 25 = .ok (.invokevirtual 142, 3) := by decide +kernel
theorem dX6_largestAdmissible_28 : decode cX6_largestAdmissible 28 = .ok (.ifCond .ne 9, 3) := by decide +kernel
theorem dX6_largestAdmissible_31 : decode cX6_largestAdmissible 31 = .ok (.iinc 3 (-1), 3) := by decide +kernel
theorem dX6_largestAdmissible_34 : decode cX6_largestAdmissible 34 = .ok (.goto (-20), 3) := by decide +kernel
theorem dX6_largestAdmissible_37 : decode cX6_largestAdmissible 37 = .ok (.iload_n 3, 1) := by decide +kernel
theorem dX6_largestAdmissible_38 : decode cX6_largestAdmissible 38 = .ok (.ireturn, 1) := by decide +kernel
theorem dX6_burstCapacity_0 : decode cX6_burstCapacity 0 = .ok (.aload_n 0, 1) := by decide +kernel
theorem dX6_burstCapacity_1 : decode cX6_burstCapacity 1 = .ok (.iload_n 1, 1) := by decide +kernel
theorem dX6_burstCapacity_2 : decode cX6_burstCapacity 2 = .ok (.iload_n 2, 1) := by decide +kernel
theorem dX6_burstCapacity_3 : decode cX6_burstCapacity 3 = .ok (.invokevirtual 75, 3) := by decide +kernel
theorem dX6_burstCapacity_6 : decode cX6_burstCapacity 6 = .ok (.ifCond .ne 5, 3) := by decide +kernel
theorem dX6_burstCapacity_9 : decode cX6_burstCapacity 9 = .ok (.iconst (-1), 1) := by decide +kernel
theorem dX6_burstCapacity_10 : decode cX6_burstCapacity 10 = .ok (.ireturn, 1) := by decide +kernel
theorem dX6_burstCapacity_11 : decode cX6_burstCapacity 11 = .ok (.iload_n 3, 1) := by decide +kernel
theorem dX6_burstCapacity_12 : decode cX6_burstCapacity 12 = .ok (.iconst 1, 1) := by decide +kernel
theorem dX6_burstCapacity_13 : decode cX6_burstCapacity 13 = .ok (.bipush 12, 2) := by decide +kernel
theorem dX6_burstCapacity_15 : decode cX6_burstCapacity 15 = .ok (.invokestatic 36, 3) := by decide +kernel
theorem dX6_burstCapacity_18 : decode cX6_burstCapacity 18 = .ok (.ifCond .ne 6, 3) := by decide +kernel
theorem dX6_burstCapacity_21 : decode cX6_burstCapacity 21 = .ok (.bipush (-2), 2) := by decide +kernel
theorem dX6_burstCapacity_23 : decode cX6_burstCapacity 23 = .ok (.ireturn, 1) := by decide +kernel
theorem dX6_burstCapacity_24 : decode cX6_burstCapacity 24 = .ok (.iconst 3, 1) := by decide +kernel
theorem dX6_burstCapacity_25 : decode cX6_burstCapacity 25 = .ok (.iload_n 1, 1) := by decide +kernel
theorem dX6_burstCapacity_26 : decode cX6_burstCapacity 26 = .ok (.imul, 1) := by decide +kernel
theorem dX6_burstCapacity_27 : decode cX6_burstCapacity 27 = .ok (.iload_n 2, 1) := by decide +kernel
theorem dX6_burstCapacity_28 : decode cX6_burstCapacity 28 = .ok (.iadd, 1) := by decide +kernel
theorem dX6_burstCapacity_29 : decode cX6_burstCapacity 29 = .ok (.istore 4, 2) := by decide +kernel
theorem dX6_burstCapacity_31 : decode cX6_burstCapacity 31 = .ok (.aload_n 0, 1) := by decide +kernel
theorem dX6_burstCapacity_32 : decode cX6_burstCapacity 32 = .ok (.invokevirtual 83, 3) := by decide +kernel
theorem dX6_burstCapacity_35 : decode cX6_burstCapacity 35 = .ok (.aload_n 0, 1) := by decide +kernel
theorem dX6_burstCapacity_36 : decode cX6_burstCapacity 36 = .ok (.getfield 7, 3) := by decide +kernel
theorem dX6_burstCapacity_39 : decode cX6_burstCapacity 39 = .ok (.iconst 2, 1) := by decide +kernel
theorem dX6_burstCapacity_40 : decode cX6_burstCapacity 40 = .ok (.iconst 0, 1) := by decide +kernel
theorem dX6_burstCapacity_41 : decode cX6_burstCapacity 41 = .ok (.iastore, 1) := by decide +kernel
theorem dX6_burstCapacity_42 : decode cX6_burstCapacity 42 = .ok (.iconst 0, 1) := by decide +kernel
theorem dX6_burstCapacity_43 : decode cX6_burstCapacity 43 = .ok (.istore 5, 2) := by decide +kernel
theorem dX6_burstCapacity_45 : decode cX6_burstCapacity 45 = .ok (.aload_n 0, 1) := by decide +kernel
theorem dX6_burstCapacity_46 : decode cX6_burstCapacity 46 = .ok (.iload 4, 2) := by decide +kernel
theorem dX6_burstCapacity_48 : decode cX6_burstCapacity 48 = .ok (.iload_n 3, 1) := by decide +kernel
theorem dX6_burstCapacity_49 : decode cX6_burstCapacity 49 = .ok (.invokevirtual 142, 3) := by decide +kernel
theorem dX6_burstCapacity_52 : decode cX6_burstCapacity 52 = .ok (.istore 6, 2) := by decide +kernel
theorem dX6_burstCapacity_54 : decode cX6_burstCapacity 54 = .ok (.iload 6, 2) := by decide +kernel
theorem dX6_burstCapacity_56 : decode cX6_burstCapacity 56 = .ok (.ifCond .le 27, 3) := by decide +kernel
theorem dX6_burstCapacity_59 : decode cX6_burstCapacity 59 = .ok (.aload_n 0, 1) := by decide +kernel
theorem dX6_burstCapacity_60 : decode cX6_burstCapacity 60 = .ok (.iload 4, 2) := by decide +kernel
theorem dX6_burstCapacity_62 : decode cX6_burstCapacity 62 = .ok (.iload_n 3, 1) := by decide +kernel
theorem dX6_burstCapacity_63 : decode cX6_burstCapacity 63 = .ok (.iload 6, 2) := by decide +kernel
theorem dX6_burstCapacity_65 : decode cX6_burstCapacity 65 = .ok (.invokevirtual 148, 3) := by decide +kernel
theorem dX6_burstCapacity_68 : decode cX6_burstCapacity 68 = .ok (.iinc 5 1, 3) := by decide +kernel
theorem dX6_burstCapacity_71 : decode cX6_burstCapacity 71 = .ok (.aload_n 0, 1) := by decide +kernel
theorem dX6_burstCapacity_72 : decode cX6_burstCapacity 72 = .ok (.iload 4, 2) := by decide +kernel
theorem dX6_burstCapacity_74 : decode cX6_burstCapacity 74 = .ok (.iload_n 3, 1) := by decide +kernel
theorem dX6_burstCapacity_75 : decode cX6_burstCapacity 75 = .ok (.invokevirtual 142, 3) := by decide +kernel
theorem dX6_burstCapacity_78 : decode cX6_burstCapacity 78 = .ok (.istore 6, 2) := by decide +kernel
theorem dX6_burstCapacity_80 : decode cX6_burstCapacity 80 = .ok (.goto (-26), 3) := by decide +kernel
theorem dX6_burstCapacity_83 : decode cX6_burstCapacity 83 = .ok (.aload_n 0, 1) := by decide +kernel
theorem dX6_burstCapacity_84 : decode cX6_burstCapacity 84 = .ok (.invokevirtual 89, 3) := by decide +kernel
theorem dX6_burstCapacity_87 : decode cX6_burstCapacity 87 = .ok (.iload 5, 2) := by decide +kernel
theorem dX6_burstCapacity_89 : decode cX6_burstCapacity 89 = .ok (.ireturn, 1) := by decide +kernel
theorem dX6_drainTicks_0 : decode cX6_drainTicks 0 = .ok (.aload_n 0, 1) := by decide +kernel
theorem dX6_drainTicks_1 : decode cX6_drainTicks 1 = .ok (.iload_n 1, 1) := by decide +kernel
theorem dX6_drainTicks_2 : decode cX6_drainTicks 2 = .ok (.invokevirtual 40, 3) := by decide +kernel
theorem dX6_drainTicks_5 : decode cX6_drainTicks 5 = .ok (.ifCond .ne 5, 3) := by decide +kernel
theorem dX6_drainTicks_8 : decode cX6_drainTicks 8 = .ok (.iconst (-1), 1) := by decide +kernel
theorem dX6_drainTicks_9 : decode cX6_drainTicks 9 = .ok (.ireturn, 1) := by decide +kernel
theorem dX6_drainTicks_10 : decode cX6_drainTicks 10 = .ok (.aload_n 0, 1) := by decide +kernel
theorem dX6_drainTicks_11 : decode cX6_drainTicks 11 = .ok (.invokevirtual 83, 3) := by decide +kernel
theorem dX6_drainTicks_14 : decode cX6_drainTicks 14 = .ok (.iconst 0, 1) := by decide +kernel
theorem dX6_drainTicks_15 : decode cX6_drainTicks 15 = .ok (.istore_n 2, 1) := by decide +kernel
theorem dX6_drainTicks_16 : decode cX6_drainTicks 16 = .ok (.aload_n 0, 1) := by decide +kernel
theorem dX6_drainTicks_17 : decode cX6_drainTicks 17 = .ok (.iload_n 1, 1) := by decide +kernel
theorem dX6_drainTicks_18 : decode cX6_drainTicks 18 = .ok (.invokevirtual 110, 3) := by decide +kernel
theorem dX6_drainTicks_21 : decode cX6_drainTicks 21 = .ok (.ifCond .eq 45, 3) := by decide +kernel
theorem dX6_drainTicks_24 : decode cX6_drainTicks 24 = .ok (.iload_n 2, 1) := by decide +kernel
theorem dX6_drainTicks_25 : decode cX6_drainTicks 25 = .ok (.ifCond .lt 41, 3) := by decide +kernel
theorem dX6_drainTicks_28 : decode cX6_drainTicks 28 = .ok (.aload_n 0, 1) := by decide +kernel
theorem dX6_drainTicks_29 : decode cX6_drainTicks 29 = .ok (.iload_n 1, 1) := by decide +kernel
theorem dX6_drainTicks_30 : decode cX6_drainTicks 30 = .ok (.invokevirtual 163, 3) := by decide +kernel
theorem dX6_drainTicks_33 : decode cX6_drainTicks 33 = .ok (.pop, 1) := by decide +kernel
theorem dX6_drainTicks_34 : decode cX6_drainTicks 34 = .ok (.aload_n 0, 1) := by decide +kernel
theorem dX6_drainTicks_35 : decode cX6_drainTicks 35 = .ok (.iload_n 1, 1) := by decide +kernel
theorem dX6_drainTicks_36 : decode cX6_drainTicks 36 = .ok (.invokevirtual 110, 3) := by decide +kernel
theorem dX6_drainTicks_39 : decode cX6_drainTicks 39 = .ok (.ifCond .eq 20, 3) := by decide +kernel
theorem dX6_drainTicks_42 : decode cX6_drainTicks 42 = .ok (.aload_n 0, 1) := by decide +kernel
theorem dX6_drainTicks_43 : decode cX6_drainTicks 43 = .ok (.getfield 7, 3) := by decide +kernel
theorem dX6_drainTicks_46 : decode cX6_drainTicks 46 = .ok (.iload_n 1, 1) := by decide +kernel
theorem dX6_drainTicks_47 : decode cX6_drainTicks 47 = .ok (.iconst 5, 1) := by decide +kernel
theorem dX6_drainTicks_48 : decode cX6_drainTicks 48 = .ok (.invokestatic 44, 3) := by decide +kernel
theorem dX6_drainTicks_51 : decode cX6_drainTicks 51 = .ok (.iaload, 1) := by decide +kernel
theorem dX6_drainTicks_52 : decode cX6_drainTicks 52 = .ok (.ifCond .ne 7, 3) := by decide +kernel
theorem dX6_drainTicks_55 : decode cX6_drainTicks 55 = .ok (.iconst (-1), 1) := by decide +kernel
theorem dX6_drainTicks_56 : decode cX6_drainTicks 56 = .ok (.goto 6, 3) := by decide +kernel
theorem dX6_drainTicks_59 : decode cX6_drainTicks 59 = .ok (.iload_n 2, 1) := by decide +kernel
theorem dX6_drainTicks_60 : decode cX6_drainTicks 60 = .ok (.iconst 1, 1) := by decide +kernel
theorem dX6_drainTicks_61 : decode cX6_drainTicks 61 = .ok (.iadd, 1) := by decide +kernel
theorem dX6_drainTicks_62 : decode cX6_drainTicks 62 = .ok (.istore_n 2, 1) := by decide +kernel
theorem dX6_drainTicks_63 : decode cX6_drainTicks 63 = .ok (.goto (-47), 3) := by decide +kernel
theorem dX6_drainTicks_66 : decode cX6_drainTicks 66 = .ok (.aload_n 0, 1) := by decide +kernel
theorem dX6_drainTicks_67 : decode cX6_drainTicks 67 = .ok (.invokevirtual 89, 3) := by decide +kernel
theorem dX6_drainTicks_70 : decode cX6_drainTicks 70 = .ok (.iload_n 2, 1) := by decide +kernel
theorem dX6_drainTicks_71 : decode cX6_drainTicks 71 = .ok (.ifCond .ge 8, 3) := by decide +kernel
theorem dX6_drainTicks_74 : decode cX6_drainTicks 74 = .ok (.bipush (-5), 2) := by decide +kernel
theorem dX6_drainTicks_76 : decode cX6_drainTicks 76 = .ok (.goto 4, 3) := by decide +kernel
theorem dX6_drainTicks_79 : decode cX6_drainTicks 79 = .ok (.iload_n 2, 1) := by decide +kernel
theorem dX6_drainTicks_80 : decode cX6_drainTicks 80 = .ok (.ireturn, 1) := by decide +kernel
theorem dX6_equilibrium_0 : decode cX6_equilibrium 0 = .ok (.iload_n 1, 1) := by decide +kernel
theorem dX6_equilibrium_1 : decode cX6_equilibrium 1 = .ok (.ifCond .lt 17, 3) := by decide +kernel
theorem dX6_equilibrium_4 : decode cX6_equilibrium 4 = .ok (.iload_n 1, 1) := by decide +kernel
theorem dX6_equilibrium_5 : decode cX6_equilibrium 5 = .ok (.iconst 1, 1) := by decide +kernel
theorem dX6_equilibrium_6 : decode cX6_equilibrium 6 = .ok (.iconst 3, 1) := by decide +kernel
theorem dX6_equilibrium_7 : decode cX6_equilibrium 7 = .ok (.aload_n 0, 1) := by decide +kernel
theorem dX6_equilibrium_8 : decode cX6_equilibrium 8 = .ok (.getfield 7, 3) := by decide +kernel
theorem dX6_equilibrium_11 : decode cX6_equilibrium 11 = .ok (.iconst 1, 1) := by decide +kernel
theorem dX6_equilibrium_12 : decode cX6_equilibrium 12 = .ok (.iaload, 1) := by decide +kernel
theorem dX6_equilibrium_13 : decode cX6_equilibrium 13 = .ok (.imul, 1) := by decide +kernel
theorem dX6_equilibrium_14 : decode cX6_equilibrium 14 = .ok (.ishl, 1) := by decide +kernel
theorem dX6_equilibrium_15 : decode cX6_equilibrium 15 = .ok (.if_icmp .lt 6, 3) := by decide +kernel
theorem dX6_equilibrium_18 : decode cX6_equilibrium 18 = .ok (.bipush (-2), 2) := by decide +kernel
theorem dX6_equilibrium_20 : decode cX6_equilibrium 20 = .ok (.ireturn, 1) := by decide +kernel
theorem dX6_equilibrium_21 : decode cX6_equilibrium 21 = .ok (.bipush 8, 2) := by decide +kernel
theorem dX6_equilibrium_23 : decode cX6_equilibrium 23 = .ok (.istore_n 3, 1) := by decide +kernel
theorem dX6_equilibrium_24 : decode cX6_equilibrium 24 = .ok (.iconst 0, 1) := by decide +kernel
theorem dX6_equilibrium_25 : decode cX6_equilibrium 25 = .ok (.istore 4, 2) := by decide +kernel
theorem dX6_equilibrium_27 : decode cX6_equilibrium 27 = .ok (.iload 4, 2) := by decide +kernel
theorem dX6_equilibrium_29 : decode cX6_equilibrium 29 = .ok (.iconst 3, 1) := by decide +kernel
theorem dX6_equilibrium_30 : decode cX6_equilibrium 30 = .ok (.aload_n 0, 1) := by decide +kernel
theorem dX6_equilibrium_31 : decode cX6_equilibrium 31 = .ok (.getfield 7, 3) := by decide +kernel
theorem dX6_equilibrium_34 : decode cX6_equilibrium 34 = .ok (.iconst 1, 1) := by decide +kernel
theorem dX6_equilibrium_35 : decode cX6_equilibrium 35 = .ok (.iaload, 1) := by decide +kernel
theorem dX6_equilibrium_36 : decode cX6_equilibrium 36 = .ok (.imul, 1) := by decide +kernel
theorem dX6_equilibrium_37 : decode cX6_equilibrium 37 = .ok (.if_icmp .ge 37, 3) := by decide +kernel
theorem dX6_equilibrium_40 : decode cX6_equilibrium 40 = .ok (.iload_n 3, 1) := by decide +kernel
theorem dX6_equilibrium_41 : decode cX6_equilibrium 41 = .ok (.iload_n 1, 1) := by decide +kernel
theorem dX6_equilibrium_42 : decode cX6_equilibrium 42 = .ok (.iload 4, 2) := by decide +kernel
theorem dX6_equilibrium_44 : decode cX6_equilibrium 44 = .ok (.ishr, 1) := by decide +kernel
theorem dX6_equilibrium_45 : decode cX6_equilibrium 45 = .ok (.iconst 1, 1) := by decide +kernel
theorem dX6_equilibrium_46 : decode cX6_equilibrium 46 = .ok (.iand, 1) := by decide +kernel
theorem dX6_equilibrium_47 : decode cX6_equilibrium 47 = .ok (.iconst 1, 1) := by decide +kernel
theorem dX6_equilibrium_48 : decode cX6_equilibrium 48 = .ok (.if_icmp .ne 17, 3) := by decide +kernel
theorem dX6_equilibrium_51 : decode cX6_equilibrium 51 = .ok (.aload_n 0, 1) := by decide +kernel
theorem dX6_equilibrium_52 : decode cX6_equilibrium 52 = .ok (.getfield 7, 3) := by decide +kernel
theorem dX6_equilibrium_55 : decode cX6_equilibrium 55 = .ok (.iload 4, 2) := by decide +kernel
theorem dX6_equilibrium_57 : decode cX6_equilibrium 57 = .ok (.iconst 0, 1) := by decide +kernel
theorem dX6_equilibrium_58 : decode cX6_equilibrium 58 = .ok (.invokestatic 48, 3) := by decide +kernel
theorem dX6_equilibrium_61 : decode cX6_equilibrium 61 = .ok (.iaload, 1) := by decide +kernel
theorem dX6_equilibrium_62 : decode cX6_equilibrium 62 = .ok (.goto 4, 3) := by decide +kernel
theorem dX6_equilibrium_65 : decode cX6_equilibrium 65 = .ok (.iconst 0, 1) := by decide +kernel
theorem dX6_equilibrium_66 : decode cX6_equilibrium 66 = .ok (.iadd, 1) := by decide +kernel
theorem dX6_equilibrium_67 : decode cX6_equilibrium 67 = .ok (.istore_n 3, 1) := by decide +kernel
theorem dX6_equilibrium_68 : decode cX6_equilibrium 68 = .ok (.iinc 4 1, 3) := by decide +kernel
theorem dX6_equilibrium_71 : decode cX6_equilibrium 71 = .ok (.goto (-44), 3) := by decide +kernel
theorem dX6_equilibrium_74 : decode cX6_equilibrium 74 = .ok (.bipush 8, 2) := by decide +kernel
theorem dX6_equilibrium_76 : decode cX6_equilibrium 76 = .ok (.aload_n 0, 1) := by decide +kernel
theorem dX6_equilibrium_77 : decode cX6_equilibrium 77 = .ok (.invokevirtual 55, 3) := by decide +kernel
theorem dX6_equilibrium_80 : decode cX6_equilibrium 80 = .ok (.imul, 1) := by decide +kernel
theorem dX6_equilibrium_81 : decode cX6_equilibrium 81 = .ok (.istore 4, 2) := by decide +kernel
theorem dX6_equilibrium_83 : decode cX6_equilibrium 83 = .ok (.iload 4, 2) := by decide +kernel
theorem dX6_equilibrium_85 : decode cX6_equilibrium 85 = .ok (.istore 5, 2) := by decide +kernel
theorem dX6_equilibrium_87 : decode cX6_equilibrium 87 = .ok (.iload_n 3, 1) := by decide +kernel
theorem dX6_equilibrium_88 : decode cX6_equilibrium 88 = .ok (.istore 6, 2) := by decide +kernel
theorem dX6_equilibrium_90 : decode cX6_equilibrium 90 = .ok (.iload 6, 2) := by decide +kernel
theorem dX6_equilibrium_92 : decode cX6_equilibrium 92 = .ok (.ifCond .eq 21, 3) := by decide +kernel
theorem dX6_equilibrium_95 : decode cX6_equilibrium 95 = .ok (.iload 5, 2) := by decide +kernel
theorem dX6_equilibrium_97 : decode cX6_equilibrium 97 = .ok (.iload 6, 2) := by decide +kernel
theorem dX6_equilibrium_99 : decode cX6_equilibrium 99 = .ok (.irem, 1) := by decide +kernel
theorem dX6_equilibrium_100 : decode cX6_equilibrium 100 = .ok (.istore 7, 2) := by decide +kernel
theorem dX6_equilibrium_102 : decode cX6_equilibrium 102 = .ok (.iload 6, 2) := by decide +kernel
theorem dX6_equilibrium_104 : decode cX6_equilibrium 104 = .ok (.istore 5, 2) := by decide +kernel
theorem dX6_equilibrium_106 : decode cX6_equilibrium 106 = .ok (.iload 7, 2) := by decide +kernel
theorem dX6_equilibrium_108 : decode cX6_equilibrium 108 = .ok (.istore 6, 2) := by decide +kernel
theorem dX6_equilibrium_110 : decode cX6_equilibrium 110 = .ok (.goto (-20), 3) := by decide +kernel
theorem dX6_equilibrium_113 : decode cX6_equilibrium 113 = .ok (.iload_n 2, 1) := by decide +kernel
theorem dX6_equilibrium_114 : decode cX6_equilibrium 114 = .ok (.ifCond .eq 10, 3) := by decide +kernel
theorem dX6_equilibrium_117 : decode cX6_equilibrium 117 = .ok (.iload_n 3, 1) := by decide +kernel
theorem dX6_equilibrium_118 : decode cX6_equilibrium 118 = .ok (.iload 5, 2) := by decide +kernel
theorem dX6_equilibrium_120 : decode cX6_equilibrium 120 = .ok (.idiv, 1) := by decide +kernel
theorem dX6_equilibrium_121 : decode cX6_equilibrium 121 = .ok (.goto 8, 3) := by decide +kernel
theorem dX6_equilibrium_124 : decode cX6_equilibrium 124 = .ok (.iload 4, 2) := by decide +kernel
theorem dX6_equilibrium_126 : decode cX6_equilibrium 126 = .ok (.iload 5, 2) := by decide +kernel
theorem dX6_equilibrium_128 : decode cX6_equilibrium 128 = .ok (.idiv, 1) := by decide +kernel
theorem dX6_equilibrium_129 : decode cX6_equilibrium 129 = .ok (.ireturn, 1) := by decide +kernel
theorem dX6_append_0 : decode cX6_append 0 = .ok (.iload_n 1, 1) := by decide +kernel
theorem dX6_append_1 : decode cX6_append 1 = .ok (.iconst 0, 1) := by decide +kernel
theorem dX6_append_2 : decode cX6_append 2 = .ok (.bipush 127, 2) := by decide +kernel
theorem dX6_append_4 : decode cX6_append 4 = .ok (.invokestatic 36, 3) := by decide +kernel
theorem dX6_append_7 : decode cX6_append 7 = .ok (.ifCond .ne 6, 3) := by decide +kernel
theorem dX6_append_10 : decode cX6_append 10 = .ok (.bipush (-2), 2) := by decide +kernel
theorem dX6_append_12 : decode cX6_append 12 = .ok (.ireturn, 1) := by decide +kernel
theorem dX6_append_13 : decode cX6_append 13 = .ok (.aload_n 0, 1) := by decide +kernel
theorem dX6_append_14 : decode cX6_append 14 = .ok (.getfield 199, 3) := by decide +kernel
theorem dX6_append_17 : decode cX6_append 17 = .ok (.bipush 120, 2) := by decide +kernel
theorem dX6_append_19 : decode cX6_append 19 = .ok (.if_icmp .ne 6, 3) := by decide +kernel
theorem dX6_append_22 : decode cX6_append 22 = .ok (.bipush (-3), 2) := by decide +kernel
theorem dX6_append_24 : decode cX6_append 24 = .ok (.ireturn, 1) := by decide +kernel
theorem dX6_append_25 : decode cX6_append 25 = .ok (.aload_n 0, 1) := by decide +kernel
theorem dX6_append_26 : decode cX6_append 26 = .ok (.getfield 23, 3) := by decide +kernel
theorem dX6_append_29 : decode cX6_append 29 = .ok (.aload_n 0, 1) := by decide +kernel
theorem dX6_append_30 : decode cX6_append 30 = .ok (.getfield 199, 3) := by decide +kernel
theorem dX6_append_33 : decode cX6_append 33 = .ok (.iload_n 1, 1) := by decide +kernel
theorem dX6_append_34 : decode cX6_append 34 = .ok (.iastore, 1) := by decide +kernel
theorem dX6_append_35 : decode cX6_append 35 = .ok (.aload_n 0, 1) := by decide +kernel
theorem dX6_append_36 : decode cX6_append 36 = .ok (.dup, 1) := by decide +kernel
theorem dX6_append_37 : decode cX6_append 37 = .ok (.getfield 199, 3) := by decide +kernel
theorem dX6_append_40 : decode cX6_append 40 = .ok (.iconst 1, 1) := by decide +kernel
theorem dX6_append_41 : decode cX6_append 41 = .ok (.iadd, 1) := by decide +kernel
theorem dX6_append_42 : decode cX6_append 42 = .ok (.putfield 199, 3) := by decide +kernel
theorem dX6_append_45 : decode cX6_append 45 = .ok (.aload_n 0, 1) := by decide +kernel
theorem dX6_append_46 : decode cX6_append 46 = .ok (.getfield 199, 3) := by decide +kernel
theorem dX6_append_49 : decode cX6_append 49 = .ok (.ireturn, 1) := by decide +kernel
theorem dX6_clearText_0 : decode cX6_clearText 0 = .ok (.aload_n 0, 1) := by decide +kernel
theorem dX6_clearText_1 : decode cX6_clearText 1 = .ok (.getfield 199, 3) := by decide +kernel
theorem dX6_clearText_4 : decode cX6_clearText 4 = .ok (.istore_n 1, 1) := by decide +kernel
theorem dX6_clearText_5 : decode cX6_clearText 5 = .ok (.aload_n 0, 1) := by decide +kernel
theorem dX6_clearText_6 : decode cX6_clearText 6 = .ok (.iconst 0, 1) := by decide +kernel
theorem dX6_clearText_7 : decode cX6_clearText 7 = .ok (.putfield 199, 3) := by decide +kernel
theorem dX6_clearText_10 : decode cX6_clearText 10 = .ok (.iload_n 1, 1) := by decide +kernel
theorem dX6_clearText_11 : decode cX6_clearText 11 = .ok (.ireturn, 1) := by decide +kernel
theorem dX6_here_0 : decode cX6_here 0 = .ok (.aload_n 0, 1) := by decide +kernel
theorem dX6_here_1 : decode cX6_here 1 = .ok (.getfield 202, 3) := by decide +kernel
theorem dX6_here_4 : decode cX6_here 4 = .ok (.aload_n 0, 1) := by decide +kernel
theorem dX6_here_5 : decode cX6_here 5 = .ok (.getfield 199, 3) := by decide +kernel
theorem dX6_here_8 : decode cX6_here 8 = .ok (.if_icmp .ge 15, 3) := by decide +kernel
theorem dX6_here_11 : decode cX6_here 11 = .ok (.aload_n 0, 1) := by decide +kernel
theorem dX6_here_12 : decode cX6_here 12 = .ok (.getfield 23, 3) := by decide +kernel
theorem dX6_here_15 : decode cX6_here 15 = .ok (.aload_n 0, 1) := by decide +kernel
theorem dX6_here_16 : decode cX6_here 16 = .ok (.getfield 202, 3) := by decide +kernel
theorem dX6_here_19 : decode cX6_here 19 = .ok (.iaload, 1) := by decide +kernel
theorem dX6_here_20 : decode cX6_here 20 = .ok (.goto 4, 3) := by decide +kernel
theorem dX6_here_23 : decode cX6_here 23 = .ok (.iconst (-1), 1) := by decide +kernel
theorem dX6_here_24 : decode cX6_here 24 = .ok (.ireturn, 1) := by decide +kernel
theorem dX6_isDigit_0 : decode cX6_isDigit 0 = .ok (.aload_n 0, 1) := by decide +kernel
theorem dX6_isDigit_1 : decode cX6_isDigit 1 = .ok (.invokevirtual 205, 3) := by decide +kernel
theorem dX6_isDigit_4 : decode cX6_isDigit 4 = .ok (.bipush 48, 2) := by decide +kernel
theorem dX6_isDigit_6 : decode cX6_isDigit 6 = .ok (.bipush 57, 2) := by decide +kernel
theorem dX6_isDigit_8 : decode cX6_isDigit 8 = .ok (.invokestatic 36, 3) := by decide +kernel
theorem dX6_isDigit_11 : decode cX6_isDigit 11 = .ok (.ireturn, 1) := by decide +kernel
theorem dX6_faults_0 : decode cX6_faults 0 = .ok (.aload_n 0, 1) := by decide +kernel
theorem dX6_faults_1 : decode cX6_faults 1 = .ok (.aload_n 0, 1) := by decide +kernel
theorem dX6_faults_2 : decode cX6_faults 2 = .ok (.getfield 208, 3) := by decide +kernel
theorem dX6_faults_5 : decode cX6_faults 5 = .ok (.ifCond .ge 7, 3) := by decide +kernel
theorem dX6_faults_8 : decode cX6_faults 8 = .ok (.iload_n 1, 1) := by decide +kernel
theorem dX6_faults_9 : decode cX6_faults 9 = .ok (.goto 7, 3) := by decide +kernel
theorem dX6_faults_12 : decode cX6_faults 12 = .ok (.aload_n 0, 1) := by decide +kernel
theorem dX6_faults_13 : decode cX6_faults 13 = .ok (.getfield 208, 3) := by decide +kernel
theorem dX6_faults_16 : decode cX6_faults 16 = .ok (.putfield 208, 3) := by decide +kernel
theorem dX6_faults_19 : decode cX6_faults 19 = .ok (.return_, 1) := by decide +kernel
theorem dX6_digit_0 : decode cX6_digit 0 = .ok (.aload_n 0, 1) := by decide +kernel
theorem dX6_digit_1 : decode cX6_digit 1 = .ok (.invokevirtual 205, 3) := by decide +kernel
theorem dX6_digit_4 : decode cX6_digit 4 = .ok (.bipush 48, 2) := by decide +kernel
theorem dX6_digit_6 : decode cX6_digit 6 = .ok (.isub, 1) := by decide +kernel
theorem dX6_digit_7 : decode cX6_digit 7 = .ok (.istore_n 2, 1) := by decide +kernel
theorem dX6_digit_8 : decode cX6_digit 8 = .ok (.aload_n 0, 1) := by decide +kernel
theorem dX6_digit_9 : decode cX6_digit 9 = .ok (.invokevirtual 211, 3) := by decide +kernel
theorem dX6_digit_12 : decode cX6_digit 12 = .ok (.ifCond .eq 8, 3) := by decide +kernel
theorem dX6_digit_15 : decode cX6_digit 15 = .ok (.iload_n 2, 1) := by decide +kernel
theorem dX6_digit_16 : decode cX6_digit 16 = .ok (.iload_n 1, 1) := by decide +kernel
theorem dX6_digit_17 : decode cX6_digit 17 = .ok (.if_icmp .le 13, 3) := by decide +kernel
theorem dX6_digit_20 : decode cX6_digit 20 = .ok (.aload_n 0, 1) := by decide +kernel
theorem dX6_digit_21 : decode cX6_digit 21 = .ok (.aload_n 0, 1) := by decide +kernel
theorem dX6_digit_22 : decode cX6_digit 22 = .ok (.getfield 202, 3) := by decide +kernel
theorem dX6_digit_25 : decode cX6_digit 25 = .ok (.invokevirtual 215, 3) := by decide +kernel
theorem dX6_digit_28 : decode cX6_digit 28 = .ok (.iconst 0, 1) := by decide +kernel
theorem dX6_digit_29 : decode cX6_digit 29 = .ok (.ireturn, 1) := by decide +kernel
theorem dX6_digit_30 : decode cX6_digit 30 = .ok (.aload_n 0, 1) := by decide +kernel
theorem dX6_digit_31 : decode cX6_digit 31 = .ok (.dup, 1) := by decide +kernel
theorem dX6_digit_32 : decode cX6_digit 32 = .ok (.getfield 202, 3) := by decide +kernel
theorem dX6_digit_35 : decode cX6_digit 35 = .ok (.iconst 1, 1) := by decide +kernel
theorem dX6_digit_36 : decode cX6_digit 36 = .ok (.iadd, 1) := by decide +kernel
theorem dX6_digit_37 : decode cX6_digit 37 = .ok (.putfield 202, 3) := by decide +kernel
theorem dX6_digit_40 : decode cX6_digit 40 = .ok (.iload_n 2, 1) := by decide +kernel
theorem dX6_digit_41 : decode cX6_digit 41 = .ok (.ireturn, 1) := by decide +kernel
theorem dX6_number_0 : decode cX6_number 0 = .ok (.aload_n 0, 1) := by decide +kernel
theorem dX6_number_1 : decode cX6_number 1 = .ok (.getfield 202, 3) := by decide +kernel
theorem dX6_number_4 : decode cX6_number 4 = .ok (.istore_n 3, 1) := by decide +kernel
theorem dX6_number_5 : decode cX6_number 5 = .ok (.iconst 0, 1) := by decide +kernel
theorem dX6_number_6 : decode cX6_number 6 = .ok (.istore 4, 2) := by decide +kernel
theorem dX6_number_8 : decode cX6_number 8 = .ok (.aload_n 0, 1) := by decide +kernel
theorem dX6_number_9 : decode cX6_number 9 = .ok (.invokevirtual 211, 3) := by decide +kernel
theorem dX6_number_12 : decode cX6_number 12 = .ok (.ifCond .eq 37, 3) := by decide +kernel
theorem dX6_number_15 : decode cX6_number 15 = .ok (.sipush 1000, 3) := by decide +kernel
theorem dX6_number_18 : decode cX6_number 18 = .ok (.bipush 10, 2) := by decide +kernel
theorem dX6_number_20 : decode cX6_number 20 = .ok (.iload 4, 2) := by decide +kernel
theorem dX6_number_22 : decode cX6_number 22 = .ok (.imul, 1) := by decide +kernel
theorem dX6_number_23 : decode cX6_number 23 = .ok (.aload_n 0, 1) := by decide +kernel
theorem dX6_number_24 : decode cX6_number 24 = .ok (.invokevirtual 205, 3) := by decide +kernel
theorem dX6_number_27 : decode cX6_number 27 = .ok (.iadd, 1) := by decide +kernel
theorem dX6_number_28 : decode cX6_number 28 = .ok (.bipush 48, 2) := by decide +kernel
theorem dX6_number_30 : decode cX6_number 30 = .ok (.isub, 1) := by decide +kernel
theorem dX6_number_31 : decode cX6_number 31 = .ok (.invokestatic 68, 3) := by decide +kernel
theorem dX6_number_34 : decode cX6_number 34 = .ok (.istore 4, 2) := by decide +kernel
theorem dX6_number_36 : decode cX6_number 36 = .ok (.aload_n 0, 1) := by decide +kernel
theorem dX6_number_37 : decode cX6_number 37 = .ok (.dup, 1) := by decide +kernel
theorem dX6_number_38 : decode cX6_number 38 = .ok (.getfield 202, 3) := by decide +kernel
theorem dX6_number_41 : decode cX6_number 41 = .ok (.iconst 1, 1) := by decide +kernel
theorem dX6_number_42 : decode cX6_number 42 = .ok (.iadd, 1) := by decide +kernel
theorem dX6_number_43 : decode cX6_number 43 = .ok (.putfield 202, 3) := by decide +kernel
theorem dX6_number_46 : decode cX6_number 46 = .ok (.goto (-38), 3) := by decide +kernel
theorem dX6_number_49 : decode cX6_number 49 = .ok (.aload_n 0, 1) := by decide +kernel
theorem dX6_number_50 : decode cX6_number 50 = .ok (.getfield 202, 3) := by decide +kernel
theorem dX6_number_53 : decode cX6_number 53 = .ok (.iload_n 3, 1) := by decide +kernel
theorem dX6_number_54 : decode cX6_number 54 = .ok (.if_icmp .eq 34, 3) := by decide +kernel
theorem dX6_number_57 : decode cX6_number 57 = .ok (.aload_n 0, 1) := by decide +kernel
theorem dX6_number_58 : decode cX6_number 58 = .ok (.getfield 23, 3) := by decide +kernel
theorem dX6_number_61 : decode cX6_number 61 = .ok (.iload_n 3, 1) := by decide +kernel
theorem dX6_number_62 : decode cX6_number 62 = .ok (.iaload, 1) := by decide +kernel
theorem dX6_number_63 : decode cX6_number 63 = .ok (.bipush 48, 2) := by decide +kernel
theorem dX6_number_65 : decode cX6_number 65 = .ok (.if_icmp .eq 23, 3) := by decide +kernel
theorem dX6_number_68 : decode cX6_number 68 = .ok (.aload_n 0, 1) := by decide +kernel
theorem dX6_number_69 : decode cX6_number 69 = .ok (.getfield 202, 3) := by decide +kernel
theorem dX6_number_72 : decode cX6_number 72 = .ok (.iload_n 3, 1) := by decide +kernel
theorem dX6_number_73 : decode cX6_number 73 = .ok (.isub, 1) := by decide +kernel
theorem dX6_number_74 : decode cX6_number 74 = .ok (.iconst 2, 1) := by decide +kernel
theorem dX6_number_75 : decode cX6_number 75 = .ok (.if_icmp .gt 13, 3) := by decide +kernel
theorem dX6_number_78 : decode cX6_number 78 = .ok (.iload 4, 2) := by decide +kernel
theorem dX6_number_80 : decode cX6_number 80 = .ok (.iload_n 1, 1) := by decide +kernel
theorem dX6_number_81 : decode cX6_number 81 = .ok (.iload_n 2, 1) := by decide +kernel
theorem dX6_number_82 : decode cX6_number 82 = .ok (.invokestatic 36, 3) := by decide +kernel
theorem dX6_number_85 : decode cX6_number 85 = .ok (.ifCond .ne 8, 3) := by decide +kernel
theorem dX6_number_88 : decode cX6_number 88 = .ok (.aload_n 0, 1) := by decide +kernel
theorem dX6_number_89 : decode cX6_number 89 = .ok (.iload_n 3, 1) := by decide +kernel
theorem dX6_number_90 : decode cX6_number 90 = .ok (.invokevirtual 215, 3) := by decide +kernel
theorem dX6_number_93 : decode cX6_number 93 = .ok (.iload 4, 2) := by decide +kernel
theorem dX6_number_95 : decode cX6_number 95 = .ok (.ireturn, 1) := by decide +kernel
theorem dX6_sign_0 : decode cX6_sign 0 = .ok (.aload_n 0, 1) := by decide +kernel
theorem dX6_sign_1 : decode cX6_sign 1 = .ok (.invokevirtual 205, 3) := by decide +kernel
theorem dX6_sign_4 : decode cX6_sign 4 = .ok (.iload_n 1, 1) := by decide +kernel
theorem dX6_sign_5 : decode cX6_sign 5 = .ok (.if_icmp .ne 16, 3) := by decide +kernel
theorem dX6_sign_8 : decode cX6_sign 8 = .ok (.aload_n 0, 1) := by decide +kernel
theorem dX6_sign_9 : decode cX6_sign 9 = .ok (.dup, 1) := by decide +kernel
theorem dX6_sign_10 : decode cX6_sign 10 = .ok (.getfield 202, 3) := by decide +kernel
theorem dX6_sign_13 : decode cX6_sign 13 = .ok (.iconst 1, 1) := by decide +kernel
theorem dX6_sign_14 : decode cX6_sign 14 = .ok (.iadd, 1) := by decide +kernel
theorem dX6_sign_15 : decode cX6_sign 15 = .ok (.putfield 202, 3) := by decide +kernel
theorem dX6_sign_18 : decode cX6_sign 18 = .ok (.goto 11, 3) := by decide +kernel
theorem dX6_sign_21 : decode cX6_sign 21 = .ok (.aload_n 0, 1) := by decide +kernel
theorem dX6_sign_22 : decode cX6_sign 22 = .ok (.aload_n 0, 1) := by decide +kernel
theorem dX6_sign_23 : decode cX6_sign 23 = .ok (.getfield 202, 3) := by decide +kernel
theorem dX6_sign_26 : decode cX6_sign 26 = .ok (.invokevirtual 215, 3) := by decide +kernel
theorem dX6_sign_29 : decode cX6_sign 29 = .ok (.return_, 1) := by decide +kernel
theorem dX6_order_0 : decode cX6_order 0 = .ok (.aload_n 0, 1) := by decide +kernel
theorem dX6_order_1 : decode cX6_order 1 = .ok (.invokevirtual 205, 3) := by decide +kernel
theorem dX6_order_4 : decode cX6_order 4 = .ok (.istore_n 1, 1) := by decide +kernel
theorem dX6_order_5 : decode cX6_order 5 = .ok (.aload_n 0, 1) := by decide +kernel
theorem dX6_order_6 : decode cX6_order 6 = .ok (.dup, 1) := by decide +kernel
theorem dX6_order_7 : decode cX6_order 7 = .ok (.getfield 202, 3) := by decide +kernel
theorem dX6_order_10 : decode cX6_order 10 = .ok (.iconst 1, 1) := by decide +kernel
theorem dX6_order_11 : decode cX6_order 11 = .ok (.iadd, 1) := by decide +kernel
theorem dX6_order_12 : decode cX6_order 12 = .ok (.putfield 202, 3) := by decide +kernel
theorem dX6_order_15 : decode cX6_order 15 = .ok (.iload_n 1, 1) := by decide +kernel
theorem dX6_order_16 : decode cX6_order 16 = .ok (.lookupswitch 319 #[(97, 44), (102, 220), (103, 253), (116, 192)], 44) := by decide +kernel
theorem dX6_order_60 : decode cX6_order 60 = .ok (.aload_n 0, 1) := by decide +kernel
theorem dX6_order_61 : decode cX6_order 61 = .ok (.aload_n 0, 1) := by decide +kernel
theorem dX6_order_62 : decode cX6_order 62 = .ok (.getfield 7, 3) := by decide +kernel
theorem dX6_order_65 : decode cX6_order 65 = .ok (.iconst 1, 1) := by decide +kernel
theorem dX6_order_66 : decode cX6_order 66 = .ok (.iaload, 1) := by decide +kernel
theorem dX6_order_67 : decode cX6_order 67 = .ok (.iconst 1, 1) := by decide +kernel
theorem dX6_order_68 : decode cX6_order 68 = .ok (.isub, 1) := by decide +kernel
theorem dX6_order_69 : decode cX6_order 69 = .ok (.invokevirtual 218, 3) := by decide +kernel
theorem dX6_order_72 : decode cX6_order 72 = .ok (.istore_n 2, 1) := by decide +kernel
theorem dX6_order_73 : decode cX6_order 73 = .ok (.aload_n 0, 1) := by decide +kernel
theorem dX6_order_74 : decode cX6_order 74 = .ok (.getfield 208, 3) := by decide +kernel
theorem dX6_order_77 : decode cX6_order 77 = .ok (.ifCond .ge 11, 3) := by decide +kernel
theorem dX6_order_80 : decode cX6_order 80 = .ok (.aload_n 0, 1) := by decide +kernel
theorem dX6_order_81 : decode cX6_order 81 = .ok (.iconst 2, 1) := by decide +kernel
theorem dX6_order_82 : decode cX6_order 82 = .ok (.invokevirtual 218, 3) := by decide +kernel
theorem dX6_order_85 : decode cX6_order 85 = .ok (.goto 4, 3) := by decide +kernel
theorem dX6_order_88 : decode cX6_order 88 = .ok (.iconst 0, 1) := by decide +kernel
theorem dX6_order_89 : decode cX6_order 89 = .ok (.istore 4, 2) := by decide +kernel
theorem dX6_order_91 : decode cX6_order 91 = .ok (.aload_n 0, 1) := by decide +kernel
theorem dX6_order_92 : decode cX6_order 92 = .ok (.getfield 208, 3) := by decide +kernel
theorem dX6_order_95 : decode cX6_order 95 = .ok (.ifCond .ge 13, 3) := by decide +kernel
theorem dX6_order_98 : decode cX6_order 98 = .ok (.aload_n 0, 1) := by decide +kernel
theorem dX6_order_99 : decode cX6_order 99 = .ok (.iconst 1, 1) := by decide +kernel
theorem dX6_order_100 : decode cX6_order 100 = .ok (.bipush 12, 2) := by decide +kernel
theorem dX6_order_102 : decode cX6_order 102 = .ok (.invokevirtual 221, 3) := by decide +kernel
theorem dX6_order_105 : decode cX6_order 105 = .ok (.goto 4, 3) := by decide +kernel
theorem dX6_order_108 : decode cX6_order 108 = .ok (.iconst 0, 1) := by decide +kernel
theorem dX6_order_109 : decode cX6_order 109 = .ok (.istore_n 3, 1) := by decide +kernel
theorem dX6_order_110 : decode cX6_order 110 = .ok (.iconst 1, 1) := by decide +kernel
theorem dX6_order_111 : decode cX6_order 111 = .ok (.istore 5, 2) := by decide +kernel
theorem dX6_order_113 : decode cX6_order 113 = .ok (.aload_n 0, 1) := by decide +kernel
theorem dX6_order_114 : decode cX6_order 114 = .ok (.getfield 208, 3) := by decide +kernel
theorem dX6_order_117 : decode cX6_order 117 = .ok (.ifCond .ge 31, 3) := by decide +kernel
theorem dX6_order_120 : decode cX6_order 120 = .ok (.aload_n 0, 1) := by decide +kernel
theorem dX6_order_121 : decode cX6_order 121 = .ok (.invokevirtual 205, 3) := by decide +kernel
theorem dX6_order_124 : decode cX6_order 124 = .ok (.bipush 42, 2) := by decide +kernel
theorem dX6_order_126 : decode cX6_order 126 = .ok (.if_icmp .ne 22, 3) := by decide +kernel
theorem dX6_order_129 : decode cX6_order 129 = .ok (.aload_n 0, 1) := by decide +kernel
theorem dX6_order_130 : decode cX6_order 130 = .ok (.dup, 1) := by decide +kernel
theorem dX6_order_131 : decode cX6_order 131 = .ok (.getfield 202, 3) := by decide +kernel
theorem dX6_order_134 : decode cX6_order 134 = .ok (.iconst 1, 1) := by decide +kernel
theorem dX6_order_135 : decode cX6_order 135 = .ok (.iadd, 1) := by decide +kernel
theorem dX6_order_136 : decode cX6_order 136 = .ok (.putfield 202, 3) := by decide +kernel
theorem dX6_order_139 : decode cX6_order 139 = .ok (.aload_n 0, 1) := by decide +kernel
theorem dX6_order_140 : decode cX6_order 140 = .ok (.iconst 2, 1) := by decide +kernel
theorem dX6_order_141 : decode cX6_order 141 = .ok (.bipush 9, 2) := by decide +kernel
theorem dX6_order_143 : decode cX6_order 143 = .ok (.invokevirtual 221, 3) := by decide +kernel
theorem dX6_order_146 : decode cX6_order 146 = .ok (.istore 5, 2) := by decide +kernel
theorem dX6_order_148 : decode cX6_order 148 = .ok (.aload_n 0, 1) := by decide +kernel
theorem dX6_order_149 : decode cX6_order 149 = .ok (.invokevirtual 224, 3) := by decide +kernel
theorem dX6_order_152 : decode cX6_order 152 = .ok (.iconst 0, 1) := by decide +kernel
theorem dX6_order_153 : decode cX6_order 153 = .ok (.istore 6, 2) := by decide +kernel
theorem dX6_order_155 : decode cX6_order 155 = .ok (.iload 6, 2) := by decide +kernel
theorem dX6_order_157 : decode cX6_order 157 = .ok (.iload 5, 2) := by decide +kernel
theorem dX6_order_159 : decode cX6_order 159 = .ok (.if_icmp .ge 46, 3) := by decide +kernel
theorem dX6_order_162 : decode cX6_order 162 = .ok (.aload_n 0, 1) := by decide +kernel
theorem dX6_order_163 : decode cX6_order 163 = .ok (.invokevirtual 227, 3) := by decide +kernel
theorem dX6_order_166 : decode cX6_order 166 = .ok (.ifCond .eq 39, 3) := by decide +kernel
theorem dX6_order_169 : decode cX6_order 169 = .ok (.aload_n 0, 1) := by decide +kernel
theorem dX6_order_170 : decode cX6_order 170 = .ok (.dup, 1) := by decide +kernel
theorem dX6_order_171 : decode cX6_order 171 = .ok (.getfield 230, 3) := by decide +kernel
theorem dX6_order_174 : decode cX6_order 174 = .ok (.aload_n 0, 1) := by decide +kernel
theorem dX6_order_175 : decode cX6_order 175 = .ok (.iconst 3, 1) := by decide +kernel
theorem dX6_order_176 : decode cX6_order 176 = .ok (.iload_n 2, 1) := by decide +kernel
theorem dX6_order_177 : decode cX6_order 177 = .ok (.imul, 1) := by decide +kernel
theorem dX6_order_178 : decode cX6_order 178 = .ok (.iload 4, 2) := by decide +kernel
theorem dX6_order_180 : decode cX6_order 180 = .ok (.iadd, 1) := by decide +kernel
theorem dX6_order_181 : decode cX6_order 181 = .ok (.iload_n 3, 1) := by decide +kernel
theorem dX6_order_182 : decode cX6_order 182 = .ok (.invokevirtual 154, 3) := by decide +kernel
theorem dX6_order_185 : decode cX6_order 185 = .ok (.bipush (-6), 2) := by decide +kernel
theorem dX6_order_187 : decode cX6_order 187 = .ok (.if_icmp .ne 7, 3) := by decide +kernel
theorem dX6_order_190 : decode cX6_order 190 = .ok (.iconst 1, 1) := by decide +kernel
theorem dX6_order_191 : decode cX6_order 191 = .ok (.goto 4, 3) := by decide +kernel
theorem dX6_order_194 : decode cX6_order 194 = .ok (.iconst 0, 1) := by decide +kernel
theorem dX6_order_195 : decode cX6_order 195 = .ok (.iadd, 1) := by decide +kernel
theorem dX6_order_196 : decode cX6_order 196 = .ok (.putfield 230, 3) := by decide +kernel
theorem dX6_order_199 : decode cX6_order 199 = .ok (.iinc 6 1, 3) := by decide +kernel
theorem dX6_order_202 : decode cX6_order 202 = .ok (.goto (-47), 3) := by decide +kernel
theorem dX6_order_205 : decode cX6_order 205 = .ok (.goto 140, 3) := by decide +kernel
theorem dX6_order_208 : decode cX6_order 208 = .ok (.aload_n 0, 1) := by decide +kernel
theorem dX6_order_209 : decode cX6_order 209 = .ok (.iconst 1, 1) := by decide +kernel
theorem dX6_order_210 : decode cX6_order 210 = .ok (.bipush 20, 2) := by decide +kernel
theorem dX6_order_212 : decode cX6_order 212 = .ok (.invokevirtual 221, 3) := by decide +kernel
theorem dX6_order_215 : decode cX6_order 215 = .ok (.istore_n 3, 1) := by decide +kernel
theorem dX6_order_216 : decode cX6_order 216 = .ok (.aload_n 0, 1) := by decide +kernel
theorem dX6_order_217 : decode cX6_order 217 = .ok (.invokevirtual 224, 3) := by decide +kernel
theorem dX6_order_220 : decode cX6_order 220 = .ok (.aload_n 0, 1) := by decide +kernel
theorem dX6_order_221 : decode cX6_order 221 = .ok (.invokevirtual 227, 3) := by decide +kernel
theorem dX6_order_224 : decode cX6_order 224 = .ok (.ifCond .eq 121, 3) := by decide +kernel
theorem dX6_order_227 : decode cX6_order 227 = .ok (.aload_n 0, 1) := by decide +kernel
theorem dX6_order_228 : decode cX6_order 228 = .ok (.iload_n 3, 1) := by decide +kernel
theorem dX6_order_229 : decode cX6_order 229 = .ok (.invokevirtual 169, 3) := by decide +kernel
theorem dX6_order_232 : decode cX6_order 232 = .ok (.pop, 1) := by decide +kernel
theorem dX6_order_233 : decode cX6_order 233 = .ok (.goto 112, 3) := by decide +kernel
theorem dX6_order_236 : decode cX6_order 236 = .ok (.aload_n 0, 1) := by decide +kernel
theorem dX6_order_237 : decode cX6_order 237 = .ok (.aload_n 0, 1) := by decide +kernel
theorem dX6_order_238 : decode cX6_order 238 = .ok (.getfield 7, 3) := by decide +kernel
theorem dX6_order_241 : decode cX6_order 241 = .ok (.iconst 1, 1) := by decide +kernel
theorem dX6_order_242 : decode cX6_order 242 = .ok (.iaload, 1) := by decide +kernel
theorem dX6_order_243 : decode cX6_order 243 = .ok (.iconst 1, 1) := by decide +kernel
theorem dX6_order_244 : decode cX6_order 244 = .ok (.isub, 1) := by decide +kernel
theorem dX6_order_245 : decode cX6_order 245 = .ok (.invokevirtual 218, 3) := by decide +kernel
theorem dX6_order_248 : decode cX6_order 248 = .ok (.istore_n 2, 1) := by decide +kernel
theorem dX6_order_249 : decode cX6_order 249 = .ok (.aload_n 0, 1) := by decide +kernel
theorem dX6_order_250 : decode cX6_order 250 = .ok (.invokevirtual 224, 3) := by decide +kernel
theorem dX6_order_253 : decode cX6_order 253 = .ok (.aload_n 0, 1) := by decide +kernel
theorem dX6_order_254 : decode cX6_order 254 = .ok (.invokevirtual 227, 3) := by decide +kernel
theorem dX6_order_257 : decode cX6_order 257 = .ok (.ifCond .eq 88, 3) := by decide +kernel
theorem dX6_order_260 : decode cX6_order 260 = .ok (.aload_n 0, 1) := by decide +kernel
theorem dX6_order_261 : decode cX6_order 261 = .ok (.iload_n 2, 1) := by decide +kernel
theorem dX6_order_262 : decode cX6_order 262 = .ok (.invokevirtual 172, 3) := by decide +kernel
theorem dX6_order_265 : decode cX6_order 265 = .ok (.pop, 1) := by decide +kernel
theorem dX6_order_266 : decode cX6_order 266 = .ok (.goto 79, 3) := by decide +kernel
theorem dX6_order_269 : decode cX6_order 269 = .ok (.aload_n 0, 1) := by decide +kernel
theorem dX6_order_270 : decode cX6_order 270 = .ok (.aload_n 0, 1) := by decide +kernel
theorem dX6_order_271 : decode cX6_order 271 = .ok (.getfield 7, 3) := by decide +kernel
theorem dX6_order_274 : decode cX6_order 274 = .ok (.iconst 1, 1) := by decide +kernel
theorem dX6_order_275 : decode cX6_order 275 = .ok (.iaload, 1) := by decide +kernel
theorem dX6_order_276 : decode cX6_order 276 = .ok (.iconst 1, 1) := by decide +kernel
theorem dX6_order_277 : decode cX6_order 277 = .ok (.isub, 1) := by decide +kernel
theorem dX6_order_278 : decode cX6_order 278 = .ok (.invokevirtual 218, 3) := by decide +kernel
theorem dX6_order_281 : decode cX6_order 281 = .ok (.istore_n 2, 1) := by decide +kernel
theorem dX6_order_282 : decode cX6_order 282 = .ok (.aload_n 0, 1) := by decide +kernel
theorem dX6_order_283 : decode cX6_order 283 = .ok (.getfield 208, 3) := by decide +kernel
theorem dX6_order_286 : decode cX6_order 286 = .ok (.ifCond .ge 9, 3) := by decide +kernel
theorem dX6_order_289 : decode cX6_order 289 = .ok (.aload_n 0, 1) := by decide +kernel
theorem dX6_order_290 : decode cX6_order 290 = .ok (.bipush 44, 2) := by decide +kernel
theorem dX6_order_292 : decode cX6_order 292 = .ok (.invokevirtual 233, 3) := by decide +kernel
theorem dX6_order_295 : decode cX6_order 295 = .ok (.aload_n 0, 1) := by decide +kernel
theorem dX6_order_296 : decode cX6_order 296 = .ok (.getfield 208, 3) := by decide +kernel
theorem dX6_order_299 : decode cX6_order 299 = .ok (.ifCond .ge 13, 3) := by decide +kernel
theorem dX6_order_302 : decode cX6_order 302 = .ok (.aload_n 0, 1) := by decide +kernel
theorem dX6_order_303 : decode cX6_order 303 = .ok (.iconst 1, 1) := by decide +kernel
theorem dX6_order_304 : decode cX6_order 304 = .ok (.bipush 32, 2) := by decide +kernel
theorem dX6_order_306 : decode cX6_order 306 = .ok (.invokevirtual 221, 3) := by decide +kernel
theorem dX6_order_309 : decode cX6_order 309 = .ok (.goto 4, 3) := by decide +kernel
theorem dX6_order_312 : decode cX6_order 312 = .ok (.iconst 0, 1) := by decide +kernel
theorem dX6_order_313 : decode cX6_order 313 = .ok (.istore_n 3, 1) := by decide +kernel
theorem dX6_order_314 : decode cX6_order 314 = .ok (.aload_n 0, 1) := by decide +kernel
theorem dX6_order_315 : decode cX6_order 315 = .ok (.invokevirtual 224, 3) := by decide +kernel
theorem dX6_order_318 : decode cX6_order 318 = .ok (.aload_n 0, 1) := by decide +kernel
theorem dX6_order_319 : decode cX6_order 319 = .ok (.invokevirtual 227, 3) := by decide +kernel
theorem dX6_order_322 : decode cX6_order 322 = .ok (.ifCond .eq 23, 3) := by decide +kernel
theorem dX6_order_325 : decode cX6_order 325 = .ok (.aload_n 0, 1) := by decide +kernel
theorem dX6_order_326 : decode cX6_order 326 = .ok (.iload_n 2, 1) := by decide +kernel
theorem dX6_order_327 : decode cX6_order 327 = .ok (.iload_n 3, 1) := by decide +kernel
theorem dX6_order_328 : decode cX6_order 328 = .ok (.invokevirtual 236, 3) := by decide +kernel
theorem dX6_order_331 : decode cX6_order 331 = .ok (.pop, 1) := by decide +kernel
theorem dX6_order_332 : decode cX6_order 332 = .ok (.goto 13, 3) := by decide +kernel
theorem dX6_order_335 : decode cX6_order 335 = .ok (.aload_n 0, 1) := by decide +kernel
theorem dX6_order_336 : decode cX6_order 336 = .ok (.aload_n 0, 1) := by decide +kernel
theorem dX6_order_337 : decode cX6_order 337 = .ok (.getfield 202, 3) := by decide +kernel
theorem dX6_order_340 : decode cX6_order 340 = .ok (.iconst 1, 1) := by decide +kernel
theorem dX6_order_341 : decode cX6_order 341 = .ok (.isub, 1) := by decide +kernel
theorem dX6_order_342 : decode cX6_order 342 = .ok (.invokevirtual 215, 3) := by decide +kernel
theorem dX6_order_345 : decode cX6_order 345 = .ok (.return_, 1) := by decide +kernel
theorem dX6_ends_0 : decode cX6_ends 0 = .ok (.aload_n 0, 1) := by decide +kernel
theorem dX6_ends_1 : decode cX6_ends 1 = .ok (.getfield 208, 3) := by decide +kernel
theorem dX6_ends_4 : decode cX6_ends 4 = .ok (.ifCond .ge 9, 3) := by decide +kernel
theorem dX6_ends_7 : decode cX6_ends 7 = .ok (.aload_n 0, 1) := by decide +kernel
theorem dX6_ends_8 : decode cX6_ends 8 = .ok (.bipush 59, 2) := by decide +kernel
theorem dX6_ends_10 : decode cX6_ends 10 = .ok (.invokevirtual 233, 3) := by decide +kernel
theorem dX6_ends_13 : decode cX6_ends 13 = .ok (.return_, 1) := by decide +kernel
theorem dX6_acts_0 : decode cX6_acts 0 = .ok (.aload_n 0, 1) := by decide +kernel
theorem dX6_acts_1 : decode cX6_acts 1 = .ok (.getfield 239, 3) := by decide +kernel
theorem dX6_acts_4 : decode cX6_acts 4 = .ok (.ifCond .eq 14, 3) := by decide +kernel
theorem dX6_acts_7 : decode cX6_acts 7 = .ok (.aload_n 0, 1) := by decide +kernel
theorem dX6_acts_8 : decode cX6_acts 8 = .ok (.getfield 208, 3) := by decide +kernel
theorem dX6_acts_11 : decode cX6_acts 11 = .ok (.ifCond .ge 7, 3) := by decide +kernel
theorem dX6_acts_14 : decode cX6_acts 14 = .ok (.iconst 1, 1) := by decide +kernel
theorem dX6_acts_15 : decode cX6_acts 15 = .ok (.goto 4, 3) := by decide +kernel
theorem dX6_acts_18 : decode cX6_acts 18 = .ok (.iconst 0, 1) := by decide +kernel
theorem dX6_acts_19 : decode cX6_acts 19 = .ok (.ireturn, 1) := by decide +kernel
theorem dX6_reads_0 : decode cX6_reads 0 = .ok (.aload_n 0, 1) := by decide +kernel
theorem dX6_reads_1 : decode cX6_reads 1 = .ok (.iconst 0, 1) := by decide +kernel
theorem dX6_reads_2 : decode cX6_reads 2 = .ok (.putfield 202, 3) := by decide +kernel
theorem dX6_reads_5 : decode cX6_reads 5 = .ok (.aload_n 0, 1) := by decide +kernel
theorem dX6_reads_6 : decode cX6_reads 6 = .ok (.iconst (-1), 1) := by decide +kernel
theorem dX6_reads_7 : decode cX6_reads 7 = .ok (.putfield 208, 3) := by decide +kernel
theorem dX6_reads_10 : decode cX6_reads 10 = .ok (.aload_n 0, 1) := by decide +kernel
theorem dX6_reads_11 : decode cX6_reads 11 = .ok (.iload_n 1, 1) := by decide +kernel
theorem dX6_reads_12 : decode cX6_reads 12 = .ok (.putfield 239, 3) := by decide +kernel
theorem dX6_reads_15 : decode cX6_reads 15 = .ok (.aload_n 0, 1) := by decide +kernel
theorem dX6_reads_16 : decode cX6_reads 16 = .ok (.iconst 0, 1) := by decide +kernel
theorem dX6_reads_17 : decode cX6_reads 17 = .ok (.putfield 230, 3) := by decide +kernel
theorem dX6_reads_20 : decode cX6_reads 20 = .ok (.aload_n 0, 1) := by decide +kernel
theorem dX6_reads_21 : decode cX6_reads 21 = .ok (.getfield 202, 3) := by decide +kernel
theorem dX6_reads_24 : decode cX6_reads 24 = .ok (.aload_n 0, 1) := by decide +kernel
theorem dX6_reads_25 : decode cX6_reads 25 = .ok (.getfield 199, 3) := by decide +kernel
theorem dX6_reads_28 : decode cX6_reads 28 = .ok (.if_icmp .ge 17, 3) := by decide +kernel
theorem dX6_reads_31 : decode cX6_reads 31 = .ok (.aload_n 0, 1) := by decide +kernel
theorem dX6_reads_32 : decode cX6_reads 32 = .ok (.getfield 208, 3) := by decide +kernel
theorem dX6_reads_35 : decode cX6_reads 35 = .ok (.ifCond .ge 10, 3) := by decide +kernel
theorem dX6_reads_38 : decode cX6_reads 38 = .ok (.aload_n 0, 1) := by decide +kernel
theorem dX6_reads_39 : decode cX6_reads 39 = .ok (.invokevirtual 243, 3) := by decide +kernel
theorem dX6_reads_42 : decode cX6_reads 42 = .ok (.goto (-22), 3) := by decide +kernel
theorem dX6_reads_45 : decode cX6_reads 45 = .ok (.return_, 1) := by decide +kernel
theorem dX6_faultPosition_0 : decode cX6_faultPosition 0 = .ok (.aload_n 0, 1) := by decide +kernel
theorem dX6_faultPosition_1 : decode cX6_faultPosition 1 = .ok (.iconst 0, 1) := by decide +kernel
theorem dX6_faultPosition_2 : decode cX6_faultPosition 2 = .ok (.invokevirtual 246, 3) := by decide +kernel
theorem dX6_faultPosition_5 : decode cX6_faultPosition 5 = .ok (.aload_n 0, 1) := by decide +kernel
theorem dX6_faultPosition_6 : decode cX6_faultPosition 6 = .ok (.getfield 208, 3) := by decide +kernel
theorem dX6_faultPosition_9 : decode cX6_faultPosition 9 = .ok (.ifCond .ge 8, 3) := by decide +kernel
theorem dX6_faultPosition_12 : decode cX6_faultPosition 12 = .ok (.bipush (-5), 2) := by decide +kernel
theorem dX6_faultPosition_14 : decode cX6_faultPosition 14 = .ok (.goto 7, 3) := by decide +kernel
theorem dX6_faultPosition_17 : decode cX6_faultPosition 17 = .ok (.aload_n 0, 1) := by decide +kernel
theorem dX6_faultPosition_18 : decode cX6_faultPosition 18 = .ok (.getfield 208, 3) := by decide +kernel
theorem dX6_faultPosition_21 : decode cX6_faultPosition 21 = .ok (.ireturn, 1) := by decide +kernel
theorem dX6_run_0 : decode cX6_run 0 = .ok (.aload_n 0, 1) := by decide +kernel
theorem dX6_run_1 : decode cX6_run 1 = .ok (.iconst 0, 1) := by decide +kernel
theorem dX6_run_2 : decode cX6_run 2 = .ok (.invokevirtual 246, 3) := by decide +kernel
theorem dX6_run_5 : decode cX6_run 5 = .ok (.aload_n 0, 1) := by decide +kernel
theorem dX6_run_6 : decode cX6_run 6 = .ok (.getfield 208, 3) := by decide +kernel
theorem dX6_run_9 : decode cX6_run 9 = .ok (.ifCond .lt 12, 3) := by decide +kernel
theorem dX6_run_12 : decode cX6_run 12 = .ok (.sipush (-1000), 3) := by decide +kernel
theorem dX6_run_15 : decode cX6_run 15 = .ok (.aload_n 0, 1) := by decide +kernel
theorem dX6_run_16 : decode cX6_run 16 = .ok (.getfield 208, 3) := by decide +kernel
theorem dX6_run_19 : decode cX6_run 19 = .ok (.isub, 1) := by decide +kernel
theorem dX6_run_20 : decode cX6_run 20 = .ok (.ireturn, 1) := by decide +kernel
theorem dX6_run_21 : decode cX6_run 21 = .ok (.aload_n 0, 1) := by decide +kernel
theorem dX6_run_22 : decode cX6_run 22 = .ok (.iconst 1, 1) := by decide +kernel
theorem dX6_run_23 : decode cX6_run 23 = .ok (.invokevirtual 246, 3) := by decide +kernel
theorem dX6_run_26 : decode cX6_run 26 = .ok (.aload_n 0, 1) := by decide +kernel
theorem dX6_run_27 : decode cX6_run 27 = .ok (.getfield 230, 3) := by decide +kernel
theorem dX6_run_30 : decode cX6_run 30 = .ok (.ireturn, 1) := by decide +kernel
theorem dX6_save_0 : decode cX6_save 0 = .ok (.iload_n 1, 1) := by decide +kernel
theorem dX6_save_1 : decode cX6_save 1 = .ok (.iconst 0, 1) := by decide +kernel
theorem dX6_save_2 : decode cX6_save 2 = .ok (.iconst 1, 1) := by decide +kernel
theorem dX6_save_3 : decode cX6_save 3 = .ok (.invokestatic 36, 3) := by decide +kernel
theorem dX6_save_6 : decode cX6_save 6 = .ok (.ifCond .ne 5, 3) := by decide +kernel
theorem dX6_save_9 : decode cX6_save 9 = .ok (.iconst (-1), 1) := by decide +kernel
theorem dX6_save_10 : decode cX6_save 10 = .ok (.ireturn, 1) := by decide +kernel
theorem dX6_save_11 : decode cX6_save 11 = .ok (.iconst 0, 1) := by decide +kernel
theorem dX6_save_12 : decode cX6_save 12 = .ok (.istore_n 2, 1) := by decide +kernel
theorem dX6_save_13 : decode cX6_save 13 = .ok (.iload_n 2, 1) := by decide +kernel
theorem dX6_save_14 : decode cX6_save 14 = .ok (.sipush 6464, 3) := by decide +kernel
theorem dX6_save_17 : decode cX6_save 17 = .ok (.if_icmp .ge 27, 3) := by decide +kernel
theorem dX6_save_20 : decode cX6_save 20 = .ok (.aload_n 0, 1) := by decide +kernel
theorem dX6_save_21 : decode cX6_save 21 = .ok (.getfield 16, 3) := by decide +kernel
theorem dX6_save_24 : decode cX6_save 24 = .ok (.sipush 6464, 3) := by decide +kernel
theorem dX6_save_27 : decode cX6_save 27 = .ok (.iload_n 1, 1) := by decide +kernel
theorem dX6_save_28 : decode cX6_save 28 = .ok (.imul, 1) := by decide +kernel
theorem dX6_save_29 : decode cX6_save 29 = .ok (.iload_n 2, 1) := by decide +kernel
theorem dX6_save_30 : decode cX6_save 30 = .ok (.iadd, 1) := by decide +kernel
theorem dX6_save_31 : decode cX6_save 31 = .ok (.aload_n 0, 1) := by decide +kernel
theorem dX6_save_32 : decode cX6_save 32 = .ok (.getfield 7, 3) := by decide +kernel
theorem dX6_save_35 : decode cX6_save 35 = .ok (.iload_n 2, 1) := by decide +kernel
theorem dX6_save_36 : decode cX6_save 36 = .ok (.iaload, 1) := by decide +kernel
theorem dX6_save_37 : decode cX6_save 37 = .ok (.iastore, 1) := by decide +kernel
theorem dX6_save_38 : decode cX6_save 38 = .ok (.iinc 2 1, 3) := by decide +kernel
theorem dX6_save_41 : decode cX6_save 41 = .ok (.goto (-28), 3) := by decide +kernel
theorem dX6_save_44 : decode cX6_save 44 = .ok (.aload_n 0, 1) := by decide +kernel
theorem dX6_save_45 : decode cX6_save 45 = .ok (.getfield 19, 3) := by decide +kernel
theorem dX6_save_48 : decode cX6_save 48 = .ok (.iload_n 1, 1) := by decide +kernel
theorem dX6_save_49 : decode cX6_save 49 = .ok (.iconst 1, 1) := by decide +kernel
theorem dX6_save_50 : decode cX6_save 50 = .ok (.bastore, 1) := by decide +kernel
theorem dX6_save_51 : decode cX6_save 51 = .ok (.aload_n 0, 1) := by decide +kernel
theorem dX6_save_52 : decode cX6_save 52 = .ok (.getfield 7, 3) := by decide +kernel
theorem dX6_save_55 : decode cX6_save 55 = .ok (.iconst 3, 1) := by decide +kernel
theorem dX6_save_56 : decode cX6_save 56 = .ok (.iaload, 1) := by decide +kernel
theorem dX6_save_57 : decode cX6_save 57 = .ok (.ireturn, 1) := by decide +kernel
theorem dX6_restore_0 : decode cX6_restore 0 = .ok (.iload_n 1, 1) := by decide +kernel
theorem dX6_restore_1 : decode cX6_restore 1 = .ok (.iconst 0, 1) := by decide +kernel
theorem dX6_restore_2 : decode cX6_restore 2 = .ok (.iconst 1, 1) := by decide +kernel
theorem dX6_restore_3 : decode cX6_restore 3 = .ok (.invokestatic 36, 3) := by decide +kernel
theorem dX6_restore_6 : decode cX6_restore 6 = .ok (.ifCond .ne 5, 3) := by decide +kernel
theorem dX6_restore_9 : decode cX6_restore 9 = .ok (.iconst (-1), 1) := by decide +kernel
theorem dX6_restore_10 : decode cX6_restore 10 = .ok (.ireturn, 1) := by decide +kernel
theorem dX6_restore_11 : decode cX6_restore 11 = .ok (.aload_n 0, 1) := by decide +kernel
theorem dX6_restore_12 : decode cX6_restore 12 = .ok (.getfield 19, 3) := by decide +kernel
theorem dX6_restore_15 : decode cX6_restore 15 = .ok (.iload_n 1, 1) := by decide +kernel
theorem dX6_restore_16 : decode cX6_restore 16 = .ok (.baload, 1) := by decide +kernel
theorem dX6_restore_17 : decode cX6_restore 17 = .ok (.ifCond .ne 6, 3) := by decide +kernel
theorem dX6_restore_20 : decode cX6_restore 20 = .ok (.bipush (-5), 2) := by decide +kernel
theorem dX6_restore_22 : decode cX6_restore 22 = .ok (.ireturn, 1) := by decide +kernel
theorem dX6_restore_23 : decode cX6_restore 23 = .ok (.iconst 0, 1) := by decide +kernel
theorem dX6_restore_24 : decode cX6_restore 24 = .ok (.istore_n 2, 1) := by decide +kernel
theorem dX6_restore_25 : decode cX6_restore 25 = .ok (.iload_n 2, 1) := by decide +kernel
theorem dX6_restore_26 : decode cX6_restore 26 = .ok (.sipush 6464, 3) := by decide +kernel
theorem dX6_restore_29 : decode cX6_restore 29 = .ok (.if_icmp .ge 27, 3) := by decide +kernel
theorem dX6_restore_32 : decode cX6_restore 32 = .ok (.aload_n 0, 1) := by decide +kernel
theorem dX6_restore_33 : decode cX6_restore 33 = .ok (.getfield 7, 3) := by decide +kernel
theorem dX6_restore_36 : decode cX6_restore 36 = .ok (.iload_n 2, 1) := by decide +kernel
theorem dX6_restore_37 : decode cX6_restore 37 = .ok (.aload_n 0, 1) := by decide +kernel
theorem dX6_restore_38 : decode cX6_restore 38 = .ok (.getfield 16, 3) := by decide +kernel
theorem dX6_restore_41 : decode cX6_restore 41 = .ok (.sipush 6464, 3) := by decide +kernel
theorem dX6_restore_44 : decode cX6_restore 44 = .ok (.iload_n 1, 1) := by decide +kernel
theorem dX6_restore_45 : decode cX6_restore 45 = .ok (.imul, 1) := by decide +kernel
theorem dX6_restore_46 : decode cX6_restore 46 = .ok (.iload_n 2, 1) := by decide +kernel
theorem dX6_restore_47 : decode cX6_restore 47 = .ok (.iadd, 1) := by decide +kernel
theorem dX6_restore_48 : decode cX6_restore 48 = .ok (.iaload, 1) := by decide +kernel
theorem dX6_restore_49 : decode cX6_restore 49 = .ok (.iastore, 1) := by decide +kernel
theorem dX6_restore_50 : decode cX6_restore 50 = .ok (.iinc 2 1, 3) := by decide +kernel
theorem dX6_restore_53 : decode cX6_restore 53 = .ok (.goto (-28), 3) := by decide +kernel
theorem dX6_restore_56 : decode cX6_restore 56 = .ok (.aload_n 0, 1) := by decide +kernel
theorem dX6_restore_57 : decode cX6_restore 57 = .ok (.getfield 7, 3) := by decide +kernel
theorem dX6_restore_60 : decode cX6_restore 60 = .ok (.iconst 3, 1) := by decide +kernel
theorem dX6_restore_61 : decode cX6_restore 61 = .ok (.iaload, 1) := by decide +kernel
theorem dX6_restore_62 : decode cX6_restore 62 = .ok (.ireturn, 1) := by decide +kernel
theorem dX6_sumOf_0 : decode cX6_sumOf 0 = .ok (.ldc2_w 250, 3) := by decide +kernel
theorem dX6_sumOf_3 : decode cX6_sumOf 3 = .ok (.lload_n 1, 1) := by decide +kernel
theorem dX6_sumOf_4 : decode cX6_sumOf 4 = .ok (.lmul, 1) := by decide +kernel
theorem dX6_sumOf_5 : decode cX6_sumOf 5 = .ok (.iload_n 3, 1) := by decide +kernel
theorem dX6_sumOf_6 : decode cX6_sumOf 6 = .ok (.i2l, 1) := by decide +kernel
theorem dX6_sumOf_7 : decode cX6_sumOf 7 = .ok (.ladd, 1) := by decide +kernel
theorem dX6_sumOf_8 : decode cX6_sumOf 8 = .ok (.lreturn, 1) := by decide +kernel
theorem dX6_sumOfQueue_0 : decode cX6_sumOfQueue 0 = .ok (.lload_n 1, 1) := by decide +kernel
theorem dX6_sumOfQueue_1 : decode cX6_sumOfQueue 1 = .ok (.lstore 4, 2) := by decide +kernel
theorem dX6_sumOfQueue_3 : decode cX6_sumOfQueue 3 = .ok (.bipush 6, 2) := by decide +kernel
theorem dX6_sumOfQueue_5 : decode cX6_sumOfQueue 5 = .ok (.istore 6, 2) := by decide +kernel
theorem dX6_sumOfQueue_7 : decode cX6_sumOfQueue 7 = .ok (.iload 6, 2) := by decide +kernel
theorem dX6_sumOfQueue_9 : decode cX6_sumOfQueue 9 = .ok (.bipush 8, 2) := by decide +kernel
theorem dX6_sumOfQueue_11 : decode cX6_sumOfQueue 11 = .ok (.if_icmp .gt 28, 3) := by decide +kernel
theorem dX6_sumOfQueue_14 : decode cX6_sumOfQueue 14 = .ok (.aload_n 0, 1) := by decide +kernel
theorem dX6_sumOfQueue_15 : decode cX6_sumOfQueue 15 = .ok (.lload 4, 2) := by decide +kernel
theorem dX6_sumOfQueue_17 : decode cX6_sumOfQueue 17 = .ok (.aload_n 0, 1) := by decide +kernel
theorem dX6_sumOfQueue_18 : decode cX6_sumOfQueue 18 = .ok (.getfield 7, 3) := by decide +kernel
theorem dX6_sumOfQueue_21 : decode cX6_sumOfQueue 21 = .ok (.iload_n 3, 1) := by decide +kernel
theorem dX6_sumOfQueue_22 : decode cX6_sumOfQueue 22 = .ok (.iload 6, 2) := by decide +kernel
theorem dX6_sumOfQueue_24 : decode cX6_sumOfQueue 24 = .ok (.invokestatic 48, 3) := by decide +kernel
theorem dX6_sumOfQueue_27 : decode cX6_sumOfQueue 27 = .ok (.iaload, 1) := by decide +kernel
theorem dX6_sumOfQueue_28 : decode cX6_sumOfQueue 28 = .ok (.invokevirtual 252, 3) := by decide +kernel
theorem dX6_sumOfQueue_31 : decode cX6_sumOfQueue 31 = .ok (.lstore 4, 2) := by decide +kernel
theorem dX6_sumOfQueue_33 : decode cX6_sumOfQueue 33 = .ok (.iinc 6 1, 3) := by decide +kernel
theorem dX6_sumOfQueue_36 : decode cX6_sumOfQueue 36 = .ok (.goto (-29), 3) := by decide +kernel
theorem dX6_sumOfQueue_39 : decode cX6_sumOfQueue 39 = .ok (.aload_n 0, 1) := by decide +kernel
theorem dX6_sumOfQueue_40 : decode cX6_sumOfQueue 40 = .ok (.aload_n 0, 1) := by decide +kernel
theorem dX6_sumOfQueue_41 : decode cX6_sumOfQueue 41 = .ok (.aload_n 0, 1) := by decide +kernel
theorem dX6_sumOfQueue_42 : decode cX6_sumOfQueue 42 = .ok (.aload_n 0, 1) := by decide +kernel
theorem dX6_sumOfQueue_43 : decode cX6_sumOfQueue 43 = .ok (.lload 4, 2) := by decide +kernel
theorem dX6_sumOfQueue_45 : decode cX6_sumOfQueue 45 = .ok (.aload_n 0, 1) := by decide +kernel
theorem dX6_sumOfQueue_46 : decode cX6_sumOfQueue 46 = .ok (.getfield 7, 3) := by decide +kernel
theorem dX6_sumOfQueue_49 : decode cX6_sumOfQueue 49 = .ok (.iload_n 3, 1) := by decide +kernel
theorem dX6_sumOfQueue_50 : decode cX6_sumOfQueue 50 = .ok (.iconst 3, 1) := by decide +kernel
theorem dX6_sumOfQueue_51 : decode cX6_sumOfQueue 51 = .ok (.invokestatic 48, 3) := by decide +kernel
theorem dX6_sumOfQueue_54 : decode cX6_sumOfQueue 54 = .ok (.iaload, 1) := by decide +kernel
theorem dX6_sumOfQueue_55 : decode cX6_sumOfQueue 55 = .ok (.invokevirtual 252, 3) := by decide +kernel
theorem dX6_sumOfQueue_58 : decode cX6_sumOfQueue 58 = .ok (.aload_n 0, 1) := by decide +kernel
theorem dX6_sumOfQueue_59 : decode cX6_sumOfQueue 59 = .ok (.getfield 7, 3) := by decide +kernel
theorem dX6_sumOfQueue_62 : decode cX6_sumOfQueue 62 = .ok (.iload_n 3, 1) := by decide +kernel
theorem dX6_sumOfQueue_63 : decode cX6_sumOfQueue 63 = .ok (.bipush 10, 2) := by decide +kernel
theorem dX6_sumOfQueue_65 : decode cX6_sumOfQueue 65 = .ok (.invokestatic 48, 3) := by decide +kernel
theorem dX6_sumOfQueue_68 : decode cX6_sumOfQueue 68 = .ok (.iaload, 1) := by decide +kernel
theorem dX6_sumOfQueue_69 : decode cX6_sumOfQueue 69 = .ok (.invokevirtual 252, 3) := by decide +kernel
theorem dX6_sumOfQueue_72 : decode cX6_sumOfQueue 72 = .ok (.aload_n 0, 1) := by decide +kernel
theorem dX6_sumOfQueue_73 : decode cX6_sumOfQueue 73 = .ok (.getfield 7, 3) := by decide +kernel
theorem dX6_sumOfQueue_76 : decode cX6_sumOfQueue 76 = .ok (.iload_n 3, 1) := by decide +kernel
theorem dX6_sumOfQueue_77 : decode cX6_sumOfQueue 77 = .ok (.iconst 5, 1) := by decide +kernel
theorem dX6_sumOfQueue_78 : decode cX6_sumOfQueue 78 = .ok (.invokestatic 48, 3) := by decide +kernel
theorem dX6_sumOfQueue_81 : decode cX6_sumOfQueue 81 = .ok (.iaload, 1) := by decide +kernel
theorem dX6_sumOfQueue_82 : decode cX6_sumOfQueue 82 = .ok (.invokevirtual 252, 3) := by decide +kernel
theorem dX6_sumOfQueue_85 : decode cX6_sumOfQueue 85 = .ok (.aload_n 0, 1) := by decide +kernel
theorem dX6_sumOfQueue_86 : decode cX6_sumOfQueue 86 = .ok (.getfield 7, 3) := by decide +kernel
theorem dX6_sumOfQueue_89 : decode cX6_sumOfQueue 89 = .ok (.iload_n 3, 1) := by decide +kernel
theorem dX6_sumOfQueue_90 : decode cX6_sumOfQueue 90 = .ok (.bipush 12, 2) := by decide +kernel
theorem dX6_sumOfQueue_92 : decode cX6_sumOfQueue 92 = .ok (.invokestatic 48, 3) := by decide +kernel
theorem dX6_sumOfQueue_95 : decode cX6_sumOfQueue 95 = .ok (.iaload, 1) := by decide +kernel
theorem dX6_sumOfQueue_96 : decode cX6_sumOfQueue 96 = .ok (.invokevirtual 252, 3) := by decide +kernel
theorem dX6_sumOfQueue_99 : decode cX6_sumOfQueue 99 = .ok (.lstore 4, 2) := by decide +kernel
theorem dX6_sumOfQueue_101 : decode cX6_sumOfQueue 101 = .ok (.iconst 0, 1) := by decide +kernel
theorem dX6_sumOfQueue_102 : decode cX6_sumOfQueue 102 = .ok (.istore 6, 2) := by decide +kernel
theorem dX6_sumOfQueue_104 : decode cX6_sumOfQueue 104 = .ok (.iload 6, 2) := by decide +kernel
theorem dX6_sumOfQueue_106 : decode cX6_sumOfQueue 106 = .ok (.aload_n 0, 1) := by decide +kernel
theorem dX6_sumOfQueue_107 : decode cX6_sumOfQueue 107 = .ok (.getfield 7, 3) := by decide +kernel
theorem dX6_sumOfQueue_110 : decode cX6_sumOfQueue 110 = .ok (.iload_n 3, 1) := by decide +kernel
theorem dX6_sumOfQueue_111 : decode cX6_sumOfQueue 111 = .ok (.bipush 12, 2) := by decide +kernel
theorem dX6_sumOfQueue_113 : decode cX6_sumOfQueue 113 = .ok (.invokestatic 48, 3) := by decide +kernel
theorem dX6_sumOfQueue_116 : decode cX6_sumOfQueue 116 = .ok (.iaload, 1) := by decide +kernel
theorem dX6_sumOfQueue_117 : decode cX6_sumOfQueue 117 = .ok (.if_icmp .ge 88, 3) := by decide +kernel
theorem dX6_sumOfQueue_120 : decode cX6_sumOfQueue 120 = .ok (.aload_n 0, 1) := by decide +kernel
theorem dX6_sumOfQueue_121 : decode cX6_sumOfQueue 121 = .ok (.getfield 7, 3) := by decide +kernel
theorem dX6_sumOfQueue_124 : decode cX6_sumOfQueue 124 = .ok (.iload_n 3, 1) := by decide +kernel
theorem dX6_sumOfQueue_125 : decode cX6_sumOfQueue 125 = .ok (.iload 6, 2) := by decide +kernel
theorem dX6_sumOfQueue_127 : decode cX6_sumOfQueue 127 = .ok (.invokestatic 107, 3) := by decide +kernel
theorem dX6_sumOfQueue_130 : decode cX6_sumOfQueue 130 = .ok (.iaload, 1) := by decide +kernel
theorem dX6_sumOfQueue_131 : decode cX6_sumOfQueue 131 = .ok (.istore 7, 2) := by decide +kernel
theorem dX6_sumOfQueue_133 : decode cX6_sumOfQueue 133 = .ok (.aload_n 0, 1) := by decide +kernel
theorem dX6_sumOfQueue_134 : decode cX6_sumOfQueue 134 = .ok (.lload 4, 2) := by decide +kernel
theorem dX6_sumOfQueue_136 : decode cX6_sumOfQueue 136 = .ok (.aload_n 0, 1) := by decide +kernel
theorem dX6_sumOfQueue_137 : decode cX6_sumOfQueue 137 = .ok (.getfield 7, 3) := by decide +kernel
theorem dX6_sumOfQueue_140 : decode cX6_sumOfQueue 140 = .ok (.iload 7, 2) := by decide +kernel
theorem dX6_sumOfQueue_142 : decode cX6_sumOfQueue 142 = .ok (.iconst 0, 1) := by decide +kernel
theorem dX6_sumOfQueue_143 : decode cX6_sumOfQueue 143 = .ok (.invokestatic 92, 3) := by decide +kernel
theorem dX6_sumOfQueue_146 : decode cX6_sumOfQueue 146 = .ok (.iaload, 1) := by decide +kernel
theorem dX6_sumOfQueue_147 : decode cX6_sumOfQueue 147 = .ok (.invokevirtual 252, 3) := by decide +kernel
theorem dX6_sumOfQueue_150 : decode cX6_sumOfQueue 150 = .ok (.lstore 4, 2) := by decide +kernel
theorem dX6_sumOfQueue_152 : decode cX6_sumOfQueue 152 = .ok (.iconst 0, 1) := by decide +kernel
theorem dX6_sumOfQueue_153 : decode cX6_sumOfQueue 153 = .ok (.istore 8, 2) := by decide +kernel
theorem dX6_sumOfQueue_155 : decode cX6_sumOfQueue 155 = .ok (.iload 8, 2) := by decide +kernel
theorem dX6_sumOfQueue_157 : decode cX6_sumOfQueue 157 = .ok (.aload_n 0, 1) := by decide +kernel
theorem dX6_sumOfQueue_158 : decode cX6_sumOfQueue 158 = .ok (.getfield 7, 3) := by decide +kernel
theorem dX6_sumOfQueue_161 : decode cX6_sumOfQueue 161 = .ok (.iload 7, 2) := by decide +kernel
theorem dX6_sumOfQueue_163 : decode cX6_sumOfQueue 163 = .ok (.iconst 2, 1) := by decide +kernel
theorem dX6_sumOfQueue_164 : decode cX6_sumOfQueue 164 = .ok (.invokestatic 92, 3) := by decide +kernel
theorem dX6_sumOfQueue_167 : decode cX6_sumOfQueue 167 = .ok (.iaload, 1) := by decide +kernel
theorem dX6_sumOfQueue_168 : decode cX6_sumOfQueue 168 = .ok (.if_icmp .ge 31, 3) := by decide +kernel
theorem dX6_sumOfQueue_171 : decode cX6_sumOfQueue 171 = .ok (.aload_n 0, 1) := by decide +kernel
theorem dX6_sumOfQueue_172 : decode cX6_sumOfQueue 172 = .ok (.lload 4, 2) := by decide +kernel
theorem dX6_sumOfQueue_174 : decode cX6_sumOfQueue 174 = .ok (.aload_n 0, 1) := by decide +kernel
theorem dX6_sumOfQueue_175 : decode cX6_sumOfQueue 175 = .ok (.getfield 7, 3) := by decide +kernel
theorem dX6_sumOfQueue_178 : decode cX6_sumOfQueue 178 = .ok (.iload 7, 2) := by decide +kernel
theorem dX6_sumOfQueue_180 : decode cX6_sumOfQueue 180 = .ok (.iconst 4, 1) := by decide +kernel
theorem dX6_sumOfQueue_181 : decode cX6_sumOfQueue 181 = .ok (.iload 8, 2) := by decide +kernel
theorem dX6_sumOfQueue_183 : decode cX6_sumOfQueue 183 = .ok (.iadd, 1) := by decide +kernel
theorem dX6_sumOfQueue_184 : decode cX6_sumOfQueue 184 = .ok (.invokestatic 92, 3) := by decide +kernel
theorem dX6_sumOfQueue_187 : decode cX6_sumOfQueue 187 = .ok (.iaload, 1) := by decide +kernel
theorem dX6_sumOfQueue_188 : decode cX6_sumOfQueue 188 = .ok (.invokevirtual 252, 3) := by decide +kernel
theorem dX6_sumOfQueue_191 : decode cX6_sumOfQueue 191 = .ok (.lstore 4, 2) := by decide +kernel
theorem dX6_sumOfQueue_193 : decode cX6_sumOfQueue 193 = .ok (.iinc 8 1, 3) := by decide +kernel
theorem dX6_sumOfQueue_196 : decode cX6_sumOfQueue 196 = .ok (.goto (-41), 3) := by decide +kernel
theorem dX6_sumOfQueue_199 : decode cX6_sumOfQueue 199 = .ok (.iinc 6 1, 3) := by decide +kernel
theorem dX6_sumOfQueue_202 : decode cX6_sumOfQueue 202 = .ok (.goto (-98), 3) := by decide +kernel
theorem dX6_sumOfQueue_205 : decode cX6_sumOfQueue 205 = .ok (.lload 4, 2) := by decide +kernel
theorem dX6_sumOfQueue_207 : decode cX6_sumOfQueue 207 = .ok (.lreturn, 1) := by decide +kernel
theorem dX6_checksum_0 : decode cX6_checksum 0 = .ok (.ldc2_w 256, 3) := by decide +kernel
theorem dX6_checksum_3 : decode cX6_checksum 3 = .ok (.lstore_n 1, 1) := by decide +kernel
theorem dX6_checksum_4 : decode cX6_checksum 4 = .ok (.aload_n 0, 1) := by decide +kernel
theorem dX6_checksum_5 : decode cX6_checksum 5 = .ok (.aload_n 0, 1) := by decide +kernel
theorem dX6_checksum_6 : decode cX6_checksum 6 = .ok (.aload_n 0, 1) := by decide +kernel
theorem dX6_checksum_7 : decode cX6_checksum 7 = .ok (.aload_n 0, 1) := by decide +kernel
theorem dX6_checksum_8 : decode cX6_checksum 8 = .ok (.lload_n 1, 1) := by decide +kernel
theorem dX6_checksum_9 : decode cX6_checksum 9 = .ok (.aload_n 0, 1) := by decide +kernel
theorem dX6_checksum_10 : decode cX6_checksum 10 = .ok (.getfield 7, 3) := by decide +kernel
theorem dX6_checksum_13 : decode cX6_checksum 13 = .ok (.iconst 3, 1) := by decide +kernel
theorem dX6_checksum_14 : decode cX6_checksum 14 = .ok (.iaload, 1) := by decide +kernel
theorem dX6_checksum_15 : decode cX6_checksum 15 = .ok (.invokevirtual 252, 3) := by decide +kernel
theorem dX6_checksum_18 : decode cX6_checksum 18 = .ok (.aload_n 0, 1) := by decide +kernel
theorem dX6_checksum_19 : decode cX6_checksum 19 = .ok (.getfield 7, 3) := by decide +kernel
theorem dX6_checksum_22 : decode cX6_checksum 22 = .ok (.iconst 4, 1) := by decide +kernel
theorem dX6_checksum_23 : decode cX6_checksum 23 = .ok (.iaload, 1) := by decide +kernel
theorem dX6_checksum_24 : decode cX6_checksum 24 = .ok (.invokevirtual 252, 3) := by decide +kernel
theorem dX6_checksum_27 : decode cX6_checksum 27 = .ok (.aload_n 0, 1) := by decide +kernel
theorem dX6_checksum_28 : decode cX6_checksum 28 = .ok (.invokevirtual 62, 3) := by decide +kernel
theorem dX6_checksum_31 : decode cX6_checksum 31 = .ok (.invokevirtual 252, 3) := by decide +kernel
theorem dX6_checksum_34 : decode cX6_checksum 34 = .ok (.aload_n 0, 1) := by decide +kernel
theorem dX6_checksum_35 : decode cX6_checksum 35 = .ok (.invokevirtual 55, 3) := by decide +kernel
theorem dX6_checksum_38 : decode cX6_checksum 38 = .ok (.invokevirtual 252, 3) := by decide +kernel
theorem dX6_checksum_41 : decode cX6_checksum 41 = .ok (.lstore_n 1, 1) := by decide +kernel
theorem dX6_checksum_42 : decode cX6_checksum 42 = .ok (.iconst 0, 1) := by decide +kernel
theorem dX6_checksum_43 : decode cX6_checksum 43 = .ok (.istore_n 3, 1) := by decide +kernel
theorem dX6_checksum_44 : decode cX6_checksum 44 = .ok (.iload_n 3, 1) := by decide +kernel
theorem dX6_checksum_45 : decode cX6_checksum 45 = .ok (.aload_n 0, 1) := by decide +kernel
theorem dX6_checksum_46 : decode cX6_checksum 46 = .ok (.getfield 7, 3) := by decide +kernel
theorem dX6_checksum_49 : decode cX6_checksum 49 = .ok (.iconst 1, 1) := by decide +kernel
theorem dX6_checksum_50 : decode cX6_checksum 50 = .ok (.iaload, 1) := by decide +kernel
theorem dX6_checksum_51 : decode cX6_checksum 51 = .ok (.if_icmp .ge 109, 3) := by decide +kernel
theorem dX6_checksum_54 : decode cX6_checksum 54 = .ok (.aload_n 0, 1) := by decide +kernel
theorem dX6_checksum_55 : decode cX6_checksum 55 = .ok (.aload_n 0, 1) := by decide +kernel
theorem dX6_checksum_56 : decode cX6_checksum 56 = .ok (.aload_n 0, 1) := by decide +kernel
theorem dX6_checksum_57 : decode cX6_checksum 57 = .ok (.lload_n 1, 1) := by decide +kernel
theorem dX6_checksum_58 : decode cX6_checksum 58 = .ok (.aload_n 0, 1) := by decide +kernel
theorem dX6_checksum_59 : decode cX6_checksum 59 = .ok (.iload_n 3, 1) := by decide +kernel
theorem dX6_checksum_60 : decode cX6_checksum 60 = .ok (.invokevirtual 65, 3) := by decide +kernel
theorem dX6_checksum_63 : decode cX6_checksum 63 = .ok (.invokevirtual 252, 3) := by decide +kernel
theorem dX6_checksum_66 : decode cX6_checksum 66 = .ok (.aload_n 0, 1) := by decide +kernel
theorem dX6_checksum_67 : decode cX6_checksum 67 = .ok (.getfield 7, 3) := by decide +kernel
theorem dX6_checksum_70 : decode cX6_checksum 70 = .ok (.iload_n 3, 1) := by decide +kernel
theorem dX6_checksum_71 : decode cX6_checksum 71 = .ok (.iconst 2, 1) := by decide +kernel
theorem dX6_checksum_72 : decode cX6_checksum 72 = .ok (.invokestatic 44, 3) := by decide +kernel
theorem dX6_checksum_75 : decode cX6_checksum 75 = .ok (.iaload, 1) := by decide +kernel
theorem dX6_checksum_76 : decode cX6_checksum 76 = .ok (.invokevirtual 252, 3) := by decide +kernel
theorem dX6_checksum_79 : decode cX6_checksum 79 = .ok (.aload_n 0, 1) := by decide +kernel
theorem dX6_checksum_80 : decode cX6_checksum 80 = .ok (.getfield 7, 3) := by decide +kernel
theorem dX6_checksum_83 : decode cX6_checksum 83 = .ok (.iload_n 3, 1) := by decide +kernel
theorem dX6_checksum_84 : decode cX6_checksum 84 = .ok (.iconst 4, 1) := by decide +kernel
theorem dX6_checksum_85 : decode cX6_checksum 85 = .ok (.invokestatic 44, 3) := by decide +kernel
theorem dX6_checksum_88 : decode cX6_checksum 88 = .ok (.iaload, 1) := by decide +kernel
theorem dX6_checksum_89 : decode cX6_checksum 89 = .ok (.invokevirtual 252, 3) := by decide +kernel
theorem dX6_checksum_92 : decode cX6_checksum 92 = .ok (.lstore_n 1, 1) := by decide +kernel
theorem dX6_checksum_93 : decode cX6_checksum 93 = .ok (.aload_n 0, 1) := by decide +kernel
theorem dX6_checksum_94 : decode cX6_checksum 94 = .ok (.aload_n 0, 1) := by decide +kernel
theorem dX6_checksum_95 : decode cX6_checksum 95 = .ok (.lload_n 1, 1) := by decide +kernel
theorem dX6_checksum_96 : decode cX6_checksum 96 = .ok (.aload_n 0, 1) := by decide +kernel
theorem dX6_checksum_97 : decode cX6_checksum 97 = .ok (.getfield 7, 3) := by decide +kernel
theorem dX6_checksum_100 : decode cX6_checksum 100 = .ok (.iload_n 3, 1) := by decide +kernel
theorem dX6_checksum_101 : decode cX6_checksum 101 = .ok (.bipush 9, 2) := by decide +kernel
theorem dX6_checksum_103 : decode cX6_checksum 103 = .ok (.invokestatic 44, 3) := by decide +kernel
theorem dX6_checksum_106 : decode cX6_checksum 106 = .ok (.iaload, 1) := by decide +kernel
theorem dX6_checksum_107 : decode cX6_checksum 107 = .ok (.invokevirtual 252, 3) := by decide +kernel
theorem dX6_checksum_110 : decode cX6_checksum 110 = .ok (.aload_n 0, 1) := by decide +kernel
theorem dX6_checksum_111 : decode cX6_checksum 111 = .ok (.getfield 7, 3) := by decide +kernel
theorem dX6_checksum_114 : decode cX6_checksum 114 = .ok (.iload_n 3, 1) := by decide +kernel
theorem dX6_checksum_115 : decode cX6_checksum 115 = .ok (.bipush 10, 2) := by decide +kernel
theorem dX6_checksum_117 : decode cX6_checksum 117 = .ok (.invokestatic 44, 3) := by decide +kernel
theorem dX6_checksum_120 : decode cX6_checksum 120 = .ok (.iaload, 1) := by decide +kernel
theorem dX6_checksum_121 : decode cX6_checksum 121 = .ok (.invokevirtual 252, 3) := by decide +kernel
theorem dX6_checksum_124 : decode cX6_checksum 124 = .ok (.lstore_n 1, 1) := by decide +kernel
theorem dX6_checksum_125 : decode cX6_checksum 125 = .ok (.iconst 3, 1) := by decide +kernel
theorem dX6_checksum_126 : decode cX6_checksum 126 = .ok (.iload_n 3, 1) := by decide +kernel
theorem dX6_checksum_127 : decode cX6_checksum 127 = .ok (.imul, 1) := by decide +kernel
theorem dX6_checksum_128 : decode cX6_checksum 128 = .ok (.istore 4, 2) := by decide +kernel
theorem dX6_checksum_130 : decode cX6_checksum 130 = .ok (.iload 4, 2) := by decide +kernel
theorem dX6_checksum_132 : decode cX6_checksum 132 = .ok (.iconst 3, 1) := by decide +kernel
theorem dX6_checksum_133 : decode cX6_checksum 133 = .ok (.iload_n 3, 1) := by decide +kernel
theorem dX6_checksum_134 : decode cX6_checksum 134 = .ok (.imul, 1) := by decide +kernel
theorem dX6_checksum_135 : decode cX6_checksum 135 = .ok (.iconst 3, 1) := by decide +kernel
theorem dX6_checksum_136 : decode cX6_checksum 136 = .ok (.iadd, 1) := by decide +kernel
theorem dX6_checksum_137 : decode cX6_checksum 137 = .ok (.if_icmp .ge 17, 3) := by decide +kernel
theorem dX6_checksum_140 : decode cX6_checksum 140 = .ok (.aload_n 0, 1) := by decide +kernel
theorem dX6_checksum_141 : decode cX6_checksum 141 = .ok (.lload_n 1, 1) := by decide +kernel
theorem dX6_checksum_142 : decode cX6_checksum 142 = .ok (.iload 4, 2) := by decide +kernel
theorem dX6_checksum_144 : decode cX6_checksum 144 = .ok (.invokevirtual 258, 3) := by decide +kernel
theorem dX6_checksum_147 : decode cX6_checksum 147 = .ok (.lstore_n 1, 1) := by decide +kernel
theorem dX6_checksum_148 : decode cX6_checksum 148 = .ok (.iinc 4 1, 3) := by decide +kernel
theorem dX6_checksum_151 : decode cX6_checksum 151 = .ok (.goto (-21), 3) := by decide +kernel
theorem dX6_checksum_154 : decode cX6_checksum 154 = .ok (.iinc 3 1, 3) := by decide +kernel
theorem dX6_checksum_157 : decode cX6_checksum 157 = .ok (.goto (-113), 3) := by decide +kernel
theorem dX6_checksum_160 : decode cX6_checksum 160 = .ok (.iconst 0, 1) := by decide +kernel
theorem dX6_checksum_161 : decode cX6_checksum 161 = .ok (.istore_n 3, 1) := by decide +kernel
theorem dX6_checksum_162 : decode cX6_checksum 162 = .ok (.iload_n 3, 1) := by decide +kernel
theorem dX6_checksum_163 : decode cX6_checksum 163 = .ok (.aload_n 0, 1) := by decide +kernel
theorem dX6_checksum_164 : decode cX6_checksum 164 = .ok (.getfield 7, 3) := by decide +kernel
theorem dX6_checksum_167 : decode cX6_checksum 167 = .ok (.iconst 0, 1) := by decide +kernel
theorem dX6_checksum_168 : decode cX6_checksum 168 = .ok (.iaload, 1) := by decide +kernel
theorem dX6_checksum_169 : decode cX6_checksum 169 = .ok (.if_icmp .ge 38, 3) := by decide +kernel
theorem dX6_checksum_172 : decode cX6_checksum 172 = .ok (.aload_n 0, 1) := by decide +kernel
theorem dX6_checksum_173 : decode cX6_checksum 173 = .ok (.iload_n 3, 1) := by decide +kernel
theorem dX6_checksum_174 : decode cX6_checksum 174 = .ok (.invokevirtual 98, 3) := by decide +kernel
theorem dX6_checksum_177 : decode cX6_checksum 177 = .ok (.istore 4, 2) := by decide +kernel
theorem dX6_checksum_179 : decode cX6_checksum 179 = .ok (.iload 4, 2) := by decide +kernel
theorem dX6_checksum_181 : decode cX6_checksum 181 = .ok (.ifCond .le 18, 3) := by decide +kernel
theorem dX6_checksum_184 : decode cX6_checksum 184 = .ok (.aload_n 0, 1) := by decide +kernel
theorem dX6_checksum_185 : decode cX6_checksum 185 = .ok (.aload_n 0, 1) := by decide +kernel
theorem dX6_checksum_186 : decode cX6_checksum 186 = .ok (.lload_n 1, 1) := by decide +kernel
theorem dX6_checksum_187 : decode cX6_checksum 187 = .ok (.iload_n 3, 1) := by decide +kernel
theorem dX6_checksum_188 : decode cX6_checksum 188 = .ok (.invokevirtual 252, 3) := by decide +kernel
theorem dX6_checksum_191 : decode cX6_checksum 191 = .ok (.iload 4, 2) := by decide +kernel
theorem dX6_checksum_193 : decode cX6_checksum 193 = .ok (.invokevirtual 252, 3) := by decide +kernel
theorem dX6_checksum_196 : decode cX6_checksum 196 = .ok (.goto 4, 3) := by decide +kernel
theorem dX6_checksum_199 : decode cX6_checksum 199 = .ok (.lload_n 1, 1) := by decide +kernel
theorem dX6_checksum_200 : decode cX6_checksum 200 = .ok (.lstore_n 1, 1) := by decide +kernel
theorem dX6_checksum_201 : decode cX6_checksum 201 = .ok (.iinc 3 1, 3) := by decide +kernel
theorem dX6_checksum_204 : decode cX6_checksum 204 = .ok (.goto (-42), 3) := by decide +kernel
theorem dX6_checksum_207 : decode cX6_checksum 207 = .ok (.lload_n 1, 1) := by decide +kernel
theorem dX6_checksum_208 : decode cX6_checksum 208 = .ok (.lreturn, 1) := by decide +kernel
