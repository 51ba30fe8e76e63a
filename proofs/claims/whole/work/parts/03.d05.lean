theorem dX10_sends_61 : decode cX10_sends 61 = .ok (.dup2, 1) := by decide +kernel
theorem dX10_sends_62 : decode cX10_sends 62 = .ok (.iaload, 1) := by decide +kernel
theorem dX10_sends_63 : decode cX10_sends 63 = .ok (.iconst 1, 1) := by decide +kernel
theorem dX10_sends_64 : decode cX10_sends 64 = .ok (.iadd, 1) := by decide +kernel
theorem dX10_sends_65 : decode cX10_sends 65 = .ok (.iastore, 1) := by decide +kernel
theorem dX10_sends_66 : decode cX10_sends 66 = .ok (.aload_n 0, 1) := by decide +kernel
theorem dX10_sends_67 : decode cX10_sends 67 = .ok (.getfield 69, 3) := by decide +kernel
theorem dX10_sends_70 : decode cX10_sends 70 = .ok (.iload_n 1, 1) := by decide +kernel
theorem dX10_sends_71 : decode cX10_sends 71 = .ok (.dup2, 1) := by decide +kernel
theorem dX10_sends_72 : decode cX10_sends 72 = .ok (.iaload, 1) := by decide +kernel
theorem dX10_sends_73 : decode cX10_sends 73 = .ok (.iconst 1, 1) := by decide +kernel
theorem dX10_sends_74 : decode cX10_sends 74 = .ok (.isub, 1) := by decide +kernel
theorem dX10_sends_75 : decode cX10_sends 75 = .ok (.iastore, 1) := by decide +kernel
theorem dX10_sends_76 : decode cX10_sends 76 = .ok (.iinc 1 1, 3) := by decide +kernel
theorem dX10_sends_79 : decode cX10_sends 79 = .ok (.goto (-77), 3) := by decide +kernel
theorem dX10_sends_82 : decode cX10_sends 82 = .ok (.return_, 1) := by decide +kernel
theorem dX10_tells_0 : decode cX10_tells 0 = .ok (.iconst 0, 1) := by decide +kernel
theorem dX10_tells_1 : decode cX10_tells 1 = .ok (.istore_n 2, 1) := by decide +kernel
theorem dX10_tells_2 : decode cX10_tells 2 = .ok (.iload_n 2, 1) := by decide +kernel
theorem dX10_tells_3 : decode cX10_tells 3 = .ok (.iconst 4, 1) := by decide +kernel
theorem dX10_tells_4 : decode cX10_tells 4 = .ok (.if_icmp .ge 113, 3) := by decide +kernel
theorem dX10_tells_7 : decode cX10_tells 7 = .ok (.iload_n 2, 1) := by decide +kernel
theorem dX10_tells_8 : decode cX10_tells 8 = .ok (.aload_n 0, 1) := by decide +kernel
theorem dX10_tells_9 : decode cX10_tells 9 = .ok (.getfield 13, 3) := by decide +kernel
theorem dX10_tells_12 : decode cX10_tells 12 = .ok (.if_icmp .ge 74, 3) := by decide +kernel
theorem dX10_tells_15 : decode cX10_tells 15 = .ok (.aload_n 0, 1) := by decide +kernel
theorem dX10_tells_16 : decode cX10_tells 16 = .ok (.getfield 78, 3) := by decide +kernel
theorem dX10_tells_19 : decode cX10_tells 19 = .ok (.iload_n 2, 1) := by decide +kernel
theorem dX10_tells_20 : decode cX10_tells 20 = .ok (.aload_n 0, 1) := by decide +kernel
theorem dX10_tells_21 : decode cX10_tells 21 = .ok (.getfield 69, 3) := by decide +kernel
theorem dX10_tells_24 : decode cX10_tells 24 = .ok (.iload_n 2, 1) := by decide +kernel
theorem dX10_tells_25 : decode cX10_tells 25 = .ok (.iaload, 1) := by decide +kernel
theorem dX10_tells_26 : decode cX10_tells 26 = .ok (.aload_n 0, 1) := by decide +kernel
theorem dX10_tells_27 : decode cX10_tells 27 = .ok (.getfield 29, 3) := by decide +kernel
theorem dX10_tells_30 : decode cX10_tells 30 = .ok (.iload_n 2, 1) := by decide +kernel
theorem dX10_tells_31 : decode cX10_tells 31 = .ok (.iaload, 1) := by decide +kernel
theorem dX10_tells_32 : decode cX10_tells 32 = .ok (.if_icmp .ge 27, 3) := by decide +kernel
theorem dX10_tells_35 : decode cX10_tells 35 = .ok (.aload_n 0, 1) := by decide +kernel
theorem dX10_tells_36 : decode cX10_tells 36 = .ok (.getfield 69, 3) := by decide +kernel
theorem dX10_tells_39 : decode cX10_tells 39 = .ok (.iload_n 2, 1) := by decide +kernel
theorem dX10_tells_40 : decode cX10_tells 40 = .ok (.iaload, 1) := by decide +kernel
theorem dX10_tells_41 : decode cX10_tells 41 = .ok (.aload_n 0, 1) := by decide +kernel
theorem dX10_tells_42 : decode cX10_tells 42 = .ok (.getfield 32, 3) := by decide +kernel
theorem dX10_tells_45 : decode cX10_tells 45 = .ok (.iload_n 2, 1) := by decide +kernel
theorem dX10_tells_46 : decode cX10_tells 46 = .ok (.iaload, 1) := by decide +kernel
theorem dX10_tells_47 : decode cX10_tells 47 = .ok (.if_icmp .le 16, 3) := by decide +kernel
theorem dX10_tells_50 : decode cX10_tells 50 = .ok (.aload_n 0, 1) := by decide +kernel
theorem dX10_tells_51 : decode cX10_tells 51 = .ok (.getfield 78, 3) := by decide +kernel
theorem dX10_tells_54 : decode cX10_tells 54 = .ok (.iload_n 2, 1) := by decide +kernel
theorem dX10_tells_55 : decode cX10_tells 55 = .ok (.baload, 1) := by decide +kernel
theorem dX10_tells_56 : decode cX10_tells 56 = .ok (.ifCond .eq 7, 3) := by decide +kernel
theorem dX10_tells_59 : decode cX10_tells 59 = .ok (.iconst 1, 1) := by decide +kernel
theorem dX10_tells_60 : decode cX10_tells 60 = .ok (.goto 4, 3) := by decide +kernel
theorem dX10_tells_63 : decode cX10_tells 63 = .ok (.iconst 0, 1) := by decide +kernel
theorem dX10_tells_64 : decode cX10_tells 64 = .ok (.bastore, 1) := by decide +kernel
theorem dX10_tells_65 : decode cX10_tells 65 = .ok (.aload_n 0, 1) := by decide +kernel
theorem dX10_tells_66 : decode cX10_tells 66 = .ok (.getfield 81, 3) := by decide +kernel
theorem dX10_tells_69 : decode cX10_tells 69 = .ok (.sipush 400, 3) := by decide +kernel
theorem dX10_tells_72 : decode cX10_tells 72 = .ok (.iload_n 2, 1) := by decide +kernel
theorem dX10_tells_73 : decode cX10_tells 73 = .ok (.imul, 1) := by decide +kernel
theorem dX10_tells_74 : decode cX10_tells 74 = .ok (.aload_n 0, 1) := by decide +kernel
theorem dX10_tells_75 : decode cX10_tells 75 = .ok (.getfield 148, 3) := by decide +kernel
theorem dX10_tells_78 : decode cX10_tells 78 = .ok (.iadd, 1) := by decide +kernel
theorem dX10_tells_79 : decode cX10_tells 79 = .ok (.aload_n 0, 1) := by decide +kernel
theorem dX10_tells_80 : decode cX10_tells 80 = .ok (.getfield 78, 3) := by decide +kernel
theorem dX10_tells_83 : decode cX10_tells 83 = .ok (.iload_n 2, 1) := by decide +kernel
theorem dX10_tells_84 : decode cX10_tells 84 = .ok (.baload, 1) := by decide +kernel
theorem dX10_tells_85 : decode cX10_tells 85 = .ok (.bastore, 1) := by decide +kernel
theorem dX10_tells_86 : decode cX10_tells 86 = .ok (.iload_n 1, 1) := by decide +kernel
theorem dX10_tells_87 : decode cX10_tells 87 = .ok (.ifCond .eq 24, 3) := by decide +kernel
theorem dX10_tells_90 : decode cX10_tells 90 = .ok (.aload_n 0, 1) := by decide +kernel
theorem dX10_tells_91 : decode cX10_tells 91 = .ok (.getfield 96, 3) := by decide +kernel
theorem dX10_tells_94 : decode cX10_tells 94 = .ok (.sipush 400, 3) := by decide +kernel
theorem dX10_tells_97 : decode cX10_tells 97 = .ok (.iload_n 2, 1) := by decide +kernel
theorem dX10_tells_98 : decode cX10_tells 98 = .ok (.imul, 1) := by decide +kernel
theorem dX10_tells_99 : decode cX10_tells 99 = .ok (.aload_n 0, 1) := by decide +kernel
theorem dX10_tells_100 : decode cX10_tells 100 = .ok (.getfield 148, 3) := by decide +kernel
theorem dX10_tells_103 : decode cX10_tells 103 = .ok (.iadd, 1) := by decide +kernel
theorem dX10_tells_104 : decode cX10_tells 104 = .ok (.aload_n 0, 1) := by decide +kernel
theorem dX10_tells_105 : decode cX10_tells 105 = .ok (.getfield 69, 3) := by decide +kernel
theorem dX10_tells_108 : decode cX10_tells 108 = .ok (.iload_n 2, 1) := by decide +kernel
theorem dX10_tells_109 : decode cX10_tells 109 = .ok (.iaload, 1) := by decide +kernel
theorem dX10_tells_110 : decode cX10_tells 110 = .ok (.iastore, 1) := by decide +kernel
theorem dX10_tells_111 : decode cX10_tells 111 = .ok (.iinc 2 1, 3) := by decide +kernel
theorem dX10_tells_114 : decode cX10_tells 114 = .ok (.goto (-112), 3) := by decide +kernel
theorem dX10_tells_117 : decode cX10_tells 117 = .ok (.return_, 1) := by decide +kernel
theorem dX10_go_0 : decode cX10_go 0 = .ok (.aload_n 0, 1) := by decide +kernel
theorem dX10_go_1 : decode cX10_go 1 = .ok (.iload_n 1, 1) := by decide +kernel
theorem dX10_go_2 : decode cX10_go 2 = .ok (.putfield 170, 3) := by decide +kernel
theorem dX10_go_5 : decode cX10_go 5 = .ok (.aload_n 0, 1) := by decide +kernel
theorem dX10_go_6 : decode cX10_go 6 = .ok (.iload_n 2, 1) := by decide +kernel
theorem dX10_go_7 : decode cX10_go 7 = .ok (.putfield 154, 3) := by decide +kernel
theorem dX10_go_10 : decode cX10_go 10 = .ok (.aload_n 0, 1) := by decide +kernel
theorem dX10_go_11 : decode cX10_go 11 = .ok (.iload_n 3, 1) := by decide +kernel
theorem dX10_go_12 : decode cX10_go 12 = .ok (.putfield 157, 3) := by decide +kernel
theorem dX10_go_15 : decode cX10_go 15 = .ok (.aload_n 0, 1) := by decide +kernel
theorem dX10_go_16 : decode cX10_go 16 = .ok (.iload 4, 2) := by decide +kernel
theorem dX10_go_18 : decode cX10_go 18 = .ok (.putfield 144, 3) := by decide +kernel
theorem dX10_go_21 : decode cX10_go 21 = .ok (.iconst 0, 1) := by decide +kernel
theorem dX10_go_22 : decode cX10_go 22 = .ok (.istore 6, 2) := by decide +kernel
theorem dX10_go_24 : decode cX10_go 24 = .ok (.iload 6, 2) := by decide +kernel
theorem dX10_go_26 : decode cX10_go 26 = .ok (.iconst 4, 1) := by decide +kernel
theorem dX10_go_27 : decode cX10_go 27 = .ok (.if_icmp .ge 41, 3) := by decide +kernel
theorem dX10_go_30 : decode cX10_go 30 = .ok (.aload_n 0, 1) := by decide +kernel
theorem dX10_go_31 : decode cX10_go 31 = .ok (.getfield 69, 3) := by decide +kernel
theorem dX10_go_34 : decode cX10_go 34 = .ok (.iload 6, 2) := by decide +kernel
theorem dX10_go_36 : decode cX10_go 36 = .ok (.iconst 0, 1) := by decide +kernel
theorem dX10_go_37 : decode cX10_go 37 = .ok (.iastore, 1) := by decide +kernel
theorem dX10_go_38 : decode cX10_go 38 = .ok (.aload_n 0, 1) := by decide +kernel
theorem dX10_go_39 : decode cX10_go 39 = .ok (.getfield 72, 3) := by decide +kernel
theorem dX10_go_42 : decode cX10_go 42 = .ok (.iload 6, 2) := by decide +kernel
theorem dX10_go_44 : decode cX10_go 44 = .ok (.iconst 0, 1) := by decide +kernel
theorem dX10_go_45 : decode cX10_go 45 = .ok (.iastore, 1) := by decide +kernel
theorem dX10_go_46 : decode cX10_go 46 = .ok (.aload_n 0, 1) := by decide +kernel
theorem dX10_go_47 : decode cX10_go 47 = .ok (.getfield 75, 3) := by decide +kernel
theorem dX10_go_50 : decode cX10_go 50 = .ok (.iload 6, 2) := by decide +kernel
theorem dX10_go_52 : decode cX10_go 52 = .ok (.iconst 0, 1) := by decide +kernel
theorem dX10_go_53 : decode cX10_go 53 = .ok (.iastore, 1) := by decide +kernel
theorem dX10_go_54 : decode cX10_go 54 = .ok (.aload_n 0, 1) := by decide +kernel
theorem dX10_go_55 : decode cX10_go 55 = .ok (.getfield 78, 3) := by decide +kernel
theorem dX10_go_58 : decode cX10_go 58 = .ok (.iload 6, 2) := by decide +kernel
theorem dX10_go_60 : decode cX10_go 60 = .ok (.iconst 0, 1) := by decide +kernel
theorem dX10_go_61 : decode cX10_go 61 = .ok (.bastore, 1) := by decide +kernel
theorem dX10_go_62 : decode cX10_go 62 = .ok (.iinc 6 1, 3) := by decide +kernel
theorem dX10_go_65 : decode cX10_go 65 = .ok (.goto (-41), 3) := by decide +kernel
theorem dX10_go_68 : decode cX10_go 68 = .ok (.iconst 0, 1) := by decide +kernel
theorem dX10_go_69 : decode cX10_go 69 = .ok (.istore 6, 2) := by decide +kernel
theorem dX10_go_71 : decode cX10_go 71 = .ok (.iload 6, 2) := by decide +kernel
theorem dX10_go_73 : decode cX10_go 73 = .ok (.iconst 5, 1) := by decide +kernel
theorem dX10_go_74 : decode cX10_go 74 = .ok (.if_icmp .ge 17, 3) := by decide +kernel
theorem dX10_go_77 : decode cX10_go 77 = .ok (.aload_n 0, 1) := by decide +kernel
theorem dX10_go_78 : decode cX10_go 78 = .ok (.getfield 93, 3) := by decide +kernel
theorem dX10_go_81 : decode cX10_go 81 = .ok (.iload 6, 2) := by decide +kernel
theorem dX10_go_83 : decode cX10_go 83 = .ok (.iconst 0, 1) := by decide +kernel
theorem dX10_go_84 : decode cX10_go 84 = .ok (.iastore, 1) := by decide +kernel
theorem dX10_go_85 : decode cX10_go 85 = .ok (.iinc 6 1, 3) := by decide +kernel
theorem dX10_go_88 : decode cX10_go 88 = .ok (.goto (-17), 3) := by decide +kernel
theorem dX10_go_91 : decode cX10_go 91 = .ok (.iconst 0, 1) := by decide +kernel
theorem dX10_go_92 : decode cX10_go 92 = .ok (.istore 6, 2) := by decide +kernel
theorem dX10_go_94 : decode cX10_go 94 = .ok (.iload 6, 2) := by decide +kernel
theorem dX10_go_96 : decode cX10_go 96 = .ok (.bipush 80, 2) := by decide +kernel
theorem dX10_go_98 : decode cX10_go 98 = .ok (.if_icmp .ge 36, 3) := by decide +kernel
theorem dX10_go_101 : decode cX10_go 101 = .ok (.aload_n 0, 1) := by decide +kernel
theorem dX10_go_102 : decode cX10_go 102 = .ok (.getfield 84, 3) := by decide +kernel
theorem dX10_go_105 : decode cX10_go 105 = .ok (.iload 6, 2) := by decide +kernel
theorem dX10_go_107 : decode cX10_go 107 = .ok (.iconst 3, 1) := by decide +kernel
theorem dX10_go_108 : decode cX10_go 108 = .ok (.iastore, 1) := by decide +kernel
theorem dX10_go_109 : decode cX10_go 109 = .ok (.aload_n 0, 1) := by decide +kernel
theorem dX10_go_110 : decode cX10_go 110 = .ok (.getfield 87, 3) := by decide +kernel
theorem dX10_go_113 : decode cX10_go 113 = .ok (.iload 6, 2) := by decide +kernel
theorem dX10_go_115 : decode cX10_go 115 = .ok (.sipush 400, 3) := by decide +kernel
theorem dX10_go_118 : decode cX10_go 118 = .ok (.iastore, 1) := by decide +kernel
theorem dX10_go_119 : decode cX10_go 119 = .ok (.aload_n 0, 1) := by decide +kernel
theorem dX10_go_120 : decode cX10_go 120 = .ok (.getfield 90, 3) := by decide +kernel
theorem dX10_go_123 : decode cX10_go 123 = .ok (.iload 6, 2) := by decide +kernel
theorem dX10_go_125 : decode cX10_go 125 = .ok (.bipush (-2), 2) := by decide +kernel
theorem dX10_go_127 : decode cX10_go 127 = .ok (.iastore, 1) := by decide +kernel
theorem dX10_go_128 : decode cX10_go 128 = .ok (.iinc 6 1, 3) := by decide +kernel
theorem dX10_go_131 : decode cX10_go 131 = .ok (.goto (-37), 3) := by decide +kernel
theorem dX10_go_134 : decode cX10_go 134 = .ok (.aload_n 0, 1) := by decide +kernel
theorem dX10_go_135 : decode cX10_go 135 = .ok (.iconst 0, 1) := by decide +kernel
theorem dX10_go_136 : decode cX10_go 136 = .ok (.putfield 148, 3) := by decide +kernel
theorem dX10_go_139 : decode cX10_go 139 = .ok (.iconst 0, 1) := by decide +kernel
theorem dX10_go_140 : decode cX10_go 140 = .ok (.istore 6, 2) := by decide +kernel
theorem dX10_go_142 : decode cX10_go 142 = .ok (.aload_n 0, 1) := by decide +kernel
theorem dX10_go_143 : decode cX10_go 143 = .ok (.getfield 148, 3) := by decide +kernel
theorem dX10_go_146 : decode cX10_go 146 = .ok (.sipush 400, 3) := by decide +kernel
theorem dX10_go_149 : decode cX10_go 149 = .ok (.if_icmp .ge 107, 3) := by decide +kernel
theorem dX10_go_152 : decode cX10_go 152 = .ok (.aload_n 0, 1) := by decide +kernel
theorem dX10_go_153 : decode cX10_go 153 = .ok (.invokevirtual 188, 3) := by decide +kernel
theorem dX10_go_156 : decode cX10_go 156 = .ok (.ifCond .eq 100, 3) := by decide +kernel
theorem dX10_go_159 : decode cX10_go 159 = .ok (.aload_n 0, 1) := by decide +kernel
theorem dX10_go_160 : decode cX10_go 160 = .ok (.invokevirtual 192, 3) := by decide +kernel
theorem dX10_go_163 : decode cX10_go 163 = .ok (.iload 6, 2) := by decide +kernel
theorem dX10_go_165 : decode cX10_go 165 = .ok (.aload_n 0, 1) := by decide +kernel
theorem dX10_go_166 : decode cX10_go 166 = .ok (.getfield 53, 3) := by decide +kernel
theorem dX10_go_169 : decode cX10_go 169 = .ok (.aload_n 0, 1) := by decide +kernel
theorem dX10_go_170 : decode cX10_go 170 = .ok (.getfield 170, 3) := by decide +kernel
theorem dX10_go_173 : decode cX10_go 173 = .ok (.iaload, 1) := by decide +kernel
theorem dX10_go_174 : decode cX10_go 174 = .ok (.if_icmp .ge 59, 3) := by decide +kernel
theorem dX10_go_177 : decode cX10_go 177 = .ok (.aload_n 0, 1) := by decide +kernel
theorem dX10_go_178 : decode cX10_go 178 = .ok (.getfield 56, 3) := by decide +kernel
theorem dX10_go_181 : decode cX10_go 181 = .ok (.bipush 80, 2) := by decide +kernel
theorem dX10_go_183 : decode cX10_go 183 = .ok (.aload_n 0, 1) := by decide +kernel
theorem dX10_go_184 : decode cX10_go 184 = .ok (.getfield 170, 3) := by decide +kernel
theorem dX10_go_187 : decode cX10_go 187 = .ok (.imul, 1) := by decide +kernel
theorem dX10_go_188 : decode cX10_go 188 = .ok (.iload 6, 2) := by decide +kernel
theorem dX10_go_190 : decode cX10_go 190 = .ok (.iadd, 1) := by decide +kernel
theorem dX10_go_191 : decode cX10_go 191 = .ok (.iaload, 1) := by decide +kernel
theorem dX10_go_192 : decode cX10_go 192 = .ok (.aload_n 0, 1) := by decide +kernel
theorem dX10_go_193 : decode cX10_go 193 = .ok (.getfield 148, 3) := by decide +kernel
theorem dX10_go_196 : decode cX10_go 196 = .ok (.if_icmp .ne 37, 3) := by decide +kernel
theorem dX10_go_199 : decode cX10_go 199 = .ok (.aload_n 0, 1) := by decide +kernel
theorem dX10_go_200 : decode cX10_go 200 = .ok (.aload_n 0, 1) := by decide +kernel
theorem dX10_go_201 : decode cX10_go 201 = .ok (.getfield 59, 3) := by decide +kernel
theorem dX10_go_204 : decode cX10_go 204 = .ok (.bipush 80, 2) := by decide +kernel
theorem dX10_go_206 : decode cX10_go 206 = .ok (.aload_n 0, 1) := by decide +kernel
theorem dX10_go_207 : decode cX10_go 207 = .ok (.getfield 170, 3) := by decide +kernel
theorem dX10_go_210 : decode cX10_go 210 = .ok (.imul, 1) := by decide +kernel
theorem dX10_go_211 : decode cX10_go 211 = .ok (.iload 6, 2) := by decide +kernel
theorem dX10_go_213 : decode cX10_go 213 = .ok (.iadd, 1) := by decide +kernel
theorem dX10_go_214 : decode cX10_go 214 = .ok (.iaload, 1) := by decide +kernel
theorem dX10_go_215 : decode cX10_go 215 = .ok (.invokevirtual 177, 3) := by decide +kernel
theorem dX10_go_218 : decode cX10_go 218 = .ok (.ifCond .ne 9, 3) := by decide +kernel
theorem dX10_go_221 : decode cX10_go 221 = .ok (.aload_n 0, 1) := by decide +kernel
theorem dX10_go_222 : decode cX10_go 222 = .ok (.iload 6, 2) := by decide +kernel
theorem dX10_go_224 : decode cX10_go 224 = .ok (.invokevirtual 184, 3) := by decide +kernel
theorem dX10_go_227 : decode cX10_go 227 = .ok (.iinc 6 1, 3) := by decide +kernel
theorem dX10_go_230 : decode cX10_go 230 = .ok (.goto (-67), 3) := by decide +kernel
theorem dX10_go_233 : decode cX10_go 233 = .ok (.aload_n 0, 1) := by decide +kernel
theorem dX10_go_234 : decode cX10_go 234 = .ok (.invokevirtual 195, 3) := by decide +kernel
theorem dX10_go_237 : decode cX10_go 237 = .ok (.aload_n 0, 1) := by decide +kernel
theorem dX10_go_238 : decode cX10_go 238 = .ok (.iload 5, 2) := by decide +kernel
theorem dX10_go_240 : decode cX10_go 240 = .ok (.invokevirtual 198, 3) := by decide +kernel
theorem dX10_go_243 : decode cX10_go 243 = .ok (.aload_n 0, 1) := by decide +kernel
theorem dX10_go_244 : decode cX10_go 244 = .ok (.dup, 1) := by decide +kernel
theorem dX10_go_245 : decode cX10_go 245 = .ok (.getfield 148, 3) := by decide +kernel
theorem dX10_go_248 : decode cX10_go 248 = .ok (.iconst 1, 1) := by decide +kernel
theorem dX10_go_249 : decode cX10_go 249 = .ok (.iadd, 1) := by decide +kernel
theorem dX10_go_250 : decode cX10_go 250 = .ok (.putfield 148, 3) := by decide +kernel
theorem dX10_go_253 : decode cX10_go 253 = .ok (.goto (-111), 3) := by decide +kernel
theorem dX10_go_256 : decode cX10_go 256 = .ok (.return_, 1) := by decide +kernel
theorem dX10_countSent_0 : decode cX10_countSent 0 = .ok (.iconst 0, 1) := by decide +kernel
theorem dX10_countSent_1 : decode cX10_countSent 1 = .ok (.istore_n 1, 1) := by decide +kernel
theorem dX10_countSent_2 : decode cX10_countSent 2 = .ok (.iconst 0, 1) := by decide +kernel
theorem dX10_countSent_3 : decode cX10_countSent 3 = .ok (.istore_n 2, 1) := by decide +kernel
theorem dX10_countSent_4 : decode cX10_countSent 4 = .ok (.iload_n 2, 1) := by decide +kernel
theorem dX10_countSent_5 : decode cX10_countSent 5 = .ok (.aload_n 0, 1) := by decide +kernel
theorem dX10_countSent_6 : decode cX10_countSent 6 = .ok (.getfield 53, 3) := by decide +kernel
theorem dX10_countSent_9 : decode cX10_countSent 9 = .ok (.aload_n 0, 1) := by decide +kernel
theorem dX10_countSent_10 : decode cX10_countSent 10 = .ok (.getfield 170, 3) := by decide +kernel
theorem dX10_countSent_13 : decode cX10_countSent 13 = .ok (.iaload, 1) := by decide +kernel
theorem dX10_countSent_14 : decode cX10_countSent 14 = .ok (.if_icmp .ge 26, 3) := by decide +kernel
theorem dX10_countSent_17 : decode cX10_countSent 17 = .ok (.iload_n 1, 1) := by decide +kernel
theorem dX10_countSent_18 : decode cX10_countSent 18 = .ok (.aload_n 0, 1) := by decide +kernel
theorem dX10_countSent_19 : decode cX10_countSent 19 = .ok (.getfield 84, 3) := by decide +kernel
theorem dX10_countSent_22 : decode cX10_countSent 22 = .ok (.iload_n 2, 1) := by decide +kernel
theorem dX10_countSent_23 : decode cX10_countSent 23 = .ok (.iaload, 1) := by decide +kernel
theorem dX10_countSent_24 : decode cX10_countSent 24 = .ok (.ifCond .ne 7, 3) := by decide +kernel
theorem dX10_countSent_27 : decode cX10_countSent 27 = .ok (.iconst 1, 1) := by decide +kernel
theorem dX10_countSent_28 : decode cX10_countSent 28 = .ok (.goto 4, 3) := by decide +kernel
theorem dX10_countSent_31 : decode cX10_countSent 31 = .ok (.iconst 0, 1) := by decide +kernel
theorem dX10_countSent_32 : decode cX10_countSent 32 = .ok (.iadd, 1) := by decide +kernel
theorem dX10_countSent_33 : decode cX10_countSent 33 = .ok (.istore_n 1, 1) := by decide +kernel
theorem dX10_countSent_34 : decode cX10_countSent 34 = .ok (.iinc 2 1, 3) := by decide +kernel
theorem dX10_countSent_37 : decode cX10_countSent 37 = .ok (.goto (-33), 3) := by decide +kernel
theorem dX10_countSent_40 : decode cX10_countSent 40 = .ok (.iload_n 1, 1) := by decide +kernel
theorem dX10_countSent_41 : decode cX10_countSent 41 = .ok (.ireturn, 1) := by decide +kernel
theorem dX10_run_0 : decode cX10_run 0 = .ok (.iload_n 1, 1) := by decide +kernel
theorem dX10_run_1 : decode cX10_run 1 = .ok (.invokestatic 141, 3) := by decide +kernel
theorem dX10_run_4 : decode cX10_run 4 = .ok (.ifCond .eq 12, 3) := by decide +kernel
theorem dX10_run_7 : decode cX10_run 7 = .ok (.iload_n 2, 1) := by decide +kernel
theorem dX10_run_8 : decode cX10_run 8 = .ok (.iconst 0, 1) := by decide +kernel
theorem dX10_run_9 : decode cX10_run 9 = .ok (.iconst 3, 1) := by decide +kernel
theorem dX10_run_10 : decode cX10_run 10 = .ok (.invokestatic 123, 3) := by decide +kernel
theorem dX10_run_13 : decode cX10_run 13 = .ok (.ifCond .ne 5, 3) := by decide +kernel
theorem dX10_run_16 : decode cX10_run 16 = .ok (.iconst (-1), 1) := by decide +kernel
theorem dX10_run_17 : decode cX10_run 17 = .ok (.ireturn, 1) := by decide +kernel
theorem dX10_run_18 : decode cX10_run 18 = .ok (.iconst 0, 1) := by decide +kernel
theorem dX10_run_19 : decode cX10_run 19 = .ok (.istore_n 3, 1) := by decide +kernel
theorem dX10_run_20 : decode cX10_run 20 = .ok (.iload_n 3, 1) := by decide +kernel
theorem dX10_run_21 : decode cX10_run 21 = .ok (.sipush 1600, 3) := by decide +kernel
theorem dX10_run_24 : decode cX10_run 24 = .ok (.if_icmp .ge 16, 3) := by decide +kernel
theorem dX10_run_27 : decode cX10_run 27 = .ok (.aload_n 0, 1) := by decide +kernel
theorem dX10_run_28 : decode cX10_run 28 = .ok (.getfield 96, 3) := by decide +kernel
theorem dX10_run_31 : decode cX10_run 31 = .ok (.iload_n 3, 1) := by decide +kernel
theorem dX10_run_32 : decode cX10_run 32 = .ok (.iconst 0, 1) := by decide +kernel
theorem dX10_run_33 : decode cX10_run 33 = .ok (.iastore, 1) := by decide +kernel
theorem dX10_run_34 : decode cX10_run 34 = .ok (.iinc 3 1, 3) := by decide +kernel
theorem dX10_run_37 : decode cX10_run 37 = .ok (.goto (-17), 3) := by decide +kernel
theorem dX10_run_40 : decode cX10_run 40 = .ok (.aload_n 0, 1) := by decide +kernel
theorem dX10_run_41 : decode cX10_run 41 = .ok (.iload_n 1, 1) := by decide +kernel
theorem dX10_run_42 : decode cX10_run 42 = .ok (.iload_n 2, 1) := by decide +kernel
theorem dX10_run_43 : decode cX10_run 43 = .ok (.aload_n 0, 1) := by decide +kernel
theorem dX10_run_44 : decode cX10_run 44 = .ok (.getfield 38, 3) := by decide +kernel
theorem dX10_run_47 : decode cX10_run 47 = .ok (.iconst 0, 1) := by decide +kernel
theorem dX10_run_48 : decode cX10_run 48 = .ok (.iconst 1, 1) := by decide +kernel
theorem dX10_run_49 : decode cX10_run 49 = .ok (.invokevirtual 202, 3) := by decide +kernel
theorem dX10_run_52 : decode cX10_run 52 = .ok (.aload_n 0, 1) := by decide +kernel
theorem dX10_run_53 : decode cX10_run 53 = .ok (.iconst 1, 1) := by decide +kernel
theorem dX10_run_54 : decode cX10_run 54 = .ok (.putfield 206, 3) := by decide +kernel
theorem dX10_run_57 : decode cX10_run 57 = .ok (.aload_n 0, 1) := by decide +kernel
theorem dX10_run_58 : decode cX10_run 58 = .ok (.aload_n 0, 1) := by decide +kernel
theorem dX10_run_59 : decode cX10_run 59 = .ok (.getfield 53, 3) := by decide +kernel
theorem dX10_run_62 : decode cX10_run 62 = .ok (.iload_n 1, 1) := by decide +kernel
theorem dX10_run_63 : decode cX10_run 63 = .ok (.iaload, 1) := by decide +kernel
theorem dX10_run_64 : decode cX10_run 64 = .ok (.putfield 209, 3) := by decide +kernel
theorem dX10_run_67 : decode cX10_run 67 = .ok (.aload_n 0, 1) := by decide +kernel
theorem dX10_run_68 : decode cX10_run 68 = .ok (.aload_n 0, 1) := by decide +kernel
theorem dX10_run_69 : decode cX10_run 69 = .ok (.getfield 148, 3) := by decide +kernel
theorem dX10_run_72 : decode cX10_run 72 = .ok (.putfield 212, 3) := by decide +kernel
theorem dX10_run_75 : decode cX10_run 75 = .ok (.iconst 0, 1) := by decide +kernel
theorem dX10_run_76 : decode cX10_run 76 = .ok (.istore_n 3, 1) := by decide +kernel
theorem dX10_run_77 : decode cX10_run 77 = .ok (.iload_n 3, 1) := by decide +kernel
theorem dX10_run_78 : decode cX10_run 78 = .ok (.aload_n 0, 1) := by decide +kernel
theorem dX10_run_79 : decode cX10_run 79 = .ok (.getfield 209, 3) := by decide +kernel
theorem dX10_run_82 : decode cX10_run 82 = .ok (.if_icmp .ge 62, 3) := by decide +kernel
theorem dX10_run_85 : decode cX10_run 85 = .ok (.aload_n 0, 1) := by decide +kernel
theorem dX10_run_86 : decode cX10_run 86 = .ok (.getfield 99, 3) := by decide +kernel
theorem dX10_run_89 : decode cX10_run 89 = .ok (.iload_n 3, 1) := by decide +kernel
theorem dX10_run_90 : decode cX10_run 90 = .ok (.aload_n 0, 1) := by decide +kernel
theorem dX10_run_91 : decode cX10_run 91 = .ok (.getfield 84, 3) := by decide +kernel
theorem dX10_run_94 : decode cX10_run 94 = .ok (.iload_n 3, 1) := by decide +kernel
theorem dX10_run_95 : decode cX10_run 95 = .ok (.iaload, 1) := by decide +kernel
theorem dX10_run_96 : decode cX10_run 96 = .ok (.iastore, 1) := by decide +kernel
theorem dX10_run_97 : decode cX10_run 97 = .ok (.aload_n 0, 1) := by decide +kernel
theorem dX10_run_98 : decode cX10_run 98 = .ok (.getfield 102, 3) := by decide +kernel
theorem dX10_run_101 : decode cX10_run 101 = .ok (.iload_n 3, 1) := by decide +kernel
theorem dX10_run_102 : decode cX10_run 102 = .ok (.aload_n 0, 1) := by decide +kernel
theorem dX10_run_103 : decode cX10_run 103 = .ok (.getfield 87, 3) := by decide +kernel
theorem dX10_run_106 : decode cX10_run 106 = .ok (.iload_n 3, 1) := by decide +kernel
theorem dX10_run_107 : decode cX10_run 107 = .ok (.iaload, 1) := by decide +kernel
theorem dX10_run_108 : decode cX10_run 108 = .ok (.iastore, 1) := by decide +kernel
theorem dX10_run_109 : decode cX10_run 109 = .ok (.aload_n 0, 1) := by decide +kernel
theorem dX10_run_110 : decode cX10_run 110 = .ok (.getfield 105, 3) := by decide +kernel
theorem dX10_run_113 : decode cX10_run 113 = .ok (.iload_n 3, 1) := by decide +kernel
theorem dX10_run_114 : decode cX10_run 114 = .ok (.aload_n 0, 1) := by decide +kernel
theorem dX10_run_115 : decode cX10_run 115 = .ok (.getfield 90, 3) := by decide +kernel
theorem dX10_run_118 : decode cX10_run 118 = .ok (.iload_n 3, 1) := by decide +kernel
theorem dX10_run_119 : decode cX10_run 119 = .ok (.iaload, 1) := by decide +kernel
theorem dX10_run_120 : decode cX10_run 120 = .ok (.iastore, 1) := by decide +kernel
theorem dX10_run_121 : decode cX10_run 121 = .ok (.aload_n 0, 1) := by decide +kernel
theorem dX10_run_122 : decode cX10_run 122 = .ok (.getfield 108, 3) := by decide +kernel
theorem dX10_run_125 : decode cX10_run 125 = .ok (.iload_n 3, 1) := by decide +kernel
theorem dX10_run_126 : decode cX10_run 126 = .ok (.aload_n 0, 1) := by decide +kernel
theorem dX10_run_127 : decode cX10_run 127 = .ok (.getfield 59, 3) := by decide +kernel
theorem dX10_run_130 : decode cX10_run 130 = .ok (.bipush 80, 2) := by decide +kernel
theorem dX10_run_132 : decode cX10_run 132 = .ok (.iload_n 1, 1) := by decide +kernel
theorem dX10_run_133 : decode cX10_run 133 = .ok (.imul, 1) := by decide +kernel
theorem dX10_run_134 : decode cX10_run 134 = .ok (.iload_n 3, 1) := by decide +kernel
theorem dX10_run_135 : decode cX10_run 135 = .ok (.iadd, 1) := by decide +kernel
theorem dX10_run_136 : decode cX10_run 136 = .ok (.iaload, 1) := by decide +kernel
theorem dX10_run_137 : decode cX10_run 137 = .ok (.iastore, 1) := by decide +kernel
theorem dX10_run_138 : decode cX10_run 138 = .ok (.iinc 3 1, 3) := by decide +kernel
theorem dX10_run_141 : decode cX10_run 141 = .ok (.goto (-64), 3) := by decide +kernel
theorem dX10_run_144 : decode cX10_run 144 = .ok (.iconst 0, 1) := by decide +kernel
theorem dX10_run_145 : decode cX10_run 145 = .ok (.istore_n 3, 1) := by decide +kernel
theorem dX10_run_146 : decode cX10_run 146 = .ok (.iload_n 3, 1) := by decide +kernel
theorem dX10_run_147 : decode cX10_run 147 = .ok (.iconst 5, 1) := by decide +kernel
theorem dX10_run_148 : decode cX10_run 148 = .ok (.if_icmp .ge 21, 3) := by decide +kernel
theorem dX10_run_151 : decode cX10_run 151 = .ok (.aload_n 0, 1) := by decide +kernel
theorem dX10_run_152 : decode cX10_run 152 = .ok (.getfield 111, 3) := by decide +kernel
theorem dX10_run_155 : decode cX10_run 155 = .ok (.iload_n 3, 1) := by decide +kernel
theorem dX10_run_156 : decode cX10_run 156 = .ok (.aload_n 0, 1) := by decide +kernel
theorem dX10_run_157 : decode cX10_run 157 = .ok (.getfield 93, 3) := by decide +kernel
theorem dX10_run_160 : decode cX10_run 160 = .ok (.iload_n 3, 1) := by decide +kernel
theorem dX10_run_161 : decode cX10_run 161 = .ok (.iaload, 1) := by decide +kernel
theorem dX10_run_162 : decode cX10_run 162 = .ok (.iastore, 1) := by decide +kernel
theorem dX10_run_163 : decode cX10_run 163 = .ok (.iinc 3 1, 3) := by decide +kernel
theorem dX10_run_166 : decode cX10_run 166 = .ok (.goto (-20), 3) := by decide +kernel
theorem dX10_run_169 : decode cX10_run 169 = .ok (.aload_n 0, 1) := by decide +kernel
theorem dX10_run_170 : decode cX10_run 170 = .ok (.invokevirtual 215, 3) := by decide +kernel
theorem dX10_run_173 : decode cX10_run 173 = .ok (.ireturn, 1) := by decide +kernel
theorem dX10_fate_0 : decode cX10_fate 0 = .ok (.aload_n 0, 1) := by decide +kernel
theorem dX10_fate_1 : decode cX10_fate 1 = .ok (.getfield 206, 3) := by decide +kernel
theorem dX10_fate_4 : decode cX10_fate 4 = .ok (.ifCond .eq 26, 3) := by decide +kernel
theorem dX10_fate_7 : decode cX10_fate 7 = .ok (.iload_n 1, 1) := by decide +kernel
theorem dX10_fate_8 : decode cX10_fate 8 = .ok (.iconst 0, 1) := by decide +kernel
theorem dX10_fate_9 : decode cX10_fate 9 = .ok (.aload_n 0, 1) := by decide +kernel
theorem dX10_fate_10 : decode cX10_fate 10 = .ok (.getfield 209, 3) := by decide +kernel
theorem dX10_fate_13 : decode cX10_fate 13 = .ok (.iconst 1, 1) := by decide +kernel
theorem dX10_fate_14 : decode cX10_fate 14 = .ok (.isub, 1) := by decide +kernel
theorem dX10_fate_15 : decode cX10_fate 15 = .ok (.invokestatic 123, 3) := by decide +kernel
theorem dX10_fate_18 : decode cX10_fate 18 = .ok (.ifCond .eq 12, 3) := by decide +kernel
theorem dX10_fate_21 : decode cX10_fate 21 = .ok (.iload_n 2, 1) := by decide +kernel
theorem dX10_fate_22 : decode cX10_fate 22 = .ok (.iconst 0, 1) := by decide +kernel
theorem dX10_fate_23 : decode cX10_fate 23 = .ok (.iconst 2, 1) := by decide +kernel
theorem dX10_fate_24 : decode cX10_fate 24 = .ok (.invokestatic 123, 3) := by decide +kernel
theorem dX10_fate_27 : decode cX10_fate 27 = .ok (.ifCond .ne 5, 3) := by decide +kernel
theorem dX10_fate_30 : decode cX10_fate 30 = .ok (.iconst (-1), 1) := by decide +kernel
theorem dX10_fate_31 : decode cX10_fate 31 = .ok (.ireturn, 1) := by decide +kernel
theorem dX10_fate_32 : decode cX10_fate 32 = .ok (.iload_n 2, 1) := by decide +kernel
theorem dX10_fate_33 : decode cX10_fate 33 = .ok (.ifCond .ne 12, 3) := by decide +kernel
theorem dX10_fate_36 : decode cX10_fate 36 = .ok (.aload_n 0, 1) := by decide +kernel
theorem dX10_fate_37 : decode cX10_fate 37 = .ok (.getfield 99, 3) := by decide +kernel
theorem dX10_fate_40 : decode cX10_fate 40 = .ok (.iload_n 1, 1) := by decide +kernel
theorem dX10_fate_41 : decode cX10_fate 41 = .ok (.iaload, 1) := by decide +kernel
theorem dX10_fate_42 : decode cX10_fate 42 = .ok (.goto 23, 3) := by decide +kernel
theorem dX10_fate_45 : decode cX10_fate 45 = .ok (.iload_n 2, 1) := by decide +kernel
theorem dX10_fate_46 : decode cX10_fate 46 = .ok (.iconst 1, 1) := by decide +kernel
theorem dX10_fate_47 : decode cX10_fate 47 = .ok (.if_icmp .ne 12, 3) := by decide +kernel
theorem dX10_fate_50 : decode cX10_fate 50 = .ok (.aload_n 0, 1) := by decide +kernel
theorem dX10_fate_51 : decode cX10_fate 51 = .ok (.getfield 102, 3) := by decide +kernel
theorem dX10_fate_54 : decode cX10_fate 54 = .ok (.iload_n 1, 1) := by decide +kernel
theorem dX10_fate_55 : decode cX10_fate 55 = .ok (.iaload, 1) := by decide +kernel
theorem dX10_fate_56 : decode cX10_fate 56 = .ok (.goto 9, 3) := by decide +kernel
theorem dX10_fate_59 : decode cX10_fate 59 = .ok (.aload_n 0, 1) := by decide +kernel
theorem dX10_fate_60 : decode cX10_fate 60 = .ok (.getfield 105, 3) := by decide +kernel
theorem dX10_fate_63 : decode cX10_fate 63 = .ok (.iload_n 1, 1) := by decide +kernel
theorem dX10_fate_64 : decode cX10_fate 64 = .ok (.iaload, 1) := by decide +kernel
theorem dX10_fate_65 : decode cX10_fate 65 = .ok (.ireturn, 1) := by decide +kernel
theorem dX10_sum_0 : decode cX10_sum 0 = .ok (.aload_n 0, 1) := by decide +kernel
theorem dX10_sum_1 : decode cX10_sum 1 = .ok (.getfield 206, 3) := by decide +kernel
theorem dX10_sum_4 : decode cX10_sum 4 = .ok (.ifCond .eq 25, 3) := by decide +kernel
theorem dX10_sum_7 : decode cX10_sum 7 = .ok (.iload_n 1, 1) := by decide +kernel
theorem dX10_sum_8 : decode cX10_sum 8 = .ok (.iconst (-1), 1) := by decide +kernel
theorem dX10_sum_9 : decode cX10_sum 9 = .ok (.if_icmp .eq 11, 3) := by decide +kernel
theorem dX10_sum_12 : decode cX10_sum 12 = .ok (.aload_n 0, 1) := by decide +kernel
theorem dX10_sum_13 : decode cX10_sum 13 = .ok (.iload_n 1, 1) := by decide +kernel
theorem dX10_sum_14 : decode cX10_sum 14 = .ok (.invokevirtual 131, 3) := by decide +kernel
theorem dX10_sum_17 : decode cX10_sum 17 = .ok (.ifCond .eq 12, 3) := by decide +kernel
theorem dX10_sum_20 : decode cX10_sum 20 = .ok (.iload_n 2, 1) := by decide +kernel
theorem dX10_sum_21 : decode cX10_sum 21 = .ok (.iconst 0, 1) := by decide +kernel
theorem dX10_sum_22 : decode cX10_sum 22 = .ok (.iconst 4, 1) := by decide +kernel
theorem dX10_sum_23 : decode cX10_sum 23 = .ok (.invokestatic 123, 3) := by decide +kernel
theorem dX10_sum_26 : decode cX10_sum 26 = .ok (.ifCond .ne 5, 3) := by decide +kernel
theorem dX10_sum_29 : decode cX10_sum 29 = .ok (.iconst (-1), 1) := by decide +kernel
theorem dX10_sum_30 : decode cX10_sum 30 = .ok (.ireturn, 1) := by decide +kernel
theorem dX10_sum_31 : decode cX10_sum 31 = .ok (.iload_n 2, 1) := by decide +kernel
theorem dX10_sum_32 : decode cX10_sum 32 = .ok (.iconst 4, 1) := by decide +kernel
theorem dX10_sum_33 : decode cX10_sum 33 = .ok (.if_icmp .ne 19, 3) := by decide +kernel
theorem dX10_sum_36 : decode cX10_sum 36 = .ok (.aload_n 0, 1) := by decide +kernel
theorem dX10_sum_37 : decode cX10_sum 37 = .ok (.getfield 111, 3) := by decide +kernel
theorem dX10_sum_40 : decode cX10_sum 40 = .ok (.iload_n 1, 1) := by decide +kernel
theorem dX10_sum_41 : decode cX10_sum 41 = .ok (.iconst (-1), 1) := by decide +kernel
theorem dX10_sum_42 : decode cX10_sum 42 = .ok (.if_icmp .ne 7, 3) := by decide +kernel
theorem dX10_sum_45 : decode cX10_sum 45 = .ok (.iconst 4, 1) := by decide +kernel
theorem dX10_sum_46 : decode cX10_sum 46 = .ok (.goto 4, 3) := by decide +kernel
theorem dX10_sum_49 : decode cX10_sum 49 = .ok (.iload_n 1, 1) := by decide +kernel
theorem dX10_sum_50 : decode cX10_sum 50 = .ok (.iaload, 1) := by decide +kernel
theorem dX10_sum_51 : decode cX10_sum 51 = .ok (.ireturn, 1) := by decide +kernel
theorem dX10_sum_52 : decode cX10_sum 52 = .ok (.iconst 0, 1) := by decide +kernel
theorem dX10_sum_53 : decode cX10_sum 53 = .ok (.istore_n 3, 1) := by decide +kernel
theorem dX10_sum_54 : decode cX10_sum 54 = .ok (.iconst 0, 1) := by decide +kernel
theorem dX10_sum_55 : decode cX10_sum 55 = .ok (.istore 4, 2) := by decide +kernel
theorem dX10_sum_57 : decode cX10_sum 57 = .ok (.iload 4, 2) := by decide +kernel
theorem dX10_sum_59 : decode cX10_sum 59 = .ok (.aload_n 0, 1) := by decide +kernel
theorem dX10_sum_60 : decode cX10_sum 60 = .ok (.getfield 209, 3) := by decide +kernel
theorem dX10_sum_63 : decode cX10_sum 63 = .ok (.if_icmp .ge 44, 3) := by decide +kernel
theorem dX10_sum_66 : decode cX10_sum 66 = .ok (.iload_n 3, 1) := by decide +kernel
theorem dX10_sum_67 : decode cX10_sum 67 = .ok (.aload_n 0, 1) := by decide +kernel
theorem dX10_sum_68 : decode cX10_sum 68 = .ok (.getfield 99, 3) := by decide +kernel
theorem dX10_sum_71 : decode cX10_sum 71 = .ok (.iload 4, 2) := by decide +kernel
theorem dX10_sum_73 : decode cX10_sum 73 = .ok (.iaload, 1) := by decide +kernel
theorem dX10_sum_74 : decode cX10_sum 74 = .ok (.iload_n 2, 1) := by decide +kernel
theorem dX10_sum_75 : decode cX10_sum 75 = .ok (.if_icmp .ne 23, 3) := by decide +kernel
theorem dX10_sum_78 : decode cX10_sum 78 = .ok (.iload_n 1, 1) := by decide +kernel
theorem dX10_sum_79 : decode cX10_sum 79 = .ok (.iconst (-1), 1) := by decide +kernel
theorem dX10_sum_80 : decode cX10_sum 80 = .ok (.if_icmp .eq 14, 3) := by decide +kernel
theorem dX10_sum_83 : decode cX10_sum 83 = .ok (.aload_n 0, 1) := by decide +kernel
theorem dX10_sum_84 : decode cX10_sum 84 = .ok (.getfield 108, 3) := by decide +kernel
theorem dX10_sum_87 : decode cX10_sum 87 = .ok (.iload 4, 2) := by decide +kernel
theorem dX10_sum_89 : decode cX10_sum 89 = .ok (.iaload, 1) := by decide +kernel
theorem dX10_sum_90 : decode cX10_sum 90 = .ok (.iload_n 1, 1) := by decide +kernel
theorem dX10_sum_91 : decode cX10_sum 91 = .ok (.if_icmp .ne 7, 3) := by decide +kernel
theorem dX10_sum_94 : decode cX10_sum 94 = .ok (.iconst 1, 1) := by decide +kernel
theorem dX10_sum_95 : decode cX10_sum 95 = .ok (.goto 4, 3) := by decide +kernel
theorem dX10_sum_98 : decode cX10_sum 98 = .ok (.iconst 0, 1) := by decide +kernel
theorem dX10_sum_99 : decode cX10_sum 99 = .ok (.iadd, 1) := by decide +kernel
theorem dX10_sum_100 : decode cX10_sum 100 = .ok (.istore_n 3, 1) := by decide +kernel
theorem dX10_sum_101 : decode cX10_sum 101 = .ok (.iinc 4 1, 3) := by decide +kernel
theorem dX10_sum_104 : decode cX10_sum 104 = .ok (.goto (-47), 3) := by decide +kernel
theorem dX10_sum_107 : decode cX10_sum 107 = .ok (.iload_n 3, 1) := by decide +kernel
theorem dX10_sum_108 : decode cX10_sum 108 = .ok (.ireturn, 1) := by decide +kernel
theorem dX10_length_0 : decode cX10_length 0 = .ok (.aload_n 0, 1) := by decide +kernel
theorem dX10_length_1 : decode cX10_length 1 = .ok (.getfield 206, 3) := by decide +kernel
theorem dX10_length_4 : decode cX10_length 4 = .ok (.ifCond .eq 37, 3) := by decide +kernel
theorem dX10_length_7 : decode cX10_length 7 = .ok (.aload_n 0, 1) := by decide +kernel
theorem dX10_length_8 : decode cX10_length 8 = .ok (.iload_n 1, 1) := by decide +kernel
theorem dX10_length_9 : decode cX10_length 9 = .ok (.invokevirtual 131, 3) := by decide +kernel
theorem dX10_length_12 : decode cX10_length 12 = .ok (.ifCond .eq 29, 3) := by decide +kernel
theorem dX10_length_15 : decode cX10_length 15 = .ok (.iload_n 2, 1) := by decide +kernel
theorem dX10_length_16 : decode cX10_length 16 = .ok (.iconst 0, 1) := by decide +kernel
theorem dX10_length_17 : decode cX10_length 17 = .ok (.sipush 399, 3) := by decide +kernel
theorem dX10_length_20 : decode cX10_length 20 = .ok (.invokestatic 123, 3) := by decide +kernel
theorem dX10_length_23 : decode cX10_length 23 = .ok (.ifCond .eq 18, 3) := by decide +kernel
theorem dX10_length_26 : decode cX10_length 26 = .ok (.aload_n 0, 1) := by decide +kernel
theorem dX10_length_27 : decode cX10_length 27 = .ok (.getfield 96, 3) := by decide +kernel
theorem dX10_length_30 : decode cX10_length 30 = .ok (.sipush 400, 3) := by decide +kernel
theorem dX10_length_33 : decode cX10_length 33 = .ok (.iload_n 1, 1) := by decide +kernel
theorem dX10_length_34 : decode cX10_length 34 = .ok (.imul, 1) := by decide +kernel
theorem dX10_length_35 : decode cX10_length 35 = .ok (.iload_n 2, 1) := by decide +kernel
theorem dX10_length_36 : decode cX10_length 36 = .ok (.iadd, 1) := by decide +kernel
theorem dX10_length_37 : decode cX10_length 37 = .ok (.iaload, 1) := by decide +kernel
theorem dX10_length_38 : decode cX10_length 38 = .ok (.goto 4, 3) := by decide +kernel
theorem dX10_length_41 : decode cX10_length 41 = .ok (.iconst (-1), 1) := by decide +kernel
theorem dX10_length_42 : decode cX10_length 42 = .ok (.ireturn, 1) := by decide +kernel
theorem dX10_ticks_0 : decode cX10_ticks 0 = .ok (.aload_n 0, 1) := by decide +kernel
theorem dX10_ticks_1 : decode cX10_ticks 1 = .ok (.getfield 206, 3) := by decide +kernel
theorem dX10_ticks_4 : decode cX10_ticks 4 = .ok (.ifCond .eq 10, 3) := by decide +kernel
theorem dX10_ticks_7 : decode cX10_ticks 7 = .ok (.aload_n 0, 1) := by decide +kernel
theorem dX10_ticks_8 : decode cX10_ticks 8 = .ok (.getfield 212, 3) := by decide +kernel
theorem dX10_ticks_11 : decode cX10_ticks 11 = .ok (.goto 4, 3) := by decide +kernel
theorem dX10_ticks_14 : decode cX10_ticks 14 = .ok (.iconst (-1), 1) := by decide +kernel
theorem dX10_ticks_15 : decode cX10_ticks 15 = .ok (.ireturn, 1) := by decide +kernel
theorem dX10_place_0 : decode cX10_place 0 = .ok (.iload_n 0, 1) := by decide +kernel
theorem dX10_place_1 : decode cX10_place 1 = .ok (.ifCond .ne 7, 3) := by decide +kernel
theorem dX10_place_4 : decode cX10_place 4 = .ok (.iconst 1, 1) := by decide +kernel
theorem dX10_place_5 : decode cX10_place 5 = .ok (.goto 27, 3) := by decide +kernel
theorem dX10_place_8 : decode cX10_place 8 = .ok (.iload_n 0, 1) := by decide +kernel
theorem dX10_place_9 : decode cX10_place 9 = .ok (.iconst 1, 1) := by decide +kernel
theorem dX10_place_10 : decode cX10_place 10 = .ok (.if_icmp .ne 8, 3) := by decide +kernel
theorem dX10_place_13 : decode cX10_place 13 = .ok (.bipush 13, 2) := by decide +kernel
theorem dX10_place_15 : decode cX10_place 15 = .ok (.goto 17, 3) := by decide +kernel
theorem dX10_place_18 : decode cX10_place 18 = .ok (.iload_n 0, 1) := by decide +kernel
theorem dX10_place_19 : decode cX10_place 19 = .ok (.iconst 2, 1) := by decide +kernel
theorem dX10_place_20 : decode cX10_place 20 = .ok (.if_icmp .ne 9, 3) := by decide +kernel
theorem dX10_place_23 : decode cX10_place 23 = .ok (.sipush 169, 3) := by decide +kernel
theorem dX10_place_26 : decode cX10_place 26 = .ok (.goto 6, 3) := by decide +kernel
theorem dX10_place_29 : decode cX10_place 29 = .ok (.sipush 2197, 3) := by decide +kernel
theorem dX10_place_32 : decode cX10_place 32 = .ok (.ireturn, 1) := by decide +kernel
theorem dX10_lengthIn_0 : decode cX10_lengthIn 0 = .ok (.iload_n 0, 1) := by decide +kernel
theorem dX10_lengthIn_1 : decode cX10_lengthIn 1 = .ok (.iload_n 1, 1) := by decide +kernel
theorem dX10_lengthIn_2 : decode cX10_lengthIn 2 = .ok (.invokestatic 218, 3) := by decide +kernel
theorem dX10_lengthIn_5 : decode cX10_lengthIn 5 = .ok (.idiv, 1) := by decide +kernel
theorem dX10_lengthIn_6 : decode cX10_lengthIn 6 = .ok (.bipush 13, 2) := by decide +kernel
theorem dX10_lengthIn_8 : decode cX10_lengthIn 8 = .ok (.irem, 1) := by decide +kernel
theorem dX10_lengthIn_9 : decode cX10_lengthIn 9 = .ok (.ireturn, 1) := by decide +kernel
theorem dX10_allIn_0 : decode cX10_allIn 0 = .ok (.iload_n 0, 1) := by decide +kernel
theorem dX10_allIn_1 : decode cX10_allIn 1 = .ok (.bipush 13, 2) := by decide +kernel
theorem dX10_allIn_3 : decode cX10_allIn 3 = .ok (.irem, 1) := by decide +kernel
theorem dX10_allIn_4 : decode cX10_allIn 4 = .ok (.iload_n 0, 1) := by decide +kernel
theorem dX10_allIn_5 : decode cX10_allIn 5 = .ok (.bipush 13, 2) := by decide +kernel
theorem dX10_allIn_7 : decode cX10_allIn 7 = .ok (.idiv, 1) := by decide +kernel
theorem dX10_allIn_8 : decode cX10_allIn 8 = .ok (.bipush 13, 2) := by decide +kernel
theorem dX10_allIn_10 : decode cX10_allIn 10 = .ok (.irem, 1) := by decide +kernel
theorem dX10_allIn_11 : decode cX10_allIn 11 = .ok (.iadd, 1) := by decide +kernel
theorem dX10_allIn_12 : decode cX10_allIn 12 = .ok (.iload_n 0, 1) := by decide +kernel
theorem dX10_allIn_13 : decode cX10_allIn 13 = .ok (.sipush 169, 3) := by decide +kernel
theorem dX10_allIn_16 : decode cX10_allIn 16 = .ok (.idiv, 1) := by decide +kernel
theorem dX10_allIn_17 : decode cX10_allIn 17 = .ok (.bipush 13, 2) := by decide +kernel
theorem dX10_allIn_19 : decode cX10_allIn 19 = .ok (.irem, 1) := by decide +kernel
theorem dX10_allIn_20 : decode cX10_allIn 20 = .ok (.iadd, 1) := by decide +kernel
theorem dX10_allIn_21 : decode cX10_allIn 21 = .ok (.iload_n 0, 1) := by decide +kernel
theorem dX10_allIn_22 : decode cX10_allIn 22 = .ok (.sipush 2197, 3) := by decide +kernel
theorem dX10_allIn_25 : decode cX10_allIn 25 = .ok (.idiv, 1) := by decide +kernel
theorem dX10_allIn_26 : decode cX10_allIn 26 = .ok (.iadd, 1) := by decide +kernel
theorem dX10_allIn_27 : decode cX10_allIn 27 = .ok (.ireturn, 1) := by decide +kernel
theorem dX10_offer_0 : decode cX10_offer 0 = .ok (.sipush 28560, 3) := by decide +kernel
theorem dX10_offer_3 : decode cX10_offer 3 = .ok (.istore_n 2, 1) := by decide +kernel
theorem dX10_offer_4 : decode cX10_offer 4 = .ok (.iload_n 2, 1) := by decide +kernel
theorem dX10_offer_5 : decode cX10_offer 5 = .ok (.ifCond .lt 76, 3) := by decide +kernel
theorem dX10_offer_8 : decode cX10_offer 8 = .ok (.aload_n 0, 1) := by decide +kernel
theorem dX10_offer_9 : decode cX10_offer 9 = .ok (.getfield 114, 3) := by decide +kernel
theorem dX10_offer_12 : decode cX10_offer 12 = .ok (.iload_n 2, 1) := by decide +kernel
theorem dX10_offer_13 : decode cX10_offer 13 = .ok (.iaload, 1) := by decide +kernel
theorem dX10_offer_14 : decode cX10_offer 14 = .ok (.ifCond .lt 61, 3) := by decide +kernel
theorem dX10_offer_17 : decode cX10_offer 17 = .ok (.iload_n 2, 1) := by decide +kernel
theorem dX10_offer_18 : decode cX10_offer 18 = .ok (.invokestatic 221, 3) := by decide +kernel
theorem dX10_offer_21 : decode cX10_offer 21 = .ok (.aload_n 0, 1) := by decide +kernel
theorem dX10_offer_22 : decode cX10_offer 22 = .ok (.getfield 7, 3) := by decide +kernel
theorem dX10_offer_25 : decode cX10_offer 25 = .ok (.if_icmp .ge 50, 3) := by decide +kernel
theorem dX10_offer_28 : decode cX10_offer 28 = .ok (.iload_n 2, 1) := by decide +kernel
theorem dX10_offer_29 : decode cX10_offer 29 = .ok (.iload_n 1, 1) := by decide +kernel
theorem dX10_offer_30 : decode cX10_offer 30 = .ok (.invokestatic 218, 3) := by decide +kernel
theorem dX10_offer_33 : decode cX10_offer 33 = .ok (.iadd, 1) := by decide +kernel
theorem dX10_offer_34 : decode cX10_offer 34 = .ok (.istore_n 3, 1) := by decide +kernel
theorem dX10_offer_35 : decode cX10_offer 35 = .ok (.aload_n 0, 1) := by decide +kernel
theorem dX10_offer_36 : decode cX10_offer 36 = .ok (.getfield 114, 3) := by decide +kernel
theorem dX10_offer_39 : decode cX10_offer 39 = .ok (.iload_n 3, 1) := by decide +kernel
theorem dX10_offer_40 : decode cX10_offer 40 = .ok (.aload_n 0, 1) := by decide +kernel
theorem dX10_offer_41 : decode cX10_offer 41 = .ok (.getfield 114, 3) := by decide +kernel
theorem dX10_offer_44 : decode cX10_offer 44 = .ok (.iload_n 2, 1) := by decide +kernel
theorem dX10_offer_45 : decode cX10_offer 45 = .ok (.iaload, 1) := by decide +kernel
theorem dX10_offer_46 : decode cX10_offer 46 = .ok (.iconst 1, 1) := by decide +kernel
theorem dX10_offer_47 : decode cX10_offer 47 = .ok (.iadd, 1) := by decide +kernel
theorem dX10_offer_48 : decode cX10_offer 48 = .ok (.aload_n 0, 1) := by decide +kernel
theorem dX10_offer_49 : decode cX10_offer 49 = .ok (.getfield 114, 3) := by decide +kernel
theorem dX10_offer_52 : decode cX10_offer 52 = .ok (.iload_n 3, 1) := by decide +kernel
theorem dX10_offer_53 : decode cX10_offer 53 = .ok (.iaload, 1) := by decide +kernel
theorem dX10_offer_54 : decode cX10_offer 54 = .ok (.if_icmp .le 14, 3) := by decide +kernel
theorem dX10_offer_57 : decode cX10_offer 57 = .ok (.aload_n 0, 1) := by decide +kernel
theorem dX10_offer_58 : decode cX10_offer 58 = .ok (.getfield 114, 3) := by decide +kernel
theorem dX10_offer_61 : decode cX10_offer 61 = .ok (.iload_n 2, 1) := by decide +kernel
theorem dX10_offer_62 : decode cX10_offer 62 = .ok (.iaload, 1) := by decide +kernel
theorem dX10_offer_63 : decode cX10_offer 63 = .ok (.iconst 1, 1) := by decide +kernel
theorem dX10_offer_64 : decode cX10_offer 64 = .ok (.iadd, 1) := by decide +kernel
theorem dX10_offer_65 : decode cX10_offer 65 = .ok (.goto 9, 3) := by decide +kernel
theorem dX10_offer_68 : decode cX10_offer 68 = .ok (.aload_n 0, 1) := by decide +kernel
theorem dX10_offer_69 : decode cX10_offer 69 = .ok (.getfield 114, 3) := by decide +kernel
theorem dX10_offer_72 : decode cX10_offer 72 = .ok (.iload_n 3, 1) := by decide +kernel
theorem dX10_offer_73 : decode cX10_offer 73 = .ok (.iaload, 1) := by decide +kernel
theorem dX10_offer_74 : decode cX10_offer 74 = .ok (.iastore, 1) := by decide +kernel
theorem dX10_offer_75 : decode cX10_offer 75 = .ok (.iinc 2 (-1), 3) := by decide +kernel
theorem dX10_offer_78 : decode cX10_offer 78 = .ok (.goto (-74), 3) := by decide +kernel
theorem dX10_offer_81 : decode cX10_offer 81 = .ok (.return_, 1) := by decide +kernel
theorem dX10_serve_0 : decode cX10_serve 0 = .ok (.iconst 0, 1) := by decide +kernel
theorem dX10_serve_1 : decode cX10_serve 1 = .ok (.istore_n 2, 1) := by decide +kernel
theorem dX10_serve_2 : decode cX10_serve 2 = .ok (.iload_n 2, 1) := by decide +kernel
theorem dX10_serve_3 : decode cX10_serve 3 = .ok (.sipush 28561, 3) := by decide +kernel
theorem dX10_serve_6 : decode cX10_serve 6 = .ok (.if_icmp .ge 16, 3) := by decide +kernel
theorem dX10_serve_9 : decode cX10_serve 9 = .ok (.aload_n 0, 1) := by decide +kernel
theorem dX10_serve_10 : decode cX10_serve 10 = .ok (.getfield 117, 3) := by decide +kernel
theorem dX10_serve_13 : decode cX10_serve 13 = .ok (.iload_n 2, 1) := by decide +kernel
theorem dX10_serve_14 : decode cX10_serve 14 = .ok (.iconst (-1), 1) := by decide +kernel
theorem dX10_serve_15 : decode cX10_serve 15 = .ok (.iastore, 1) := by decide +kernel
theorem dX10_serve_16 : decode cX10_serve 16 = .ok (.iinc 2 1, 3) := by decide +kernel
theorem dX10_serve_19 : decode cX10_serve 19 = .ok (.goto (-17), 3) := by decide +kernel
theorem dX10_serve_22 : decode cX10_serve 22 = .ok (.iconst 0, 1) := by decide +kernel
theorem dX10_serve_23 : decode cX10_serve 23 = .ok (.istore_n 2, 1) := by decide +kernel
theorem dX10_serve_24 : decode cX10_serve 24 = .ok (.iload_n 2, 1) := by decide +kernel
theorem dX10_serve_25 : decode cX10_serve 25 = .ok (.sipush 28561, 3) := by decide +kernel
theorem dX10_serve_28 : decode cX10_serve 28 = .ok (.if_icmp .ge 109, 3) := by decide +kernel
theorem dX10_serve_31 : decode cX10_serve 31 = .ok (.aload_n 0, 1) := by decide +kernel
theorem dX10_serve_32 : decode cX10_serve 32 = .ok (.getfield 114, 3) := by decide +kernel
theorem dX10_serve_35 : decode cX10_serve 35 = .ok (.iload_n 2, 1) := by decide +kernel
theorem dX10_serve_36 : decode cX10_serve 36 = .ok (.iaload, 1) := by decide +kernel
theorem dX10_serve_37 : decode cX10_serve 37 = .ok (.ifCond .lt 94, 3) := by decide +kernel
theorem dX10_serve_40 : decode cX10_serve 40 = .ok (.iload_n 2, 1) := by decide +kernel
theorem dX10_serve_41 : decode cX10_serve 41 = .ok (.istore_n 3, 1) := by decide +kernel
theorem dX10_serve_42 : decode cX10_serve 42 = .ok (.iconst 0, 1) := by decide +kernel
theorem dX10_serve_43 : decode cX10_serve 43 = .ok (.istore 4, 2) := by decide +kernel
theorem dX10_serve_45 : decode cX10_serve 45 = .ok (.iload 4, 2) := by decide +kernel
theorem dX10_serve_47 : decode cX10_serve 47 = .ok (.aload_n 0, 1) := by decide +kernel
theorem dX10_serve_48 : decode cX10_serve 48 = .ok (.getfield 13, 3) := by decide +kernel
theorem dX10_serve_51 : decode cX10_serve 51 = .ok (.if_icmp .ge 44, 3) := by decide +kernel
theorem dX10_serve_54 : decode cX10_serve 54 = .ok (.iload_n 3, 1) := by decide +kernel
theorem dX10_serve_55 : decode cX10_serve 55 = .ok (.iload_n 2, 1) := by decide +kernel
theorem dX10_serve_56 : decode cX10_serve 56 = .ok (.iload 4, 2) := by decide +kernel
theorem dX10_serve_58 : decode cX10_serve 58 = .ok (.invokestatic 224, 3) := by decide +kernel
theorem dX10_serve_61 : decode cX10_serve 61 = .ok (.ifCond .le 25, 3) := by decide +kernel
theorem dX10_serve_64 : decode cX10_serve 64 = .ok (.iload_n 1, 1) := by decide +kernel
theorem dX10_serve_65 : decode cX10_serve 65 = .ok (.iconst 1, 1) := by decide +kernel
theorem dX10_serve_66 : decode cX10_serve 66 = .ok (.iadd, 1) := by decide +kernel
theorem dX10_serve_67 : decode cX10_serve 67 = .ok (.aload_n 0, 1) := by decide +kernel
theorem dX10_serve_68 : decode cX10_serve 68 = .ok (.getfield 23, 3) := by decide +kernel
theorem dX10_serve_71 : decode cX10_serve 71 = .ok (.iload 4, 2) := by decide +kernel
theorem dX10_serve_73 : decode cX10_serve 73 = .ok (.iaload, 1) := by decide +kernel
theorem dX10_serve_74 : decode cX10_serve 74 = .ok (.irem, 1) := by decide +kernel
theorem dX10_serve_75 : decode cX10_serve 75 = .ok (.ifCond .ne 11, 3) := by decide +kernel
theorem dX10_serve_78 : decode cX10_serve 78 = .ok (.iload 4, 2) := by decide +kernel
theorem dX10_serve_80 : decode cX10_serve 80 = .ok (.invokestatic 218, 3) := by decide +kernel
theorem dX10_serve_83 : decode cX10_serve 83 = .ok (.goto 4, 3) := by decide +kernel
theorem dX10_serve_86 : decode cX10_serve 86 = .ok (.iconst 0, 1) := by decide +kernel
theorem dX10_serve_87 : decode cX10_serve 87 = .ok (.isub, 1) := by decide +kernel
theorem dX10_serve_88 : decode cX10_serve 88 = .ok (.istore_n 3, 1) := by decide +kernel
theorem dX10_serve_89 : decode cX10_serve 89 = .ok (.iinc 4 1, 3) := by decide +kernel
theorem dX10_serve_92 : decode cX10_serve 92 = .ok (.goto (-47), 3) := by decide +kernel
theorem dX10_serve_95 : decode cX10_serve 95 = .ok (.aload_n 0, 1) := by decide +kernel
theorem dX10_serve_96 : decode cX10_serve 96 = .ok (.getfield 117, 3) := by decide +kernel
theorem dX10_serve_99 : decode cX10_serve 99 = .ok (.iload_n 3, 1) := by decide +kernel
theorem dX10_serve_100 : decode cX10_serve 100 = .ok (.aload_n 0, 1) := by decide +kernel
theorem dX10_serve_101 : decode cX10_serve 101 = .ok (.getfield 114, 3) := by decide +kernel
theorem dX10_serve_104 : decode cX10_serve 104 = .ok (.iload_n 2, 1) := by decide +kernel
theorem dX10_serve_105 : decode cX10_serve 105 = .ok (.iaload, 1) := by decide +kernel
theorem dX10_serve_106 : decode cX10_serve 106 = .ok (.aload_n 0, 1) := by decide +kernel
theorem dX10_serve_107 : decode cX10_serve 107 = .ok (.getfield 117, 3) := by decide +kernel
theorem dX10_serve_110 : decode cX10_serve 110 = .ok (.iload_n 3, 1) := by decide +kernel
theorem dX10_serve_111 : decode cX10_serve 111 = .ok (.iaload, 1) := by decide +kernel
theorem dX10_serve_112 : decode cX10_serve 112 = .ok (.if_icmp .le 12, 3) := by decide +kernel
theorem dX10_serve_115 : decode cX10_serve 115 = .ok (.aload_n 0, 1) := by decide +kernel
theorem dX10_serve_116 : decode cX10_serve 116 = .ok (.getfield 114, 3) := by decide +kernel
theorem dX10_serve_119 : decode cX10_serve 119 = .ok (.iload_n 2, 1) := by decide +kernel
theorem dX10_serve_120 : decode cX10_serve 120 = .ok (.iaload, 1) := by decide +kernel
theorem dX10_serve_121 : decode cX10_serve 121 = .ok (.goto 9, 3) := by decide +kernel
theorem dX10_serve_124 : decode cX10_serve 124 = .ok (.aload_n 0, 1) := by decide +kernel
theorem dX10_serve_125 : decode cX10_serve 125 = .ok (.getfield 117, 3) := by decide +kernel
theorem dX10_serve_128 : decode cX10_serve 128 = .ok (.iload_n 3, 1) := by decide +kernel
theorem dX10_serve_129 : decode cX10_serve 129 = .ok (.iaload, 1) := by decide +kernel
theorem dX10_serve_130 : decode cX10_serve 130 = .ok (.iastore, 1) := by decide +kernel
theorem dX10_serve_131 : decode cX10_serve 131 = .ok (.iinc 2 1, 3) := by decide +kernel
theorem dX10_serve_134 : decode cX10_serve 134 = .ok (.goto (-110), 3) := by decide +kernel
theorem dX10_serve_137 : decode cX10_serve 137 = .ok (.iconst 0, 1) := by decide +kernel
theorem dX10_serve_138 : decode cX10_serve 138 = .ok (.istore_n 2, 1) := by decide +kernel
theorem dX10_serve_139 : decode cX10_serve 139 = .ok (.iload_n 2, 1) := by decide +kernel
theorem dX10_serve_140 : decode cX10_serve 140 = .ok (.sipush 28561, 3) := by decide +kernel
theorem dX10_serve_143 : decode cX10_serve 143 = .ok (.if_icmp .ge 21, 3) := by decide +kernel
theorem dX10_serve_146 : decode cX10_serve 146 = .ok (.aload_n 0, 1) := by decide +kernel
theorem dX10_serve_147 : decode cX10_serve 147 = .ok (.getfield 114, 3) := by decide +kernel
theorem dX10_serve_150 : decode cX10_serve 150 = .ok (.iload_n 2, 1) := by decide +kernel
theorem dX10_serve_151 : decode cX10_serve 151 = .ok (.aload_n 0, 1) := by decide +kernel
theorem dX10_serve_152 : decode cX10_serve 152 = .ok (.getfield 117, 3) := by decide +kernel
theorem dX10_serve_155 : decode cX10_serve 155 = .ok (.iload_n 2, 1) := by decide +kernel
theorem dX10_serve_156 : decode cX10_serve 156 = .ok (.iaload, 1) := by decide +kernel
theorem dX10_serve_157 : decode cX10_serve 157 = .ok (.iastore, 1) := by decide +kernel
theorem dX10_serve_158 : decode cX10_serve 158 = .ok (.iinc 2 1, 3) := by decide +kernel
theorem dX10_serve_161 : decode cX10_serve 161 = .ok (.goto (-22), 3) := by decide +kernel
theorem dX10_serve_164 : decode cX10_serve 164 = .ok (.return_, 1) := by decide +kernel
theorem dX10_best_0 : decode cX10_best 0 = .ok (.iload_n 1, 1) := by decide +kernel
theorem dX10_best_1 : decode cX10_best 1 = .ok (.invokestatic 141, 3) := by decide +kernel
theorem dX10_best_4 : decode cX10_best 4 = .ok (.ifCond .ne 5, 3) := by decide +kernel
theorem dX10_best_7 : decode cX10_best 7 = .ok (.iconst (-1), 1) := by decide +kernel
theorem dX10_best_8 : decode cX10_best 8 = .ok (.ireturn, 1) := by decide +kernel
theorem dX10_best_9 : decode cX10_best 9 = .ok (.iconst 0, 1) := by decide +kernel
theorem dX10_best_10 : decode cX10_best 10 = .ok (.istore_n 2, 1) := by decide +kernel
theorem dX10_best_11 : decode cX10_best 11 = .ok (.iload_n 2, 1) := by decide +kernel
theorem dX10_best_12 : decode cX10_best 12 = .ok (.sipush 28561, 3) := by decide +kernel
theorem dX10_best_15 : decode cX10_best 15 = .ok (.if_icmp .ge 24, 3) := by decide +kernel
theorem dX10_best_18 : decode cX10_best 18 = .ok (.aload_n 0, 1) := by decide +kernel
theorem dX10_best_19 : decode cX10_best 19 = .ok (.getfield 114, 3) := by decide +kernel
theorem dX10_best_22 : decode cX10_best 22 = .ok (.iload_n 2, 1) := by decide +kernel
theorem dX10_best_23 : decode cX10_best 23 = .ok (.iload_n 2, 1) := by decide +kernel
theorem dX10_best_24 : decode cX10_best 24 = .ok (.ifCond .ne 7, 3) := by decide +kernel
theorem dX10_best_27 : decode cX10_best 27 = .ok (.iconst 0, 1) := by decide +kernel
theorem dX10_best_28 : decode cX10_best 28 = .ok (.goto 4, 3) := by decide +kernel
theorem dX10_best_31 : decode cX10_best 31 = .ok (.iconst (-1), 1) := by decide +kernel
theorem dX10_best_32 : decode cX10_best 32 = .ok (.iastore, 1) := by decide +kernel
theorem dX10_best_33 : decode cX10_best 33 = .ok (.iinc 2 1, 3) := by decide +kernel
theorem dX10_best_36 : decode cX10_best 36 = .ok (.goto (-25), 3) := by decide +kernel
theorem dX10_best_39 : decode cX10_best 39 = .ok (.iconst 0, 1) := by decide +kernel
theorem dX10_best_40 : decode cX10_best 40 = .ok (.istore_n 2, 1) := by decide +kernel
theorem dX10_best_41 : decode cX10_best 41 = .ok (.iconst 0, 1) := by decide +kernel
theorem dX10_best_42 : decode cX10_best 42 = .ok (.istore_n 3, 1) := by decide +kernel
theorem dX10_best_43 : decode cX10_best 43 = .ok (.iload_n 3, 1) := by decide +kernel
theorem dX10_best_44 : decode cX10_best 44 = .ok (.bipush 40, 2) := by decide +kernel
theorem dX10_best_46 : decode cX10_best 46 = .ok (.if_icmp .ge 70, 3) := by decide +kernel
theorem dX10_best_49 : decode cX10_best 49 = .ok (.iload_n 2, 1) := by decide +kernel
theorem dX10_best_50 : decode cX10_best 50 = .ok (.aload_n 0, 1) := by decide +kernel
theorem dX10_best_51 : decode cX10_best 51 = .ok (.getfield 53, 3) := by decide +kernel
theorem dX10_best_54 : decode cX10_best 54 = .ok (.iload_n 1, 1) := by decide +kernel
theorem dX10_best_55 : decode cX10_best 55 = .ok (.iaload, 1) := by decide +kernel
theorem dX10_best_56 : decode cX10_best 56 = .ok (.if_icmp .ge 60, 3) := by decide +kernel
theorem dX10_best_59 : decode cX10_best 59 = .ok (.iload_n 2, 1) := by decide +kernel
theorem dX10_best_60 : decode cX10_best 60 = .ok (.aload_n 0, 1) := by decide +kernel
theorem dX10_best_61 : decode cX10_best 61 = .ok (.getfield 53, 3) := by decide +kernel
theorem dX10_best_64 : decode cX10_best 64 = .ok (.iload_n 1, 1) := by decide +kernel
theorem dX10_best_65 : decode cX10_best 65 = .ok (.iaload, 1) := by decide +kernel
theorem dX10_best_66 : decode cX10_best 66 = .ok (.if_icmp .ge 39, 3) := by decide +kernel
theorem dX10_best_69 : decode cX10_best 69 = .ok (.aload_n 0, 1) := by decide +kernel
theorem dX10_best_70 : decode cX10_best 70 = .ok (.getfield 56, 3) := by decide +kernel
theorem dX10_best_73 : decode cX10_best 73 = .ok (.bipush 80, 2) := by decide +kernel
theorem dX10_best_75 : decode cX10_best 75 = .ok (.iload_n 1, 1) := by decide +kernel
theorem dX10_best_76 : decode cX10_best 76 = .ok (.imul, 1) := by decide +kernel
theorem dX10_best_77 : decode cX10_best 77 = .ok (.iload_n 2, 1) := by decide +kernel
theorem dX10_best_78 : decode cX10_best 78 = .ok (.iadd, 1) := by decide +kernel
theorem dX10_best_79 : decode cX10_best 79 = .ok (.iaload, 1) := by decide +kernel
theorem dX10_best_80 : decode cX10_best 80 = .ok (.iload_n 3, 1) := by decide +kernel
theorem dX10_best_81 : decode cX10_best 81 = .ok (.if_icmp .ne 24, 3) := by decide +kernel
theorem dX10_best_84 : decode cX10_best 84 = .ok (.aload_n 0, 1) := by decide +kernel
theorem dX10_best_85 : decode cX10_best 85 = .ok (.aload_n 0, 1) := by decide +kernel
theorem dX10_best_86 : decode cX10_best 86 = .ok (.getfield 59, 3) := by decide +kernel
theorem dX10_best_89 : decode cX10_best 89 = .ok (.bipush 80, 2) := by decide +kernel
theorem dX10_best_91 : decode cX10_best 91 = .ok (.iload_n 1, 1) := by decide +kernel
theorem dX10_best_92 : decode cX10_best 92 = .ok (.imul, 1) := by decide +kernel
theorem dX10_best_93 : decode cX10_best 93 = .ok (.iload_n 2, 1) := by decide +kernel
theorem dX10_best_94 : decode cX10_best 94 = .ok (.iadd, 1) := by decide +kernel
theorem dX10_best_95 : decode cX10_best 95 = .ok (.iaload, 1) := by decide +kernel
theorem dX10_best_96 : decode cX10_best 96 = .ok (.invokevirtual 228, 3) := by decide +kernel
theorem dX10_best_99 : decode cX10_best 99 = .ok (.iinc 2 1, 3) := by decide +kernel
theorem dX10_best_102 : decode cX10_best 102 = .ok (.goto (-43), 3) := by decide +kernel
theorem dX10_best_105 : decode cX10_best 105 = .ok (.aload_n 0, 1) := by decide +kernel
theorem dX10_best_106 : decode cX10_best 106 = .ok (.iload_n 3, 1) := by decide +kernel
theorem dX10_best_107 : decode cX10_best 107 = .ok (.invokevirtual 231, 3) := by decide +kernel
theorem dX10_best_110 : decode cX10_best 110 = .ok (.iinc 3 1, 3) := by decide +kernel
theorem dX10_best_113 : decode cX10_best 113 = .ok (.goto (-70), 3) := by decide +kernel
theorem dX10_best_116 : decode cX10_best 116 = .ok (.iconst 0, 1) := by decide +kernel
theorem dX10_best_117 : decode cX10_best 117 = .ok (.istore_n 3, 1) := by decide +kernel
theorem dX10_best_118 : decode cX10_best 118 = .ok (.iconst 0, 1) := by decide +kernel
theorem dX10_best_119 : decode cX10_best 119 = .ok (.istore 4, 2) := by decide +kernel
theorem dX10_best_121 : decode cX10_best 121 = .ok (.iload 4, 2) := by decide +kernel
theorem dX10_best_123 : decode cX10_best 123 = .ok (.sipush 28561, 3) := by decide +kernel
theorem dX10_best_126 : decode cX10_best 126 = .ok (.if_icmp .ge 32, 3) := by decide +kernel
theorem dX10_best_129 : decode cX10_best 129 = .ok (.aload_n 0, 1) := by decide +kernel
theorem dX10_best_130 : decode cX10_best 130 = .ok (.getfield 114, 3) := by decide +kernel
theorem dX10_best_133 : decode cX10_best 133 = .ok (.iload 4, 2) := by decide +kernel
theorem dX10_best_135 : decode cX10_best 135 = .ok (.iaload, 1) := by decide +kernel
theorem dX10_best_136 : decode cX10_best 136 = .ok (.iload_n 3, 1) := by decide +kernel
theorem dX10_best_137 : decode cX10_best 137 = .ok (.if_icmp .le 13, 3) := by decide +kernel
theorem dX10_best_140 : decode cX10_best 140 = .ok (.aload_n 0, 1) := by decide +kernel
theorem dX10_best_141 : decode cX10_best 141 = .ok (.getfield 114, 3) := by decide +kernel
theorem dX10_best_144 : decode cX10_best 144 = .ok (.iload 4, 2) := by decide +kernel
theorem dX10_best_146 : decode cX10_best 146 = .ok (.iaload, 1) := by decide +kernel
theorem dX10_best_147 : decode cX10_best 147 = .ok (.goto 4, 3) := by decide +kernel
theorem dX10_best_150 : decode cX10_best 150 = .ok (.iload_n 3, 1) := by decide +kernel
theorem dX10_best_151 : decode cX10_best 151 = .ok (.istore_n 3, 1) := by decide +kernel
theorem dX10_best_152 : decode cX10_best 152 = .ok (.iinc 4 1, 3) := by decide +kernel
theorem dX10_best_155 : decode cX10_best 155 = .ok (.goto (-34), 3) := by decide +kernel
theorem dX10_best_158 : decode cX10_best 158 = .ok (.iload_n 3, 1) := by decide +kernel
theorem dX10_best_159 : decode cX10_best 159 = .ok (.ireturn, 1) := by decide +kernel
theorem dX10_shortBy_0 : decode cX10_shortBy 0 = .ok (.iload_n 1, 1) := by decide +kernel
theorem dX10_shortBy_1 : decode cX10_shortBy 1 = .ok (.invokestatic 141, 3) := by decide +kernel
theorem dX10_shortBy_4 : decode cX10_shortBy 4 = .ok (.ifCond .eq 12, 3) := by decide +kernel
theorem dX10_shortBy_7 : decode cX10_shortBy 7 = .ok (.iload_n 2, 1) := by decide +kernel
theorem dX10_shortBy_8 : decode cX10_shortBy 8 = .ok (.iconst 0, 1) := by decide +kernel
theorem dX10_shortBy_9 : decode cX10_shortBy 9 = .ok (.iconst 2, 1) := by decide +kernel
theorem dX10_shortBy_10 : decode cX10_shortBy 10 = .ok (.invokestatic 123, 3) := by decide +kernel
theorem dX10_shortBy_13 : decode cX10_shortBy 13 = .ok (.ifCond .ne 5, 3) := by decide +kernel
theorem dX10_shortBy_16 : decode cX10_shortBy 16 = .ok (.iconst (-1), 1) := by decide +kernel
theorem dX10_shortBy_17 : decode cX10_shortBy 17 = .ok (.ireturn, 1) := by decide +kernel
theorem dX10_shortBy_18 : decode cX10_shortBy 18 = .ok (.aload_n 0, 1) := by decide +kernel
theorem dX10_shortBy_19 : decode cX10_shortBy 19 = .ok (.iload_n 1, 1) := by decide +kernel
theorem dX10_shortBy_20 : decode cX10_shortBy 20 = .ok (.invokevirtual 234, 3) := by decide +kernel
theorem dX10_shortBy_23 : decode cX10_shortBy 23 = .ok (.istore_n 3, 1) := by decide +kernel
theorem dX10_shortBy_24 : decode cX10_shortBy 24 = .ok (.aload_n 0, 1) := by decide +kernel
theorem dX10_shortBy_25 : decode cX10_shortBy 25 = .ok (.iload_n 1, 1) := by decide +kernel
theorem dX10_shortBy_26 : decode cX10_shortBy 26 = .ok (.iload_n 2, 1) := by decide +kernel
theorem dX10_shortBy_27 : decode cX10_shortBy 27 = .ok (.aload_n 0, 1) := by decide +kernel
theorem dX10_shortBy_28 : decode cX10_shortBy 28 = .ok (.getfield 38, 3) := by decide +kernel
theorem dX10_shortBy_31 : decode cX10_shortBy 31 = .ok (.iconst 1, 1) := by decide +kernel
theorem dX10_shortBy_32 : decode cX10_shortBy 32 = .ok (.iconst 0, 1) := by decide +kernel
theorem dX10_shortBy_33 : decode cX10_shortBy 33 = .ok (.invokevirtual 202, 3) := by decide +kernel
theorem dX10_shortBy_36 : decode cX10_shortBy 36 = .ok (.iload_n 3, 1) := by decide +kernel
theorem dX10_shortBy_37 : decode cX10_shortBy 37 = .ok (.aload_n 0, 1) := by decide +kernel
theorem dX10_shortBy_38 : decode cX10_shortBy 38 = .ok (.invokevirtual 215, 3) := by decide +kernel
theorem dX10_shortBy_41 : decode cX10_shortBy 41 = .ok (.isub, 1) := by decide +kernel
theorem dX10_shortBy_42 : decode cX10_shortBy 42 = .ok (.ireturn, 1) := by decide +kernel
theorem dX10_pass_0 : decode cX10_pass 0 = .ok (.iload_n 1, 1) := by decide +kernel
theorem dX10_pass_1 : decode cX10_pass 1 = .ok (.invokestatic 141, 3) := by decide +kernel
theorem dX10_pass_4 : decode cX10_pass 4 = .ok (.ifCond .ne 5, 3) := by decide +kernel
theorem dX10_pass_7 : decode cX10_pass 7 = .ok (.iconst (-1), 1) := by decide +kernel
theorem dX10_pass_8 : decode cX10_pass 8 = .ok (.ireturn, 1) := by decide +kernel
theorem dX10_pass_9 : decode cX10_pass 9 = .ok (.aload_n 0, 1) := by decide +kernel
theorem dX10_pass_10 : decode cX10_pass 10 = .ok (.getfield 62, 3) := by decide +kernel
theorem dX10_pass_13 : decode cX10_pass 13 = .ok (.iload_n 1, 1) := by decide +kernel
theorem dX10_pass_14 : decode cX10_pass 14 = .ok (.iload_n 2, 1) := by decide +kernel
theorem dX10_pass_15 : decode cX10_pass 15 = .ok (.bastore, 1) := by decide +kernel
theorem dX10_pass_16 : decode cX10_pass 16 = .ok (.iconst 0, 1) := by decide +kernel
theorem dX10_pass_17 : decode cX10_pass 17 = .ok (.istore_n 3, 1) := by decide +kernel
theorem dX10_pass_18 : decode cX10_pass 18 = .ok (.iconst 0, 1) := by decide +kernel
theorem dX10_pass_19 : decode cX10_pass 19 = .ok (.istore 4, 2) := by decide +kernel
