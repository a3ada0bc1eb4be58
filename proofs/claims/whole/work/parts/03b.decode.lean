theorem dX11_init_0 : decode cX11_init 0 = .ok (.aload_n 0, 1) := by decide +kernel
theorem dX11_init_1 : decode cX11_init 1 = .ok (.invokespecial 1, 3) := by decide +kernel
theorem dX11_init_4 : decode cX11_init 4 = .ok (.aload_n 0, 1) := by decide +kernel
theorem dX11_init_5 : decode cX11_init 5 = .ok (.bipush 7, 2) := by decide +kernel
theorem dX11_init_7 : decode cX11_init 7 = .ok (.anewarray 9, 3) := by decide +kernel
theorem dX11_init_10 : decode cX11_init 10 = .ok (.putfield 11, 3) := by decide +kernel
theorem dX11_init_13 : decode cX11_init 13 = .ok (.aload_n 0, 1) := by decide +kernel
theorem dX11_init_14 : decode cX11_init 14 = .ok (.iconst 0, 1) := by decide +kernel
theorem dX11_init_15 : decode cX11_init 15 = .ok (.putfield 15, 3) := by decide +kernel
theorem dX11_init_18 : decode cX11_init 18 = .ok (.aload_n 0, 1) := by decide +kernel
theorem dX11_init_19 : decode cX11_init 19 = .ok (.bipush 7, 2) := by decide +kernel
theorem dX11_init_21 : decode cX11_init 21 = .ok (.newarray .int, 2) := by decide +kernel
theorem dX11_init_23 : decode cX11_init 23 = .ok (.putfield 19, 3) := by decide +kernel
theorem dX11_init_26 : decode cX11_init 26 = .ok (.aload_n 0, 1) := by decide +kernel
theorem dX11_init_27 : decode cX11_init 27 = .ok (.getstatic 23, 3) := by decide +kernel
theorem dX11_init_30 : decode cX11_init 30 = .ok (.invokevirtual 26, 3) := by decide +kernel
theorem dX11_init_33 : decode cX11_init 33 = .ok (.checkcast 27, 3) := by decide +kernel
theorem dX11_init_36 : decode cX11_init 36 = .ok (.putfield 31, 3) := by decide +kernel
theorem dX11_init_39 : decode cX11_init 39 = .ok (.aload_n 0, 1) := by decide +kernel
theorem dX11_init_40 : decode cX11_init 40 = .ok (.new 34, 3) := by decide +kernel
theorem dX11_init_43 : decode cX11_init 43 = .ok (.dup, 1) := by decide +kernel
theorem dX11_init_44 : decode cX11_init 44 = .ok (.invokespecial 36, 3) := by decide +kernel
theorem dX11_init_47 : decode cX11_init 47 = .ok (.putfield 37, 3) := by decide +kernel
theorem dX11_init_50 : decode cX11_init 50 = .ok (.aload_n 0, 1) := by decide +kernel
theorem dX11_init_51 : decode cX11_init 51 = .ok (.bipush 6, 2) := by decide +kernel
theorem dX11_init_53 : decode cX11_init 53 = .ok (.anewarray 41, 3) := by decide +kernel
theorem dX11_init_56 : decode cX11_init 56 = .ok (.putfield 43, 3) := by decide +kernel
theorem dX11_init_59 : decode cX11_init 59 = .ok (.aload_n 0, 1) := by decide +kernel
theorem dX11_init_60 : decode cX11_init 60 = .ok (.iconst 0, 1) := by decide +kernel
theorem dX11_init_61 : decode cX11_init 61 = .ok (.putfield 47, 3) := by decide +kernel
theorem dX11_init_64 : decode cX11_init 64 = .ok (.aload_n 0, 1) := by decide +kernel
theorem dX11_init_65 : decode cX11_init 65 = .ok (.iconst 0, 1) := by decide +kernel
theorem dX11_init_66 : decode cX11_init 66 = .ok (.putfield 50, 3) := by decide +kernel
theorem dX11_init_69 : decode cX11_init 69 = .ok (.aload_n 0, 1) := by decide +kernel
theorem dX11_init_70 : decode cX11_init 70 = .ok (.iconst 4, 1) := by decide +kernel
theorem dX11_init_71 : decode cX11_init 71 = .ok (.anewarray 53, 3) := by decide +kernel
theorem dX11_init_74 : decode cX11_init 74 = .ok (.putfield 55, 3) := by decide +kernel
theorem dX11_init_77 : decode cX11_init 77 = .ok (.aload_n 0, 1) := by decide +kernel
theorem dX11_init_78 : decode cX11_init 78 = .ok (.new 59, 3) := by decide +kernel
theorem dX11_init_81 : decode cX11_init 81 = .ok (.dup, 1) := by decide +kernel
theorem dX11_init_82 : decode cX11_init 82 = .ok (.invokespecial 61, 3) := by decide +kernel
theorem dX11_init_85 : decode cX11_init 85 = .ok (.putfield 62, 3) := by decide +kernel
theorem dX11_init_88 : decode cX11_init 88 = .ok (.aload_n 0, 1) := by decide +kernel
theorem dX11_init_89 : decode cX11_init 89 = .ok (.bipush 7, 2) := by decide +kernel
theorem dX11_init_91 : decode cX11_init 91 = .ok (.newarray .int, 2) := by decide +kernel
theorem dX11_init_93 : decode cX11_init 93 = .ok (.putfield 66, 3) := by decide +kernel
theorem dX11_init_96 : decode cX11_init 96 = .ok (.aload_n 0, 1) := by decide +kernel
theorem dX11_init_97 : decode cX11_init 97 = .ok (.bipush 7, 2) := by decide +kernel
theorem dX11_init_99 : decode cX11_init 99 = .ok (.newarray .int, 2) := by decide +kernel
theorem dX11_init_101 : decode cX11_init 101 = .ok (.putfield 69, 3) := by decide +kernel
theorem dX11_init_104 : decode cX11_init 104 = .ok (.aload_n 0, 1) := by decide +kernel
theorem dX11_init_105 : decode cX11_init 105 = .ok (.new 72, 3) := by decide +kernel
theorem dX11_init_108 : decode cX11_init 108 = .ok (.dup, 1) := by decide +kernel
theorem dX11_init_109 : decode cX11_init 109 = .ok (.iconst 0, 1) := by decide +kernel
theorem dX11_init_110 : decode cX11_init 110 = .ok (.invokespecial 74, 3) := by decide +kernel
theorem dX11_init_113 : decode cX11_init 113 = .ok (.putfield 77, 3) := by decide +kernel
theorem dX11_init_116 : decode cX11_init 116 = .ok (.aload_n 0, 1) := by decide +kernel
theorem dX11_init_117 : decode cX11_init 117 = .ok (.new 72, 3) := by decide +kernel
theorem dX11_init_120 : decode cX11_init 120 = .ok (.dup, 1) := by decide +kernel
theorem dX11_init_121 : decode cX11_init 121 = .ok (.iconst 1, 1) := by decide +kernel
theorem dX11_init_122 : decode cX11_init 122 = .ok (.invokespecial 74, 3) := by decide +kernel
theorem dX11_init_125 : decode cX11_init 125 = .ok (.putfield 81, 3) := by decide +kernel
theorem dX11_init_128 : decode cX11_init 128 = .ok (.aload_n 0, 1) := by decide +kernel
theorem dX11_init_129 : decode cX11_init 129 = .ok (.iconst (-1), 1) := by decide +kernel
theorem dX11_init_130 : decode cX11_init 130 = .ok (.putfield 84, 3) := by decide +kernel
theorem dX11_init_133 : decode cX11_init 133 = .ok (.aload_n 0, 1) := by decide +kernel
theorem dX11_init_134 : decode cX11_init 134 = .ok (.iconst 0, 1) := by decide +kernel
theorem dX11_init_135 : decode cX11_init 135 = .ok (.putfield 87, 3) := by decide +kernel
theorem dX11_init_138 : decode cX11_init 138 = .ok (.aload_n 0, 1) := by decide +kernel
theorem dX11_init_139 : decode cX11_init 139 = .ok (.bipush 7, 2) := by decide +kernel
theorem dX11_init_141 : decode cX11_init 141 = .ok (.newarray .int, 2) := by decide +kernel
theorem dX11_init_143 : decode cX11_init 143 = .ok (.putfield 90, 3) := by decide +kernel
theorem dX11_init_146 : decode cX11_init 146 = .ok (.aload_n 0, 1) := by decide +kernel
theorem dX11_init_147 : decode cX11_init 147 = .ok (.bipush 10, 2) := by decide +kernel
theorem dX11_init_149 : decode cX11_init 149 = .ok (.newarray .int, 2) := by decide +kernel
theorem dX11_init_151 : decode cX11_init 151 = .ok (.putfield 93, 3) := by decide +kernel
theorem dX11_init_154 : decode cX11_init 154 = .ok (.aload_n 0, 1) := by decide +kernel
theorem dX11_init_155 : decode cX11_init 155 = .ok (.bipush 28, 2) := by decide +kernel
theorem dX11_init_157 : decode cX11_init 157 = .ok (.newarray .int, 2) := by decide +kernel
theorem dX11_init_159 : decode cX11_init 159 = .ok (.putfield 96, 3) := by decide +kernel
theorem dX11_init_162 : decode cX11_init 162 = .ok (.iconst 0, 1) := by decide +kernel
theorem dX11_init_163 : decode cX11_init 163 = .ok (.istore_n 1, 1) := by decide +kernel
theorem dX11_init_164 : decode cX11_init 164 = .ok (.iload_n 1, 1) := by decide +kernel
theorem dX11_init_165 : decode cX11_init 165 = .ok (.iconst 4, 1) := by decide +kernel
theorem dX11_init_166 : decode cX11_init 166 = .ok (.if_icmp .ge 22, 3) := by decide +kernel
theorem dX11_init_169 : decode cX11_init 169 = .ok (.aload_n 0, 1) := by decide +kernel
theorem dX11_init_170 : decode cX11_init 170 = .ok (.getfield 55, 3) := by decide +kernel
theorem dX11_init_173 : decode cX11_init 173 = .ok (.iload_n 1, 1) := by decide +kernel
theorem dX11_init_174 : decode cX11_init 174 = .ok (.new 53, 3) := by decide +kernel
theorem dX11_init_177 : decode cX11_init 177 = .ok (.dup, 1) := by decide +kernel
theorem dX11_init_178 : decode cX11_init 178 = .ok (.invokespecial 99, 3) := by decide +kernel
theorem dX11_init_181 : decode cX11_init 181 = .ok (.aastore, 1) := by decide +kernel
theorem dX11_init_182 : decode cX11_init 182 = .ok (.iinc 1 1, 3) := by decide +kernel
theorem dX11_init_185 : decode cX11_init 185 = .ok (.goto (-21), 3) := by decide +kernel
theorem dX11_init_188 : decode cX11_init 188 = .ok (.iconst 0, 1) := by decide +kernel
theorem dX11_init_189 : decode cX11_init 189 = .ok (.istore_n 1, 1) := by decide +kernel
theorem dX11_init_190 : decode cX11_init 190 = .ok (.iload_n 1, 1) := by decide +kernel
theorem dX11_init_191 : decode cX11_init 191 = .ok (.ldc 100, 2) := by decide +kernel
theorem dX11_init_193 : decode cX11_init 193 = .ok (.invokevirtual 102, 3) := by decide +kernel
theorem dX11_init_196 : decode cX11_init 196 = .ok (.if_icmp .ge 22, 3) := by decide +kernel
theorem dX11_init_199 : decode cX11_init 199 = .ok (.aload_n 0, 1) := by decide +kernel
theorem dX11_init_200 : decode cX11_init 200 = .ok (.getfield 37, 3) := by decide +kernel
theorem dX11_init_203 : decode cX11_init 203 = .ok (.ldc 100, 2) := by decide +kernel
theorem dX11_init_205 : decode cX11_init 205 = .ok (.iload_n 1, 1) := by decide +kernel
theorem dX11_init_206 : decode cX11_init 206 = .ok (.invokevirtual 108, 3) := by decide +kernel
theorem dX11_init_209 : decode cX11_init 209 = .ok (.invokevirtual 112, 3) := by decide +kernel
theorem dX11_init_212 : decode cX11_init 212 = .ok (.iinc 1 1, 3) := by decide +kernel
theorem dX11_init_215 : decode cX11_init 215 = .ok (.goto (-25), 3) := by decide +kernel
theorem dX11_init_218 : decode cX11_init 218 = .ok (.aload_n 0, 1) := by decide +kernel
theorem dX11_init_219 : decode cX11_init 219 = .ok (.getfield 43, 3) := by decide +kernel
theorem dX11_init_222 : decode cX11_init 222 = .ok (.iconst 0, 1) := by decide +kernel
theorem dX11_init_223 : decode cX11_init 223 = .ok (.aload_n 0, 1) := by decide +kernel
theorem dX11_init_224 : decode cX11_init 224 = .ok (.getfield 37, 3) := by decide +kernel
theorem dX11_init_227 : decode cX11_init 227 = .ok (.invokevirtual 115, 3) := by decide +kernel
theorem dX11_init_230 : decode cX11_init 230 = .ok (.aastore, 1) := by decide +kernel
theorem dX11_init_231 : decode cX11_init 231 = .ok (.aload_n 0, 1) := by decide +kernel
theorem dX11_init_232 : decode cX11_init 232 = .ok (.iconst 1, 1) := by decide +kernel
theorem dX11_init_233 : decode cX11_init 233 = .ok (.putfield 47, 3) := by decide +kernel
theorem dX11_init_236 : decode cX11_init 236 = .ok (.aload_n 0, 1) := by decide +kernel
theorem dX11_init_237 : decode cX11_init 237 = .ok (.getfield 37, 3) := by decide +kernel
theorem dX11_init_240 : decode cX11_init 240 = .ok (.invokevirtual 119, 3) := by decide +kernel
theorem dX11_init_243 : decode cX11_init 243 = .ok (.return_, 1) := by decide +kernel
theorem dX11_house_0 : decode cX11_house 0 = .ok (.iload_n 1, 1) := by decide +kernel
theorem dX11_house_1 : decode cX11_house 1 = .ok (.ifCond .lt 16, 3) := by decide +kernel
theorem dX11_house_4 : decode cX11_house 4 = .ok (.iload_n 1, 1) := by decide +kernel
theorem dX11_house_5 : decode cX11_house 5 = .ok (.iconst 5, 1) := by decide +kernel
theorem dX11_house_6 : decode cX11_house 6 = .ok (.if_icmp .gt 11, 3) := by decide +kernel
theorem dX11_house_9 : decode cX11_house 9 = .ok (.iload_n 2, 1) := by decide +kernel
theorem dX11_house_10 : decode cX11_house 10 = .ok (.ifCond .lt 7, 3) := by decide +kernel
theorem dX11_house_13 : decode cX11_house 13 = .ok (.iload_n 3, 1) := by decide +kernel
theorem dX11_house_14 : decode cX11_house 14 = .ok (.ifCond .ge 6, 3) := by decide +kernel
theorem dX11_house_17 : decode cX11_house 17 = .ok (.bipush (-2), 2) := by decide +kernel
theorem dX11_house_19 : decode cX11_house 19 = .ok (.ireturn, 1) := by decide +kernel
theorem dX11_house_20 : decode cX11_house 20 = .ok (.iload_n 2, 1) := by decide +kernel
theorem dX11_house_21 : decode cX11_house 21 = .ok (.bipush 10, 2) := by decide +kernel
theorem dX11_house_23 : decode cX11_house 23 = .ok (.idiv, 1) := by decide +kernel
theorem dX11_house_24 : decode cX11_house 24 = .ok (.istore 4, 2) := by decide +kernel
theorem dX11_house_26 : decode cX11_house 26 = .ok (.iload_n 2, 1) := by decide +kernel
theorem dX11_house_27 : decode cX11_house 27 = .ok (.bipush 10, 2) := by decide +kernel
theorem dX11_house_29 : decode cX11_house 29 = .ok (.irem, 1) := by decide +kernel
theorem dX11_house_30 : decode cX11_house 30 = .ok (.istore 5, 2) := by decide +kernel
theorem dX11_house_32 : decode cX11_house 32 = .ok (.iload_n 3, 1) := by decide +kernel
theorem dX11_house_33 : decode cX11_house 33 = .ok (.bipush 10, 2) := by decide +kernel
theorem dX11_house_35 : decode cX11_house 35 = .ok (.idiv, 1) := by decide +kernel
theorem dX11_house_36 : decode cX11_house 36 = .ok (.istore 6, 2) := by decide +kernel
theorem dX11_house_38 : decode cX11_house 38 = .ok (.iload_n 3, 1) := by decide +kernel
theorem dX11_house_39 : decode cX11_house 39 = .ok (.bipush 10, 2) := by decide +kernel
theorem dX11_house_41 : decode cX11_house 41 = .ok (.irem, 1) := by decide +kernel
theorem dX11_house_42 : decode cX11_house 42 = .ok (.istore 7, 2) := by decide +kernel
theorem dX11_house_44 : decode cX11_house 44 = .ok (.iconst 0, 1) := by decide +kernel
theorem dX11_house_45 : decode cX11_house 45 = .ok (.iload 4, 2) := by decide +kernel
theorem dX11_house_47 : decode cX11_house 47 = .ok (.invokestatic 122, 3) := by decide +kernel
theorem dX11_house_50 : decode cX11_house 50 = .ok (.ifCond .eq 30, 3) := by decide +kernel
theorem dX11_house_53 : decode cX11_house 53 = .ok (.iconst 3, 1) := by decide +kernel
theorem dX11_house_54 : decode cX11_house 54 = .ok (.iload 5, 2) := by decide +kernel
theorem dX11_house_56 : decode cX11_house 56 = .ok (.invokestatic 122, 3) := by decide +kernel
theorem dX11_house_59 : decode cX11_house 59 = .ok (.ifCond .eq 21, 3) := by decide +kernel
theorem dX11_house_62 : decode cX11_house 62 = .ok (.iconst 1, 1) := by decide +kernel
theorem dX11_house_63 : decode cX11_house 63 = .ok (.iload 6, 2) := by decide +kernel
theorem dX11_house_65 : decode cX11_house 65 = .ok (.invokestatic 122, 3) := by decide +kernel
theorem dX11_house_68 : decode cX11_house 68 = .ok (.ifCond .eq 12, 3) := by decide +kernel
theorem dX11_house_71 : decode cX11_house 71 = .ok (.iconst 2, 1) := by decide +kernel
theorem dX11_house_72 : decode cX11_house 72 = .ok (.iload 7, 2) := by decide +kernel
theorem dX11_house_74 : decode cX11_house 74 = .ok (.invokestatic 122, 3) := by decide +kernel
theorem dX11_house_77 : decode cX11_house 77 = .ok (.ifCond .ne 6, 3) := by decide +kernel
theorem dX11_house_80 : decode cX11_house 80 = .ok (.bipush (-2), 2) := by decide +kernel
theorem dX11_house_82 : decode cX11_house 82 = .ok (.ireturn, 1) := by decide +kernel
theorem dX11_house_83 : decode cX11_house 83 = .ok (.aload_n 0, 1) := by decide +kernel
theorem dX11_house_84 : decode cX11_house 84 = .ok (.getfield 15, 3) := by decide +kernel
theorem dX11_house_87 : decode cX11_house 87 = .ok (.bipush 7, 2) := by decide +kernel
theorem dX11_house_89 : decode cX11_house 89 = .ok (.if_icmp .lt 6, 3) := by decide +kernel
theorem dX11_house_92 : decode cX11_house 92 = .ok (.bipush (-4), 2) := by decide +kernel
theorem dX11_house_94 : decode cX11_house 94 = .ok (.ireturn, 1) := by decide +kernel
theorem dX11_house_95 : decode cX11_house 95 = .ok (.aload_n 0, 1) := by decide +kernel
theorem dX11_house_96 : decode cX11_house 96 = .ok (.getfield 15, 3) := by decide +kernel
theorem dX11_house_99 : decode cX11_house 99 = .ok (.istore 8, 2) := by decide +kernel
theorem dX11_house_101 : decode cX11_house 101 = .ok (.iload_n 1, 1) := by decide +kernel
theorem dX11_house_102 : decode cX11_house 102 = .ok (.iload 8, 2) := by decide +kernel
theorem dX11_house_104 : decode cX11_house 104 = .ok (.invokestatic 126, 3) := by decide +kernel
theorem dX11_house_107 : decode cX11_house 107 = .ok (.astore 9, 2) := by decide +kernel
theorem dX11_house_109 : decode cX11_house 109 = .ok (.aload 9, 2) := by decide +kernel
theorem dX11_house_111 : decode cX11_house 111 = .ok (.iconst 0, 1) := by decide +kernel
theorem dX11_house_112 : decode cX11_house 112 = .ok (.iload 4, 2) := by decide +kernel
theorem dX11_house_114 : decode cX11_house 114 = .ok (.invokevirtual 130, 3) := by decide +kernel
theorem dX11_house_117 : decode cX11_house 117 = .ok (.aload 9, 2) := by decide +kernel
theorem dX11_house_119 : decode cX11_house 119 = .ok (.iconst 3, 1) := by decide +kernel
theorem dX11_house_120 : decode cX11_house 120 = .ok (.iload 5, 2) := by decide +kernel
theorem dX11_house_122 : decode cX11_house 122 = .ok (.invokevirtual 130, 3) := by decide +kernel
theorem dX11_house_125 : decode cX11_house 125 = .ok (.aload 9, 2) := by decide +kernel
theorem dX11_house_127 : decode cX11_house 127 = .ok (.iconst 1, 1) := by decide +kernel
theorem dX11_house_128 : decode cX11_house 128 = .ok (.iload 6, 2) := by decide +kernel
theorem dX11_house_130 : decode cX11_house 130 = .ok (.invokevirtual 130, 3) := by decide +kernel
theorem dX11_house_133 : decode cX11_house 133 = .ok (.aload 9, 2) := by decide +kernel
theorem dX11_house_135 : decode cX11_house 135 = .ok (.iconst 2, 1) := by decide +kernel
theorem dX11_house_136 : decode cX11_house 136 = .ok (.iload 7, 2) := by decide +kernel
theorem dX11_house_138 : decode cX11_house 138 = .ok (.invokevirtual 130, 3) := by decide +kernel
theorem dX11_house_141 : decode cX11_house 141 = .ok (.aload_n 0, 1) := by decide +kernel
theorem dX11_house_142 : decode cX11_house 142 = .ok (.getfield 11, 3) := by decide +kernel
theorem dX11_house_145 : decode cX11_house 145 = .ok (.iload 8, 2) := by decide +kernel
theorem dX11_house_147 : decode cX11_house 147 = .ok (.aload 9, 2) := by decide +kernel
theorem dX11_house_149 : decode cX11_house 149 = .ok (.aastore, 1) := by decide +kernel
theorem dX11_house_150 : decode cX11_house 150 = .ok (.aload_n 0, 1) := by decide +kernel
theorem dX11_house_151 : decode cX11_house 151 = .ok (.getfield 19, 3) := by decide +kernel
theorem dX11_house_154 : decode cX11_house 154 = .ok (.iload 8, 2) := by decide +kernel
theorem dX11_house_156 : decode cX11_house 156 = .ok (.iload 8, 2) := by decide +kernel
theorem dX11_house_158 : decode cX11_house 158 = .ok (.iastore, 1) := by decide +kernel
theorem dX11_house_159 : decode cX11_house 159 = .ok (.aload_n 0, 1) := by decide +kernel
theorem dX11_house_160 : decode cX11_house 160 = .ok (.iload 8, 2) := by decide +kernel
theorem dX11_house_162 : decode cX11_house 162 = .ok (.iconst 1, 1) := by decide +kernel
theorem dX11_house_163 : decode cX11_house 163 = .ok (.iadd, 1) := by decide +kernel
theorem dX11_house_164 : decode cX11_house 164 = .ok (.putfield 15, 3) := by decide +kernel
theorem dX11_house_167 : decode cX11_house 167 = .ok (.aload_n 0, 1) := by decide +kernel
theorem dX11_house_168 : decode cX11_house 168 = .ok (.invokevirtual 134, 3) := by decide +kernel
theorem dX11_house_171 : decode cX11_house 171 = .ok (.iload 8, 2) := by decide +kernel
theorem dX11_house_173 : decode cX11_house 173 = .ok (.ireturn, 1) := by decide +kernel
theorem dX11_set_0 : decode cX11_set 0 = .ok (.aload_n 0, 1) := by decide +kernel
theorem dX11_set_1 : decode cX11_set 1 = .ok (.iload_n 1, 1) := by decide +kernel
theorem dX11_set_2 : decode cX11_set 2 = .ok (.invokevirtual 137, 3) := by decide +kernel
theorem dX11_set_5 : decode cX11_set 5 = .ok (.astore 4, 2) := by decide +kernel
theorem dX11_set_7 : decode cX11_set 7 = .ok (.aload 4, 2) := by decide +kernel
theorem dX11_set_9 : decode cX11_set 9 = .ok (.ifnull 11, 3) := by decide +kernel
theorem dX11_set_12 : decode cX11_set 12 = .ok (.iload_n 2, 1) := by decide +kernel
theorem dX11_set_13 : decode cX11_set 13 = .ok (.iload_n 3, 1) := by decide +kernel
theorem dX11_set_14 : decode cX11_set 14 = .ok (.invokestatic 122, 3) := by decide +kernel
theorem dX11_set_17 : decode cX11_set 17 = .ok (.ifCond .ne 6, 3) := by decide +kernel
theorem dX11_set_20 : decode cX11_set 20 = .ok (.bipush (-2), 2) := by decide +kernel
theorem dX11_set_22 : decode cX11_set 22 = .ok (.ireturn, 1) := by decide +kernel
theorem dX11_set_23 : decode cX11_set 23 = .ok (.aload 4, 2) := by decide +kernel
theorem dX11_set_25 : decode cX11_set 25 = .ok (.iload_n 2, 1) := by decide +kernel
theorem dX11_set_26 : decode cX11_set 26 = .ok (.invokevirtual 141, 3) := by decide +kernel
theorem dX11_set_29 : decode cX11_set 29 = .ok (.istore 5, 2) := by decide +kernel
theorem dX11_set_31 : decode cX11_set 31 = .ok (.aload 4, 2) := by decide +kernel
theorem dX11_set_33 : decode cX11_set 33 = .ok (.iload_n 2, 1) := by decide +kernel
theorem dX11_set_34 : decode cX11_set 34 = .ok (.iload_n 3, 1) := by decide +kernel
theorem dX11_set_35 : decode cX11_set 35 = .ok (.invokevirtual 130, 3) := by decide +kernel
theorem dX11_set_38 : decode cX11_set 38 = .ok (.aload_n 0, 1) := by decide +kernel
theorem dX11_set_39 : decode cX11_set 39 = .ok (.invokevirtual 134, 3) := by decide +kernel
theorem dX11_set_42 : decode cX11_set 42 = .ok (.iload 5, 2) := by decide +kernel
theorem dX11_set_44 : decode cX11_set 44 = .ok (.ireturn, 1) := by decide +kernel
theorem dX11_bag_0 : decode cX11_bag 0 = .ok (.iload_n 1, 1) := by decide +kernel
theorem dX11_bag_1 : decode cX11_bag 1 = .ok (.ifCond .lt 27, 3) := by decide +kernel
theorem dX11_bag_4 : decode cX11_bag 4 = .ok (.iload_n 1, 1) := by decide +kernel
theorem dX11_bag_5 : decode cX11_bag 5 = .ok (.bipush 10, 2) := by decide +kernel
theorem dX11_bag_7 : decode cX11_bag 7 = .ok (.if_icmp .ge 21, 3) := by decide +kernel
theorem dX11_bag_10 : decode cX11_bag 10 = .ok (.iload_n 2, 1) := by decide +kernel
theorem dX11_bag_11 : decode cX11_bag 11 = .ok (.getstatic 145, 3) := by decide +kernel
theorem dX11_bag_14 : decode cX11_bag 14 = .ok (.iload_n 1, 1) := by decide +kernel
theorem dX11_bag_15 : decode cX11_bag 15 = .ok (.iaload, 1) := by decide +kernel
theorem dX11_bag_16 : decode cX11_bag 16 = .ok (.if_icmp .lt 12, 3) := by decide +kernel
theorem dX11_bag_19 : decode cX11_bag 19 = .ok (.iload_n 2, 1) := by decide +kernel
theorem dX11_bag_20 : decode cX11_bag 20 = .ok (.getstatic 148, 3) := by decide +kernel
theorem dX11_bag_23 : decode cX11_bag 23 = .ok (.iload_n 1, 1) := by decide +kernel
theorem dX11_bag_24 : decode cX11_bag 24 = .ok (.iaload, 1) := by decide +kernel
theorem dX11_bag_25 : decode cX11_bag 25 = .ok (.if_icmp .le 6, 3) := by decide +kernel
theorem dX11_bag_28 : decode cX11_bag 28 = .ok (.bipush (-2), 2) := by decide +kernel
theorem dX11_bag_30 : decode cX11_bag 30 = .ok (.ireturn, 1) := by decide +kernel
theorem dX11_bag_31 : decode cX11_bag 31 = .ok (.aload_n 0, 1) := by decide +kernel
theorem dX11_bag_32 : decode cX11_bag 32 = .ok (.getfield 31, 3) := by decide +kernel
theorem dX11_bag_35 : decode cX11_bag 35 = .ok (.iload_n 1, 1) := by decide +kernel
theorem dX11_bag_36 : decode cX11_bag 36 = .ok (.iaload, 1) := by decide +kernel
theorem dX11_bag_37 : decode cX11_bag 37 = .ok (.istore_n 3, 1) := by decide +kernel
theorem dX11_bag_38 : decode cX11_bag 38 = .ok (.aload_n 0, 1) := by decide +kernel
theorem dX11_bag_39 : decode cX11_bag 39 = .ok (.getfield 31, 3) := by decide +kernel
theorem dX11_bag_42 : decode cX11_bag 42 = .ok (.iload_n 1, 1) := by decide +kernel
theorem dX11_bag_43 : decode cX11_bag 43 = .ok (.iload_n 2, 1) := by decide +kernel
theorem dX11_bag_44 : decode cX11_bag 44 = .ok (.iastore, 1) := by decide +kernel
theorem dX11_bag_45 : decode cX11_bag 45 = .ok (.aload_n 0, 1) := by decide +kernel
theorem dX11_bag_46 : decode cX11_bag 46 = .ok (.invokevirtual 134, 3) := by decide +kernel
theorem dX11_bag_49 : decode cX11_bag 49 = .ok (.iload_n 3, 1) := by decide +kernel
theorem dX11_bag_50 : decode cX11_bag 50 = .ok (.ireturn, 1) := by decide +kernel
theorem dX11_told_0 : decode cX11_told 0 = .ok (.aload_n 0, 1) := by decide +kernel
theorem dX11_told_1 : decode cX11_told 1 = .ok (.iload_n 1, 1) := by decide +kernel
theorem dX11_told_2 : decode cX11_told 2 = .ok (.invokevirtual 137, 3) := by decide +kernel
theorem dX11_told_5 : decode cX11_told 5 = .ok (.astore_n 3, 1) := by decide +kernel
theorem dX11_told_6 : decode cX11_told 6 = .ok (.aload_n 3, 1) := by decide +kernel
theorem dX11_told_7 : decode cX11_told 7 = .ok (.ifnonnull 6, 3) := by decide +kernel
theorem dX11_told_10 : decode cX11_told 10 = .ok (.bipush (-2), 2) := by decide +kernel
theorem dX11_told_12 : decode cX11_told 12 = .ok (.ireturn, 1) := by decide +kernel
theorem dX11_told_13 : decode cX11_told 13 = .ok (.iload_n 2, 1) := by decide +kernel
theorem dX11_told_14 : decode cX11_told 14 = .ok (.tableswitch 105 0 7 #[46, 46, 46, 46, 52, 57, 63, 85], 46) := by decide +kernel
theorem dX11_told_60 : decode cX11_told 60 = .ok (.aload_n 3, 1) := by decide +kernel
theorem dX11_told_61 : decode cX11_told 61 = .ok (.iload_n 2, 1) := by decide +kernel
theorem dX11_told_62 : decode cX11_told 62 = .ok (.invokevirtual 141, 3) := by decide +kernel
theorem dX11_told_65 : decode cX11_told 65 = .ok (.ireturn, 1) := by decide +kernel
theorem dX11_told_66 : decode cX11_told 66 = .ok (.aload_n 3, 1) := by decide +kernel
theorem dX11_told_67 : decode cX11_told 67 = .ok (.invokevirtual 151, 3) := by decide +kernel
theorem dX11_told_70 : decode cX11_told 70 = .ok (.ireturn, 1) := by decide +kernel
theorem dX11_told_71 : decode cX11_told 71 = .ok (.aload_n 0, 1) := by decide +kernel
theorem dX11_told_72 : decode cX11_told 72 = .ok (.iload_n 1, 1) := by decide +kernel
theorem dX11_told_73 : decode cX11_told 73 = .ok (.invokevirtual 154, 3) := by decide +kernel
theorem dX11_told_76 : decode cX11_told 76 = .ok (.ireturn, 1) := by decide +kernel
theorem dX11_told_77 : decode cX11_told 77 = .ok (.aload_n 3, 1) := by decide +kernel
theorem dX11_told_78 : decode cX11_told 78 = .ok (.aload_n 0, 1) := by decide +kernel
theorem dX11_told_79 : decode cX11_told 79 = .ok (.getfield 31, 3) := by decide +kernel
theorem dX11_told_82 : decode cX11_told 82 = .ok (.aload_n 3, 1) := by decide +kernel
theorem dX11_told_83 : decode cX11_told 83 = .ok (.getfield 157, 3) := by decide +kernel
theorem dX11_told_86 : decode cX11_told 86 = .ok (.invokestatic 160, 3) := by decide +kernel
theorem dX11_told_89 : decode cX11_told 89 = .ok (.aload_n 0, 1) := by decide +kernel
theorem dX11_told_90 : decode cX11_told 90 = .ok (.getfield 31, 3) := by decide +kernel
theorem dX11_told_93 : decode cX11_told 93 = .ok (.iconst 5, 1) := by decide +kernel
theorem dX11_told_94 : decode cX11_told 94 = .ok (.iaload, 1) := by decide +kernel
theorem dX11_told_95 : decode cX11_told 95 = .ok (.invokevirtual 164, 3) := by decide +kernel
theorem dX11_told_98 : decode cX11_told 98 = .ok (.ireturn, 1) := by decide +kernel
theorem dX11_told_99 : decode cX11_told 99 = .ok (.aload_n 0, 1) := by decide +kernel
theorem dX11_told_100 : decode cX11_told 100 = .ok (.getfield 43, 3) := by decide +kernel
theorem dX11_told_103 : decode cX11_told 103 = .ok (.aload_n 0, 1) := by decide +kernel
theorem dX11_told_104 : decode cX11_told 104 = .ok (.getfield 50, 3) := by decide +kernel
theorem dX11_told_107 : decode cX11_told 107 = .ok (.aaload, 1) := by decide +kernel
theorem dX11_told_108 : decode cX11_told 108 = .ok (.aload_n 3, 1) := by decide +kernel
theorem dX11_told_109 : decode cX11_told 109 = .ok (.aload_n 0, 1) := by decide +kernel
theorem dX11_told_110 : decode cX11_told 110 = .ok (.getfield 31, 3) := by decide +kernel
theorem dX11_told_113 : decode cX11_told 113 = .ok (.iconst 5, 1) := by decide +kernel
theorem dX11_told_114 : decode cX11_told 114 = .ok (.iaload, 1) := by decide +kernel
theorem dX11_told_115 : decode cX11_told 115 = .ok (.invokevirtual 168, 3) := by decide +kernel
theorem dX11_told_118 : decode cX11_told 118 = .ok (.ireturn, 1) := by decide +kernel
theorem dX11_told_119 : decode cX11_told 119 = .ok (.bipush (-2), 2) := by decide +kernel
theorem dX11_told_121 : decode cX11_told 121 = .ok (.ireturn, 1) := by decide +kernel
theorem dX11_swap_0 : decode cX11_swap 0 = .ok (.aload_n 0, 1) := by decide +kernel
theorem dX11_swap_1 : decode cX11_swap 1 = .ok (.iload_n 1, 1) := by decide +kernel
theorem dX11_swap_2 : decode cX11_swap 2 = .ok (.invokevirtual 172, 3) := by decide +kernel
theorem dX11_swap_5 : decode cX11_swap 5 = .ok (.ifCond .eq 11, 3) := by decide +kernel
theorem dX11_swap_8 : decode cX11_swap 8 = .ok (.aload_n 0, 1) := by decide +kernel
theorem dX11_swap_9 : decode cX11_swap 9 = .ok (.iload_n 2, 1) := by decide +kernel
theorem dX11_swap_10 : decode cX11_swap 10 = .ok (.invokevirtual 172, 3) := by decide +kernel
theorem dX11_swap_13 : decode cX11_swap 13 = .ok (.ifCond .ne 6, 3) := by decide +kernel
theorem dX11_swap_16 : decode cX11_swap 16 = .ok (.bipush (-2), 2) := by decide +kernel
theorem dX11_swap_18 : decode cX11_swap 18 = .ok (.ireturn, 1) := by decide +kernel
theorem dX11_swap_19 : decode cX11_swap 19 = .ok (.aload_n 0, 1) := by decide +kernel
theorem dX11_swap_20 : decode cX11_swap 20 = .ok (.getfield 19, 3) := by decide +kernel
theorem dX11_swap_23 : decode cX11_swap 23 = .ok (.iload_n 1, 1) := by decide +kernel
theorem dX11_swap_24 : decode cX11_swap 24 = .ok (.iaload, 1) := by decide +kernel
theorem dX11_swap_25 : decode cX11_swap 25 = .ok (.istore_n 3, 1) := by decide +kernel
theorem dX11_swap_26 : decode cX11_swap 26 = .ok (.aload_n 0, 1) := by decide +kernel
theorem dX11_swap_27 : decode cX11_swap 27 = .ok (.getfield 19, 3) := by decide +kernel
theorem dX11_swap_30 : decode cX11_swap 30 = .ok (.iload_n 1, 1) := by decide +kernel
theorem dX11_swap_31 : decode cX11_swap 31 = .ok (.aload_n 0, 1) := by decide +kernel
theorem dX11_swap_32 : decode cX11_swap 32 = .ok (.getfield 19, 3) := by decide +kernel
theorem dX11_swap_35 : decode cX11_swap 35 = .ok (.iload_n 2, 1) := by decide +kernel
theorem dX11_swap_36 : decode cX11_swap 36 = .ok (.iaload, 1) := by decide +kernel
theorem dX11_swap_37 : decode cX11_swap 37 = .ok (.iastore, 1) := by decide +kernel
theorem dX11_swap_38 : decode cX11_swap 38 = .ok (.aload_n 0, 1) := by decide +kernel
theorem dX11_swap_39 : decode cX11_swap 39 = .ok (.getfield 19, 3) := by decide +kernel
theorem dX11_swap_42 : decode cX11_swap 42 = .ok (.iload_n 2, 1) := by decide +kernel
theorem dX11_swap_43 : decode cX11_swap 43 = .ok (.iload_n 3, 1) := by decide +kernel
theorem dX11_swap_44 : decode cX11_swap 44 = .ok (.iastore, 1) := by decide +kernel
theorem dX11_swap_45 : decode cX11_swap 45 = .ok (.aload_n 0, 1) := by decide +kernel
theorem dX11_swap_46 : decode cX11_swap 46 = .ok (.getfield 19, 3) := by decide +kernel
theorem dX11_swap_49 : decode cX11_swap 49 = .ok (.iload_n 1, 1) := by decide +kernel
theorem dX11_swap_50 : decode cX11_swap 50 = .ok (.iaload, 1) := by decide +kernel
theorem dX11_swap_51 : decode cX11_swap 51 = .ok (.ireturn, 1) := by decide +kernel
theorem dX11_feed_0 : decode cX11_feed 0 = .ok (.iload_n 1, 1) := by decide +kernel
theorem dX11_feed_1 : decode cX11_feed 1 = .ok (.ifCond .lt 10, 3) := by decide +kernel
theorem dX11_feed_4 : decode cX11_feed 4 = .ok (.iload_n 1, 1) := by decide +kernel
theorem dX11_feed_5 : decode cX11_feed 5 = .ok (.sipush 255, 3) := by decide +kernel
theorem dX11_feed_8 : decode cX11_feed 8 = .ok (.if_icmp .le 6, 3) := by decide +kernel
theorem dX11_feed_11 : decode cX11_feed 11 = .ok (.bipush (-2), 2) := by decide +kernel
theorem dX11_feed_13 : decode cX11_feed 13 = .ok (.ireturn, 1) := by decide +kernel
theorem dX11_feed_14 : decode cX11_feed 14 = .ok (.aload_n 0, 1) := by decide +kernel
theorem dX11_feed_15 : decode cX11_feed 15 = .ok (.getfield 37, 3) := by decide +kernel
theorem dX11_feed_18 : decode cX11_feed 18 = .ok (.getfield 176, 3) := by decide +kernel
theorem dX11_feed_21 : decode cX11_feed 21 = .ok (.sipush 160, 3) := by decide +kernel
theorem dX11_feed_24 : decode cX11_feed 24 = .ok (.if_icmp .lt 6, 3) := by decide +kernel
theorem dX11_feed_27 : decode cX11_feed 27 = .ok (.bipush (-4), 2) := by decide +kernel
theorem dX11_feed_29 : decode cX11_feed 29 = .ok (.ireturn, 1) := by decide +kernel
theorem dX11_feed_30 : decode cX11_feed 30 = .ok (.aload_n 0, 1) := by decide +kernel
theorem dX11_feed_31 : decode cX11_feed 31 = .ok (.getfield 37, 3) := by decide +kernel
theorem dX11_feed_34 : decode cX11_feed 34 = .ok (.iload_n 1, 1) := by decide +kernel
theorem dX11_feed_35 : decode cX11_feed 35 = .ok (.invokevirtual 112, 3) := by decide +kernel
theorem dX11_feed_38 : decode cX11_feed 38 = .ok (.aload_n 0, 1) := by decide +kernel
theorem dX11_feed_39 : decode cX11_feed 39 = .ok (.getfield 37, 3) := by decide +kernel
theorem dX11_feed_42 : decode cX11_feed 42 = .ok (.getfield 176, 3) := by decide +kernel
theorem dX11_feed_45 : decode cX11_feed 45 = .ok (.ireturn, 1) := by decide +kernel
theorem dX11_text_0 : decode cX11_text 0 = .ok (.aload_n 0, 1) := by decide +kernel
theorem dX11_text_1 : decode cX11_text 1 = .ok (.getfield 47, 3) := by decide +kernel
theorem dX11_text_4 : decode cX11_text 4 = .ok (.bipush 6, 2) := by decide +kernel
theorem dX11_text_6 : decode cX11_text 6 = .ok (.if_icmp .lt 6, 3) := by decide +kernel
theorem dX11_text_9 : decode cX11_text 9 = .ok (.bipush (-4), 2) := by decide +kernel
theorem dX11_text_11 : decode cX11_text 11 = .ok (.ireturn, 1) := by decide +kernel
theorem dX11_text_12 : decode cX11_text 12 = .ok (.aload_n 0, 1) := by decide +kernel
theorem dX11_text_13 : decode cX11_text 13 = .ok (.getfield 37, 3) := by decide +kernel
theorem dX11_text_16 : decode cX11_text 16 = .ok (.invokevirtual 115, 3) := by decide +kernel
theorem dX11_text_19 : decode cX11_text 19 = .ok (.astore_n 1, 1) := by decide +kernel
theorem dX11_text_20 : decode cX11_text 20 = .ok (.aload_n 0, 1) := by decide +kernel
theorem dX11_text_21 : decode cX11_text 21 = .ok (.getfield 37, 3) := by decide +kernel
theorem dX11_text_24 : decode cX11_text 24 = .ok (.invokevirtual 119, 3) := by decide +kernel
theorem dX11_text_27 : decode cX11_text 27 = .ok (.aload_n 1, 1) := by decide +kernel
theorem dX11_text_28 : decode cX11_text 28 = .ok (.ifnonnull 14, 3) := by decide +kernel
theorem dX11_text_31 : decode cX11_text 31 = .ok (.bipush (-100), 2) := by decide +kernel
theorem dX11_text_33 : decode cX11_text 33 = .ok (.aload_n 0, 1) := by decide +kernel
theorem dX11_text_34 : decode cX11_text 34 = .ok (.getfield 37, 3) := by decide +kernel
theorem dX11_text_37 : decode cX11_text 37 = .ok (.getfield 179, 3) := by decide +kernel
theorem dX11_text_40 : decode cX11_text 40 = .ok (.isub, 1) := by decide +kernel
theorem dX11_text_41 : decode cX11_text 41 = .ok (.ireturn, 1) := by decide +kernel
theorem dX11_text_42 : decode cX11_text 42 = .ok (.aload_n 0, 1) := by decide +kernel
theorem dX11_text_43 : decode cX11_text 43 = .ok (.getfield 47, 3) := by decide +kernel
theorem dX11_text_46 : decode cX11_text 46 = .ok (.istore_n 2, 1) := by decide +kernel
theorem dX11_text_47 : decode cX11_text 47 = .ok (.aload_n 0, 1) := by decide +kernel
theorem dX11_text_48 : decode cX11_text 48 = .ok (.getfield 43, 3) := by decide +kernel
theorem dX11_text_51 : decode cX11_text 51 = .ok (.iload_n 2, 1) := by decide +kernel
theorem dX11_text_52 : decode cX11_text 52 = .ok (.aload_n 1, 1) := by decide +kernel
theorem dX11_text_53 : decode cX11_text 53 = .ok (.aastore, 1) := by decide +kernel
theorem dX11_text_54 : decode cX11_text 54 = .ok (.aload_n 0, 1) := by decide +kernel
theorem dX11_text_55 : decode cX11_text 55 = .ok (.iload_n 2, 1) := by decide +kernel
theorem dX11_text_56 : decode cX11_text 56 = .ok (.iconst 1, 1) := by decide +kernel
theorem dX11_text_57 : decode cX11_text 57 = .ok (.iadd, 1) := by decide +kernel
theorem dX11_text_58 : decode cX11_text 58 = .ok (.putfield 47, 3) := by decide +kernel
theorem dX11_text_61 : decode cX11_text 61 = .ok (.iload_n 2, 1) := by decide +kernel
theorem dX11_text_62 : decode cX11_text 62 = .ok (.ireturn, 1) := by decide +kernel
theorem dX11_force_0 : decode cX11_force 0 = .ok (.iload_n 1, 1) := by decide +kernel
theorem dX11_force_1 : decode cX11_force 1 = .ok (.ifCond .lt 11, 3) := by decide +kernel
theorem dX11_force_4 : decode cX11_force 4 = .ok (.iload_n 1, 1) := by decide +kernel
theorem dX11_force_5 : decode cX11_force 5 = .ok (.aload_n 0, 1) := by decide +kernel
theorem dX11_force_6 : decode cX11_force 6 = .ok (.getfield 47, 3) := by decide +kernel
theorem dX11_force_9 : decode cX11_force 9 = .ok (.if_icmp .lt 6, 3) := by decide +kernel
theorem dX11_force_12 : decode cX11_force 12 = .ok (.bipush (-2), 2) := by decide +kernel
theorem dX11_force_14 : decode cX11_force 14 = .ok (.ireturn, 1) := by decide +kernel
theorem dX11_force_15 : decode cX11_force 15 = .ok (.aload_n 0, 1) := by decide +kernel
theorem dX11_force_16 : decode cX11_force 16 = .ok (.getfield 50, 3) := by decide +kernel
theorem dX11_force_19 : decode cX11_force 19 = .ok (.istore_n 2, 1) := by decide +kernel
theorem dX11_force_20 : decode cX11_force 20 = .ok (.aload_n 0, 1) := by decide +kernel
theorem dX11_force_21 : decode cX11_force 21 = .ok (.iload_n 1, 1) := by decide +kernel
theorem dX11_force_22 : decode cX11_force 22 = .ok (.putfield 50, 3) := by decide +kernel
theorem dX11_force_25 : decode cX11_force 25 = .ok (.aload_n 0, 1) := by decide +kernel
theorem dX11_force_26 : decode cX11_force 26 = .ok (.invokevirtual 134, 3) := by decide +kernel
theorem dX11_force_29 : decode cX11_force 29 = .ok (.iload_n 2, 1) := by decide +kernel
theorem dX11_force_30 : decode cX11_force 30 = .ok (.ireturn, 1) := by decide +kernel
theorem dX11_at_0 : decode cX11_at 0 = .ok (.aload_n 0, 1) := by decide +kernel
theorem dX11_at_1 : decode cX11_at 1 = .ok (.iload_n 1, 1) := by decide +kernel
theorem dX11_at_2 : decode cX11_at 2 = .ok (.invokevirtual 137, 3) := by decide +kernel
theorem dX11_at_5 : decode cX11_at 5 = .ok (.astore_n 3, 1) := by decide +kernel
theorem dX11_at_6 : decode cX11_at 6 = .ok (.aload_n 3, 1) := by decide +kernel
theorem dX11_at_7 : decode cX11_at 7 = .ok (.ifnull 12, 3) := by decide +kernel
theorem dX11_at_10 : decode cX11_at 10 = .ok (.iload_n 2, 1) := by decide +kernel
theorem dX11_at_11 : decode cX11_at 11 = .ok (.ifCond .lt 8, 3) := by decide +kernel
theorem dX11_at_14 : decode cX11_at 14 = .ok (.iload_n 2, 1) := by decide +kernel
theorem dX11_at_15 : decode cX11_at 15 = .ok (.iconst 2, 1) := by decide +kernel
theorem dX11_at_16 : decode cX11_at 16 = .ok (.if_icmp .le 6, 3) := by decide +kernel
theorem dX11_at_19 : decode cX11_at 19 = .ok (.bipush (-2), 2) := by decide +kernel
theorem dX11_at_21 : decode cX11_at 21 = .ok (.ireturn, 1) := by decide +kernel
theorem dX11_at_22 : decode cX11_at 22 = .ok (.aload_n 0, 1) := by decide +kernel
theorem dX11_at_23 : decode cX11_at 23 = .ok (.invokevirtual 182, 3) := by decide +kernel
theorem dX11_at_26 : decode cX11_at 26 = .ok (.pop, 1) := by decide +kernel
theorem dX11_at_27 : decode cX11_at 27 = .ok (.iload_n 2, 1) := by decide +kernel
theorem dX11_at_28 : decode cX11_at 28 = .ok (.ifCond .ne 10, 3) := by decide +kernel
theorem dX11_at_31 : decode cX11_at 31 = .ok (.aload_n 0, 1) := by decide +kernel
theorem dX11_at_32 : decode cX11_at 32 = .ok (.getfield 66, 3) := by decide +kernel
theorem dX11_at_35 : decode cX11_at 35 = .ok (.iload_n 1, 1) := by decide +kernel
theorem dX11_at_36 : decode cX11_at 36 = .ok (.iaload, 1) := by decide +kernel
theorem dX11_at_37 : decode cX11_at 37 = .ok (.ireturn, 1) := by decide +kernel
theorem dX11_at_38 : decode cX11_at 38 = .ok (.iload_n 2, 1) := by decide +kernel
theorem dX11_at_39 : decode cX11_at 39 = .ok (.iconst 1, 1) := by decide +kernel
theorem dX11_at_40 : decode cX11_at 40 = .ok (.if_icmp .ne 11, 3) := by decide +kernel
theorem dX11_at_43 : decode cX11_at 43 = .ok (.aload_n 0, 1) := by decide +kernel
theorem dX11_at_44 : decode cX11_at 44 = .ok (.aload_n 3, 1) := by decide +kernel
theorem dX11_at_45 : decode cX11_at 45 = .ok (.invokevirtual 185, 3) := by decide +kernel
theorem dX11_at_48 : decode cX11_at 48 = .ok (.goto 8, 3) := by decide +kernel
theorem dX11_at_51 : decode cX11_at 51 = .ok (.aload_n 0, 1) := by decide +kernel
theorem dX11_at_52 : decode cX11_at 52 = .ok (.aload_n 3, 1) := by decide +kernel
theorem dX11_at_53 : decode cX11_at 53 = .ok (.invokevirtual 189, 3) := by decide +kernel
theorem dX11_at_56 : decode cX11_at 56 = .ok (.ireturn, 1) := by decide +kernel
theorem dX11_round_0 : decode cX11_round 0 = .ok (.aload_n 0, 1) := by decide +kernel
theorem dX11_round_1 : decode cX11_round 1 = .ok (.invokevirtual 182, 3) := by decide +kernel
theorem dX11_round_4 : decode cX11_round 4 = .ok (.istore_n 2, 1) := by decide +kernel
theorem dX11_round_5 : decode cX11_round 5 = .ok (.iload_n 1, 1) := by decide +kernel
theorem dX11_round_6 : decode cX11_round 6 = .ok (.tableswitch 63 0 4 #[34, 36, 44, 49, 54], 34) := by decide +kernel
theorem dX11_round_40 : decode cX11_round 40 = .ok (.iload_n 2, 1) := by decide +kernel
theorem dX11_round_41 : decode cX11_round 41 = .ok (.ireturn, 1) := by decide +kernel
theorem dX11_round_42 : decode cX11_round 42 = .ok (.aload_n 0, 1) := by decide +kernel
theorem dX11_round_43 : decode cX11_round 43 = .ok (.getfield 62, 3) := by decide +kernel
theorem dX11_round_46 : decode cX11_round 46 = .ok (.getfield 192, 3) := by decide +kernel
theorem dX11_round_49 : decode cX11_round 49 = .ok (.ireturn, 1) := by decide +kernel
theorem dX11_round_50 : decode cX11_round 50 = .ok (.aload_n 0, 1) := by decide +kernel
theorem dX11_round_51 : decode cX11_round 51 = .ok (.invokevirtual 195, 3) := by decide +kernel
theorem dX11_round_54 : decode cX11_round 54 = .ok (.ireturn, 1) := by decide +kernel
theorem dX11_round_55 : decode cX11_round 55 = .ok (.aload_n 0, 1) := by decide +kernel
theorem dX11_round_56 : decode cX11_round 56 = .ok (.invokevirtual 198, 3) := by decide +kernel
theorem dX11_round_59 : decode cX11_round 59 = .ok (.ireturn, 1) := by decide +kernel
theorem dX11_round_60 : decode cX11_round 60 = .ok (.aload_n 0, 1) := by decide +kernel
theorem dX11_round_61 : decode cX11_round 61 = .ok (.aload_n 0, 1) := by decide +kernel
theorem dX11_round_62 : decode cX11_round 62 = .ok (.invokevirtual 198, 3) := by decide +kernel
theorem dX11_round_65 : decode cX11_round 65 = .ok (.invokevirtual 201, 3) := by decide +kernel
theorem dX11_round_68 : decode cX11_round 68 = .ok (.ireturn, 1) := by decide +kernel
theorem dX11_round_69 : decode cX11_round 69 = .ok (.bipush (-2), 2) := by decide +kernel
theorem dX11_round_71 : decode cX11_round 71 = .ok (.ireturn, 1) := by decide +kernel
theorem dX11_shifted_0 : decode cX11_shifted 0 = .ok (.iload_n 1, 1) := by decide +kernel
theorem dX11_shifted_1 : decode cX11_shifted 1 = .ok (.ifCond .lt 20, 3) := by decide +kernel
theorem dX11_shifted_4 : decode cX11_shifted 4 = .ok (.iload_n 1, 1) := by decide +kernel
theorem dX11_shifted_5 : decode cX11_shifted 5 = .ok (.aload_n 0, 1) := by decide +kernel
theorem dX11_shifted_6 : decode cX11_shifted 6 = .ok (.getfield 15, 3) := by decide +kernel
theorem dX11_shifted_9 : decode cX11_shifted 9 = .ok (.if_icmp .gt 12, 3) := by decide +kernel
theorem dX11_shifted_12 : decode cX11_shifted 12 = .ok (.iload_n 2, 1) := by decide +kernel
theorem dX11_shifted_13 : decode cX11_shifted 13 = .ok (.ifCond .lt 8, 3) := by decide +kernel
theorem dX11_shifted_16 : decode cX11_shifted 16 = .ok (.iload_n 2, 1) := by decide +kernel
theorem dX11_shifted_17 : decode cX11_shifted 17 = .ok (.iconst 2, 1) := by decide +kernel
theorem dX11_shifted_18 : decode cX11_shifted 18 = .ok (.if_icmp .le 6, 3) := by decide +kernel
theorem dX11_shifted_21 : decode cX11_shifted 21 = .ok (.bipush (-2), 2) := by decide +kernel
theorem dX11_shifted_23 : decode cX11_shifted 23 = .ok (.ireturn, 1) := by decide +kernel
theorem dX11_shifted_24 : decode cX11_shifted 24 = .ok (.aload_n 0, 1) := by decide +kernel
theorem dX11_shifted_25 : decode cX11_shifted 25 = .ok (.iload_n 1, 1) := by decide +kernel
theorem dX11_shifted_26 : decode cX11_shifted 26 = .ok (.invokevirtual 204, 3) := by decide +kernel
theorem dX11_shifted_29 : decode cX11_shifted 29 = .ok (.istore_n 3, 1) := by decide +kernel
theorem dX11_shifted_30 : decode cX11_shifted 30 = .ok (.iload_n 2, 1) := by decide +kernel
theorem dX11_shifted_31 : decode cX11_shifted 31 = .ok (.ifCond .ne 5, 3) := by decide +kernel
theorem dX11_shifted_34 : decode cX11_shifted 34 = .ok (.iload_n 3, 1) := by decide +kernel
theorem dX11_shifted_35 : decode cX11_shifted 35 = .ok (.ireturn, 1) := by decide +kernel
theorem dX11_shifted_36 : decode cX11_shifted 36 = .ok (.aload_n 0, 1) := by decide +kernel
theorem dX11_shifted_37 : decode cX11_shifted 37 = .ok (.invokevirtual 182, 3) := by decide +kernel
theorem dX11_shifted_40 : decode cX11_shifted 40 = .ok (.pop, 1) := by decide +kernel
theorem dX11_shifted_41 : decode cX11_shifted 41 = .ok (.iload_n 3, 1) := by decide +kernel
theorem dX11_shifted_42 : decode cX11_shifted 42 = .ok (.aload_n 0, 1) := by decide +kernel
theorem dX11_shifted_43 : decode cX11_shifted 43 = .ok (.invokevirtual 198, 3) := by decide +kernel
theorem dX11_shifted_46 : decode cX11_shifted 46 = .ok (.ior, 1) := by decide +kernel
theorem dX11_shifted_47 : decode cX11_shifted 47 = .ok (.istore 4, 2) := by decide +kernel
theorem dX11_shifted_49 : decode cX11_shifted 49 = .ok (.iload_n 2, 1) := by decide +kernel
theorem dX11_shifted_50 : decode cX11_shifted 50 = .ok (.iconst 1, 1) := by decide +kernel
theorem dX11_shifted_51 : decode cX11_shifted 51 = .ok (.if_icmp .ne 8, 3) := by decide +kernel
theorem dX11_shifted_54 : decode cX11_shifted 54 = .ok (.iload 4, 2) := by decide +kernel
theorem dX11_shifted_56 : decode cX11_shifted 56 = .ok (.goto 9, 3) := by decide +kernel
theorem dX11_shifted_59 : decode cX11_shifted 59 = .ok (.aload_n 0, 1) := by decide +kernel
theorem dX11_shifted_60 : decode cX11_shifted 60 = .ok (.iload 4, 2) := by decide +kernel
theorem dX11_shifted_62 : decode cX11_shifted 62 = .ok (.invokevirtual 201, 3) := by decide +kernel
theorem dX11_shifted_65 : decode cX11_shifted 65 = .ok (.ireturn, 1) := by decide +kernel
theorem dX11_where_0 : decode cX11_where 0 = .ok (.iload_n 2, 1) := by decide +kernel
theorem dX11_where_1 : decode cX11_where 1 = .ok (.ifCond .lt 8, 3) := by decide +kernel
theorem dX11_where_4 : decode cX11_where 4 = .ok (.iload_n 2, 1) := by decide +kernel
theorem dX11_where_5 : decode cX11_where 5 = .ok (.iconst 1, 1) := by decide +kernel
theorem dX11_where_6 : decode cX11_where 6 = .ok (.if_icmp .le 6, 3) := by decide +kernel
theorem dX11_where_9 : decode cX11_where 9 = .ok (.bipush (-2), 2) := by decide +kernel
theorem dX11_where_11 : decode cX11_where 11 = .ok (.ireturn, 1) := by decide +kernel
theorem dX11_where_12 : decode cX11_where 12 = .ok (.aload_n 0, 1) := by decide +kernel
theorem dX11_where_13 : decode cX11_where 13 = .ok (.iload_n 1, 1) := by decide +kernel
theorem dX11_where_14 : decode cX11_where 14 = .ok (.invokevirtual 207, 3) := by decide +kernel
theorem dX11_where_17 : decode cX11_where 17 = .ok (.istore_n 3, 1) := by decide +kernel
theorem dX11_where_18 : decode cX11_where 18 = .ok (.iload_n 3, 1) := by decide +kernel
theorem dX11_where_19 : decode cX11_where 19 = .ok (.ifCond .eq 5, 3) := by decide +kernel
theorem dX11_where_22 : decode cX11_where 22 = .ok (.iload_n 3, 1) := by decide +kernel
theorem dX11_where_23 : decode cX11_where 23 = .ok (.ireturn, 1) := by decide +kernel
theorem dX11_where_24 : decode cX11_where 24 = .ok (.aload_n 0, 1) := by decide +kernel
theorem dX11_where_25 : decode cX11_where 25 = .ok (.getfield 55, 3) := by decide +kernel
theorem dX11_where_28 : decode cX11_where 28 = .ok (.iload_n 1, 1) := by decide +kernel
theorem dX11_where_29 : decode cX11_where 29 = .ok (.aaload, 1) := by decide +kernel
theorem dX11_where_30 : decode cX11_where 30 = .ok (.astore 4, 2) := by decide +kernel
theorem dX11_where_32 : decode cX11_where 32 = .ok (.aload_n 0, 1) := by decide +kernel
theorem dX11_where_33 : decode cX11_where 33 = .ok (.invokevirtual 182, 3) := by decide +kernel
theorem dX11_where_36 : decode cX11_where 36 = .ok (.pop, 1) := by decide +kernel
theorem dX11_where_37 : decode cX11_where 37 = .ok (.aload_n 0, 1) := by decide +kernel
theorem dX11_where_38 : decode cX11_where 38 = .ok (.invokevirtual 198, 3) := by decide +kernel
theorem dX11_where_41 : decode cX11_where 41 = .ok (.istore 5, 2) := by decide +kernel
theorem dX11_where_43 : decode cX11_where 43 = .ok (.iconst 0, 1) := by decide +kernel
theorem dX11_where_44 : decode cX11_where 44 = .ok (.istore 6, 2) := by decide +kernel
theorem dX11_where_46 : decode cX11_where 46 = .ok (.iconst (-1), 1) := by decide +kernel
theorem dX11_where_47 : decode cX11_where 47 = .ok (.istore 7, 2) := by decide +kernel
theorem dX11_where_49 : decode cX11_where 49 = .ok (.iconst 0, 1) := by decide +kernel
theorem dX11_where_50 : decode cX11_where 50 = .ok (.istore 8, 2) := by decide +kernel
theorem dX11_where_52 : decode cX11_where 52 = .ok (.iload 8, 2) := by decide +kernel
theorem dX11_where_54 : decode cX11_where 54 = .ok (.aload_n 0, 1) := by decide +kernel
theorem dX11_where_55 : decode cX11_where 55 = .ok (.getfield 15, 3) := by decide +kernel
theorem dX11_where_58 : decode cX11_where 58 = .ok (.if_icmp .gt 45, 3) := by decide +kernel
theorem dX11_where_61 : decode cX11_where 61 = .ok (.aload_n 0, 1) := by decide +kernel
theorem dX11_where_62 : decode cX11_where 62 = .ok (.aload 4, 2) := by decide +kernel
theorem dX11_where_64 : decode cX11_where 64 = .ok (.iload 5, 2) := by decide +kernel
theorem dX11_where_66 : decode cX11_where 66 = .ok (.aload_n 0, 1) := by decide +kernel
theorem dX11_where_67 : decode cX11_where 67 = .ok (.iload 8, 2) := by decide +kernel
theorem dX11_where_69 : decode cX11_where 69 = .ok (.invokevirtual 204, 3) := by decide +kernel
theorem dX11_where_72 : decode cX11_where 72 = .ok (.ior, 1) := by decide +kernel
theorem dX11_where_73 : decode cX11_where 73 = .ok (.invokevirtual 210, 3) := by decide +kernel
theorem dX11_where_76 : decode cX11_where 76 = .ok (.ifCond .eq 21, 3) := by decide +kernel
theorem dX11_where_79 : decode cX11_where 79 = .ok (.iinc 6 1, 3) := by decide +kernel
theorem dX11_where_82 : decode cX11_where 82 = .ok (.iload 7, 2) := by decide +kernel
theorem dX11_where_84 : decode cX11_where 84 = .ok (.iconst (-1), 1) := by decide +kernel
theorem dX11_where_85 : decode cX11_where 85 = .ok (.if_icmp .ne 8, 3) := by decide +kernel
theorem dX11_where_88 : decode cX11_where 88 = .ok (.iload 8, 2) := by decide +kernel
theorem dX11_where_90 : decode cX11_where 90 = .ok (.goto 5, 3) := by decide +kernel
theorem dX11_where_93 : decode cX11_where 93 = .ok (.iload 7, 2) := by decide +kernel
theorem dX11_where_95 : decode cX11_where 95 = .ok (.istore 7, 2) := by decide +kernel
theorem dX11_where_97 : decode cX11_where 97 = .ok (.iinc 8 1, 3) := by decide +kernel
theorem dX11_where_100 : decode cX11_where 100 = .ok (.goto (-48), 3) := by decide +kernel
theorem dX11_where_103 : decode cX11_where 103 = .ok (.iload_n 2, 1) := by decide +kernel
theorem dX11_where_104 : decode cX11_where 104 = .ok (.ifCond .ne 8, 3) := by decide +kernel
theorem dX11_where_107 : decode cX11_where 107 = .ok (.iload 6, 2) := by decide +kernel
theorem dX11_where_109 : decode cX11_where 109 = .ok (.goto 5, 3) := by decide +kernel
theorem dX11_where_112 : decode cX11_where 112 = .ok (.iload 7, 2) := by decide +kernel
theorem dX11_where_114 : decode cX11_where 114 = .ok (.ireturn, 1) := by decide +kernel
theorem dX11_best_0 : decode cX11_best 0 = .ok (.iload_n 1, 1) := by decide +kernel
theorem dX11_best_1 : decode cX11_best 1 = .ok (.ifCond .lt 21, 3) := by decide +kernel
theorem dX11_best_4 : decode cX11_best 4 = .ok (.iload_n 1, 1) := by decide +kernel
theorem dX11_best_5 : decode cX11_best 5 = .ok (.iconst 1, 1) := by decide +kernel
theorem dX11_best_6 : decode cX11_best 6 = .ok (.if_icmp .gt 16, 3) := by decide +kernel
theorem dX11_best_9 : decode cX11_best 9 = .ok (.iload_n 2, 1) := by decide +kernel
theorem dX11_best_10 : decode cX11_best 10 = .ok (.iconst (-1), 1) := by decide +kernel
theorem dX11_best_11 : decode cX11_best 11 = .ok (.if_icmp .lt 11, 3) := by decide +kernel
theorem dX11_best_14 : decode cX11_best 14 = .ok (.iload_n 2, 1) := by decide +kernel
theorem dX11_best_15 : decode cX11_best 15 = .ok (.aload_n 0, 1) := by decide +kernel
theorem dX11_best_16 : decode cX11_best 16 = .ok (.getfield 15, 3) := by decide +kernel
theorem dX11_best_19 : decode cX11_best 19 = .ok (.if_icmp .lt 6, 3) := by decide +kernel
theorem dX11_best_22 : decode cX11_best 22 = .ok (.bipush (-2), 2) := by decide +kernel
theorem dX11_best_24 : decode cX11_best 24 = .ok (.ireturn, 1) := by decide +kernel
theorem dX11_best_25 : decode cX11_best 25 = .ok (.aload_n 0, 1) := by decide +kernel
theorem dX11_best_26 : decode cX11_best 26 = .ok (.iload_n 1, 1) := by decide +kernel
theorem dX11_best_27 : decode cX11_best 27 = .ok (.invokevirtual 214, 3) := by decide +kernel
theorem dX11_best_30 : decode cX11_best 30 = .ok (.astore_n 3, 1) := by decide +kernel
theorem dX11_best_31 : decode cX11_best 31 = .ok (.aload_n 3, 1) := by decide +kernel
theorem dX11_best_32 : decode cX11_best 32 = .ok (.aload_n 0, 1) := by decide +kernel
theorem dX11_best_33 : decode cX11_best 33 = .ok (.getfield 11, 3) := by decide +kernel
theorem dX11_best_36 : decode cX11_best 36 = .ok (.aload_n 0, 1) := by decide +kernel
theorem dX11_best_37 : decode cX11_best 37 = .ok (.getfield 15, 3) := by decide +kernel
theorem dX11_best_40 : decode cX11_best 40 = .ok (.aload_n 0, 1) := by decide +kernel
theorem dX11_best_41 : decode cX11_best 41 = .ok (.getfield 31, 3) := by decide +kernel
theorem dX11_best_44 : decode cX11_best 44 = .ok (.aload_n 0, 1) := by decide +kernel
theorem dX11_best_45 : decode cX11_best 45 = .ok (.getfield 43, 3) := by decide +kernel
theorem dX11_best_48 : decode cX11_best 48 = .ok (.aload_n 0, 1) := by decide +kernel
theorem dX11_best_49 : decode cX11_best 49 = .ok (.getfield 50, 3) := by decide +kernel
theorem dX11_best_52 : decode cX11_best 52 = .ok (.aaload, 1) := by decide +kernel
theorem dX11_best_53 : decode cX11_best 53 = .ok (.invokevirtual 218, 3) := by decide +kernel
theorem dX11_best_56 : decode cX11_best 56 = .ok (.iload_n 2, 1) := by decide +kernel
theorem dX11_best_57 : decode cX11_best 57 = .ok (.iconst (-1), 1) := by decide +kernel
theorem dX11_best_58 : decode cX11_best 58 = .ok (.if_icmp .ne 20, 3) := by decide +kernel
theorem dX11_best_61 : decode cX11_best 61 = .ok (.iload_n 1, 1) := by decide +kernel
theorem dX11_best_62 : decode cX11_best 62 = .ok (.ifCond .ne 11, 3) := by decide +kernel
theorem dX11_best_65 : decode cX11_best 65 = .ok (.aload_n 3, 1) := by decide +kernel
theorem dX11_best_66 : decode cX11_best 66 = .ok (.getfield 222, 3) := by decide +kernel
theorem dX11_best_69 : decode cX11_best 69 = .ok (.ineg, 1) := by decide +kernel
theorem dX11_best_70 : decode cX11_best 70 = .ok (.goto 7, 3) := by decide +kernel
theorem dX11_best_73 : decode cX11_best 73 = .ok (.aload_n 3, 1) := by decide +kernel
theorem dX11_best_74 : decode cX11_best 74 = .ok (.getfield 222, 3) := by decide +kernel
theorem dX11_best_77 : decode cX11_best 77 = .ok (.ireturn, 1) := by decide +kernel
theorem dX11_best_78 : decode cX11_best 78 = .ok (.aload_n 3, 1) := by decide +kernel
theorem dX11_best_79 : decode cX11_best 79 = .ok (.getfield 225, 3) := by decide +kernel
theorem dX11_best_82 : decode cX11_best 82 = .ok (.iload_n 2, 1) := by decide +kernel
theorem dX11_best_83 : decode cX11_best 83 = .ok (.iaload, 1) := by decide +kernel
theorem dX11_best_84 : decode cX11_best 84 = .ok (.ireturn, 1) := by decide +kernel
theorem dX11_arrange_0 : decode cX11_arrange 0 = .ok (.iload_n 1, 1) := by decide +kernel
theorem dX11_arrange_1 : decode cX11_arrange 1 = .ok (.ifCond .lt 8, 3) := by decide +kernel
theorem dX11_arrange_4 : decode cX11_arrange 4 = .ok (.iload_n 1, 1) := by decide +kernel
theorem dX11_arrange_5 : decode cX11_arrange 5 = .ok (.iconst 1, 1) := by decide +kernel
theorem dX11_arrange_6 : decode cX11_arrange 6 = .ok (.if_icmp .le 6, 3) := by decide +kernel
theorem dX11_arrange_9 : decode cX11_arrange 9 = .ok (.bipush (-2), 2) := by decide +kernel
theorem dX11_arrange_11 : decode cX11_arrange 11 = .ok (.ireturn, 1) := by decide +kernel
theorem dX11_arrange_12 : decode cX11_arrange 12 = .ok (.aload_n 0, 1) := by decide +kernel
theorem dX11_arrange_13 : decode cX11_arrange 13 = .ok (.iload_n 1, 1) := by decide +kernel
theorem dX11_arrange_14 : decode cX11_arrange 14 = .ok (.invokevirtual 214, 3) := by decide +kernel
theorem dX11_arrange_17 : decode cX11_arrange 17 = .ok (.astore_n 2, 1) := by decide +kernel
theorem dX11_arrange_18 : decode cX11_arrange 18 = .ok (.aload_n 2, 1) := by decide +kernel
theorem dX11_arrange_19 : decode cX11_arrange 19 = .ok (.aload_n 0, 1) := by decide +kernel
theorem dX11_arrange_20 : decode cX11_arrange 20 = .ok (.getfield 11, 3) := by decide +kernel
theorem dX11_arrange_23 : decode cX11_arrange 23 = .ok (.aload_n 0, 1) := by decide +kernel
theorem dX11_arrange_24 : decode cX11_arrange 24 = .ok (.getfield 15, 3) := by decide +kernel
theorem dX11_arrange_27 : decode cX11_arrange 27 = .ok (.aload_n 0, 1) := by decide +kernel
theorem dX11_arrange_28 : decode cX11_arrange 28 = .ok (.getfield 31, 3) := by decide +kernel
theorem dX11_arrange_31 : decode cX11_arrange 31 = .ok (.aload_n 0, 1) := by decide +kernel
theorem dX11_arrange_32 : decode cX11_arrange 32 = .ok (.getfield 43, 3) := by decide +kernel
theorem dX11_arrange_35 : decode cX11_arrange 35 = .ok (.aload_n 0, 1) := by decide +kernel
theorem dX11_arrange_36 : decode cX11_arrange 36 = .ok (.getfield 50, 3) := by decide +kernel
theorem dX11_arrange_39 : decode cX11_arrange 39 = .ok (.aaload, 1) := by decide +kernel
theorem dX11_arrange_40 : decode cX11_arrange 40 = .ok (.invokevirtual 218, 3) := by decide +kernel
theorem dX11_arrange_43 : decode cX11_arrange 43 = .ok (.aload_n 2, 1) := by decide +kernel
theorem dX11_arrange_44 : decode cX11_arrange 44 = .ok (.getfield 225, 3) := by decide +kernel
theorem dX11_arrange_47 : decode cX11_arrange 47 = .ok (.iconst 0, 1) := by decide +kernel
theorem dX11_arrange_48 : decode cX11_arrange 48 = .ok (.aload_n 0, 1) := by decide +kernel
theorem dX11_arrange_49 : decode cX11_arrange 49 = .ok (.getfield 19, 3) := by decide +kernel
theorem dX11_arrange_52 : decode cX11_arrange 52 = .ok (.iconst 0, 1) := by decide +kernel
theorem dX11_arrange_53 : decode cX11_arrange 53 = .ok (.aload_n 0, 1) := by decide +kernel
theorem dX11_arrange_54 : decode cX11_arrange 54 = .ok (.getfield 15, 3) := by decide +kernel
theorem dX11_arrange_57 : decode cX11_arrange 57 = .ok (.invokestatic 228, 3) := by decide +kernel
theorem dX11_arrange_60 : decode cX11_arrange 60 = .ok (.aload_n 0, 1) := by decide +kernel
theorem dX11_arrange_61 : decode cX11_arrange 61 = .ok (.invokevirtual 182, 3) := by decide +kernel
theorem dX11_arrange_64 : decode cX11_arrange 64 = .ok (.ireturn, 1) := by decide +kernel
theorem dX11_ways_0 : decode cX11_ways 0 = .ok (.iload_n 1, 1) := by decide +kernel
theorem dX11_ways_1 : decode cX11_ways 1 = .ok (.ifCond .lt 8, 3) := by decide +kernel
theorem dX11_ways_4 : decode cX11_ways 4 = .ok (.iload_n 1, 1) := by decide +kernel
theorem dX11_ways_5 : decode cX11_ways 5 = .ok (.iconst 1, 1) := by decide +kernel
theorem dX11_ways_6 : decode cX11_ways 6 = .ok (.if_icmp .le 6, 3) := by decide +kernel
theorem dX11_ways_9 : decode cX11_ways 9 = .ok (.bipush (-2), 2) := by decide +kernel
theorem dX11_ways_11 : decode cX11_ways 11 = .ok (.ireturn, 1) := by decide +kernel
theorem dX11_ways_12 : decode cX11_ways 12 = .ok (.iconst 0, 1) := by decide +kernel
theorem dX11_ways_13 : decode cX11_ways 13 = .ok (.istore_n 2, 1) := by decide +kernel
theorem dX11_ways_14 : decode cX11_ways 14 = .ok (.iload_n 2, 1) := by decide +kernel
theorem dX11_ways_15 : decode cX11_ways 15 = .ok (.aload_n 0, 1) := by decide +kernel
theorem dX11_ways_16 : decode cX11_ways 16 = .ok (.getfield 15, 3) := by decide +kernel
theorem dX11_ways_19 : decode cX11_ways 19 = .ok (.if_icmp .ge 72, 3) := by decide +kernel
theorem dX11_ways_22 : decode cX11_ways 22 = .ok (.aload_n 0, 1) := by decide +kernel
theorem dX11_ways_23 : decode cX11_ways 23 = .ok (.iload_n 2, 1) := by decide +kernel
theorem dX11_ways_24 : decode cX11_ways 24 = .ok (.iload_n 1, 1) := by decide +kernel
theorem dX11_ways_25 : decode cX11_ways 25 = .ok (.invokevirtual 234, 3) := by decide +kernel
theorem dX11_ways_28 : decode cX11_ways 28 = .ok (.istore_n 3, 1) := by decide +kernel
theorem dX11_ways_29 : decode cX11_ways 29 = .ok (.iload_n 2, 1) := by decide +kernel
theorem dX11_ways_30 : decode cX11_ways 30 = .ok (.istore 4, 2) := by decide +kernel
theorem dX11_ways_32 : decode cX11_ways 32 = .ok (.iload 4, 2) := by decide +kernel
theorem dX11_ways_34 : decode cX11_ways 34 = .ok (.ifCond .le 43, 3) := by decide +kernel
theorem dX11_ways_37 : decode cX11_ways 37 = .ok (.aload_n 0, 1) := by decide +kernel
theorem dX11_ways_38 : decode cX11_ways 38 = .ok (.aload_n 0, 1) := by decide +kernel
theorem dX11_ways_39 : decode cX11_ways 39 = .ok (.getfield 69, 3) := by decide +kernel
theorem dX11_ways_42 : decode cX11_ways 42 = .ok (.iload 4, 2) := by decide +kernel
theorem dX11_ways_44 : decode cX11_ways 44 = .ok (.iconst 1, 1) := by decide +kernel
theorem dX11_ways_45 : decode cX11_ways 45 = .ok (.isub, 1) := by decide +kernel
theorem dX11_ways_46 : decode cX11_ways 46 = .ok (.iaload, 1) := by decide +kernel
theorem dX11_ways_47 : decode cX11_ways 47 = .ok (.iload_n 1, 1) := by decide +kernel
theorem dX11_ways_48 : decode cX11_ways 48 = .ok (.invokevirtual 234, 3) := by decide +kernel
theorem dX11_ways_51 : decode cX11_ways 51 = .ok (.iload_n 3, 1) := by decide +kernel
theorem dX11_ways_52 : decode cX11_ways 52 = .ok (.if_icmp .le 25, 3) := by decide +kernel
theorem dX11_ways_55 : decode cX11_ways 55 = .ok (.aload_n 0, 1) := by decide +kernel
theorem dX11_ways_56 : decode cX11_ways 56 = .ok (.getfield 69, 3) := by decide +kernel
theorem dX11_ways_59 : decode cX11_ways 59 = .ok (.iload 4, 2) := by decide +kernel
theorem dX11_ways_61 : decode cX11_ways 61 = .ok (.aload_n 0, 1) := by decide +kernel
theorem dX11_ways_62 : decode cX11_ways 62 = .ok (.getfield 69, 3) := by decide +kernel
theorem dX11_ways_65 : decode cX11_ways 65 = .ok (.iload 4, 2) := by decide +kernel
theorem dX11_ways_67 : decode cX11_ways 67 = .ok (.iconst 1, 1) := by decide +kernel
theorem dX11_ways_68 : decode cX11_ways 68 = .ok (.isub, 1) := by decide +kernel
theorem dX11_ways_69 : decode cX11_ways 69 = .ok (.iaload, 1) := by decide +kernel
theorem dX11_ways_70 : decode cX11_ways 70 = .ok (.iastore, 1) := by decide +kernel
theorem dX11_ways_71 : decode cX11_ways 71 = .ok (.iinc 4 (-1), 3) := by decide +kernel
theorem dX11_ways_74 : decode cX11_ways 74 = .ok (.goto (-42), 3) := by decide +kernel
theorem dX11_ways_77 : decode cX11_ways 77 = .ok (.aload_n 0, 1) := by decide +kernel
theorem dX11_ways_78 : decode cX11_ways 78 = .ok (.getfield 69, 3) := by decide +kernel
theorem dX11_ways_81 : decode cX11_ways 81 = .ok (.iload 4, 2) := by decide +kernel
theorem dX11_ways_83 : decode cX11_ways 83 = .ok (.iload_n 2, 1) := by decide +kernel
theorem dX11_ways_84 : decode cX11_ways 84 = .ok (.iastore, 1) := by decide +kernel
theorem dX11_ways_85 : decode cX11_ways 85 = .ok (.iinc 2 1, 3) := by decide +kernel
theorem dX11_ways_88 : decode cX11_ways 88 = .ok (.goto (-74), 3) := by decide +kernel
theorem dX11_ways_91 : decode cX11_ways 91 = .ok (.aload_n 0, 1) := by decide +kernel
theorem dX11_ways_92 : decode cX11_ways 92 = .ok (.aload_n 0, 1) := by decide +kernel
theorem dX11_ways_93 : decode cX11_ways 93 = .ok (.getfield 69, 3) := by decide +kernel
theorem dX11_ways_96 : decode cX11_ways 96 = .ok (.iconst 0, 1) := by decide +kernel
theorem dX11_ways_97 : decode cX11_ways 97 = .ok (.aload_n 0, 1) := by decide +kernel
theorem dX11_ways_98 : decode cX11_ways 98 = .ok (.getfield 15, 3) := by decide +kernel
theorem dX11_ways_101 : decode cX11_ways 101 = .ok (.invokevirtual 237, 3) := by decide +kernel
theorem dX11_ways_104 : decode cX11_ways 104 = .ok (.ireturn, 1) := by decide +kernel
theorem dX11_begin_0 : decode cX11_begin 0 = .ok (.aload_n 0, 1) := by decide +kernel
theorem dX11_begin_1 : decode cX11_begin 1 = .ok (.invokevirtual 182, 3) := by decide +kernel
theorem dX11_begin_4 : decode cX11_begin 4 = .ok (.pop, 1) := by decide +kernel
theorem dX11_begin_5 : decode cX11_begin 5 = .ok (.sipush 999, 3) := by decide +kernel
theorem dX11_begin_8 : decode cX11_begin 8 = .ok (.istore_n 1, 1) := by decide +kernel
theorem dX11_begin_9 : decode cX11_begin 9 = .ok (.iconst 0, 1) := by decide +kernel
theorem dX11_begin_10 : decode cX11_begin 10 = .ok (.istore_n 2, 1) := by decide +kernel
theorem dX11_begin_11 : decode cX11_begin 11 = .ok (.iload_n 2, 1) := by decide +kernel
theorem dX11_begin_12 : decode cX11_begin 12 = .ok (.aload_n 0, 1) := by decide +kernel
theorem dX11_begin_13 : decode cX11_begin 13 = .ok (.getfield 15, 3) := by decide +kernel
theorem dX11_begin_16 : decode cX11_begin 16 = .ok (.if_icmp .ge 54, 3) := by decide +kernel
theorem dX11_begin_19 : decode cX11_begin 19 = .ok (.aload_n 0, 1) := by decide +kernel
theorem dX11_begin_20 : decode cX11_begin 20 = .ok (.getfield 66, 3) := by decide +kernel
theorem dX11_begin_23 : decode cX11_begin 23 = .ok (.iload_n 2, 1) := by decide +kernel
theorem dX11_begin_24 : decode cX11_begin 24 = .ok (.iaload, 1) := by decide +kernel
theorem dX11_begin_25 : decode cX11_begin 25 = .ok (.aload_n 0, 1) := by decide +kernel
theorem dX11_begin_26 : decode cX11_begin 26 = .ok (.getfield 31, 3) := by decide +kernel
theorem dX11_begin_29 : decode cX11_begin 29 = .ok (.iconst 2, 1) := by decide +kernel
theorem dX11_begin_30 : decode cX11_begin 30 = .ok (.iaload, 1) := by decide +kernel
theorem dX11_begin_31 : decode cX11_begin 31 = .ok (.isub, 1) := by decide +kernel
theorem dX11_begin_32 : decode cX11_begin 32 = .ok (.istore_n 3, 1) := by decide +kernel
theorem dX11_begin_33 : decode cX11_begin 33 = .ok (.iload_n 1, 1) := by decide +kernel
theorem dX11_begin_34 : decode cX11_begin 34 = .ok (.aload_n 0, 1) := by decide +kernel
theorem dX11_begin_35 : decode cX11_begin 35 = .ok (.getfield 43, 3) := by decide +kernel
theorem dX11_begin_38 : decode cX11_begin 38 = .ok (.aload_n 0, 1) := by decide +kernel
theorem dX11_begin_39 : decode cX11_begin 39 = .ok (.getfield 50, 3) := by decide +kernel
theorem dX11_begin_42 : decode cX11_begin 42 = .ok (.aaload, 1) := by decide +kernel
theorem dX11_begin_43 : decode cX11_begin 43 = .ok (.aload_n 0, 1) := by decide +kernel
theorem dX11_begin_44 : decode cX11_begin 44 = .ok (.getfield 11, 3) := by decide +kernel
theorem dX11_begin_47 : decode cX11_begin 47 = .ok (.iload_n 2, 1) := by decide +kernel
theorem dX11_begin_48 : decode cX11_begin 48 = .ok (.aaload, 1) := by decide +kernel
theorem dX11_begin_49 : decode cX11_begin 49 = .ok (.aload_n 0, 1) := by decide +kernel
theorem dX11_begin_50 : decode cX11_begin 50 = .ok (.getfield 31, 3) := by decide +kernel
theorem dX11_begin_53 : decode cX11_begin 53 = .ok (.iconst 5, 1) := by decide +kernel
theorem dX11_begin_54 : decode cX11_begin 54 = .ok (.iaload, 1) := by decide +kernel
theorem dX11_begin_55 : decode cX11_begin 55 = .ok (.invokevirtual 168, 3) := by decide +kernel
theorem dX11_begin_58 : decode cX11_begin 58 = .ok (.iload_n 3, 1) := by decide +kernel
theorem dX11_begin_59 : decode cX11_begin 59 = .ok (.isub, 1) := by decide +kernel
theorem dX11_begin_60 : decode cX11_begin 60 = .ok (.invokestatic 241, 3) := by decide +kernel
theorem dX11_begin_63 : decode cX11_begin 63 = .ok (.istore_n 1, 1) := by decide +kernel
theorem dX11_begin_64 : decode cX11_begin 64 = .ok (.iinc 2 1, 3) := by decide +kernel
theorem dX11_begin_67 : decode cX11_begin 67 = .ok (.goto (-56), 3) := by decide +kernel
theorem dX11_begin_70 : decode cX11_begin 70 = .ok (.iload_n 1, 1) := by decide +kernel
theorem dX11_begin_71 : decode cX11_begin 71 = .ok (.ifCond .ge 7, 3) := by decide +kernel
theorem dX11_begin_74 : decode cX11_begin 74 = .ok (.iconst (-1), 1) := by decide +kernel
theorem dX11_begin_75 : decode cX11_begin 75 = .ok (.goto 4, 3) := by decide +kernel
theorem dX11_begin_78 : decode cX11_begin 78 = .ok (.iload_n 1, 1) := by decide +kernel
theorem dX11_begin_79 : decode cX11_begin 79 = .ok (.ireturn, 1) := by decide +kernel
theorem dX11_heap_0 : decode cX11_heap 0 = .ok (.iload_n 1, 1) := by decide +kernel
theorem dX11_heap_1 : decode cX11_heap 1 = .ok (.ifCond .lt 8, 3) := by decide +kernel
theorem dX11_heap_4 : decode cX11_heap 4 = .ok (.iload_n 1, 1) := by decide +kernel
theorem dX11_heap_5 : decode cX11_heap 5 = .ok (.iconst 1, 1) := by decide +kernel
theorem dX11_heap_6 : decode cX11_heap 6 = .ok (.if_icmp .le 6, 3) := by decide +kernel
theorem dX11_heap_9 : decode cX11_heap 9 = .ok (.bipush (-2), 2) := by decide +kernel
theorem dX11_heap_11 : decode cX11_heap 11 = .ok (.ireturn, 1) := by decide +kernel
theorem dX11_heap_12 : decode cX11_heap 12 = .ok (.aload_n 0, 1) := by decide +kernel
theorem dX11_heap_13 : decode cX11_heap 13 = .ok (.getfield 31, 3) := by decide +kernel
theorem dX11_heap_16 : decode cX11_heap 16 = .ok (.iconst 1, 1) := by decide +kernel
theorem dX11_heap_17 : decode cX11_heap 17 = .ok (.iaload, 1) := by decide +kernel
theorem dX11_heap_18 : decode cX11_heap 18 = .ok (.istore_n 2, 1) := by decide +kernel
theorem dX11_heap_19 : decode cX11_heap 19 = .ok (.iconst 0, 1) := by decide +kernel
theorem dX11_heap_20 : decode cX11_heap 20 = .ok (.istore_n 3, 1) := by decide +kernel
theorem dX11_heap_21 : decode cX11_heap 21 = .ok (.ldc 246, 2) := by decide +kernel
theorem dX11_heap_23 : decode cX11_heap 23 = .ok (.istore 4, 2) := by decide +kernel
theorem dX11_heap_25 : decode cX11_heap 25 = .ok (.iconst 0, 1) := by decide +kernel
theorem dX11_heap_26 : decode cX11_heap 26 = .ok (.istore 5, 2) := by decide +kernel
theorem dX11_heap_28 : decode cX11_heap 28 = .ok (.iload 5, 2) := by decide +kernel
theorem dX11_heap_30 : decode cX11_heap 30 = .ok (.bipush 99, 2) := by decide +kernel
theorem dX11_heap_32 : decode cX11_heap 32 = .ok (.if_icmp .gt 37, 3) := by decide +kernel
theorem dX11_heap_35 : decode cX11_heap 35 = .ok (.aload_n 0, 1) := by decide +kernel
theorem dX11_heap_36 : decode cX11_heap 36 = .ok (.getfield 31, 3) := by decide +kernel
theorem dX11_heap_39 : decode cX11_heap 39 = .ok (.iconst 1, 1) := by decide +kernel
theorem dX11_heap_40 : decode cX11_heap 40 = .ok (.iload 5, 2) := by decide +kernel
theorem dX11_heap_42 : decode cX11_heap 42 = .ok (.iastore, 1) := by decide +kernel
theorem dX11_heap_43 : decode cX11_heap 43 = .ok (.aload_n 0, 1) := by decide +kernel
theorem dX11_heap_44 : decode cX11_heap 44 = .ok (.invokevirtual 182, 3) := by decide +kernel
theorem dX11_heap_47 : decode cX11_heap 47 = .ok (.istore 6, 2) := by decide +kernel
theorem dX11_heap_49 : decode cX11_heap 49 = .ok (.iload 6, 2) := by decide +kernel
theorem dX11_heap_51 : decode cX11_heap 51 = .ok (.iload 4, 2) := by decide +kernel
theorem dX11_heap_53 : decode cX11_heap 53 = .ok (.if_icmp .ge 10, 3) := by decide +kernel
theorem dX11_heap_56 : decode cX11_heap 56 = .ok (.iload 6, 2) := by decide +kernel
theorem dX11_heap_58 : decode cX11_heap 58 = .ok (.istore 4, 2) := by decide +kernel
theorem dX11_heap_60 : decode cX11_heap 60 = .ok (.iload 5, 2) := by decide +kernel
theorem dX11_heap_62 : decode cX11_heap 62 = .ok (.istore_n 3, 1) := by decide +kernel
theorem dX11_heap_63 : decode cX11_heap 63 = .ok (.iinc 5 1, 3) := by decide +kernel
theorem dX11_heap_66 : decode cX11_heap 66 = .ok (.goto (-38), 3) := by decide +kernel
theorem dX11_heap_69 : decode cX11_heap 69 = .ok (.aload_n 0, 1) := by decide +kernel
theorem dX11_heap_70 : decode cX11_heap 70 = .ok (.getfield 31, 3) := by decide +kernel
theorem dX11_heap_73 : decode cX11_heap 73 = .ok (.iconst 1, 1) := by decide +kernel
theorem dX11_heap_74 : decode cX11_heap 74 = .ok (.iload_n 2, 1) := by decide +kernel
theorem dX11_heap_75 : decode cX11_heap 75 = .ok (.iastore, 1) := by decide +kernel
theorem dX11_heap_76 : decode cX11_heap 76 = .ok (.iload_n 1, 1) := by decide +kernel
theorem dX11_heap_77 : decode cX11_heap 77 = .ok (.ifCond .ne 7, 3) := by decide +kernel
theorem dX11_heap_80 : decode cX11_heap 80 = .ok (.iload_n 3, 1) := by decide +kernel
theorem dX11_heap_81 : decode cX11_heap 81 = .ok (.goto 5, 3) := by decide +kernel
theorem dX11_heap_84 : decode cX11_heap 84 = .ok (.iload 4, 2) := by decide +kernel
theorem dX11_heap_86 : decode cX11_heap 86 = .ok (.ireturn, 1) := by decide +kernel
theorem dX11_split_0 : decode cX11_split 0 = .ok (.iload_n 1, 1) := by decide +kernel
theorem dX11_split_1 : decode cX11_split 1 = .ok (.ifCond .lt 8, 3) := by decide +kernel
theorem dX11_split_4 : decode cX11_split 4 = .ok (.iload_n 1, 1) := by decide +kernel
theorem dX11_split_5 : decode cX11_split 5 = .ok (.iconst 1, 1) := by decide +kernel
theorem dX11_split_6 : decode cX11_split 6 = .ok (.if_icmp .le 6, 3) := by decide +kernel
theorem dX11_split_9 : decode cX11_split 9 = .ok (.bipush (-2), 2) := by decide +kernel
theorem dX11_split_11 : decode cX11_split 11 = .ok (.ireturn, 1) := by decide +kernel
theorem dX11_split_12 : decode cX11_split 12 = .ok (.iconst 0, 1) := by decide +kernel
theorem dX11_split_13 : decode cX11_split 13 = .ok (.istore_n 2, 1) := by decide +kernel
theorem dX11_split_14 : decode cX11_split 14 = .ok (.ldc 246, 2) := by decide +kernel
theorem dX11_split_16 : decode cX11_split 16 = .ok (.istore_n 3, 1) := by decide +kernel
theorem dX11_split_17 : decode cX11_split 17 = .ok (.iconst 0, 1) := by decide +kernel
theorem dX11_split_18 : decode cX11_split 18 = .ok (.istore 4, 2) := by decide +kernel
theorem dX11_split_20 : decode cX11_split 20 = .ok (.iload 4, 2) := by decide +kernel
theorem dX11_split_22 : decode cX11_split 22 = .ok (.aload_n 0, 1) := by decide +kernel
theorem dX11_split_23 : decode cX11_split 23 = .ok (.getfield 15, 3) := by decide +kernel
theorem dX11_split_26 : decode cX11_split 26 = .ok (.if_icmp .gt 51, 3) := by decide +kernel
theorem dX11_split_29 : decode cX11_split 29 = .ok (.aload_n 0, 1) := by decide +kernel
theorem dX11_split_30 : decode cX11_split 30 = .ok (.aload_n 0, 1) := by decide +kernel
theorem dX11_split_31 : decode cX11_split 31 = .ok (.getfield 19, 3) := by decide +kernel
theorem dX11_split_34 : decode cX11_split 34 = .ok (.iconst 0, 1) := by decide +kernel
theorem dX11_split_35 : decode cX11_split 35 = .ok (.iload 4, 2) := by decide +kernel
theorem dX11_split_37 : decode cX11_split 37 = .ok (.invokevirtual 237, 3) := by decide +kernel
theorem dX11_split_40 : decode cX11_split 40 = .ok (.aload_n 0, 1) := by decide +kernel
theorem dX11_split_41 : decode cX11_split 41 = .ok (.aload_n 0, 1) := by decide +kernel
theorem dX11_split_42 : decode cX11_split 42 = .ok (.getfield 19, 3) := by decide +kernel
theorem dX11_split_45 : decode cX11_split 45 = .ok (.iload 4, 2) := by decide +kernel
theorem dX11_split_47 : decode cX11_split 47 = .ok (.aload_n 0, 1) := by decide +kernel
theorem dX11_split_48 : decode cX11_split 48 = .ok (.getfield 15, 3) := by decide +kernel
theorem dX11_split_51 : decode cX11_split 51 = .ok (.invokevirtual 237, 3) := by decide +kernel
theorem dX11_split_54 : decode cX11_split 54 = .ok (.invokestatic 247, 3) := by decide +kernel
theorem dX11_split_57 : decode cX11_split 57 = .ok (.istore 5, 2) := by decide +kernel
theorem dX11_split_59 : decode cX11_split 59 = .ok (.iload 5, 2) := by decide +kernel
theorem dX11_split_61 : decode cX11_split 61 = .ok (.iload_n 3, 1) := by decide +kernel
theorem dX11_split_62 : decode cX11_split 62 = .ok (.if_icmp .ge 9, 3) := by decide +kernel
theorem dX11_split_65 : decode cX11_split 65 = .ok (.iload 5, 2) := by decide +kernel
theorem dX11_split_67 : decode cX11_split 67 = .ok (.istore_n 3, 1) := by decide +kernel
theorem dX11_split_68 : decode cX11_split 68 = .ok (.iload 4, 2) := by decide +kernel
theorem dX11_split_70 : decode cX11_split 70 = .ok (.istore_n 2, 1) := by decide +kernel
theorem dX11_split_71 : decode cX11_split 71 = .ok (.iinc 4 1, 3) := by decide +kernel
theorem dX11_split_74 : decode cX11_split 74 = .ok (.goto (-54), 3) := by decide +kernel
theorem dX11_split_77 : decode cX11_split 77 = .ok (.iload_n 1, 1) := by decide +kernel
theorem dX11_split_78 : decode cX11_split 78 = .ok (.ifCond .ne 7, 3) := by decide +kernel
theorem dX11_split_81 : decode cX11_split 81 = .ok (.iload_n 2, 1) := by decide +kernel
theorem dX11_split_82 : decode cX11_split 82 = .ok (.goto 4, 3) := by decide +kernel
theorem dX11_split_85 : decode cX11_split 85 = .ok (.iload_n 3, 1) := by decide +kernel
theorem dX11_split_86 : decode cX11_split 86 = .ok (.ireturn, 1) := by decide +kernel
theorem dX11_drop_0 : decode cX11_drop 0 = .ok (.aload_n 0, 1) := by decide +kernel
theorem dX11_drop_1 : decode cX11_drop 1 = .ok (.iload_n 1, 1) := by decide +kernel
theorem dX11_drop_2 : decode cX11_drop 2 = .ok (.invokevirtual 172, 3) := by decide +kernel
theorem dX11_drop_5 : decode cX11_drop 5 = .ok (.ifCond .eq 13, 3) := by decide +kernel
theorem dX11_drop_8 : decode cX11_drop 8 = .ok (.aload_n 0, 1) := by decide +kernel
theorem dX11_drop_9 : decode cX11_drop 9 = .ok (.iconst 1, 1) := by decide +kernel
theorem dX11_drop_10 : decode cX11_drop 10 = .ok (.iload_n 1, 1) := by decide +kernel
theorem dX11_drop_11 : decode cX11_drop 11 = .ok (.ishl, 1) := by decide +kernel
theorem dX11_drop_12 : decode cX11_drop 12 = .ok (.invokevirtual 250, 3) := by decide +kernel
theorem dX11_drop_15 : decode cX11_drop 15 = .ok (.goto 5, 3) := by decide +kernel
theorem dX11_drop_18 : decode cX11_drop 18 = .ok (.bipush (-2), 2) := by decide +kernel
theorem dX11_drop_20 : decode cX11_drop 20 = .ok (.ireturn, 1) := by decide +kernel
theorem dX11_away_0 : decode cX11_away 0 = .ok (.iload_n 1, 1) := by decide +kernel
theorem dX11_away_1 : decode cX11_away 1 = .ok (.ifCond .lt 22, 3) := by decide +kernel
theorem dX11_away_4 : decode cX11_away 4 = .ok (.iload_n 1, 1) := by decide +kernel
theorem dX11_away_5 : decode cX11_away 5 = .ok (.iconst 1, 1) := by decide +kernel
theorem dX11_away_6 : decode cX11_away 6 = .ok (.aload_n 0, 1) := by decide +kernel
theorem dX11_away_7 : decode cX11_away 7 = .ok (.getfield 15, 3) := by decide +kernel
theorem dX11_away_10 : decode cX11_away 10 = .ok (.ishl, 1) := by decide +kernel
theorem dX11_away_11 : decode cX11_away 11 = .ok (.if_icmp .ge 12, 3) := by decide +kernel
theorem dX11_away_14 : decode cX11_away 14 = .ok (.iload_n 2, 1) := by decide +kernel
theorem dX11_away_15 : decode cX11_away 15 = .ok (.ifCond .lt 8, 3) := by decide +kernel
theorem dX11_away_18 : decode cX11_away 18 = .ok (.iload_n 2, 1) := by decide +kernel
theorem dX11_away_19 : decode cX11_away 19 = .ok (.iconst 1, 1) := by decide +kernel
theorem dX11_away_20 : decode cX11_away 20 = .ok (.if_icmp .le 6, 3) := by decide +kernel
theorem dX11_away_23 : decode cX11_away 23 = .ok (.bipush (-2), 2) := by decide +kernel
theorem dX11_away_25 : decode cX11_away 25 = .ok (.ireturn, 1) := by decide +kernel
theorem dX11_away_26 : decode cX11_away 26 = .ok (.iload_n 2, 1) := by decide +kernel
theorem dX11_away_27 : decode cX11_away 27 = .ok (.ifCond .ne 11, 3) := by decide +kernel
theorem dX11_away_30 : decode cX11_away 30 = .ok (.aload_n 0, 1) := by decide +kernel
theorem dX11_away_31 : decode cX11_away 31 = .ok (.iload_n 1, 1) := by decide +kernel
theorem dX11_away_32 : decode cX11_away 32 = .ok (.invokevirtual 250, 3) := by decide +kernel
theorem dX11_away_35 : decode cX11_away 35 = .ok (.goto 8, 3) := by decide +kernel
theorem dX11_away_38 : decode cX11_away 38 = .ok (.aload_n 0, 1) := by decide +kernel
theorem dX11_away_39 : decode cX11_away 39 = .ok (.iload_n 1, 1) := by decide +kernel
theorem dX11_away_40 : decode cX11_away 40 = .ok (.invokevirtual 253, 3) := by decide +kernel
theorem dX11_away_43 : decode cX11_away 43 = .ok (.ireturn, 1) := by decide +kernel
theorem dX11_judge_0 : decode cX11_judge 0 = .ok (.aload_n 0, 1) := by decide +kernel
theorem dX11_judge_1 : decode cX11_judge 1 = .ok (.iload_n 1, 1) := by decide +kernel
theorem dX11_judge_2 : decode cX11_judge 2 = .ok (.invokevirtual 207, 3) := by decide +kernel
theorem dX11_judge_5 : decode cX11_judge 5 = .ok (.istore_n 2, 1) := by decide +kernel
theorem dX11_judge_6 : decode cX11_judge 6 = .ok (.iload_n 2, 1) := by decide +kernel
theorem dX11_judge_7 : decode cX11_judge 7 = .ok (.ifCond .eq 5, 3) := by decide +kernel
theorem dX11_judge_10 : decode cX11_judge 10 = .ok (.iload_n 2, 1) := by decide +kernel
theorem dX11_judge_11 : decode cX11_judge 11 = .ok (.ireturn, 1) := by decide +kernel
theorem dX11_judge_12 : decode cX11_judge 12 = .ok (.aload_n 0, 1) := by decide +kernel
theorem dX11_judge_13 : decode cX11_judge 13 = .ok (.getfield 55, 3) := by decide +kernel
theorem dX11_judge_16 : decode cX11_judge 16 = .ok (.iload_n 1, 1) := by decide +kernel
theorem dX11_judge_17 : decode cX11_judge 17 = .ok (.aaload, 1) := by decide +kernel
theorem dX11_judge_18 : decode cX11_judge 18 = .ok (.astore_n 3, 1) := by decide +kernel
theorem dX11_judge_19 : decode cX11_judge 19 = .ok (.aload_n 0, 1) := by decide +kernel
theorem dX11_judge_20 : decode cX11_judge 20 = .ok (.invokevirtual 182, 3) := by decide +kernel
theorem dX11_judge_23 : decode cX11_judge 23 = .ok (.pop, 1) := by decide +kernel
theorem dX11_judge_24 : decode cX11_judge 24 = .ok (.iconst 0, 1) := by decide +kernel
theorem dX11_judge_25 : decode cX11_judge 25 = .ok (.istore 4, 2) := by decide +kernel
theorem dX11_judge_27 : decode cX11_judge 27 = .ok (.iload 4, 2) := by decide +kernel
theorem dX11_judge_29 : decode cX11_judge 29 = .ok (.aload_n 0, 1) := by decide +kernel
theorem dX11_judge_30 : decode cX11_judge 30 = .ok (.getfield 15, 3) := by decide +kernel
theorem dX11_judge_33 : decode cX11_judge 33 = .ok (.if_icmp .ge 33, 3) := by decide +kernel
theorem dX11_judge_36 : decode cX11_judge 36 = .ok (.aload_n 3, 1) := by decide +kernel
theorem dX11_judge_37 : decode cX11_judge 37 = .ok (.iload 4, 2) := by decide +kernel
theorem dX11_judge_39 : decode cX11_judge 39 = .ok (.invokevirtual 256, 3) := by decide +kernel
theorem dX11_judge_42 : decode cX11_judge 42 = .ok (.aload_n 0, 1) := by decide +kernel
theorem dX11_judge_43 : decode cX11_judge 43 = .ok (.getfield 66, 3) := by decide +kernel
theorem dX11_judge_46 : decode cX11_judge 46 = .ok (.aload_n 0, 1) := by decide +kernel
theorem dX11_judge_47 : decode cX11_judge 47 = .ok (.getfield 19, 3) := by decide +kernel
theorem dX11_judge_50 : decode cX11_judge 50 = .ok (.iload 4, 2) := by decide +kernel
theorem dX11_judge_52 : decode cX11_judge 52 = .ok (.iaload, 1) := by decide +kernel
theorem dX11_judge_53 : decode cX11_judge 53 = .ok (.iaload, 1) := by decide +kernel
theorem dX11_judge_54 : decode cX11_judge 54 = .ok (.if_icmp .eq 6, 3) := by decide +kernel
theorem dX11_judge_57 : decode cX11_judge 57 = .ok (.iload 4, 2) := by decide +kernel
theorem dX11_judge_59 : decode cX11_judge 59 = .ok (.ireturn, 1) := by decide +kernel
theorem dX11_judge_60 : decode cX11_judge 60 = .ok (.iinc 4 1, 3) := by decide +kernel
theorem dX11_judge_63 : decode cX11_judge 63 = .ok (.goto (-36), 3) := by decide +kernel
theorem dX11_judge_66 : decode cX11_judge 66 = .ok (.iconst (-1), 1) := by decide +kernel
theorem dX11_judge_67 : decode cX11_judge 67 = .ok (.ireturn, 1) := by decide +kernel
theorem dX11_thrownBy_0 : decode cX11_thrownBy 0 = .ok (.iload_n 2, 1) := by decide +kernel
theorem dX11_thrownBy_1 : decode cX11_thrownBy 1 = .ok (.ifCond .lt 9, 3) := by decide +kernel
theorem dX11_thrownBy_4 : decode cX11_thrownBy 4 = .ok (.iload_n 2, 1) := by decide +kernel
theorem dX11_thrownBy_5 : decode cX11_thrownBy 5 = .ok (.bipush 10, 2) := by decide +kernel
theorem dX11_thrownBy_7 : decode cX11_thrownBy 7 = .ok (.if_icmp .le 8, 3) := by decide +kernel
theorem dX11_thrownBy_10 : decode cX11_thrownBy 10 = .ok (.bipush (-2), 2) := by decide +kernel
theorem dX11_thrownBy_12 : decode cX11_thrownBy 12 = .ok (.goto 9, 3) := by decide +kernel
theorem dX11_thrownBy_15 : decode cX11_thrownBy 15 = .ok (.aload_n 0, 1) := by decide +kernel
theorem dX11_thrownBy_16 : decode cX11_thrownBy 16 = .ok (.iload_n 1, 1) := by decide +kernel
theorem dX11_thrownBy_17 : decode cX11_thrownBy 17 = .ok (.iload_n 2, 1) := by decide +kernel
theorem dX11_thrownBy_18 : decode cX11_thrownBy 18 = .ok (.invokevirtual 259, 3) := by decide +kernel
theorem dX11_thrownBy_21 : decode cX11_thrownBy 21 = .ok (.ireturn, 1) := by decide +kernel
theorem dX11_chance_0 : decode cX11_chance 0 = .ok (.iload_n 2, 1) := by decide +kernel
theorem dX11_chance_1 : decode cX11_chance 1 = .ok (.iconst 1, 1) := by decide +kernel
theorem dX11_chance_2 : decode cX11_chance 2 = .ok (.if_icmp .lt 30, 3) := by decide +kernel
theorem dX11_chance_5 : decode cX11_chance 5 = .ok (.iload_n 2, 1) := by decide +kernel
theorem dX11_chance_6 : decode cX11_chance 6 = .ok (.bipush 20, 2) := by decide +kernel
theorem dX11_chance_8 : decode cX11_chance 8 = .ok (.if_icmp .gt 24, 3) := by decide +kernel
theorem dX11_chance_11 : decode cX11_chance 11 = .ok (.iload_n 3, 1) := by decide +kernel
theorem dX11_chance_12 : decode cX11_chance 12 = .ok (.ifCond .lt 20, 3) := by decide +kernel
theorem dX11_chance_15 : decode cX11_chance 15 = .ok (.iload_n 3, 1) := by decide +kernel
theorem dX11_chance_16 : decode cX11_chance 16 = .ok (.bipush 10, 2) := by decide +kernel
theorem dX11_chance_18 : decode cX11_chance 18 = .ok (.if_icmp .gt 14, 3) := by decide +kernel
theorem dX11_chance_21 : decode cX11_chance 21 = .ok (.iload 4, 2) := by decide +kernel
theorem dX11_chance_23 : decode cX11_chance 23 = .ok (.ifCond .lt 9, 3) := by decide +kernel
theorem dX11_chance_26 : decode cX11_chance 26 = .ok (.iload 4, 2) := by decide +kernel
theorem dX11_chance_28 : decode cX11_chance 28 = .ok (.iconst 1, 1) := by decide +kernel
theorem dX11_chance_29 : decode cX11_chance 29 = .ok (.if_icmp .le 7, 3) := by decide +kernel
theorem dX11_chance_32 : decode cX11_chance 32 = .ok (.ldc2_w 262, 3) := by decide +kernel
theorem dX11_chance_35 : decode cX11_chance 35 = .ok (.lreturn, 1) := by decide +kernel
theorem dX11_chance_36 : decode cX11_chance 36 = .ok (.iconst 0, 1) := by decide +kernel
theorem dX11_chance_37 : decode cX11_chance 37 = .ok (.istore 5, 2) := by decide +kernel
theorem dX11_chance_39 : decode cX11_chance 39 = .ok (.iconst 0, 1) := by decide +kernel
theorem dX11_chance_40 : decode cX11_chance 40 = .ok (.istore 6, 2) := by decide +kernel
theorem dX11_chance_42 : decode cX11_chance 42 = .ok (.iload 6, 2) := by decide +kernel
theorem dX11_chance_44 : decode cX11_chance 44 = .ok (.iload_n 2, 1) := by decide +kernel
theorem dX11_chance_45 : decode cX11_chance 45 = .ok (.if_icmp .ge 28, 3) := by decide +kernel
theorem dX11_chance_48 : decode cX11_chance 48 = .ok (.aload_n 0, 1) := by decide +kernel
theorem dX11_chance_49 : decode cX11_chance 49 = .ok (.iload_n 1, 1) := by decide +kernel
theorem dX11_chance_50 : decode cX11_chance 50 = .ok (.iload 6, 2) := by decide +kernel
theorem dX11_chance_52 : decode cX11_chance 52 = .ok (.iadd, 1) := by decide +kernel
theorem dX11_chance_53 : decode cX11_chance 53 = .ok (.iload_n 3, 1) := by decide +kernel
theorem dX11_chance_54 : decode cX11_chance 54 = .ok (.invokevirtual 259, 3) := by decide +kernel
theorem dX11_chance_57 : decode cX11_chance 57 = .ok (.aload_n 0, 1) := by decide +kernel
theorem dX11_chance_58 : decode cX11_chance 58 = .ok (.getfield 15, 3) := by decide +kernel
theorem dX11_chance_61 : decode cX11_chance 61 = .ok (.if_icmp .ne 6, 3) := by decide +kernel
theorem dX11_chance_64 : decode cX11_chance 64 = .ok (.iinc 5 1, 3) := by decide +kernel
theorem dX11_chance_67 : decode cX11_chance 67 = .ok (.iinc 6 1, 3) := by decide +kernel
theorem dX11_chance_70 : decode cX11_chance 70 = .ok (.goto (-28), 3) := by decide +kernel
theorem dX11_chance_73 : decode cX11_chance 73 = .ok (.iload 4, 2) := by decide +kernel
theorem dX11_chance_75 : decode cX11_chance 75 = .ok (.ifCond .ne 8, 3) := by decide +kernel
theorem dX11_chance_78 : decode cX11_chance 78 = .ok (.iload 5, 2) := by decide +kernel
theorem dX11_chance_80 : decode cX11_chance 80 = .ok (.goto 4, 3) := by decide +kernel
theorem dX11_chance_83 : decode cX11_chance 83 = .ok (.iload_n 2, 1) := by decide +kernel
theorem dX11_chance_84 : decode cX11_chance 84 = .ok (.iload 5, 2) := by decide +kernel
theorem dX11_chance_86 : decode cX11_chance 86 = .ok (.iload_n 2, 1) := by decide +kernel
theorem dX11_chance_87 : decode cX11_chance 87 = .ok (.invokestatic 264, 3) := by decide +kernel
theorem dX11_chance_90 : decode cX11_chance 90 = .ok (.idiv, 1) := by decide +kernel
theorem dX11_chance_91 : decode cX11_chance 91 = .ok (.i2l, 1) := by decide +kernel
theorem dX11_chance_92 : decode cX11_chance 92 = .ok (.lreturn, 1) := by decide +kernel
theorem dX11_image_0 : decode cX11_image 0 = .ok (.aload_n 0, 1) := by decide +kernel
theorem dX11_image_1 : decode cX11_image 1 = .ok (.aload_n 0, 1) := by decide +kernel
theorem dX11_image_2 : decode cX11_image 2 = .ok (.getfield 15, 3) := by decide +kernel
theorem dX11_image_5 : decode cX11_image 5 = .ok (.putfield 84, 3) := by decide +kernel
theorem dX11_image_8 : decode cX11_image 8 = .ok (.aload_n 0, 1) := by decide +kernel
theorem dX11_image_9 : decode cX11_image 9 = .ok (.aload_n 0, 1) := by decide +kernel
theorem dX11_image_10 : decode cX11_image 10 = .ok (.getfield 50, 3) := by decide +kernel
theorem dX11_image_13 : decode cX11_image 13 = .ok (.putfield 87, 3) := by decide +kernel
theorem dX11_image_16 : decode cX11_image 16 = .ok (.aload_n 0, 1) := by decide +kernel
theorem dX11_image_17 : decode cX11_image 17 = .ok (.getfield 19, 3) := by decide +kernel
theorem dX11_image_20 : decode cX11_image 20 = .ok (.iconst 0, 1) := by decide +kernel
theorem dX11_image_21 : decode cX11_image 21 = .ok (.aload_n 0, 1) := by decide +kernel
theorem dX11_image_22 : decode cX11_image 22 = .ok (.getfield 90, 3) := by decide +kernel
theorem dX11_image_25 : decode cX11_image 25 = .ok (.iconst 0, 1) := by decide +kernel
theorem dX11_image_26 : decode cX11_image 26 = .ok (.bipush 7, 2) := by decide +kernel
theorem dX11_image_28 : decode cX11_image 28 = .ok (.invokestatic 228, 3) := by decide +kernel
theorem dX11_image_31 : decode cX11_image 31 = .ok (.aload_n 0, 1) := by decide +kernel
theorem dX11_image_32 : decode cX11_image 32 = .ok (.getfield 31, 3) := by decide +kernel
theorem dX11_image_35 : decode cX11_image 35 = .ok (.iconst 0, 1) := by decide +kernel
theorem dX11_image_36 : decode cX11_image 36 = .ok (.aload_n 0, 1) := by decide +kernel
theorem dX11_image_37 : decode cX11_image 37 = .ok (.getfield 93, 3) := by decide +kernel
theorem dX11_image_40 : decode cX11_image 40 = .ok (.iconst 0, 1) := by decide +kernel
theorem dX11_image_41 : decode cX11_image 41 = .ok (.bipush 10, 2) := by decide +kernel
theorem dX11_image_43 : decode cX11_image 43 = .ok (.invokestatic 228, 3) := by decide +kernel
theorem dX11_image_46 : decode cX11_image 46 = .ok (.iconst 0, 1) := by decide +kernel
theorem dX11_image_47 : decode cX11_image 47 = .ok (.istore_n 1, 1) := by decide +kernel
theorem dX11_image_48 : decode cX11_image 48 = .ok (.iload_n 1, 1) := by decide +kernel
theorem dX11_image_49 : decode cX11_image 49 = .ok (.aload_n 0, 1) := by decide +kernel
theorem dX11_image_50 : decode cX11_image 50 = .ok (.getfield 15, 3) := by decide +kernel
theorem dX11_image_53 : decode cX11_image 53 = .ok (.if_icmp .ge 42, 3) := by decide +kernel
theorem dX11_image_56 : decode cX11_image 56 = .ok (.iconst 0, 1) := by decide +kernel
theorem dX11_image_57 : decode cX11_image 57 = .ok (.istore_n 2, 1) := by decide +kernel
theorem dX11_image_58 : decode cX11_image 58 = .ok (.iload_n 2, 1) := by decide +kernel
theorem dX11_image_59 : decode cX11_image 59 = .ok (.iconst 4, 1) := by decide +kernel
theorem dX11_image_60 : decode cX11_image 60 = .ok (.if_icmp .ge 29, 3) := by decide +kernel
theorem dX11_image_63 : decode cX11_image 63 = .ok (.aload_n 0, 1) := by decide +kernel
theorem dX11_image_64 : decode cX11_image 64 = .ok (.getfield 96, 3) := by decide +kernel
theorem dX11_image_67 : decode cX11_image 67 = .ok (.iload_n 1, 1) := by decide +kernel
theorem dX11_image_68 : decode cX11_image 68 = .ok (.iconst 4, 1) := by decide +kernel
theorem dX11_image_69 : decode cX11_image 69 = .ok (.imul, 1) := by decide +kernel
theorem dX11_image_70 : decode cX11_image 70 = .ok (.iload_n 2, 1) := by decide +kernel
theorem dX11_image_71 : decode cX11_image 71 = .ok (.iadd, 1) := by decide +kernel
theorem dX11_image_72 : decode cX11_image 72 = .ok (.aload_n 0, 1) := by decide +kernel
theorem dX11_image_73 : decode cX11_image 73 = .ok (.getfield 11, 3) := by decide +kernel
theorem dX11_image_76 : decode cX11_image 76 = .ok (.iload_n 1, 1) := by decide +kernel
theorem dX11_image_77 : decode cX11_image 77 = .ok (.aaload, 1) := by decide +kernel
theorem dX11_image_78 : decode cX11_image 78 = .ok (.iload_n 2, 1) := by decide +kernel
theorem dX11_image_79 : decode cX11_image 79 = .ok (.invokevirtual 141, 3) := by decide +kernel
theorem dX11_image_82 : decode cX11_image 82 = .ok (.iastore, 1) := by decide +kernel
theorem dX11_image_83 : decode cX11_image 83 = .ok (.iinc 2 1, 3) := by decide +kernel
theorem dX11_image_86 : decode cX11_image 86 = .ok (.goto (-28), 3) := by decide +kernel
theorem dX11_image_89 : decode cX11_image 89 = .ok (.iinc 1 1, 3) := by decide +kernel
theorem dX11_image_92 : decode cX11_image 92 = .ok (.goto (-44), 3) := by decide +kernel
theorem dX11_image_95 : decode cX11_image 95 = .ok (.aload_n 0, 1) := by decide +kernel
theorem dX11_image_96 : decode cX11_image 96 = .ok (.getfield 15, 3) := by decide +kernel
theorem dX11_image_99 : decode cX11_image 99 = .ok (.ireturn, 1) := by decide +kernel
theorem dX11_back_0 : decode cX11_back 0 = .ok (.aload_n 0, 1) := by decide +kernel
theorem dX11_back_1 : decode cX11_back 1 = .ok (.getfield 84, 3) := by decide +kernel
theorem dX11_back_4 : decode cX11_back 4 = .ok (.iconst (-1), 1) := by decide +kernel
theorem dX11_back_5 : decode cX11_back 5 = .ok (.if_icmp .ne 6, 3) := by decide +kernel
theorem dX11_back_8 : decode cX11_back 8 = .ok (.bipush (-3), 2) := by decide +kernel
theorem dX11_back_10 : decode cX11_back 10 = .ok (.ireturn, 1) := by decide +kernel
theorem dX11_back_11 : decode cX11_back 11 = .ok (.aload_n 0, 1) := by decide +kernel
theorem dX11_back_12 : decode cX11_back 12 = .ok (.aload_n 0, 1) := by decide +kernel
theorem dX11_back_13 : decode cX11_back 13 = .ok (.getfield 84, 3) := by decide +kernel
theorem dX11_back_16 : decode cX11_back 16 = .ok (.putfield 15, 3) := by decide +kernel
theorem dX11_back_19 : decode cX11_back 19 = .ok (.aload_n 0, 1) := by decide +kernel
theorem dX11_back_20 : decode cX11_back 20 = .ok (.aload_n 0, 1) := by decide +kernel
theorem dX11_back_21 : decode cX11_back 21 = .ok (.getfield 87, 3) := by decide +kernel
theorem dX11_back_24 : decode cX11_back 24 = .ok (.putfield 50, 3) := by decide +kernel
theorem dX11_back_27 : decode cX11_back 27 = .ok (.aload_n 0, 1) := by decide +kernel
theorem dX11_back_28 : decode cX11_back 28 = .ok (.getfield 90, 3) := by decide +kernel
theorem dX11_back_31 : decode cX11_back 31 = .ok (.iconst 0, 1) := by decide +kernel
theorem dX11_back_32 : decode cX11_back 32 = .ok (.aload_n 0, 1) := by decide +kernel
theorem dX11_back_33 : decode cX11_back 33 = .ok (.getfield 19, 3) := by decide +kernel
theorem dX11_back_36 : decode cX11_back 36 = .ok (.iconst 0, 1) := by decide +kernel
theorem dX11_back_37 : decode cX11_back 37 = .ok (.bipush 7, 2) := by decide +kernel
theorem dX11_back_39 : decode cX11_back 39 = .ok (.invokestatic 228, 3) := by decide +kernel
theorem dX11_back_42 : decode cX11_back 42 = .ok (.aload_n 0, 1) := by decide +kernel
theorem dX11_back_43 : decode cX11_back 43 = .ok (.getfield 93, 3) := by decide +kernel
theorem dX11_back_46 : decode cX11_back 46 = .ok (.iconst 0, 1) := by decide +kernel
theorem dX11_back_47 : decode cX11_back 47 = .ok (.aload_n 0, 1) := by decide +kernel
theorem dX11_back_48 : decode cX11_back 48 = .ok (.getfield 31, 3) := by decide +kernel
theorem dX11_back_51 : decode cX11_back 51 = .ok (.iconst 0, 1) := by decide +kernel
theorem dX11_back_52 : decode cX11_back 52 = .ok (.bipush 10, 2) := by decide +kernel
theorem dX11_back_54 : decode cX11_back 54 = .ok (.invokestatic 228, 3) := by decide +kernel
theorem dX11_back_57 : decode cX11_back 57 = .ok (.iconst 0, 1) := by decide +kernel
theorem dX11_back_58 : decode cX11_back 58 = .ok (.istore_n 1, 1) := by decide +kernel
theorem dX11_back_59 : decode cX11_back 59 = .ok (.iload_n 1, 1) := by decide +kernel
theorem dX11_back_60 : decode cX11_back 60 = .ok (.aload_n 0, 1) := by decide +kernel
theorem dX11_back_61 : decode cX11_back 61 = .ok (.getfield 15, 3) := by decide +kernel
theorem dX11_back_64 : decode cX11_back 64 = .ok (.if_icmp .ge 42, 3) := by decide +kernel
theorem dX11_back_67 : decode cX11_back 67 = .ok (.iconst 0, 1) := by decide +kernel
theorem dX11_back_68 : decode cX11_back 68 = .ok (.istore_n 2, 1) := by decide +kernel
theorem dX11_back_69 : decode cX11_back 69 = .ok (.iload_n 2, 1) := by decide +kernel
theorem dX11_back_70 : decode cX11_back 70 = .ok (.iconst 4, 1) := by decide +kernel
theorem dX11_back_71 : decode cX11_back 71 = .ok (.if_icmp .ge 29, 3) := by decide +kernel
theorem dX11_back_74 : decode cX11_back 74 = .ok (.aload_n 0, 1) := by decide +kernel
theorem dX11_back_75 : decode cX11_back 75 = .ok (.getfield 11, 3) := by decide +kernel
theorem dX11_back_78 : decode cX11_back 78 = .ok (.iload_n 1, 1) := by decide +kernel
theorem dX11_back_79 : decode cX11_back 79 = .ok (.aaload, 1) := by decide +kernel
theorem dX11_back_80 : decode cX11_back 80 = .ok (.iload_n 2, 1) := by decide +kernel
theorem dX11_back_81 : decode cX11_back 81 = .ok (.aload_n 0, 1) := by decide +kernel
theorem dX11_back_82 : decode cX11_back 82 = .ok (.getfield 96, 3) := by decide +kernel
theorem dX11_back_85 : decode cX11_back 85 = .ok (.iload_n 1, 1) := by decide +kernel
theorem dX11_back_86 : decode cX11_back 86 = .ok (.iconst 4, 1) := by decide +kernel
theorem dX11_back_87 : decode cX11_back 87 = .ok (.imul, 1) := by decide +kernel
theorem dX11_back_88 : decode cX11_back 88 = .ok (.iload_n 2, 1) := by decide +kernel
theorem dX11_back_89 : decode cX11_back 89 = .ok (.iadd, 1) := by decide +kernel
theorem dX11_back_90 : decode cX11_back 90 = .ok (.iaload, 1) := by decide +kernel
theorem dX11_back_91 : decode cX11_back 91 = .ok (.invokevirtual 130, 3) := by decide +kernel
theorem dX11_back_94 : decode cX11_back 94 = .ok (.iinc 2 1, 3) := by decide +kernel
theorem dX11_back_97 : decode cX11_back 97 = .ok (.goto (-28), 3) := by decide +kernel
theorem dX11_back_100 : decode cX11_back 100 = .ok (.iinc 1 1, 3) := by decide +kernel
theorem dX11_back_103 : decode cX11_back 103 = .ok (.goto (-44), 3) := by decide +kernel
theorem dX11_back_106 : decode cX11_back 106 = .ok (.aload_n 0, 1) := by decide +kernel
theorem dX11_back_107 : decode cX11_back 107 = .ok (.invokevirtual 134, 3) := by decide +kernel
theorem dX11_back_110 : decode cX11_back 110 = .ok (.aload_n 0, 1) := by decide +kernel
theorem dX11_back_111 : decode cX11_back 111 = .ok (.getfield 15, 3) := by decide +kernel
theorem dX11_back_114 : decode cX11_back 114 = .ok (.ireturn, 1) := by decide +kernel
theorem dX11_count_0 : decode cX11_count 0 = .ok (.iload_n 1, 1) := by decide +kernel
theorem dX11_count_1 : decode cX11_count 1 = .ok (.tableswitch 54 0 3 #[31, 36, 41, 49], 31) := by decide +kernel
theorem dX11_count_32 : decode cX11_count 32 = .ok (.aload_n 0, 1) := by decide +kernel
theorem dX11_count_33 : decode cX11_count 33 = .ok (.getfield 15, 3) := by decide +kernel
theorem dX11_count_36 : decode cX11_count 36 = .ok (.ireturn, 1) := by decide +kernel
theorem dX11_count_37 : decode cX11_count 37 = .ok (.aload_n 0, 1) := by decide +kernel
theorem dX11_count_38 : decode cX11_count 38 = .ok (.getfield 47, 3) := by decide +kernel
theorem dX11_count_41 : decode cX11_count 41 = .ok (.ireturn, 1) := by decide +kernel
theorem dX11_count_42 : decode cX11_count 42 = .ok (.aload_n 0, 1) := by decide +kernel
theorem dX11_count_43 : decode cX11_count 43 = .ok (.getfield 37, 3) := by decide +kernel
theorem dX11_count_46 : decode cX11_count 46 = .ok (.getfield 176, 3) := by decide +kernel
theorem dX11_count_49 : decode cX11_count 49 = .ok (.ireturn, 1) := by decide +kernel
theorem dX11_count_50 : decode cX11_count 50 = .ok (.aload_n 0, 1) := by decide +kernel
theorem dX11_count_51 : decode cX11_count 51 = .ok (.getfield 50, 3) := by decide +kernel
theorem dX11_count_54 : decode cX11_count 54 = .ok (.ireturn, 1) := by decide +kernel
theorem dX11_count_55 : decode cX11_count 55 = .ok (.iload_n 1, 1) := by decide +kernel
theorem dX11_count_56 : decode cX11_count 56 = .ok (.iconst 4, 1) := by decide +kernel
theorem dX11_count_57 : decode cX11_count 57 = .ok (.if_icmp .lt 20, 3) := by decide +kernel
theorem dX11_count_60 : decode cX11_count 60 = .ok (.iload_n 1, 1) := by decide +kernel
theorem dX11_count_61 : decode cX11_count 61 = .ok (.bipush 14, 2) := by decide +kernel
theorem dX11_count_63 : decode cX11_count 63 = .ok (.if_icmp .ge 14, 3) := by decide +kernel
theorem dX11_count_66 : decode cX11_count 66 = .ok (.aload_n 0, 1) := by decide +kernel
theorem dX11_count_67 : decode cX11_count 67 = .ok (.getfield 31, 3) := by decide +kernel
theorem dX11_count_70 : decode cX11_count 70 = .ok (.iload_n 1, 1) := by decide +kernel
theorem dX11_count_71 : decode cX11_count 71 = .ok (.iconst 4, 1) := by decide +kernel
theorem dX11_count_72 : decode cX11_count 72 = .ok (.isub, 1) := by decide +kernel
theorem dX11_count_73 : decode cX11_count 73 = .ok (.iaload, 1) := by decide +kernel
theorem dX11_count_74 : decode cX11_count 74 = .ok (.goto 5, 3) := by decide +kernel
theorem dX11_count_77 : decode cX11_count 77 = .ok (.bipush (-2), 2) := by decide +kernel
theorem dX11_count_79 : decode cX11_count 79 = .ok (.ireturn, 1) := by decide +kernel
theorem dX11_sheet_0 : decode cX11_sheet 0 = .ok (.iload_n 1, 1) := by decide +kernel
theorem dX11_sheet_1 : decode cX11_sheet 1 = .ok (.invokestatic 267, 3) := by decide +kernel
theorem dX11_sheet_4 : decode cX11_sheet 4 = .ok (.ifCond .eq 13, 3) := by decide +kernel
theorem dX11_sheet_7 : decode cX11_sheet 7 = .ok (.iload_n 2, 1) := by decide +kernel
theorem dX11_sheet_8 : decode cX11_sheet 8 = .ok (.iconst (-1), 1) := by decide +kernel
theorem dX11_sheet_9 : decode cX11_sheet 9 = .ok (.if_icmp .lt 8, 3) := by decide +kernel
theorem dX11_sheet_12 : decode cX11_sheet 12 = .ok (.iload_n 2, 1) := by decide +kernel
theorem dX11_sheet_13 : decode cX11_sheet 13 = .ok (.iconst 2, 1) := by decide +kernel
theorem dX11_sheet_14 : decode cX11_sheet 14 = .ok (.if_icmp .le 6, 3) := by decide +kernel
theorem dX11_sheet_17 : decode cX11_sheet 17 = .ok (.bipush (-2), 2) := by decide +kernel
theorem dX11_sheet_19 : decode cX11_sheet 19 = .ok (.ireturn, 1) := by decide +kernel
theorem dX11_sheet_20 : decode cX11_sheet 20 = .ok (.iload_n 2, 1) := by decide +kernel
theorem dX11_sheet_21 : decode cX11_sheet 21 = .ok (.iconst (-1), 1) := by decide +kernel
theorem dX11_sheet_22 : decode cX11_sheet 22 = .ok (.if_icmp .ne 16, 3) := by decide +kernel
theorem dX11_sheet_25 : decode cX11_sheet 25 = .ok (.aload_n 0, 1) := by decide +kernel
theorem dX11_sheet_26 : decode cX11_sheet 26 = .ok (.getfield 55, 3) := by decide +kernel
theorem dX11_sheet_29 : decode cX11_sheet 29 = .ok (.iload_n 1, 1) := by decide +kernel
theorem dX11_sheet_30 : decode cX11_sheet 30 = .ok (.aaload, 1) := by decide +kernel
theorem dX11_sheet_31 : decode cX11_sheet 31 = .ok (.iconst (-1), 1) := by decide +kernel
theorem dX11_sheet_32 : decode cX11_sheet 32 = .ok (.iconst 0, 1) := by decide +kernel
theorem dX11_sheet_33 : decode cX11_sheet 33 = .ok (.invokevirtual 270, 3) := by decide +kernel
theorem dX11_sheet_36 : decode cX11_sheet 36 = .ok (.iconst 1, 1) := by decide +kernel
theorem dX11_sheet_37 : decode cX11_sheet 37 = .ok (.ireturn, 1) := by decide +kernel
theorem dX11_sheet_38 : decode cX11_sheet 38 = .ok (.iload_n 3, 1) := by decide +kernel
theorem dX11_sheet_39 : decode cX11_sheet 39 = .ok (.bipush 40, 2) := by decide +kernel
theorem dX11_sheet_41 : decode cX11_sheet 41 = .ok (.if_icmp .le 6, 3) := by decide +kernel
theorem dX11_sheet_44 : decode cX11_sheet 44 = .ok (.bipush (-2), 2) := by decide +kernel
theorem dX11_sheet_46 : decode cX11_sheet 46 = .ok (.ireturn, 1) := by decide +kernel
theorem dX11_sheet_47 : decode cX11_sheet 47 = .ok (.iload_n 3, 1) := by decide +kernel
theorem dX11_sheet_48 : decode cX11_sheet 48 = .ok (.ifCond .ge 6, 3) := by decide +kernel
theorem dX11_sheet_51 : decode cX11_sheet 51 = .ok (.bipush (-14), 2) := by decide +kernel
theorem dX11_sheet_53 : decode cX11_sheet 53 = .ok (.ireturn, 1) := by decide +kernel
theorem dX11_sheet_54 : decode cX11_sheet 54 = .ok (.aload_n 0, 1) := by decide +kernel
theorem dX11_sheet_55 : decode cX11_sheet 55 = .ok (.getfield 55, 3) := by decide +kernel
theorem dX11_sheet_58 : decode cX11_sheet 58 = .ok (.iload_n 1, 1) := by decide +kernel
theorem dX11_sheet_59 : decode cX11_sheet 59 = .ok (.aaload, 1) := by decide +kernel
theorem dX11_sheet_60 : decode cX11_sheet 60 = .ok (.iload_n 2, 1) := by decide +kernel
theorem dX11_sheet_61 : decode cX11_sheet 61 = .ok (.iload_n 3, 1) := by decide +kernel
theorem dX11_sheet_62 : decode cX11_sheet 62 = .ok (.invokevirtual 270, 3) := by decide +kernel
theorem dX11_sheet_65 : decode cX11_sheet 65 = .ok (.iconst 1, 1) := by decide +kernel
theorem dX11_sheet_66 : decode cX11_sheet 66 = .ok (.ireturn, 1) := by decide +kernel
theorem dX11_cell_0 : decode cX11_cell 0 = .ok (.iload_n 1, 1) := by decide +kernel
theorem dX11_cell_1 : decode cX11_cell 1 = .ok (.invokestatic 267, 3) := by decide +kernel
theorem dX11_cell_4 : decode cX11_cell 4 = .ok (.ifCond .ne 6, 3) := by decide +kernel
theorem dX11_cell_7 : decode cX11_cell 7 = .ok (.bipush (-2), 2) := by decide +kernel
theorem dX11_cell_9 : decode cX11_cell 9 = .ok (.ireturn, 1) := by decide +kernel
theorem dX11_cell_10 : decode cX11_cell 10 = .ok (.aload_n 0, 1) := by decide +kernel
theorem dX11_cell_11 : decode cX11_cell 11 = .ok (.getfield 55, 3) := by decide +kernel
theorem dX11_cell_14 : decode cX11_cell 14 = .ok (.iload_n 1, 1) := by decide +kernel
theorem dX11_cell_15 : decode cX11_cell 15 = .ok (.aaload, 1) := by decide +kernel
theorem dX11_cell_16 : decode cX11_cell 16 = .ok (.astore 4, 2) := by decide +kernel
theorem dX11_cell_18 : decode cX11_cell 18 = .ok (.aload 4, 2) := by decide +kernel
theorem dX11_cell_20 : decode cX11_cell 20 = .ok (.invokevirtual 273, 3) := by decide +kernel
theorem dX11_cell_23 : decode cX11_cell 23 = .ok (.ifCond .eq 6, 3) := by decide +kernel
theorem dX11_cell_26 : decode cX11_cell 26 = .ok (.bipush (-11), 2) := by decide +kernel
theorem dX11_cell_28 : decode cX11_cell 28 = .ok (.ireturn, 1) := by decide +kernel
theorem dX11_cell_29 : decode cX11_cell 29 = .ok (.aload 4, 2) := by decide +kernel
theorem dX11_cell_31 : decode cX11_cell 31 = .ok (.iload_n 2, 1) := by decide +kernel
theorem dX11_cell_32 : decode cX11_cell 32 = .ok (.iconst 1, 1) := by decide +kernel
theorem dX11_cell_33 : decode cX11_cell 33 = .ok (.invokevirtual 277, 3) := by decide +kernel
theorem dX11_cell_36 : decode cX11_cell 36 = .ok (.ifCond .ne 6, 3) := by decide +kernel
theorem dX11_cell_39 : decode cX11_cell 39 = .ok (.bipush (-12), 2) := by decide +kernel
theorem dX11_cell_41 : decode cX11_cell 41 = .ok (.ireturn, 1) := by decide +kernel
theorem dX11_cell_42 : decode cX11_cell 42 = .ok (.aload 4, 2) := by decide +kernel
theorem dX11_cell_44 : decode cX11_cell 44 = .ok (.iload_n 2, 1) := by decide +kernel
theorem dX11_cell_45 : decode cX11_cell 45 = .ok (.iload_n 3, 1) := by decide +kernel
theorem dX11_cell_46 : decode cX11_cell 46 = .ok (.invokevirtual 280, 3) := by decide +kernel
theorem dX11_cell_49 : decode cX11_cell 49 = .ok (.iconst 1, 1) := by decide +kernel
theorem dX11_cell_50 : decode cX11_cell 50 = .ok (.ireturn, 1) := by decide +kernel
theorem dX11_copy_0 : decode cX11_copy 0 = .ok (.iload_n 1, 1) := by decide +kernel
theorem dX11_copy_1 : decode cX11_copy 1 = .ok (.invokestatic 267, 3) := by decide +kernel
theorem dX11_copy_4 : decode cX11_copy 4 = .ok (.ifCond .eq 10, 3) := by decide +kernel
theorem dX11_copy_7 : decode cX11_copy 7 = .ok (.iload_n 3, 1) := by decide +kernel
theorem dX11_copy_8 : decode cX11_copy 8 = .ok (.invokestatic 267, 3) := by decide +kernel
theorem dX11_copy_11 : decode cX11_copy 11 = .ok (.ifCond .ne 6, 3) := by decide +kernel
theorem dX11_copy_14 : decode cX11_copy 14 = .ok (.bipush (-2), 2) := by decide +kernel
theorem dX11_copy_16 : decode cX11_copy 16 = .ok (.ireturn, 1) := by decide +kernel
theorem dX11_copy_17 : decode cX11_copy 17 = .ok (.aload_n 0, 1) := by decide +kernel
theorem dX11_copy_18 : decode cX11_copy 18 = .ok (.getfield 55, 3) := by decide +kernel
theorem dX11_copy_21 : decode cX11_copy 21 = .ok (.iload_n 1, 1) := by decide +kernel
theorem dX11_copy_22 : decode cX11_copy 22 = .ok (.aaload, 1) := by decide +kernel
theorem dX11_copy_23 : decode cX11_copy 23 = .ok (.astore 6, 2) := by decide +kernel
theorem dX11_copy_25 : decode cX11_copy 25 = .ok (.aload_n 0, 1) := by decide +kernel
theorem dX11_copy_26 : decode cX11_copy 26 = .ok (.getfield 55, 3) := by decide +kernel
theorem dX11_copy_29 : decode cX11_copy 29 = .ok (.iload_n 3, 1) := by decide +kernel
theorem dX11_copy_30 : decode cX11_copy 30 = .ok (.aaload, 1) := by decide +kernel
theorem dX11_copy_31 : decode cX11_copy 31 = .ok (.astore 7, 2) := by decide +kernel
theorem dX11_copy_33 : decode cX11_copy 33 = .ok (.aload 6, 2) := by decide +kernel
theorem dX11_copy_35 : decode cX11_copy 35 = .ok (.invokevirtual 273, 3) := by decide +kernel
theorem dX11_copy_38 : decode cX11_copy 38 = .ok (.ifCond .ne 11, 3) := by decide +kernel
theorem dX11_copy_41 : decode cX11_copy 41 = .ok (.aload 7, 2) := by decide +kernel
theorem dX11_copy_43 : decode cX11_copy 43 = .ok (.invokevirtual 273, 3) := by decide +kernel
theorem dX11_copy_46 : decode cX11_copy 46 = .ok (.ifCond .eq 6, 3) := by decide +kernel
theorem dX11_copy_49 : decode cX11_copy 49 = .ok (.bipush (-11), 2) := by decide +kernel
theorem dX11_copy_51 : decode cX11_copy 51 = .ok (.ireturn, 1) := by decide +kernel
theorem dX11_copy_52 : decode cX11_copy 52 = .ok (.aload 6, 2) := by decide +kernel
theorem dX11_copy_54 : decode cX11_copy 54 = .ok (.getfield 283, 3) := by decide +kernel
theorem dX11_copy_57 : decode cX11_copy 57 = .ok (.aload 7, 2) := by decide +kernel
theorem dX11_copy_59 : decode cX11_copy 59 = .ok (.getfield 283, 3) := by decide +kernel
theorem dX11_copy_62 : decode cX11_copy 62 = .ok (.if_icmp .eq 6, 3) := by decide +kernel
theorem dX11_copy_65 : decode cX11_copy 65 = .ok (.bipush (-13), 2) := by decide +kernel
theorem dX11_copy_67 : decode cX11_copy 67 = .ok (.ireturn, 1) := by decide +kernel
theorem dX11_copy_68 : decode cX11_copy 68 = .ok (.aload 6, 2) := by decide +kernel
theorem dX11_copy_70 : decode cX11_copy 70 = .ok (.iload_n 2, 1) := by decide +kernel
theorem dX11_copy_71 : decode cX11_copy 71 = .ok (.iload 5, 2) := by decide +kernel
theorem dX11_copy_73 : decode cX11_copy 73 = .ok (.invokevirtual 277, 3) := by decide +kernel
theorem dX11_copy_76 : decode cX11_copy 76 = .ok (.ifCond .eq 15, 3) := by decide +kernel
theorem dX11_copy_79 : decode cX11_copy 79 = .ok (.aload 7, 2) := by decide +kernel
theorem dX11_copy_81 : decode cX11_copy 81 = .ok (.iload 4, 2) := by decide +kernel
theorem dX11_copy_83 : decode cX11_copy 83 = .ok (.iload 5, 2) := by decide +kernel
theorem dX11_copy_85 : decode cX11_copy 85 = .ok (.invokevirtual 277, 3) := by decide +kernel
theorem dX11_copy_88 : decode cX11_copy 88 = .ok (.ifCond .ne 6, 3) := by decide +kernel
theorem dX11_copy_91 : decode cX11_copy 91 = .ok (.bipush (-12), 2) := by decide +kernel
theorem dX11_copy_93 : decode cX11_copy 93 = .ok (.ireturn, 1) := by decide +kernel
theorem dX11_copy_94 : decode cX11_copy 94 = .ok (.aload 6, 2) := by decide +kernel
theorem dX11_copy_96 : decode cX11_copy 96 = .ok (.getfield 284, 3) := by decide +kernel
theorem dX11_copy_99 : decode cX11_copy 99 = .ok (.iload_n 2, 1) := by decide +kernel
theorem dX11_copy_100 : decode cX11_copy 100 = .ok (.aload 7, 2) := by decide +kernel
theorem dX11_copy_102 : decode cX11_copy 102 = .ok (.getfield 284, 3) := by decide +kernel
theorem dX11_copy_105 : decode cX11_copy 105 = .ok (.iload 4, 2) := by decide +kernel
theorem dX11_copy_107 : decode cX11_copy 107 = .ok (.iload 5, 2) := by decide +kernel
theorem dX11_copy_109 : decode cX11_copy 109 = .ok (.invokestatic 228, 3) := by decide +kernel
theorem dX11_copy_112 : decode cX11_copy 112 = .ok (.iload 5, 2) := by decide +kernel
theorem dX11_copy_114 : decode cX11_copy 114 = .ok (.ireturn, 1) := by decide +kernel
theorem dX11_houses_0 : decode cX11_houses 0 = .ok (.iload_n 1, 1) := by decide +kernel
theorem dX11_houses_1 : decode cX11_houses 1 = .ok (.invokestatic 267, 3) := by decide +kernel
theorem dX11_houses_4 : decode cX11_houses 4 = .ok (.ifCond .eq 24, 3) := by decide +kernel
theorem dX11_houses_7 : decode cX11_houses 7 = .ok (.iload_n 2, 1) := by decide +kernel
theorem dX11_houses_8 : decode cX11_houses 8 = .ok (.ifCond .lt 20, 3) := by decide +kernel
theorem dX11_houses_11 : decode cX11_houses 11 = .ok (.iload_n 2, 1) := by decide +kernel
theorem dX11_houses_12 : decode cX11_houses 12 = .ok (.iconst 2, 1) := by decide +kernel
theorem dX11_houses_13 : decode cX11_houses 13 = .ok (.if_icmp .gt 15, 3) := by decide +kernel
theorem dX11_houses_16 : decode cX11_houses 16 = .ok (.iload 4, 2) := by decide +kernel
theorem dX11_houses_18 : decode cX11_houses 18 = .ok (.ifCond .lt 10, 3) := by decide +kernel
theorem dX11_houses_21 : decode cX11_houses 21 = .ok (.iload 4, 2) := by decide +kernel
theorem dX11_houses_23 : decode cX11_houses 23 = .ok (.bipush 7, 2) := by decide +kernel
theorem dX11_houses_25 : decode cX11_houses 25 = .ok (.if_icmp .le 6, 3) := by decide +kernel
theorem dX11_houses_28 : decode cX11_houses 28 = .ok (.bipush (-2), 2) := by decide +kernel
theorem dX11_houses_30 : decode cX11_houses 30 = .ok (.ireturn, 1) := by decide +kernel
theorem dX11_houses_31 : decode cX11_houses 31 = .ok (.aload_n 0, 1) := by decide +kernel
theorem dX11_houses_32 : decode cX11_houses 32 = .ok (.getfield 55, 3) := by decide +kernel
theorem dX11_houses_35 : decode cX11_houses 35 = .ok (.iload_n 1, 1) := by decide +kernel
theorem dX11_houses_36 : decode cX11_houses 36 = .ok (.aaload, 1) := by decide +kernel
theorem dX11_houses_37 : decode cX11_houses 37 = .ok (.astore 5, 2) := by decide +kernel
theorem dX11_houses_39 : decode cX11_houses 39 = .ok (.aload 5, 2) := by decide +kernel
theorem dX11_houses_41 : decode cX11_houses 41 = .ok (.invokevirtual 273, 3) := by decide +kernel
theorem dX11_houses_44 : decode cX11_houses 44 = .ok (.ifCond .eq 6, 3) := by decide +kernel
theorem dX11_houses_47 : decode cX11_houses 47 = .ok (.bipush (-11), 2) := by decide +kernel
theorem dX11_houses_49 : decode cX11_houses 49 = .ok (.ireturn, 1) := by decide +kernel
theorem dX11_houses_50 : decode cX11_houses 50 = .ok (.aload 5, 2) := by decide +kernel
theorem dX11_houses_52 : decode cX11_houses 52 = .ok (.getfield 283, 3) := by decide +kernel
theorem dX11_houses_55 : decode cX11_houses 55 = .ok (.iload_n 2, 1) := by decide +kernel
theorem dX11_houses_56 : decode cX11_houses 56 = .ok (.if_icmp .eq 6, 3) := by decide +kernel
theorem dX11_houses_59 : decode cX11_houses 59 = .ok (.bipush (-13), 2) := by decide +kernel
theorem dX11_houses_61 : decode cX11_houses 61 = .ok (.ireturn, 1) := by decide +kernel
theorem dX11_houses_62 : decode cX11_houses 62 = .ok (.iconst 0, 1) := by decide +kernel
theorem dX11_houses_63 : decode cX11_houses 63 = .ok (.istore 6, 2) := by decide +kernel
theorem dX11_houses_65 : decode cX11_houses 65 = .ok (.iconst 0, 1) := by decide +kernel
theorem dX11_houses_66 : decode cX11_houses 66 = .ok (.istore 7, 2) := by decide +kernel
theorem dX11_houses_68 : decode cX11_houses 68 = .ok (.iload 7, 2) := by decide +kernel
theorem dX11_houses_70 : decode cX11_houses 70 = .ok (.iload 4, 2) := by decide +kernel
theorem dX11_houses_72 : decode cX11_houses 72 = .ok (.if_icmp .ge 66, 3) := by decide +kernel
theorem dX11_houses_75 : decode cX11_houses 75 = .ok (.iload_n 3, 1) := by decide +kernel
theorem dX11_houses_76 : decode cX11_houses 76 = .ok (.iconst 3, 1) := by decide +kernel
theorem dX11_houses_77 : decode cX11_houses 77 = .ok (.iload 7, 2) := by decide +kernel
theorem dX11_houses_79 : decode cX11_houses 79 = .ok (.imul, 1) := by decide +kernel
theorem dX11_houses_80 : decode cX11_houses 80 = .ok (.iadd, 1) := by decide +kernel
theorem dX11_houses_81 : decode cX11_houses 81 = .ok (.istore 8, 2) := by decide +kernel
theorem dX11_houses_83 : decode cX11_houses 83 = .ok (.aload 5, 2) := by decide +kernel
theorem dX11_houses_85 : decode cX11_houses 85 = .ok (.iload 8, 2) := by decide +kernel
theorem dX11_houses_87 : decode cX11_houses 87 = .ok (.iconst 3, 1) := by decide +kernel
theorem dX11_houses_88 : decode cX11_houses 88 = .ok (.invokevirtual 277, 3) := by decide +kernel
theorem dX11_houses_91 : decode cX11_houses 91 = .ok (.ifCond .ne 6, 3) := by decide +kernel
theorem dX11_houses_94 : decode cX11_houses 94 = .ok (.bipush (-12), 2) := by decide +kernel
theorem dX11_houses_96 : decode cX11_houses 96 = .ok (.ireturn, 1) := by decide +kernel
theorem dX11_houses_97 : decode cX11_houses 97 = .ok (.aload_n 0, 1) := by decide +kernel
theorem dX11_houses_98 : decode cX11_houses 98 = .ok (.aload 5, 2) := by decide +kernel
theorem dX11_houses_100 : decode cX11_houses 100 = .ok (.iload 8, 2) := by decide +kernel
theorem dX11_houses_102 : decode cX11_houses 102 = .ok (.invokevirtual 256, 3) := by decide +kernel
theorem dX11_houses_105 : decode cX11_houses 105 = .ok (.aload 5, 2) := by decide +kernel
theorem dX11_houses_107 : decode cX11_houses 107 = .ok (.iload 8, 2) := by decide +kernel
theorem dX11_houses_109 : decode cX11_houses 109 = .ok (.iconst 1, 1) := by decide +kernel
theorem dX11_houses_110 : decode cX11_houses 110 = .ok (.iadd, 1) := by decide +kernel
theorem dX11_houses_111 : decode cX11_houses 111 = .ok (.invokevirtual 256, 3) := by decide +kernel
theorem dX11_houses_114 : decode cX11_houses 114 = .ok (.aload 5, 2) := by decide +kernel
theorem dX11_houses_116 : decode cX11_houses 116 = .ok (.iload 8, 2) := by decide +kernel
theorem dX11_houses_118 : decode cX11_houses 118 = .ok (.iconst 2, 1) := by decide +kernel
theorem dX11_houses_119 : decode cX11_houses 119 = .ok (.iadd, 1) := by decide +kernel
theorem dX11_houses_120 : decode cX11_houses 120 = .ok (.invokevirtual 256, 3) := by decide +kernel
theorem dX11_houses_123 : decode cX11_houses 123 = .ok (.invokevirtual 287, 3) := by decide +kernel
theorem dX11_houses_126 : decode cX11_houses 126 = .ok (.ifCond .lt 6, 3) := by decide +kernel
theorem dX11_houses_129 : decode cX11_houses 129 = .ok (.iinc 6 1, 3) := by decide +kernel
theorem dX11_houses_132 : decode cX11_houses 132 = .ok (.iinc 7 1, 3) := by decide +kernel
theorem dX11_houses_135 : decode cX11_houses 135 = .ok (.goto (-67), 3) := by decide +kernel
theorem dX11_houses_138 : decode cX11_houses 138 = .ok (.iload 6, 2) := by decide +kernel
theorem dX11_houses_140 : decode cX11_houses 140 = .ok (.ireturn, 1) := by decide +kernel
theorem dX11_taken_0 : decode cX11_taken 0 = .ok (.iload_n 2, 1) := by decide +kernel
theorem dX11_taken_1 : decode cX11_taken 1 = .ok (.ifCond .lt 8, 3) := by decide +kernel
theorem dX11_taken_4 : decode cX11_taken 4 = .ok (.iload_n 2, 1) := by decide +kernel
theorem dX11_taken_5 : decode cX11_taken 5 = .ok (.iconst 5, 1) := by decide +kernel
theorem dX11_taken_6 : decode cX11_taken 6 = .ok (.if_icmp .le 6, 3) := by decide +kernel
theorem dX11_taken_9 : decode cX11_taken 9 = .ok (.bipush (-2), 2) := by decide +kernel
theorem dX11_taken_11 : decode cX11_taken 11 = .ok (.ireturn, 1) := by decide +kernel
theorem dX11_taken_12 : decode cX11_taken 12 = .ok (.aload_n 0, 1) := by decide +kernel
theorem dX11_taken_13 : decode cX11_taken 13 = .ok (.iload_n 1, 1) := by decide +kernel
theorem dX11_taken_14 : decode cX11_taken 14 = .ok (.invokevirtual 137, 3) := by decide +kernel
theorem dX11_taken_17 : decode cX11_taken 17 = .ok (.astore_n 3, 1) := by decide +kernel
theorem dX11_taken_18 : decode cX11_taken 18 = .ok (.aload_n 3, 1) := by decide +kernel
theorem dX11_taken_19 : decode cX11_taken 19 = .ok (.ifnonnull 6, 3) := by decide +kernel
theorem dX11_taken_22 : decode cX11_taken 22 = .ok (.bipush (-11), 2) := by decide +kernel
theorem dX11_taken_24 : decode cX11_taken 24 = .ok (.ireturn, 1) := by decide +kernel
theorem dX11_taken_25 : decode cX11_taken 25 = .ok (.aload_n 3, 1) := by decide +kernel
theorem dX11_taken_26 : decode cX11_taken 26 = .ok (.iload_n 2, 1) := by decide +kernel
theorem dX11_taken_27 : decode cX11_taken 27 = .ok (.invokestatic 291, 3) := by decide +kernel
theorem dX11_taken_30 : decode cX11_taken 30 = .ok (.ifCond .eq 10, 3) := by decide +kernel
theorem dX11_taken_33 : decode cX11_taken 33 = .ok (.aload_n 3, 1) := by decide +kernel
theorem dX11_taken_34 : decode cX11_taken 34 = .ok (.getfield 295, 3) := by decide +kernel
theorem dX11_taken_37 : decode cX11_taken 37 = .ok (.goto 5, 3) := by decide +kernel
theorem dX11_taken_40 : decode cX11_taken 40 = .ok (.bipush (-13), 2) := by decide +kernel
theorem dX11_taken_42 : decode cX11_taken 42 = .ok (.ireturn, 1) := by decide +kernel
theorem dX11_isHouse_0 : decode cX11_isHouse 0 = .ok (.iload_n 1, 1) := by decide +kernel
theorem dX11_isHouse_1 : decode cX11_isHouse 1 = .ok (.ifCond .lt 15, 3) := by decide +kernel
theorem dX11_isHouse_4 : decode cX11_isHouse 4 = .ok (.iload_n 1, 1) := by decide +kernel
theorem dX11_isHouse_5 : decode cX11_isHouse 5 = .ok (.aload_n 0, 1) := by decide +kernel
theorem dX11_isHouse_6 : decode cX11_isHouse 6 = .ok (.getfield 15, 3) := by decide +kernel
theorem dX11_isHouse_9 : decode cX11_isHouse 9 = .ok (.if_icmp .ge 7, 3) := by decide +kernel
theorem dX11_isHouse_12 : decode cX11_isHouse 12 = .ok (.iconst 1, 1) := by decide +kernel
theorem dX11_isHouse_13 : decode cX11_isHouse 13 = .ok (.goto 4, 3) := by decide +kernel
theorem dX11_isHouse_16 : decode cX11_isHouse 16 = .ok (.iconst 0, 1) := by decide +kernel
theorem dX11_isHouse_17 : decode cX11_isHouse 17 = .ok (.ireturn, 1) := by decide +kernel
theorem dX11_doorOf_0 : decode cX11_doorOf 0 = .ok (.aload_n 0, 1) := by decide +kernel
theorem dX11_doorOf_1 : decode cX11_doorOf 1 = .ok (.iload_n 1, 1) := by decide +kernel
theorem dX11_doorOf_2 : decode cX11_doorOf 2 = .ok (.invokevirtual 172, 3) := by decide +kernel
theorem dX11_doorOf_5 : decode cX11_doorOf 5 = .ok (.ifCond .eq 12, 3) := by decide +kernel
theorem dX11_doorOf_8 : decode cX11_doorOf 8 = .ok (.aload_n 0, 1) := by decide +kernel
theorem dX11_doorOf_9 : decode cX11_doorOf 9 = .ok (.getfield 11, 3) := by decide +kernel
theorem dX11_doorOf_12 : decode cX11_doorOf 12 = .ok (.iload_n 1, 1) := by decide +kernel
theorem dX11_doorOf_13 : decode cX11_doorOf 13 = .ok (.aaload, 1) := by decide +kernel
theorem dX11_doorOf_14 : decode cX11_doorOf 14 = .ok (.goto 4, 3) := by decide +kernel
theorem dX11_doorOf_17 : decode cX11_doorOf 17 = .ok (.aconst_null, 1) := by decide +kernel
theorem dX11_doorOf_18 : decode cX11_doorOf 18 = .ok (.areturn, 1) := by decide +kernel
theorem dX11_isFact_0 : decode cX11_isFact 0 = .ok (.iload_n 0, 1) := by decide +kernel
theorem dX11_isFact_1 : decode cX11_isFact 1 = .ok (.ifCond .lt 25, 3) := by decide +kernel
theorem dX11_isFact_4 : decode cX11_isFact 4 = .ok (.iload_n 0, 1) := by decide +kernel
theorem dX11_isFact_5 : decode cX11_isFact 5 = .ok (.iconst 4, 1) := by decide +kernel
theorem dX11_isFact_6 : decode cX11_isFact 6 = .ok (.if_icmp .ge 20, 3) := by decide +kernel
theorem dX11_isFact_9 : decode cX11_isFact 9 = .ok (.iload_n 1, 1) := by decide +kernel
theorem dX11_isFact_10 : decode cX11_isFact 10 = .ok (.ifCond .lt 16, 3) := by decide +kernel
theorem dX11_isFact_13 : decode cX11_isFact 13 = .ok (.iload_n 1, 1) := by decide +kernel
theorem dX11_isFact_14 : decode cX11_isFact 14 = .ok (.getstatic 298, 3) := by decide +kernel
theorem dX11_isFact_17 : decode cX11_isFact 17 = .ok (.iload_n 0, 1) := by decide +kernel
theorem dX11_isFact_18 : decode cX11_isFact 18 = .ok (.iaload, 1) := by decide +kernel
theorem dX11_isFact_19 : decode cX11_isFact 19 = .ok (.if_icmp .gt 7, 3) := by decide +kernel
theorem dX11_isFact_22 : decode cX11_isFact 22 = .ok (.iconst 1, 1) := by decide +kernel
theorem dX11_isFact_23 : decode cX11_isFact 23 = .ok (.goto 4, 3) := by decide +kernel
theorem dX11_isFact_26 : decode cX11_isFact 26 = .ok (.iconst 0, 1) := by decide +kernel
theorem dX11_isFact_27 : decode cX11_isFact 27 = .ok (.ireturn, 1) := by decide +kernel
theorem dX11_newDoor_0 : decode cX11_newDoor 0 = .ok (.iload_n 0, 1) := by decide +kernel
theorem dX11_newDoor_1 : decode cX11_newDoor 1 = .ok (.tableswitch 80 1 5 #[35, 44, 53, 62, 71], 35) := by decide +kernel
theorem dX11_newDoor_36 : decode cX11_newDoor 36 = .ok (.new 301, 3) := by decide +kernel
theorem dX11_newDoor_39 : decode cX11_newDoor 39 = .ok (.dup, 1) := by decide +kernel
theorem dX11_newDoor_40 : decode cX11_newDoor 40 = .ok (.iload_n 1, 1) := by decide +kernel
theorem dX11_newDoor_41 : decode cX11_newDoor 41 = .ok (.invokespecial 303, 3) := by decide +kernel
theorem dX11_newDoor_44 : decode cX11_newDoor 44 = .ok (.areturn, 1) := by decide +kernel
theorem dX11_newDoor_45 : decode cX11_newDoor 45 = .ok (.new 304, 3) := by decide +kernel
theorem dX11_newDoor_48 : decode cX11_newDoor 48 = .ok (.dup, 1) := by decide +kernel
theorem dX11_newDoor_49 : decode cX11_newDoor 49 = .ok (.iload_n 1, 1) := by decide +kernel
theorem dX11_newDoor_50 : decode cX11_newDoor 50 = .ok (.invokespecial 306, 3) := by decide +kernel
theorem dX11_newDoor_53 : decode cX11_newDoor 53 = .ok (.areturn, 1) := by decide +kernel
theorem dX11_newDoor_54 : decode cX11_newDoor 54 = .ok (.new 307, 3) := by decide +kernel
theorem dX11_newDoor_57 : decode cX11_newDoor 57 = .ok (.dup, 1) := by decide +kernel
theorem dX11_newDoor_58 : decode cX11_newDoor 58 = .ok (.iload_n 1, 1) := by decide +kernel
theorem dX11_newDoor_59 : decode cX11_newDoor 59 = .ok (.invokespecial 309, 3) := by decide +kernel
theorem dX11_newDoor_62 : decode cX11_newDoor 62 = .ok (.areturn, 1) := by decide +kernel
theorem dX11_newDoor_63 : decode cX11_newDoor 63 = .ok (.new 310, 3) := by decide +kernel
theorem dX11_newDoor_66 : decode cX11_newDoor 66 = .ok (.dup, 1) := by decide +kernel
theorem dX11_newDoor_67 : decode cX11_newDoor 67 = .ok (.iload_n 1, 1) := by decide +kernel
theorem dX11_newDoor_68 : decode cX11_newDoor 68 = .ok (.invokespecial 312, 3) := by decide +kernel
theorem dX11_newDoor_71 : decode cX11_newDoor 71 = .ok (.areturn, 1) := by decide +kernel
theorem dX11_newDoor_72 : decode cX11_newDoor 72 = .ok (.new 313, 3) := by decide +kernel
theorem dX11_newDoor_75 : decode cX11_newDoor 75 = .ok (.dup, 1) := by decide +kernel
theorem dX11_newDoor_76 : decode cX11_newDoor 76 = .ok (.iload_n 1, 1) := by decide +kernel
theorem dX11_newDoor_77 : decode cX11_newDoor 77 = .ok (.invokespecial 315, 3) := by decide +kernel
theorem dX11_newDoor_80 : decode cX11_newDoor 80 = .ok (.areturn, 1) := by decide +kernel
theorem dX11_newDoor_81 : decode cX11_newDoor 81 = .ok (.new 9, 3) := by decide +kernel
theorem dX11_newDoor_84 : decode cX11_newDoor 84 = .ok (.dup, 1) := by decide +kernel
theorem dX11_newDoor_85 : decode cX11_newDoor 85 = .ok (.iload_n 1, 1) := by decide +kernel
theorem dX11_newDoor_86 : decode cX11_newDoor 86 = .ok (.invokespecial 316, 3) := by decide +kernel
theorem dX11_newDoor_89 : decode cX11_newDoor 89 = .ok (.areturn, 1) := by decide +kernel
theorem dX11_isOfKind_0 : decode cX11_isOfKind 0 = .ok (.iload_n 1, 1) := by decide +kernel
theorem dX11_isOfKind_1 : decode cX11_isOfKind 1 = .ok (.tableswitch 66 0 5 #[39, 41, 46, 51, 56, 61], 39) := by decide +kernel
theorem dX11_isOfKind_40 : decode cX11_isOfKind 40 = .ok (.iconst 1, 1) := by decide +kernel
theorem dX11_isOfKind_41 : decode cX11_isOfKind 41 = .ok (.ireturn, 1) := by decide +kernel
theorem dX11_isOfKind_42 : decode cX11_isOfKind 42 = .ok (.aload_n 0, 1) := by decide +kernel
theorem dX11_isOfKind_43 : decode cX11_isOfKind 43 = .ok (.instanceof 301, 3) := by decide +kernel
theorem dX11_isOfKind_46 : decode cX11_isOfKind 46 = .ok (.ireturn, 1) := by decide +kernel
theorem dX11_isOfKind_47 : decode cX11_isOfKind 47 = .ok (.aload_n 0, 1) := by decide +kernel
theorem dX11_isOfKind_48 : decode cX11_isOfKind 48 = .ok (.instanceof 304, 3) := by decide +kernel
theorem dX11_isOfKind_51 : decode cX11_isOfKind 51 = .ok (.ireturn, 1) := by decide +kernel
theorem dX11_isOfKind_52 : decode cX11_isOfKind 52 = .ok (.aload_n 0, 1) := by decide +kernel
theorem dX11_isOfKind_53 : decode cX11_isOfKind 53 = .ok (.instanceof 307, 3) := by decide +kernel
theorem dX11_isOfKind_56 : decode cX11_isOfKind 56 = .ok (.ireturn, 1) := by decide +kernel
theorem dX11_isOfKind_57 : decode cX11_isOfKind 57 = .ok (.aload_n 0, 1) := by decide +kernel
theorem dX11_isOfKind_58 : decode cX11_isOfKind 58 = .ok (.instanceof 310, 3) := by decide +kernel
theorem dX11_isOfKind_61 : decode cX11_isOfKind 61 = .ok (.ireturn, 1) := by decide +kernel
theorem dX11_isOfKind_62 : decode cX11_isOfKind 62 = .ok (.aload_n 0, 1) := by decide +kernel
theorem dX11_isOfKind_63 : decode cX11_isOfKind 63 = .ok (.instanceof 313, 3) := by decide +kernel
theorem dX11_isOfKind_66 : decode cX11_isOfKind 66 = .ok (.ireturn, 1) := by decide +kernel
theorem dX11_isOfKind_67 : decode cX11_isOfKind 67 = .ok (.iconst 0, 1) := by decide +kernel
theorem dX11_isOfKind_68 : decode cX11_isOfKind 68 = .ok (.ireturn, 1) := by decide +kernel
theorem dX11_thickOf_0 : decode cX11_thickOf 0 = .ok (.bipush 6, 2) := by decide +kernel
theorem dX11_thickOf_2 : decode cX11_thickOf 2 = .ok (.iload_n 1, 1) := by decide +kernel
theorem dX11_thickOf_3 : decode cX11_thickOf 3 = .ok (.iadd, 1) := by decide +kernel
theorem dX11_thickOf_4 : decode cX11_thickOf 4 = .ok (.istore_n 2, 1) := by decide +kernel
theorem dX11_thickOf_5 : decode cX11_thickOf 5 = .ok (.iload_n 2, 1) := by decide +kernel
theorem dX11_thickOf_6 : decode cX11_thickOf 6 = .ok (.bipush 6, 2) := by decide +kernel
theorem dX11_thickOf_8 : decode cX11_thickOf 8 = .ok (.if_icmp .lt 9, 3) := by decide +kernel
theorem dX11_thickOf_11 : decode cX11_thickOf 11 = .ok (.iload_n 2, 1) := by decide +kernel
theorem dX11_thickOf_12 : decode cX11_thickOf 12 = .ok (.aload_n 0, 1) := by decide +kernel
theorem dX11_thickOf_13 : decode cX11_thickOf 13 = .ok (.arraylength, 1) := by decide +kernel
theorem dX11_thickOf_14 : decode cX11_thickOf 14 = .ok (.if_icmp .lt 7, 3) := by decide +kernel
theorem dX11_thickOf_17 : decode cX11_thickOf 17 = .ok (.iconst 0, 1) := by decide +kernel
theorem dX11_thickOf_18 : decode cX11_thickOf 18 = .ok (.goto 6, 3) := by decide +kernel
theorem dX11_thickOf_21 : decode cX11_thickOf 21 = .ok (.aload_n 0, 1) := by decide +kernel
theorem dX11_thickOf_22 : decode cX11_thickOf 22 = .ok (.iload_n 2, 1) := by decide +kernel
theorem dX11_thickOf_23 : decode cX11_thickOf 23 = .ok (.iaload, 1) := by decide +kernel
theorem dX11_thickOf_24 : decode cX11_thickOf 24 = .ok (.ireturn, 1) := by decide +kernel
theorem dX11_placeInList_0 : decode cX11_placeInList 0 = .ok (.iconst 0, 1) := by decide +kernel
theorem dX11_placeInList_1 : decode cX11_placeInList 1 = .ok (.istore_n 2, 1) := by decide +kernel
theorem dX11_placeInList_2 : decode cX11_placeInList 2 = .ok (.iload_n 2, 1) := by decide +kernel
theorem dX11_placeInList_3 : decode cX11_placeInList 3 = .ok (.aload_n 0, 1) := by decide +kernel
theorem dX11_placeInList_4 : decode cX11_placeInList 4 = .ok (.getfield 15, 3) := by decide +kernel
theorem dX11_placeInList_7 : decode cX11_placeInList 7 = .ok (.if_icmp .ge 21, 3) := by decide +kernel
theorem dX11_placeInList_10 : decode cX11_placeInList 10 = .ok (.aload_n 0, 1) := by decide +kernel
theorem dX11_placeInList_11 : decode cX11_placeInList 11 = .ok (.getfield 19, 3) := by decide +kernel
theorem dX11_placeInList_14 : decode cX11_placeInList 14 = .ok (.iload_n 2, 1) := by decide +kernel
theorem dX11_placeInList_15 : decode cX11_placeInList 15 = .ok (.iaload, 1) := by decide +kernel
theorem dX11_placeInList_16 : decode cX11_placeInList 16 = .ok (.iload_n 1, 1) := by decide +kernel
theorem dX11_placeInList_17 : decode cX11_placeInList 17 = .ok (.if_icmp .ne 5, 3) := by decide +kernel
theorem dX11_placeInList_20 : decode cX11_placeInList 20 = .ok (.iload_n 2, 1) := by decide +kernel
theorem dX11_placeInList_21 : decode cX11_placeInList 21 = .ok (.ireturn, 1) := by decide +kernel
theorem dX11_placeInList_22 : decode cX11_placeInList 22 = .ok (.iinc 2 1, 3) := by decide +kernel
theorem dX11_placeInList_25 : decode cX11_placeInList 25 = .ok (.goto (-23), 3) := by decide +kernel
theorem dX11_placeInList_28 : decode cX11_placeInList 28 = .ok (.iconst (-1), 1) := by decide +kernel
theorem dX11_placeInList_29 : decode cX11_placeInList 29 = .ok (.ireturn, 1) := by decide +kernel
theorem dX11_thickTogether_0 : decode cX11_thickTogether 0 = .ok (.iconst 0, 1) := by decide +kernel
theorem dX11_thickTogether_1 : decode cX11_thickTogether 1 = .ok (.istore_n 2, 1) := by decide +kernel
theorem dX11_thickTogether_2 : decode cX11_thickTogether 2 = .ok (.iconst 0, 1) := by decide +kernel
theorem dX11_thickTogether_3 : decode cX11_thickTogether 3 = .ok (.istore_n 3, 1) := by decide +kernel
theorem dX11_thickTogether_4 : decode cX11_thickTogether 4 = .ok (.iload_n 3, 1) := by decide +kernel
theorem dX11_thickTogether_5 : decode cX11_thickTogether 5 = .ok (.aload_n 0, 1) := by decide +kernel
theorem dX11_thickTogether_6 : decode cX11_thickTogether 6 = .ok (.getfield 15, 3) := by decide +kernel
theorem dX11_thickTogether_9 : decode cX11_thickTogether 9 = .ok (.if_icmp .ge 36, 3) := by decide +kernel
theorem dX11_thickTogether_12 : decode cX11_thickTogether 12 = .ok (.iload_n 1, 1) := by decide +kernel
theorem dX11_thickTogether_13 : decode cX11_thickTogether 13 = .ok (.iload_n 3, 1) := by decide +kernel
theorem dX11_thickTogether_14 : decode cX11_thickTogether 14 = .ok (.ishr, 1) := by decide +kernel
theorem dX11_thickTogether_15 : decode cX11_thickTogether 15 = .ok (.iconst 1, 1) := by decide +kernel
theorem dX11_thickTogether_16 : decode cX11_thickTogether 16 = .ok (.iand, 1) := by decide +kernel
theorem dX11_thickTogether_17 : decode cX11_thickTogether 17 = .ok (.ifCond .eq 22, 3) := by decide +kernel
theorem dX11_thickTogether_20 : decode cX11_thickTogether 20 = .ok (.iload_n 2, 1) := by decide +kernel
theorem dX11_thickTogether_21 : decode cX11_thickTogether 21 = .ok (.aload_n 0, 1) := by decide +kernel
theorem dX11_thickTogether_22 : decode cX11_thickTogether 22 = .ok (.getfield 31, 3) := by decide +kernel
theorem dX11_thickTogether_25 : decode cX11_thickTogether 25 = .ok (.aload_n 0, 1) := by decide +kernel
theorem dX11_thickTogether_26 : decode cX11_thickTogether 26 = .ok (.getfield 11, 3) := by decide +kernel
theorem dX11_thickTogether_29 : decode cX11_thickTogether 29 = .ok (.iload_n 3, 1) := by decide +kernel
theorem dX11_thickTogether_30 : decode cX11_thickTogether 30 = .ok (.aaload, 1) := by decide +kernel
theorem dX11_thickTogether_31 : decode cX11_thickTogether 31 = .ok (.getfield 157, 3) := by decide +kernel
theorem dX11_thickTogether_34 : decode cX11_thickTogether 34 = .ok (.invokestatic 160, 3) := by decide +kernel
theorem dX11_thickTogether_37 : decode cX11_thickTogether 37 = .ok (.iadd, 1) := by decide +kernel
theorem dX11_thickTogether_38 : decode cX11_thickTogether 38 = .ok (.istore_n 2, 1) := by decide +kernel
theorem dX11_thickTogether_39 : decode cX11_thickTogether 39 = .ok (.iinc 3 1, 3) := by decide +kernel
theorem dX11_thickTogether_42 : decode cX11_thickTogether 42 = .ok (.goto (-38), 3) := by decide +kernel
theorem dX11_thickTogether_45 : decode cX11_thickTogether 45 = .ok (.iload_n 2, 1) := by decide +kernel
theorem dX11_thickTogether_46 : decode cX11_thickTogether 46 = .ok (.ireturn, 1) := by decide +kernel
theorem dX11_forgetBest_0 : decode cX11_forgetBest 0 = .ok (.aload_n 0, 1) := by decide +kernel
theorem dX11_forgetBest_1 : decode cX11_forgetBest 1 = .ok (.getfield 77, 3) := by decide +kernel
theorem dX11_forgetBest_4 : decode cX11_forgetBest 4 = .ok (.iconst 0, 1) := by decide +kernel
theorem dX11_forgetBest_5 : decode cX11_forgetBest 5 = .ok (.putfield 317, 3) := by decide +kernel
theorem dX11_forgetBest_8 : decode cX11_forgetBest 8 = .ok (.aload_n 0, 1) := by decide +kernel
theorem dX11_forgetBest_9 : decode cX11_forgetBest 9 = .ok (.getfield 81, 3) := by decide +kernel
theorem dX11_forgetBest_12 : decode cX11_forgetBest 12 = .ok (.iconst 0, 1) := by decide +kernel
theorem dX11_forgetBest_13 : decode cX11_forgetBest 13 = .ok (.putfield 317, 3) := by decide +kernel
theorem dX11_forgetBest_16 : decode cX11_forgetBest 16 = .ok (.return_, 1) := by decide +kernel
theorem dX11_searchOf_0 : decode cX11_searchOf 0 = .ok (.iload_n 1, 1) := by decide +kernel
theorem dX11_searchOf_1 : decode cX11_searchOf 1 = .ok (.ifCond .ne 10, 3) := by decide +kernel
theorem dX11_searchOf_4 : decode cX11_searchOf 4 = .ok (.aload_n 0, 1) := by decide +kernel
theorem dX11_searchOf_5 : decode cX11_searchOf 5 = .ok (.getfield 77, 3) := by decide +kernel
theorem dX11_searchOf_8 : decode cX11_searchOf 8 = .ok (.goto 7, 3) := by decide +kernel
theorem dX11_searchOf_11 : decode cX11_searchOf 11 = .ok (.aload_n 0, 1) := by decide +kernel
theorem dX11_searchOf_12 : decode cX11_searchOf 12 = .ok (.getfield 81, 3) := by decide +kernel
theorem dX11_searchOf_15 : decode cX11_searchOf 15 = .ok (.areturn, 1) := by decide +kernel
theorem dX11_goList_0 : decode cX11_goList 0 = .ok (.aload_n 0, 1) := by decide +kernel
theorem dX11_goList_1 : decode cX11_goList 1 = .ok (.aload_n 0, 1) := by decide +kernel
theorem dX11_goList_2 : decode cX11_goList 2 = .ok (.getfield 19, 3) := by decide +kernel
theorem dX11_goList_5 : decode cX11_goList 5 = .ok (.iconst 0, 1) := by decide +kernel
theorem dX11_goList_6 : decode cX11_goList 6 = .ok (.aload_n 0, 1) := by decide +kernel
theorem dX11_goList_7 : decode cX11_goList 7 = .ok (.getfield 15, 3) := by decide +kernel
theorem dX11_goList_10 : decode cX11_goList 10 = .ok (.invokevirtual 237, 3) := by decide +kernel
theorem dX11_goList_13 : decode cX11_goList 13 = .ok (.ireturn, 1) := by decide +kernel
theorem dX11_goThrough_0 : decode cX11_goThrough 0 = .ok (.aload_n 0, 1) := by decide +kernel
theorem dX11_goThrough_1 : decode cX11_goThrough 1 = .ok (.getfield 62, 3) := by decide +kernel
theorem dX11_goThrough_4 : decode cX11_goThrough 4 = .ok (.aload_n 0, 1) := by decide +kernel
theorem dX11_goThrough_5 : decode cX11_goThrough 5 = .ok (.getfield 31, 3) := by decide +kernel
theorem dX11_goThrough_8 : decode cX11_goThrough 8 = .ok (.invokevirtual 321, 3) := by decide +kernel
theorem dX11_goThrough_11 : decode cX11_goThrough 11 = .ok (.iload_n 2, 1) := by decide +kernel
theorem dX11_goThrough_12 : decode cX11_goThrough 12 = .ok (.istore 4, 2) := by decide +kernel
theorem dX11_goThrough_14 : decode cX11_goThrough 14 = .ok (.iload 4, 2) := by decide +kernel
theorem dX11_goThrough_16 : decode cX11_goThrough 16 = .ok (.iload_n 3, 1) := by decide +kernel
theorem dX11_goThrough_17 : decode cX11_goThrough 17 = .ok (.if_icmp .ge 47, 3) := by decide +kernel
theorem dX11_goThrough_20 : decode cX11_goThrough 20 = .ok (.aload_n 0, 1) := by decide +kernel
theorem dX11_goThrough_21 : decode cX11_goThrough 21 = .ok (.aload_n 1, 1) := by decide +kernel
theorem dX11_goThrough_22 : decode cX11_goThrough 22 = .ok (.iload 4, 2) := by decide +kernel
theorem dX11_goThrough_24 : decode cX11_goThrough 24 = .ok (.iaload, 1) := by decide +kernel
theorem dX11_goThrough_25 : decode cX11_goThrough 25 = .ok (.invokevirtual 137, 3) := by decide +kernel
theorem dX11_goThrough_28 : decode cX11_goThrough 28 = .ok (.astore 5, 2) := by decide +kernel
theorem dX11_goThrough_30 : decode cX11_goThrough 30 = .ok (.aload 5, 2) := by decide +kernel
theorem dX11_goThrough_32 : decode cX11_goThrough 32 = .ok (.ifnull 26, 3) := by decide +kernel
theorem dX11_goThrough_35 : decode cX11_goThrough 35 = .ok (.aload_n 0, 1) := by decide +kernel
theorem dX11_goThrough_36 : decode cX11_goThrough 36 = .ok (.getfield 66, 3) := by decide +kernel
theorem dX11_goThrough_39 : decode cX11_goThrough 39 = .ok (.aload 5, 2) := by decide +kernel
theorem dX11_goThrough_41 : decode cX11_goThrough 41 = .ok (.getfield 324, 3) := by decide +kernel
theorem dX11_goThrough_44 : decode cX11_goThrough 44 = .ok (.aload_n 0, 1) := by decide +kernel
theorem dX11_goThrough_45 : decode cX11_goThrough 45 = .ok (.getfield 62, 3) := by decide +kernel
theorem dX11_goThrough_48 : decode cX11_goThrough 48 = .ok (.aload 5, 2) := by decide +kernel
theorem dX11_goThrough_50 : decode cX11_goThrough 50 = .ok (.aload_n 0, 1) := by decide +kernel
theorem dX11_goThrough_51 : decode cX11_goThrough 51 = .ok (.getfield 31, 3) := by decide +kernel
theorem dX11_goThrough_54 : decode cX11_goThrough 54 = .ok (.invokevirtual 327, 3) := by decide +kernel
theorem dX11_goThrough_57 : decode cX11_goThrough 57 = .ok (.iastore, 1) := by decide +kernel
theorem dX11_goThrough_58 : decode cX11_goThrough 58 = .ok (.iinc 4 1, 3) := by decide +kernel
theorem dX11_goThrough_61 : decode cX11_goThrough 61 = .ok (.goto (-47), 3) := by decide +kernel
theorem dX11_goThrough_64 : decode cX11_goThrough 64 = .ok (.aload_n 0, 1) := by decide +kernel
theorem dX11_goThrough_65 : decode cX11_goThrough 65 = .ok (.getfield 62, 3) := by decide +kernel
theorem dX11_goThrough_68 : decode cX11_goThrough 68 = .ok (.getfield 331, 3) := by decide +kernel
theorem dX11_goThrough_71 : decode cX11_goThrough 71 = .ok (.ireturn, 1) := by decide +kernel
theorem dX11_goWithout_0 : decode cX11_goWithout 0 = .ok (.iconst 0, 1) := by decide +kernel
theorem dX11_goWithout_1 : decode cX11_goWithout 1 = .ok (.istore_n 2, 1) := by decide +kernel
theorem dX11_goWithout_2 : decode cX11_goWithout 2 = .ok (.iconst 0, 1) := by decide +kernel
theorem dX11_goWithout_3 : decode cX11_goWithout 3 = .ok (.istore_n 3, 1) := by decide +kernel
theorem dX11_goWithout_4 : decode cX11_goWithout 4 = .ok (.iload_n 3, 1) := by decide +kernel
theorem dX11_goWithout_5 : decode cX11_goWithout 5 = .ok (.aload_n 0, 1) := by decide +kernel
theorem dX11_goWithout_6 : decode cX11_goWithout 6 = .ok (.getfield 15, 3) := by decide +kernel
theorem dX11_goWithout_9 : decode cX11_goWithout 9 = .ok (.if_icmp .ge 37, 3) := by decide +kernel
theorem dX11_goWithout_12 : decode cX11_goWithout 12 = .ok (.iload_n 1, 1) := by decide +kernel
theorem dX11_goWithout_13 : decode cX11_goWithout 13 = .ok (.aload_n 0, 1) := by decide +kernel
theorem dX11_goWithout_14 : decode cX11_goWithout 14 = .ok (.getfield 19, 3) := by decide +kernel
theorem dX11_goWithout_17 : decode cX11_goWithout 17 = .ok (.iload_n 3, 1) := by decide +kernel
theorem dX11_goWithout_18 : decode cX11_goWithout 18 = .ok (.iaload, 1) := by decide +kernel
theorem dX11_goWithout_19 : decode cX11_goWithout 19 = .ok (.ishr, 1) := by decide +kernel
theorem dX11_goWithout_20 : decode cX11_goWithout 20 = .ok (.iconst 1, 1) := by decide +kernel
theorem dX11_goWithout_21 : decode cX11_goWithout 21 = .ok (.iand, 1) := by decide +kernel
theorem dX11_goWithout_22 : decode cX11_goWithout 22 = .ok (.ifCond .ne 18, 3) := by decide +kernel
theorem dX11_goWithout_25 : decode cX11_goWithout 25 = .ok (.aload_n 0, 1) := by decide +kernel
theorem dX11_goWithout_26 : decode cX11_goWithout 26 = .ok (.getfield 69, 3) := by decide +kernel
theorem dX11_goWithout_29 : decode cX11_goWithout 29 = .ok (.iload_n 2, 1) := by decide +kernel
theorem dX11_goWithout_30 : decode cX11_goWithout 30 = .ok (.aload_n 0, 1) := by decide +kernel
theorem dX11_goWithout_31 : decode cX11_goWithout 31 = .ok (.getfield 19, 3) := by decide +kernel
theorem dX11_goWithout_34 : decode cX11_goWithout 34 = .ok (.iload_n 3, 1) := by decide +kernel
theorem dX11_goWithout_35 : decode cX11_goWithout 35 = .ok (.iaload, 1) := by decide +kernel
theorem dX11_goWithout_36 : decode cX11_goWithout 36 = .ok (.iastore, 1) := by decide +kernel
theorem dX11_goWithout_37 : decode cX11_goWithout 37 = .ok (.iinc 2 1, 3) := by decide +kernel
theorem dX11_goWithout_40 : decode cX11_goWithout 40 = .ok (.iinc 3 1, 3) := by decide +kernel
theorem dX11_goWithout_43 : decode cX11_goWithout 43 = .ok (.goto (-39), 3) := by decide +kernel
theorem dX11_goWithout_46 : decode cX11_goWithout 46 = .ok (.aload_n 0, 1) := by decide +kernel
theorem dX11_goWithout_47 : decode cX11_goWithout 47 = .ok (.aload_n 0, 1) := by decide +kernel
theorem dX11_goWithout_48 : decode cX11_goWithout 48 = .ok (.getfield 69, 3) := by decide +kernel
theorem dX11_goWithout_51 : decode cX11_goWithout 51 = .ok (.iconst 0, 1) := by decide +kernel
theorem dX11_goWithout_52 : decode cX11_goWithout 52 = .ok (.iload_n 2, 1) := by decide +kernel
theorem dX11_goWithout_53 : decode cX11_goWithout 53 = .ok (.invokevirtual 237, 3) := by decide +kernel
theorem dX11_goWithout_56 : decode cX11_goWithout 56 = .ok (.ireturn, 1) := by decide +kernel
theorem dX11_wayRank_0 : decode cX11_wayRank 0 = .ok (.aload_n 0, 1) := by decide +kernel
theorem dX11_wayRank_1 : decode cX11_wayRank 1 = .ok (.iload_n 1, 1) := by decide +kernel
theorem dX11_wayRank_2 : decode cX11_wayRank 2 = .ok (.invokevirtual 137, 3) := by decide +kernel
theorem dX11_wayRank_5 : decode cX11_wayRank 5 = .ok (.astore_n 3, 1) := by decide +kernel
theorem dX11_wayRank_6 : decode cX11_wayRank 6 = .ok (.aload_n 3, 1) := by decide +kernel
theorem dX11_wayRank_7 : decode cX11_wayRank 7 = .ok (.ifnonnull 5, 3) := by decide +kernel
theorem dX11_wayRank_10 : decode cX11_wayRank 10 = .ok (.iconst 0, 1) := by decide +kernel
theorem dX11_wayRank_11 : decode cX11_wayRank 11 = .ok (.ireturn, 1) := by decide +kernel
theorem dX11_wayRank_12 : decode cX11_wayRank 12 = .ok (.iload_n 2, 1) := by decide +kernel
theorem dX11_wayRank_13 : decode cX11_wayRank 13 = .ok (.ifCond .ne 22, 3) := by decide +kernel
theorem dX11_wayRank_16 : decode cX11_wayRank 16 = .ok (.aload_n 3, 1) := by decide +kernel
theorem dX11_wayRank_17 : decode cX11_wayRank 17 = .ok (.getfield 334, 3) := by decide +kernel
theorem dX11_wayRank_20 : decode cX11_wayRank 20 = .ok (.iconst 1, 1) := by decide +kernel
theorem dX11_wayRank_21 : decode cX11_wayRank 21 = .ok (.if_icmp .ne 14, 3) := by decide +kernel
theorem dX11_wayRank_24 : decode cX11_wayRank 24 = .ok (.sipush 200, 3) := by decide +kernel
theorem dX11_wayRank_27 : decode cX11_wayRank 27 = .ok (.aload_n 3, 1) := by decide +kernel
theorem dX11_wayRank_28 : decode cX11_wayRank 28 = .ok (.getfield 337, 3) := by decide +kernel
theorem dX11_wayRank_31 : decode cX11_wayRank 31 = .ok (.isub, 1) := by decide +kernel
theorem dX11_wayRank_32 : decode cX11_wayRank 32 = .ok (.goto 7, 3) := by decide +kernel
theorem dX11_wayRank_35 : decode cX11_wayRank 35 = .ok (.aload_n 3, 1) := by decide +kernel
theorem dX11_wayRank_36 : decode cX11_wayRank 36 = .ok (.getfield 337, 3) := by decide +kernel
theorem dX11_wayRank_39 : decode cX11_wayRank 39 = .ok (.ireturn, 1) := by decide +kernel
theorem dX11_lateness_0 : decode cX11_lateness 0 = .ok (.iconst 0, 1) := by decide +kernel
theorem dX11_lateness_1 : decode cX11_lateness 1 = .ok (.aload_n 0, 1) := by decide +kernel
theorem dX11_lateness_2 : decode cX11_lateness 2 = .ok (.getfield 66, 3) := by decide +kernel
theorem dX11_lateness_5 : decode cX11_lateness 5 = .ok (.aload_n 1, 1) := by decide +kernel
theorem dX11_lateness_6 : decode cX11_lateness 6 = .ok (.getfield 324, 3) := by decide +kernel
theorem dX11_lateness_9 : decode cX11_lateness 9 = .ok (.iaload, 1) := by decide +kernel
theorem dX11_lateness_10 : decode cX11_lateness 10 = .ok (.aload_n 0, 1) := by decide +kernel
theorem dX11_lateness_11 : decode cX11_lateness 11 = .ok (.getfield 43, 3) := by decide +kernel
theorem dX11_lateness_14 : decode cX11_lateness 14 = .ok (.aload_n 0, 1) := by decide +kernel
theorem dX11_lateness_15 : decode cX11_lateness 15 = .ok (.getfield 50, 3) := by decide +kernel
theorem dX11_lateness_18 : decode cX11_lateness 18 = .ok (.aaload, 1) := by decide +kernel
theorem dX11_lateness_19 : decode cX11_lateness 19 = .ok (.aload_n 1, 1) := by decide +kernel
theorem dX11_lateness_20 : decode cX11_lateness 20 = .ok (.aload_n 0, 1) := by decide +kernel
theorem dX11_lateness_21 : decode cX11_lateness 21 = .ok (.getfield 31, 3) := by decide +kernel
theorem dX11_lateness_24 : decode cX11_lateness 24 = .ok (.iconst 5, 1) := by decide +kernel
theorem dX11_lateness_25 : decode cX11_lateness 25 = .ok (.iaload, 1) := by decide +kernel
theorem dX11_lateness_26 : decode cX11_lateness 26 = .ok (.invokevirtual 168, 3) := by decide +kernel
theorem dX11_lateness_29 : decode cX11_lateness 29 = .ok (.isub, 1) := by decide +kernel
theorem dX11_lateness_30 : decode cX11_lateness 30 = .ok (.invokestatic 247, 3) := by decide +kernel
theorem dX11_lateness_33 : decode cX11_lateness 33 = .ok (.ireturn, 1) := by decide +kernel
theorem dX11_giftOf_0 : decode cX11_giftOf 0 = .ok (.aload_n 0, 1) := by decide +kernel
theorem dX11_giftOf_1 : decode cX11_giftOf 1 = .ok (.getfield 43, 3) := by decide +kernel
theorem dX11_giftOf_4 : decode cX11_giftOf 4 = .ok (.aload_n 0, 1) := by decide +kernel
theorem dX11_giftOf_5 : decode cX11_giftOf 5 = .ok (.getfield 50, 3) := by decide +kernel
theorem dX11_giftOf_8 : decode cX11_giftOf 8 = .ok (.aaload, 1) := by decide +kernel
theorem dX11_giftOf_9 : decode cX11_giftOf 9 = .ok (.aload_n 1, 1) := by decide +kernel
theorem dX11_giftOf_10 : decode cX11_giftOf 10 = .ok (.aload_n 0, 1) := by decide +kernel
theorem dX11_giftOf_11 : decode cX11_giftOf 11 = .ok (.aload_n 1, 1) := by decide +kernel
theorem dX11_giftOf_12 : decode cX11_giftOf 12 = .ok (.invokevirtual 185, 3) := by decide +kernel
theorem dX11_giftOf_15 : decode cX11_giftOf 15 = .ok (.aload_n 0, 1) := by decide +kernel
theorem dX11_giftOf_16 : decode cX11_giftOf 16 = .ok (.getfield 31, 3) := by decide +kernel
theorem dX11_giftOf_19 : decode cX11_giftOf 19 = .ok (.iconst 5, 1) := by decide +kernel
theorem dX11_giftOf_20 : decode cX11_giftOf 20 = .ok (.iaload, 1) := by decide +kernel
theorem dX11_giftOf_21 : decode cX11_giftOf 21 = .ok (.invokevirtual 340, 3) := by decide +kernel
theorem dX11_giftOf_24 : decode cX11_giftOf 24 = .ok (.ireturn, 1) := by decide +kernel
theorem dX11_lateCount_0 : decode cX11_lateCount 0 = .ok (.iconst 0, 1) := by decide +kernel
theorem dX11_lateCount_1 : decode cX11_lateCount 1 = .ok (.istore_n 1, 1) := by decide +kernel
theorem dX11_lateCount_2 : decode cX11_lateCount 2 = .ok (.iconst 0, 1) := by decide +kernel
theorem dX11_lateCount_3 : decode cX11_lateCount 3 = .ok (.istore_n 2, 1) := by decide +kernel
theorem dX11_lateCount_4 : decode cX11_lateCount 4 = .ok (.iload_n 2, 1) := by decide +kernel
theorem dX11_lateCount_5 : decode cX11_lateCount 5 = .ok (.aload_n 0, 1) := by decide +kernel
theorem dX11_lateCount_6 : decode cX11_lateCount 6 = .ok (.getfield 15, 3) := by decide +kernel
theorem dX11_lateCount_9 : decode cX11_lateCount 9 = .ok (.if_icmp .ge 25, 3) := by decide +kernel
theorem dX11_lateCount_12 : decode cX11_lateCount 12 = .ok (.aload_n 0, 1) := by decide +kernel
theorem dX11_lateCount_13 : decode cX11_lateCount 13 = .ok (.aload_n 0, 1) := by decide +kernel
theorem dX11_lateCount_14 : decode cX11_lateCount 14 = .ok (.getfield 11, 3) := by decide +kernel
theorem dX11_lateCount_17 : decode cX11_lateCount 17 = .ok (.iload_n 2, 1) := by decide +kernel
theorem dX11_lateCount_18 : decode cX11_lateCount 18 = .ok (.aaload, 1) := by decide +kernel
theorem dX11_lateCount_19 : decode cX11_lateCount 19 = .ok (.invokevirtual 185, 3) := by decide +kernel
theorem dX11_lateCount_22 : decode cX11_lateCount 22 = .ok (.ifCond .le 6, 3) := by decide +kernel
theorem dX11_lateCount_25 : decode cX11_lateCount 25 = .ok (.iinc 1 1, 3) := by decide +kernel
theorem dX11_lateCount_28 : decode cX11_lateCount 28 = .ok (.iinc 2 1, 3) := by decide +kernel
theorem dX11_lateCount_31 : decode cX11_lateCount 31 = .ok (.goto (-27), 3) := by decide +kernel
theorem dX11_lateCount_34 : decode cX11_lateCount 34 = .ok (.iload_n 1, 1) := by decide +kernel
theorem dX11_lateCount_35 : decode cX11_lateCount 35 = .ok (.ireturn, 1) := by decide +kernel
theorem dX11_ringing_0 : decode cX11_ringing 0 = .ok (.iconst 0, 1) := by decide +kernel
theorem dX11_ringing_1 : decode cX11_ringing 1 = .ok (.istore_n 1, 1) := by decide +kernel
theorem dX11_ringing_2 : decode cX11_ringing 2 = .ok (.iconst 0, 1) := by decide +kernel
theorem dX11_ringing_3 : decode cX11_ringing 3 = .ok (.istore_n 2, 1) := by decide +kernel
theorem dX11_ringing_4 : decode cX11_ringing 4 = .ok (.iload_n 2, 1) := by decide +kernel
theorem dX11_ringing_5 : decode cX11_ringing 5 = .ok (.aload_n 0, 1) := by decide +kernel
theorem dX11_ringing_6 : decode cX11_ringing 6 = .ok (.getfield 15, 3) := by decide +kernel
theorem dX11_ringing_9 : decode cX11_ringing 9 = .ok (.if_icmp .ge 52, 3) := by decide +kernel
theorem dX11_ringing_12 : decode cX11_ringing 12 = .ok (.aload_n 0, 1) := by decide +kernel
theorem dX11_ringing_13 : decode cX11_ringing 13 = .ok (.getfield 43, 3) := by decide +kernel
theorem dX11_ringing_16 : decode cX11_ringing 16 = .ok (.aload_n 0, 1) := by decide +kernel
theorem dX11_ringing_17 : decode cX11_ringing 17 = .ok (.getfield 50, 3) := by decide +kernel
theorem dX11_ringing_20 : decode cX11_ringing 20 = .ok (.aaload, 1) := by decide +kernel
theorem dX11_ringing_21 : decode cX11_ringing 21 = .ok (.aload_n 0, 1) := by decide +kernel
theorem dX11_ringing_22 : decode cX11_ringing 22 = .ok (.getfield 11, 3) := by decide +kernel
theorem dX11_ringing_25 : decode cX11_ringing 25 = .ok (.iload_n 2, 1) := by decide +kernel
theorem dX11_ringing_26 : decode cX11_ringing 26 = .ok (.aaload, 1) := by decide +kernel
theorem dX11_ringing_27 : decode cX11_ringing 27 = .ok (.aload_n 0, 1) := by decide +kernel
theorem dX11_ringing_28 : decode cX11_ringing 28 = .ok (.aload_n 0, 1) := by decide +kernel
theorem dX11_ringing_29 : decode cX11_ringing 29 = .ok (.getfield 11, 3) := by decide +kernel
theorem dX11_ringing_32 : decode cX11_ringing 32 = .ok (.iload_n 2, 1) := by decide +kernel
theorem dX11_ringing_33 : decode cX11_ringing 33 = .ok (.aaload, 1) := by decide +kernel
theorem dX11_ringing_34 : decode cX11_ringing 34 = .ok (.invokevirtual 185, 3) := by decide +kernel
theorem dX11_ringing_37 : decode cX11_ringing 37 = .ok (.aload_n 0, 1) := by decide +kernel
theorem dX11_ringing_38 : decode cX11_ringing 38 = .ok (.getfield 31, 3) := by decide +kernel
theorem dX11_ringing_41 : decode cX11_ringing 41 = .ok (.iconst 5, 1) := by decide +kernel
theorem dX11_ringing_42 : decode cX11_ringing 42 = .ok (.iaload, 1) := by decide +kernel
theorem dX11_ringing_43 : decode cX11_ringing 43 = .ok (.invokevirtual 344, 3) := by decide +kernel
theorem dX11_ringing_46 : decode cX11_ringing 46 = .ok (.ifCond .eq 9, 3) := by decide +kernel
theorem dX11_ringing_49 : decode cX11_ringing 49 = .ok (.iload_n 1, 1) := by decide +kernel
theorem dX11_ringing_50 : decode cX11_ringing 50 = .ok (.iconst 1, 1) := by decide +kernel
theorem dX11_ringing_51 : decode cX11_ringing 51 = .ok (.iload_n 2, 1) := by decide +kernel
theorem dX11_ringing_52 : decode cX11_ringing 52 = .ok (.ishl, 1) := by decide +kernel
theorem dX11_ringing_53 : decode cX11_ringing 53 = .ok (.ior, 1) := by decide +kernel
theorem dX11_ringing_54 : decode cX11_ringing 54 = .ok (.istore_n 1, 1) := by decide +kernel
theorem dX11_ringing_55 : decode cX11_ringing 55 = .ok (.iinc 2 1, 3) := by decide +kernel
theorem dX11_ringing_58 : decode cX11_ringing 58 = .ok (.goto (-54), 3) := by decide +kernel
theorem dX11_ringing_61 : decode cX11_ringing 61 = .ok (.iload_n 1, 1) := by decide +kernel
theorem dX11_ringing_62 : decode cX11_ringing 62 = .ok (.ireturn, 1) := by decide +kernel
theorem dX11_purseWithout_0 : decode cX11_purseWithout 0 = .ok (.iconst 0, 1) := by decide +kernel
theorem dX11_purseWithout_1 : decode cX11_purseWithout 1 = .ok (.istore_n 2, 1) := by decide +kernel
theorem dX11_purseWithout_2 : decode cX11_purseWithout 2 = .ok (.iconst 0, 1) := by decide +kernel
theorem dX11_purseWithout_3 : decode cX11_purseWithout 3 = .ok (.istore_n 3, 1) := by decide +kernel
theorem dX11_purseWithout_4 : decode cX11_purseWithout 4 = .ok (.iload_n 3, 1) := by decide +kernel
theorem dX11_purseWithout_5 : decode cX11_purseWithout 5 = .ok (.aload_n 0, 1) := by decide +kernel
theorem dX11_purseWithout_6 : decode cX11_purseWithout 6 = .ok (.getfield 15, 3) := by decide +kernel
theorem dX11_purseWithout_9 : decode cX11_purseWithout 9 = .ok (.if_icmp .ge 30, 3) := by decide +kernel
theorem dX11_purseWithout_12 : decode cX11_purseWithout 12 = .ok (.iload_n 1, 1) := by decide +kernel
theorem dX11_purseWithout_13 : decode cX11_purseWithout 13 = .ok (.iload_n 3, 1) := by decide +kernel
theorem dX11_purseWithout_14 : decode cX11_purseWithout 14 = .ok (.ishr, 1) := by decide +kernel
theorem dX11_purseWithout_15 : decode cX11_purseWithout 15 = .ok (.iconst 1, 1) := by decide +kernel
theorem dX11_purseWithout_16 : decode cX11_purseWithout 16 = .ok (.iand, 1) := by decide +kernel
theorem dX11_purseWithout_17 : decode cX11_purseWithout 17 = .ok (.ifCond .ne 16, 3) := by decide +kernel
theorem dX11_purseWithout_20 : decode cX11_purseWithout 20 = .ok (.iload_n 2, 1) := by decide +kernel
theorem dX11_purseWithout_21 : decode cX11_purseWithout 21 = .ok (.aload_n 0, 1) := by decide +kernel
theorem dX11_purseWithout_22 : decode cX11_purseWithout 22 = .ok (.aload_n 0, 1) := by decide +kernel
theorem dX11_purseWithout_23 : decode cX11_purseWithout 23 = .ok (.getfield 11, 3) := by decide +kernel
theorem dX11_purseWithout_26 : decode cX11_purseWithout 26 = .ok (.iload_n 3, 1) := by decide +kernel
theorem dX11_purseWithout_27 : decode cX11_purseWithout 27 = .ok (.aaload, 1) := by decide +kernel
theorem dX11_purseWithout_28 : decode cX11_purseWithout 28 = .ok (.invokevirtual 189, 3) := by decide +kernel
theorem dX11_purseWithout_31 : decode cX11_purseWithout 31 = .ok (.iadd, 1) := by decide +kernel
theorem dX11_purseWithout_32 : decode cX11_purseWithout 32 = .ok (.istore_n 2, 1) := by decide +kernel
theorem dX11_purseWithout_33 : decode cX11_purseWithout 33 = .ok (.iinc 3 1, 3) := by decide +kernel
theorem dX11_purseWithout_36 : decode cX11_purseWithout 36 = .ok (.goto (-32), 3) := by decide +kernel
theorem dX11_purseWithout_39 : decode cX11_purseWithout 39 = .ok (.iload_n 2, 1) := by decide +kernel
theorem dX11_purseWithout_40 : decode cX11_purseWithout 40 = .ok (.ireturn, 1) := by decide +kernel
theorem dX11_wrongSorts_0 : decode cX11_wrongSorts 0 = .ok (.iconst 0, 1) := by decide +kernel
theorem dX11_wrongSorts_1 : decode cX11_wrongSorts 1 = .ok (.istore_n 2, 1) := by decide +kernel
theorem dX11_wrongSorts_2 : decode cX11_wrongSorts 2 = .ok (.iconst 1, 1) := by decide +kernel
theorem dX11_wrongSorts_3 : decode cX11_wrongSorts 3 = .ok (.iload_n 1, 1) := by decide +kernel
theorem dX11_wrongSorts_4 : decode cX11_wrongSorts 4 = .ok (.invokestatic 247, 3) := by decide +kernel
theorem dX11_wrongSorts_7 : decode cX11_wrongSorts 7 = .ok (.istore_n 3, 1) := by decide +kernel
theorem dX11_wrongSorts_8 : decode cX11_wrongSorts 8 = .ok (.iload_n 3, 1) := by decide +kernel
theorem dX11_wrongSorts_9 : decode cX11_wrongSorts 9 = .ok (.aload_n 0, 1) := by decide +kernel
theorem dX11_wrongSorts_10 : decode cX11_wrongSorts 10 = .ok (.getfield 15, 3) := by decide +kernel
theorem dX11_wrongSorts_13 : decode cX11_wrongSorts 13 = .ok (.if_icmp .ge 53, 3) := by decide +kernel
theorem dX11_wrongSorts_16 : decode cX11_wrongSorts 16 = .ok (.aload_n 0, 1) := by decide +kernel
theorem dX11_wrongSorts_17 : decode cX11_wrongSorts 17 = .ok (.getfield 11, 3) := by decide +kernel
theorem dX11_wrongSorts_20 : decode cX11_wrongSorts 20 = .ok (.aload_n 0, 1) := by decide +kernel
theorem dX11_wrongSorts_21 : decode cX11_wrongSorts 21 = .ok (.getfield 19, 3) := by decide +kernel
theorem dX11_wrongSorts_24 : decode cX11_wrongSorts 24 = .ok (.iload_n 3, 1) := by decide +kernel
theorem dX11_wrongSorts_25 : decode cX11_wrongSorts 25 = .ok (.iaload, 1) := by decide +kernel
theorem dX11_wrongSorts_26 : decode cX11_wrongSorts 26 = .ok (.aaload, 1) := by decide +kernel
theorem dX11_wrongSorts_27 : decode cX11_wrongSorts 27 = .ok (.getfield 157, 3) := by decide +kernel
theorem dX11_wrongSorts_30 : decode cX11_wrongSorts 30 = .ok (.aload_n 0, 1) := by decide +kernel
theorem dX11_wrongSorts_31 : decode cX11_wrongSorts 31 = .ok (.getfield 11, 3) := by decide +kernel
theorem dX11_wrongSorts_34 : decode cX11_wrongSorts 34 = .ok (.aload_n 0, 1) := by decide +kernel
theorem dX11_wrongSorts_35 : decode cX11_wrongSorts 35 = .ok (.getfield 19, 3) := by decide +kernel
theorem dX11_wrongSorts_38 : decode cX11_wrongSorts 38 = .ok (.iload_n 3, 1) := by decide +kernel
theorem dX11_wrongSorts_39 : decode cX11_wrongSorts 39 = .ok (.iconst 1, 1) := by decide +kernel
theorem dX11_wrongSorts_40 : decode cX11_wrongSorts 40 = .ok (.isub, 1) := by decide +kernel
theorem dX11_wrongSorts_41 : decode cX11_wrongSorts 41 = .ok (.iaload, 1) := by decide +kernel
theorem dX11_wrongSorts_42 : decode cX11_wrongSorts 42 = .ok (.aaload, 1) := by decide +kernel
theorem dX11_wrongSorts_43 : decode cX11_wrongSorts 43 = .ok (.getfield 157, 3) := by decide +kernel
theorem dX11_wrongSorts_46 : decode cX11_wrongSorts 46 = .ok (.if_icmp .eq 14, 3) := by decide +kernel
theorem dX11_wrongSorts_49 : decode cX11_wrongSorts 49 = .ok (.iload_n 2, 1) := by decide +kernel
theorem dX11_wrongSorts_50 : decode cX11_wrongSorts 50 = .ok (.iconst 1, 1) := by decide +kernel
theorem dX11_wrongSorts_51 : decode cX11_wrongSorts 51 = .ok (.aload_n 0, 1) := by decide +kernel
theorem dX11_wrongSorts_52 : decode cX11_wrongSorts 52 = .ok (.getfield 19, 3) := by decide +kernel
theorem dX11_wrongSorts_55 : decode cX11_wrongSorts 55 = .ok (.iload_n 3, 1) := by decide +kernel
theorem dX11_wrongSorts_56 : decode cX11_wrongSorts 56 = .ok (.iaload, 1) := by decide +kernel
theorem dX11_wrongSorts_57 : decode cX11_wrongSorts 57 = .ok (.ishl, 1) := by decide +kernel
theorem dX11_wrongSorts_58 : decode cX11_wrongSorts 58 = .ok (.ior, 1) := by decide +kernel
theorem dX11_wrongSorts_59 : decode cX11_wrongSorts 59 = .ok (.istore_n 2, 1) := by decide +kernel
theorem dX11_wrongSorts_60 : decode cX11_wrongSorts 60 = .ok (.iinc 3 1, 3) := by decide +kernel
theorem dX11_wrongSorts_63 : decode cX11_wrongSorts 63 = .ok (.goto (-55), 3) := by decide +kernel
theorem dX11_wrongSorts_66 : decode cX11_wrongSorts 66 = .ok (.iload_n 2, 1) := by decide +kernel
theorem dX11_wrongSorts_67 : decode cX11_wrongSorts 67 = .ok (.ireturn, 1) := by decide +kernel
theorem dX11_tellsBits_0 : decode cX11_tellsBits 0 = .ok (.iconst 0, 1) := by decide +kernel
theorem dX11_tellsBits_1 : decode cX11_tellsBits 1 = .ok (.istore_n 3, 1) := by decide +kernel
theorem dX11_tellsBits_2 : decode cX11_tellsBits 2 = .ok (.iload_n 3, 1) := by decide +kernel
theorem dX11_tellsBits_3 : decode cX11_tellsBits 3 = .ok (.aload_n 0, 1) := by decide +kernel
theorem dX11_tellsBits_4 : decode cX11_tellsBits 4 = .ok (.getfield 15, 3) := by decide +kernel
theorem dX11_tellsBits_7 : decode cX11_tellsBits 7 = .ok (.if_icmp .ge 24, 3) := by decide +kernel
theorem dX11_tellsBits_10 : decode cX11_tellsBits 10 = .ok (.aload_n 1, 1) := by decide +kernel
theorem dX11_tellsBits_11 : decode cX11_tellsBits 11 = .ok (.iload_n 3, 1) := by decide +kernel
theorem dX11_tellsBits_12 : decode cX11_tellsBits 12 = .ok (.invokevirtual 256, 3) := by decide +kernel
theorem dX11_tellsBits_15 : decode cX11_tellsBits 15 = .ok (.iload_n 2, 1) := by decide +kernel
theorem dX11_tellsBits_16 : decode cX11_tellsBits 16 = .ok (.iload_n 3, 1) := by decide +kernel
theorem dX11_tellsBits_17 : decode cX11_tellsBits 17 = .ok (.ishr, 1) := by decide +kernel
theorem dX11_tellsBits_18 : decode cX11_tellsBits 18 = .ok (.iconst 1, 1) := by decide +kernel
theorem dX11_tellsBits_19 : decode cX11_tellsBits 19 = .ok (.iand, 1) := by decide +kernel
theorem dX11_tellsBits_20 : decode cX11_tellsBits 20 = .ok (.if_icmp .eq 5, 3) := by decide +kernel
theorem dX11_tellsBits_23 : decode cX11_tellsBits 23 = .ok (.iconst 0, 1) := by decide +kernel
theorem dX11_tellsBits_24 : decode cX11_tellsBits 24 = .ok (.ireturn, 1) := by decide +kernel
theorem dX11_tellsBits_25 : decode cX11_tellsBits 25 = .ok (.iinc 3 1, 3) := by decide +kernel
theorem dX11_tellsBits_28 : decode cX11_tellsBits 28 = .ok (.goto (-26), 3) := by decide +kernel
theorem dX11_tellsBits_31 : decode cX11_tellsBits 31 = .ok (.iconst 1, 1) := by decide +kernel
theorem dX11_tellsBits_32 : decode cX11_tellsBits 32 = .ok (.ireturn, 1) := by decide +kernel
theorem dX11_lyingRight_0 : decode cX11_lyingRight 0 = .ok (.iload_n 1, 1) := by decide +kernel
theorem dX11_lyingRight_1 : decode cX11_lyingRight 1 = .ok (.istore_n 3, 1) := by decide +kernel
theorem dX11_lyingRight_2 : decode cX11_lyingRight 2 = .ok (.iconst 0, 1) := by decide +kernel
theorem dX11_lyingRight_3 : decode cX11_lyingRight 3 = .ok (.istore 4, 2) := by decide +kernel
theorem dX11_lyingRight_5 : decode cX11_lyingRight 5 = .ok (.iconst 0, 1) := by decide +kernel
theorem dX11_lyingRight_6 : decode cX11_lyingRight 6 = .ok (.istore 5, 2) := by decide +kernel
theorem dX11_lyingRight_8 : decode cX11_lyingRight 8 = .ok (.iload 5, 2) := by decide +kernel
theorem dX11_lyingRight_10 : decode cX11_lyingRight 10 = .ok (.aload_n 0, 1) := by decide +kernel
theorem dX11_lyingRight_11 : decode cX11_lyingRight 11 = .ok (.getfield 15, 3) := by decide +kernel
theorem dX11_lyingRight_14 : decode cX11_lyingRight 14 = .ok (.if_icmp .ge 33, 3) := by decide +kernel
theorem dX11_lyingRight_17 : decode cX11_lyingRight 17 = .ok (.iload_n 3, 1) := by decide +kernel
theorem dX11_lyingRight_18 : decode cX11_lyingRight 18 = .ok (.ldc_w 348, 3) := by decide +kernel
theorem dX11_lyingRight_21 : decode cX11_lyingRight 21 = .ok (.imul, 1) := by decide +kernel
theorem dX11_lyingRight_22 : decode cX11_lyingRight 22 = .ok (.sipush 12345, 3) := by decide +kernel
theorem dX11_lyingRight_25 : decode cX11_lyingRight 25 = .ok (.iadd, 1) := by decide +kernel
theorem dX11_lyingRight_26 : decode cX11_lyingRight 26 = .ok (.istore_n 3, 1) := by decide +kernel
theorem dX11_lyingRight_27 : decode cX11_lyingRight 27 = .ok (.iload_n 3, 1) := by decide +kernel
theorem dX11_lyingRight_28 : decode cX11_lyingRight 28 = .ok (.bipush 10, 2) := by decide +kernel
theorem dX11_lyingRight_30 : decode cX11_lyingRight 30 = .ok (.iushr, 1) := by decide +kernel
theorem dX11_lyingRight_31 : decode cX11_lyingRight 31 = .ok (.bipush 10, 2) := by decide +kernel
theorem dX11_lyingRight_33 : decode cX11_lyingRight 33 = .ok (.irem, 1) := by decide +kernel
theorem dX11_lyingRight_34 : decode cX11_lyingRight 34 = .ok (.iload_n 2, 1) := by decide +kernel
theorem dX11_lyingRight_35 : decode cX11_lyingRight 35 = .ok (.if_icmp .ge 6, 3) := by decide +kernel
theorem dX11_lyingRight_38 : decode cX11_lyingRight 38 = .ok (.iinc 4 1, 3) := by decide +kernel
theorem dX11_lyingRight_41 : decode cX11_lyingRight 41 = .ok (.iinc 5 1, 3) := by decide +kernel
theorem dX11_lyingRight_44 : decode cX11_lyingRight 44 = .ok (.goto (-36), 3) := by decide +kernel
theorem dX11_lyingRight_47 : decode cX11_lyingRight 47 = .ok (.iload 4, 2) := by decide +kernel
theorem dX11_lyingRight_49 : decode cX11_lyingRight 49 = .ok (.ireturn, 1) := by decide +kernel
theorem dX11_commonDivisor_0 : decode cX11_commonDivisor 0 = .ok (.iload_n 1, 1) := by decide +kernel
theorem dX11_commonDivisor_1 : decode cX11_commonDivisor 1 = .ok (.istore_n 2, 1) := by decide +kernel
theorem dX11_commonDivisor_2 : decode cX11_commonDivisor 2 = .ok (.iload_n 2, 1) := by decide +kernel
theorem dX11_commonDivisor_3 : decode cX11_commonDivisor 3 = .ok (.iconst 1, 1) := by decide +kernel
theorem dX11_commonDivisor_4 : decode cX11_commonDivisor 4 = .ok (.if_icmp .le 23, 3) := by decide +kernel
theorem dX11_commonDivisor_7 : decode cX11_commonDivisor 7 = .ok (.iload_n 0, 1) := by decide +kernel
theorem dX11_commonDivisor_8 : decode cX11_commonDivisor 8 = .ok (.iload_n 2, 1) := by decide +kernel
theorem dX11_commonDivisor_9 : decode cX11_commonDivisor 9 = .ok (.irem, 1) := by decide +kernel
theorem dX11_commonDivisor_10 : decode cX11_commonDivisor 10 = .ok (.ifCond .ne 11, 3) := by decide +kernel
theorem dX11_commonDivisor_13 : decode cX11_commonDivisor 13 = .ok (.iload_n 1, 1) := by decide +kernel
theorem dX11_commonDivisor_14 : decode cX11_commonDivisor 14 = .ok (.iload_n 2, 1) := by decide +kernel
theorem dX11_commonDivisor_15 : decode cX11_commonDivisor 15 = .ok (.irem, 1) := by decide +kernel
theorem dX11_commonDivisor_16 : decode cX11_commonDivisor 16 = .ok (.ifCond .ne 5, 3) := by decide +kernel
theorem dX11_commonDivisor_19 : decode cX11_commonDivisor 19 = .ok (.iload_n 2, 1) := by decide +kernel
theorem dX11_commonDivisor_20 : decode cX11_commonDivisor 20 = .ok (.ireturn, 1) := by decide +kernel
theorem dX11_commonDivisor_21 : decode cX11_commonDivisor 21 = .ok (.iinc 2 (-1), 3) := by decide +kernel
theorem dX11_commonDivisor_24 : decode cX11_commonDivisor 24 = .ok (.goto (-22), 3) := by decide +kernel
theorem dX11_commonDivisor_27 : decode cX11_commonDivisor 27 = .ok (.iconst 1, 1) := by decide +kernel
theorem dX11_commonDivisor_28 : decode cX11_commonDivisor 28 = .ok (.ireturn, 1) := by decide +kernel
theorem dX11_isSheet_0 : decode cX11_isSheet 0 = .ok (.iload_n 0, 1) := by decide +kernel
theorem dX11_isSheet_1 : decode cX11_isSheet 1 = .ok (.ifCond .lt 12, 3) := by decide +kernel
theorem dX11_isSheet_4 : decode cX11_isSheet 4 = .ok (.iload_n 0, 1) := by decide +kernel
theorem dX11_isSheet_5 : decode cX11_isSheet 5 = .ok (.iconst 4, 1) := by decide +kernel
theorem dX11_isSheet_6 : decode cX11_isSheet 6 = .ok (.if_icmp .ge 7, 3) := by decide +kernel
theorem dX11_isSheet_9 : decode cX11_isSheet 9 = .ok (.iconst 1, 1) := by decide +kernel
theorem dX11_isSheet_10 : decode cX11_isSheet 10 = .ok (.goto 4, 3) := by decide +kernel
theorem dX11_isSheet_13 : decode cX11_isSheet 13 = .ok (.iconst 0, 1) := by decide +kernel
theorem dX11_isSheet_14 : decode cX11_isSheet 14 = .ok (.ireturn, 1) := by decide +kernel
theorem dX11_refusalOfTelling_0 : decode cX11_refusalOfTelling 0 = .ok (.iload_n 1, 1) := by decide +kernel
theorem dX11_refusalOfTelling_1 : decode cX11_refusalOfTelling 1 = .ok (.invokestatic 267, 3) := by decide +kernel
theorem dX11_refusalOfTelling_4 : decode cX11_refusalOfTelling 4 = .ok (.ifCond .ne 6, 3) := by decide +kernel
theorem dX11_refusalOfTelling_7 : decode cX11_refusalOfTelling 7 = .ok (.bipush (-2), 2) := by decide +kernel
theorem dX11_refusalOfTelling_9 : decode cX11_refusalOfTelling 9 = .ok (.ireturn, 1) := by decide +kernel
theorem dX11_refusalOfTelling_10 : decode cX11_refusalOfTelling 10 = .ok (.aload_n 0, 1) := by decide +kernel
theorem dX11_refusalOfTelling_11 : decode cX11_refusalOfTelling 11 = .ok (.getfield 55, 3) := by decide +kernel
theorem dX11_refusalOfTelling_14 : decode cX11_refusalOfTelling 14 = .ok (.iload_n 1, 1) := by decide +kernel
theorem dX11_refusalOfTelling_15 : decode cX11_refusalOfTelling 15 = .ok (.aaload, 1) := by decide +kernel
theorem dX11_refusalOfTelling_16 : decode cX11_refusalOfTelling 16 = .ok (.invokevirtual 273, 3) := by decide +kernel
theorem dX11_refusalOfTelling_19 : decode cX11_refusalOfTelling 19 = .ok (.ifCond .eq 6, 3) := by decide +kernel
theorem dX11_refusalOfTelling_22 : decode cX11_refusalOfTelling 22 = .ok (.bipush (-11), 2) := by decide +kernel
theorem dX11_refusalOfTelling_24 : decode cX11_refusalOfTelling 24 = .ok (.ireturn, 1) := by decide +kernel
theorem dX11_refusalOfTelling_25 : decode cX11_refusalOfTelling 25 = .ok (.aload_n 0, 1) := by decide +kernel
theorem dX11_refusalOfTelling_26 : decode cX11_refusalOfTelling 26 = .ok (.getfield 55, 3) := by decide +kernel
theorem dX11_refusalOfTelling_29 : decode cX11_refusalOfTelling 29 = .ok (.iload_n 1, 1) := by decide +kernel
theorem dX11_refusalOfTelling_30 : decode cX11_refusalOfTelling 30 = .ok (.aaload, 1) := by decide +kernel
theorem dX11_refusalOfTelling_31 : decode cX11_refusalOfTelling 31 = .ok (.getfield 349, 3) := by decide +kernel
theorem dX11_refusalOfTelling_34 : decode cX11_refusalOfTelling 34 = .ok (.aload_n 0, 1) := by decide +kernel
theorem dX11_refusalOfTelling_35 : decode cX11_refusalOfTelling 35 = .ok (.getfield 15, 3) := by decide +kernel
theorem dX11_refusalOfTelling_38 : decode cX11_refusalOfTelling 38 = .ok (.if_icmp .eq 8, 3) := by decide +kernel
theorem dX11_refusalOfTelling_41 : decode cX11_refusalOfTelling 41 = .ok (.bipush (-2), 2) := by decide +kernel
theorem dX11_refusalOfTelling_43 : decode cX11_refusalOfTelling 43 = .ok (.goto 4, 3) := by decide +kernel
theorem dX11_refusalOfTelling_46 : decode cX11_refusalOfTelling 46 = .ok (.iconst 0, 1) := by decide +kernel
theorem dX11_refusalOfTelling_47 : decode cX11_refusalOfTelling 47 = .ok (.ireturn, 1) := by decide +kernel
