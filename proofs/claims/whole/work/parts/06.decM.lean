theorem dX11_init_0 : decode cX11_init 0 = .ok (.aload_n 0, 1) := by decide +kernel
theorem dX11_init_1 : decode cX11_init 1 = .ok (.invokespecial 1, 3) := by decide +kernel
theorem dX11_init_4 : decode cX11_init 4 = .ok (.aload_n 0, 1) := by decide +kernel
theorem dX11_init_5 : decode cX11_init 5 = .ok (.sipush 288, 3) := by decide +kernel
theorem dX11_init_8 : decode cX11_init 8 = .ok (.newarray .int, 2) := by decide +kernel
theorem dX11_init_10 : decode cX11_init 10 = .ok (.putfield 7, 3) := by decide +kernel
theorem dX11_init_13 : decode cX11_init 13 = .ok (.aload_n 0, 1) := by decide +kernel
theorem dX11_init_14 : decode cX11_init 14 = .ok (.iconst 2, 1) := by decide +kernel
theorem dX11_init_15 : decode cX11_init 15 = .ok (.newarray .boolean, 2) := by decide +kernel
theorem dX11_init_17 : decode cX11_init 17 = .ok (.putfield 13, 3) := by decide +kernel
theorem dX11_init_20 : decode cX11_init 20 = .ok (.aload_n 0, 1) := by decide +kernel
theorem dX11_init_21 : decode cX11_init 21 = .ok (.iconst 3, 1) := by decide +kernel
theorem dX11_init_22 : decode cX11_init 22 = .ok (.newarray .int, 2) := by decide +kernel
theorem dX11_init_24 : decode cX11_init 24 = .ok (.putfield 17, 3) := by decide +kernel
theorem dX11_init_27 : decode cX11_init 27 = .ok (.aload_n 0, 1) := by decide +kernel
theorem dX11_init_28 : decode cX11_init 28 = .ok (.lconst 1, 1) := by decide +kernel
theorem dX11_init_29 : decode cX11_init 29 = .ok (.putfield 20, 3) := by decide +kernel
theorem dX11_init_32 : decode cX11_init 32 = .ok (.aload_n 0, 1) := by decide +kernel
theorem dX11_init_33 : decode cX11_init 33 = .ok (.sipush 150, 3) := by decide +kernel
theorem dX11_init_36 : decode cX11_init 36 = .ok (.newarray .int, 2) := by decide +kernel
theorem dX11_init_38 : decode cX11_init 38 = .ok (.putfield 24, 3) := by decide +kernel
theorem dX11_init_41 : decode cX11_init 41 = .ok (.aload_n 0, 1) := by decide +kernel
theorem dX11_init_42 : decode cX11_init 42 = .ok (.bipush 21, 2) := by decide +kernel
theorem dX11_init_44 : decode cX11_init 44 = .ok (.newarray .int, 2) := by decide +kernel
theorem dX11_init_46 : decode cX11_init 46 = .ok (.dup, 1) := by decide +kernel
theorem dX11_init_47 : decode cX11_init 47 = .ok (.iconst 0, 1) := by decide +kernel
theorem dX11_init_48 : decode cX11_init 48 = .ok (.bipush 98, 2) := by decide +kernel
theorem dX11_init_50 : decode cX11_init 50 = .ok (.iastore, 1) := by decide +kernel
theorem dX11_init_51 : decode cX11_init 51 = .ok (.dup, 1) := by decide +kernel
theorem dX11_init_52 : decode cX11_init 52 = .ok (.iconst 1, 1) := by decide +kernel
theorem dX11_init_53 : decode cX11_init 53 = .ok (.bipush 111, 2) := by decide +kernel
theorem dX11_init_55 : decode cX11_init 55 = .ok (.iastore, 1) := by decide +kernel
theorem dX11_init_56 : decode cX11_init 56 = .ok (.dup, 1) := by decide +kernel
theorem dX11_init_57 : decode cX11_init 57 = .ok (.iconst 2, 1) := by decide +kernel
theorem dX11_init_58 : decode cX11_init 58 = .ok (.bipush 111, 2) := by decide +kernel
theorem dX11_init_60 : decode cX11_init 60 = .ok (.iastore, 1) := by decide +kernel
theorem dX11_init_61 : decode cX11_init 61 = .ok (.dup, 1) := by decide +kernel
theorem dX11_init_62 : decode cX11_init 62 = .ok (.iconst 3, 1) := by decide +kernel
theorem dX11_init_63 : decode cX11_init 63 = .ok (.bipush 107, 2) := by decide +kernel
theorem dX11_init_65 : decode cX11_init 65 = .ok (.iastore, 1) := by decide +kernel
theorem dX11_init_66 : decode cX11_init 66 = .ok (.dup, 1) := by decide +kernel
theorem dX11_init_67 : decode cX11_init 67 = .ok (.iconst 4, 1) := by decide +kernel
theorem dX11_init_68 : decode cX11_init 68 = .ok (.iconst 0, 1) := by decide +kernel
theorem dX11_init_69 : decode cX11_init 69 = .ok (.iastore, 1) := by decide +kernel
theorem dX11_init_70 : decode cX11_init 70 = .ok (.dup, 1) := by decide +kernel
theorem dX11_init_71 : decode cX11_init 71 = .ok (.iconst 5, 1) := by decide +kernel
theorem dX11_init_72 : decode cX11_init 72 = .ok (.iconst 0, 1) := by decide +kernel
theorem dX11_init_73 : decode cX11_init 73 = .ok (.iastore, 1) := by decide +kernel
theorem dX11_init_74 : decode cX11_init 74 = .ok (.dup, 1) := by decide +kernel
theorem dX11_init_75 : decode cX11_init 75 = .ok (.bipush 6, 2) := by decide +kernel
theorem dX11_init_77 : decode cX11_init 77 = .ok (.iconst 0, 1) := by decide +kernel
theorem dX11_init_78 : decode cX11_init 78 = .ok (.iastore, 1) := by decide +kernel
theorem dX11_init_79 : decode cX11_init 79 = .ok (.dup, 1) := by decide +kernel
theorem dX11_init_80 : decode cX11_init 80 = .ok (.bipush 7, 2) := by decide +kernel
theorem dX11_init_82 : decode cX11_init 82 = .ok (.bipush 102, 2) := by decide +kernel
theorem dX11_init_84 : decode cX11_init 84 = .ok (.iastore, 1) := by decide +kernel
theorem dX11_init_85 : decode cX11_init 85 = .ok (.dup, 1) := by decide +kernel
theorem dX11_init_86 : decode cX11_init 86 = .ok (.bipush 8, 2) := by decide +kernel
theorem dX11_init_88 : decode cX11_init 88 = .ok (.bipush 105, 2) := by decide +kernel
theorem dX11_init_90 : decode cX11_init 90 = .ok (.iastore, 1) := by decide +kernel
theorem dX11_init_91 : decode cX11_init 91 = .ok (.dup, 1) := by decide +kernel
theorem dX11_init_92 : decode cX11_init 92 = .ok (.bipush 9, 2) := by decide +kernel
theorem dX11_init_94 : decode cX11_init 94 = .ok (.bipush 99, 2) := by decide +kernel
theorem dX11_init_96 : decode cX11_init 96 = .ok (.iastore, 1) := by decide +kernel
theorem dX11_init_97 : decode cX11_init 97 = .ok (.dup, 1) := by decide +kernel
theorem dX11_init_98 : decode cX11_init 98 = .ok (.bipush 10, 2) := by decide +kernel
theorem dX11_init_100 : decode cX11_init 100 = .ok (.bipush 116, 2) := by decide +kernel
theorem dX11_init_102 : decode cX11_init 102 = .ok (.iastore, 1) := by decide +kernel
theorem dX11_init_103 : decode cX11_init 103 = .ok (.dup, 1) := by decide +kernel
theorem dX11_init_104 : decode cX11_init 104 = .ok (.bipush 11, 2) := by decide +kernel
theorem dX11_init_106 : decode cX11_init 106 = .ok (.bipush 105, 2) := by decide +kernel
theorem dX11_init_108 : decode cX11_init 108 = .ok (.iastore, 1) := by decide +kernel
theorem dX11_init_109 : decode cX11_init 109 = .ok (.dup, 1) := by decide +kernel
theorem dX11_init_110 : decode cX11_init 110 = .ok (.bipush 12, 2) := by decide +kernel
theorem dX11_init_112 : decode cX11_init 112 = .ok (.bipush 111, 2) := by decide +kernel
theorem dX11_init_114 : decode cX11_init 114 = .ok (.iastore, 1) := by decide +kernel
theorem dX11_init_115 : decode cX11_init 115 = .ok (.dup, 1) := by decide +kernel
theorem dX11_init_116 : decode cX11_init 116 = .ok (.bipush 13, 2) := by decide +kernel
theorem dX11_init_118 : decode cX11_init 118 = .ok (.bipush 110, 2) := by decide +kernel
theorem dX11_init_120 : decode cX11_init 120 = .ok (.iastore, 1) := by decide +kernel
theorem dX11_init_121 : decode cX11_init 121 = .ok (.dup, 1) := by decide +kernel
theorem dX11_init_122 : decode cX11_init 122 = .ok (.bipush 14, 2) := by decide +kernel
theorem dX11_init_124 : decode cX11_init 124 = .ok (.bipush 99, 2) := by decide +kernel
theorem dX11_init_126 : decode cX11_init 126 = .ok (.iastore, 1) := by decide +kernel
theorem dX11_init_127 : decode cX11_init 127 = .ok (.dup, 1) := by decide +kernel
theorem dX11_init_128 : decode cX11_init 128 = .ok (.bipush 15, 2) := by decide +kernel
theorem dX11_init_130 : decode cX11_init 130 = .ok (.bipush 111, 2) := by decide +kernel
theorem dX11_init_132 : decode cX11_init 132 = .ok (.iastore, 1) := by decide +kernel
theorem dX11_init_133 : decode cX11_init 133 = .ok (.dup, 1) := by decide +kernel
theorem dX11_init_134 : decode cX11_init 134 = .ok (.bipush 16, 2) := by decide +kernel
theorem dX11_init_136 : decode cX11_init 136 = .ok (.bipush 117, 2) := by decide +kernel
theorem dX11_init_138 : decode cX11_init 138 = .ok (.iastore, 1) := by decide +kernel
theorem dX11_init_139 : decode cX11_init 139 = .ok (.dup, 1) := by decide +kernel
theorem dX11_init_140 : decode cX11_init 140 = .ok (.bipush 17, 2) := by decide +kernel
theorem dX11_init_142 : decode cX11_init 142 = .ok (.bipush 114, 2) := by decide +kernel
theorem dX11_init_144 : decode cX11_init 144 = .ok (.iastore, 1) := by decide +kernel
theorem dX11_init_145 : decode cX11_init 145 = .ok (.dup, 1) := by decide +kernel
theorem dX11_init_146 : decode cX11_init 146 = .ok (.bipush 18, 2) := by decide +kernel
theorem dX11_init_148 : decode cX11_init 148 = .ok (.bipush 116, 2) := by decide +kernel
theorem dX11_init_150 : decode cX11_init 150 = .ok (.iastore, 1) := by decide +kernel
theorem dX11_init_151 : decode cX11_init 151 = .ok (.dup, 1) := by decide +kernel
theorem dX11_init_152 : decode cX11_init 152 = .ok (.bipush 19, 2) := by decide +kernel
theorem dX11_init_154 : decode cX11_init 154 = .ok (.iconst 0, 1) := by decide +kernel
theorem dX11_init_155 : decode cX11_init 155 = .ok (.iastore, 1) := by decide +kernel
theorem dX11_init_156 : decode cX11_init 156 = .ok (.dup, 1) := by decide +kernel
theorem dX11_init_157 : decode cX11_init 157 = .ok (.bipush 20, 2) := by decide +kernel
theorem dX11_init_159 : decode cX11_init 159 = .ok (.iconst 0, 1) := by decide +kernel
theorem dX11_init_160 : decode cX11_init 160 = .ok (.iastore, 1) := by decide +kernel
theorem dX11_init_161 : decode cX11_init 161 = .ok (.putfield 27, 3) := by decide +kernel
theorem dX11_init_164 : decode cX11_init 164 = .ok (.aload_n 0, 1) := by decide +kernel
theorem dX11_init_165 : decode cX11_init 165 = .ok (.bipush 24, 2) := by decide +kernel
theorem dX11_init_167 : decode cX11_init 167 = .ok (.newarray .int, 2) := by decide +kernel
theorem dX11_init_169 : decode cX11_init 169 = .ok (.putfield 30, 3) := by decide +kernel
theorem dX11_init_172 : decode cX11_init 172 = .ok (.aload_n 0, 1) := by decide +kernel
theorem dX11_init_173 : decode cX11_init 173 = .ok (.bipush 8, 2) := by decide +kernel
theorem dX11_init_175 : decode cX11_init 175 = .ok (.newarray .int, 2) := by decide +kernel
theorem dX11_init_177 : decode cX11_init 177 = .ok (.putfield 33, 3) := by decide +kernel
theorem dX11_init_180 : decode cX11_init 180 = .ok (.aload_n 0, 1) := by decide +kernel
theorem dX11_init_181 : decode cX11_init 181 = .ok (.bipush 7, 2) := by decide +kernel
theorem dX11_init_183 : decode cX11_init 183 = .ok (.newarray .int, 2) := by decide +kernel
theorem dX11_init_185 : decode cX11_init 185 = .ok (.putfield 36, 3) := by decide +kernel
theorem dX11_init_188 : decode cX11_init 188 = .ok (.aload_n 0, 1) := by decide +kernel
theorem dX11_init_189 : decode cX11_init 189 = .ok (.bipush 7, 2) := by decide +kernel
theorem dX11_init_191 : decode cX11_init 191 = .ok (.newarray .int, 2) := by decide +kernel
theorem dX11_init_193 : decode cX11_init 193 = .ok (.putfield 39, 3) := by decide +kernel
theorem dX11_init_196 : decode cX11_init 196 = .ok (.aload_n 0, 1) := by decide +kernel
theorem dX11_init_197 : decode cX11_init 197 = .ok (.bipush 7, 2) := by decide +kernel
theorem dX11_init_199 : decode cX11_init 199 = .ok (.newarray .int, 2) := by decide +kernel
theorem dX11_init_201 : decode cX11_init 201 = .ok (.putfield 42, 3) := by decide +kernel
theorem dX11_init_204 : decode cX11_init 204 = .ok (.aload_n 0, 1) := by decide +kernel
theorem dX11_init_205 : decode cX11_init 205 = .ok (.bipush 6, 2) := by decide +kernel
theorem dX11_init_207 : decode cX11_init 207 = .ok (.newarray .int, 2) := by decide +kernel
theorem dX11_init_209 : decode cX11_init 209 = .ok (.putfield 45, 3) := by decide +kernel
theorem dX11_init_212 : decode cX11_init 212 = .ok (.return_, 1) := by decide +kernel
theorem dX11_in_0 : decode cX11_in 0 = .ok (.iload_n 0, 1) := by decide +kernel
theorem dX11_in_1 : decode cX11_in 1 = .ok (.iload_n 1, 1) := by decide +kernel
theorem dX11_in_2 : decode cX11_in 2 = .ok (.if_icmp .lt 12, 3) := by decide +kernel
theorem dX11_in_5 : decode cX11_in 5 = .ok (.iload_n 0, 1) := by decide +kernel
theorem dX11_in_6 : decode cX11_in 6 = .ok (.iload_n 2, 1) := by decide +kernel
theorem dX11_in_7 : decode cX11_in 7 = .ok (.if_icmp .gt 7, 3) := by decide +kernel
theorem dX11_in_10 : decode cX11_in 10 = .ok (.iconst 1, 1) := by decide +kernel
theorem dX11_in_11 : decode cX11_in 11 = .ok (.goto 4, 3) := by decide +kernel
theorem dX11_in_14 : decode cX11_in 14 = .ok (.iconst 0, 1) := by decide +kernel
theorem dX11_in_15 : decode cX11_in 15 = .ok (.ireturn, 1) := by decide +kernel
theorem dX11_has_0 : decode cX11_has 0 = .ok (.iload_n 0, 1) := by decide +kernel
theorem dX11_has_1 : decode cX11_has 1 = .ok (.iload_n 1, 1) := by decide +kernel
theorem dX11_has_2 : decode cX11_has 2 = .ok (.ishr, 1) := by decide +kernel
theorem dX11_has_3 : decode cX11_has 3 = .ok (.iconst 1, 1) := by decide +kernel
theorem dX11_has_4 : decode cX11_has 4 = .ok (.iand, 1) := by decide +kernel
theorem dX11_has_5 : decode cX11_has 5 = .ok (.iconst 1, 1) := by decide +kernel
theorem dX11_has_6 : decode cX11_has 6 = .ok (.if_icmp .ne 7, 3) := by decide +kernel
theorem dX11_has_9 : decode cX11_has 9 = .ok (.iconst 1, 1) := by decide +kernel
theorem dX11_has_10 : decode cX11_has 10 = .ok (.goto 4, 3) := by decide +kernel
theorem dX11_has_13 : decode cX11_has 13 = .ok (.iconst 0, 1) := by decide +kernel
theorem dX11_has_14 : decode cX11_has 14 = .ok (.ireturn, 1) := by decide +kernel
theorem dX11_bits_0 : decode cX11_bits 0 = .ok (.iconst 0, 1) := by decide +kernel
theorem dX11_bits_1 : decode cX11_bits 1 = .ok (.istore_n 1, 1) := by decide +kernel
theorem dX11_bits_2 : decode cX11_bits 2 = .ok (.iconst 0, 1) := by decide +kernel
theorem dX11_bits_3 : decode cX11_bits 3 = .ok (.istore_n 2, 1) := by decide +kernel
theorem dX11_bits_4 : decode cX11_bits 4 = .ok (.iload_n 2, 1) := by decide +kernel
theorem dX11_bits_5 : decode cX11_bits 5 = .ok (.bipush 8, 2) := by decide +kernel
theorem dX11_bits_7 : decode cX11_bits 7 = .ok (.if_icmp .ge 17, 3) := by decide +kernel
theorem dX11_bits_10 : decode cX11_bits 10 = .ok (.iload_n 1, 1) := by decide +kernel
theorem dX11_bits_11 : decode cX11_bits 11 = .ok (.iload_n 0, 1) := by decide +kernel
theorem dX11_bits_12 : decode cX11_bits 12 = .ok (.iload_n 2, 1) := by decide +kernel
theorem dX11_bits_13 : decode cX11_bits 13 = .ok (.ishr, 1) := by decide +kernel
theorem dX11_bits_14 : decode cX11_bits 14 = .ok (.iconst 1, 1) := by decide +kernel
theorem dX11_bits_15 : decode cX11_bits 15 = .ok (.iand, 1) := by decide +kernel
theorem dX11_bits_16 : decode cX11_bits 16 = .ok (.iadd, 1) := by decide +kernel
theorem dX11_bits_17 : decode cX11_bits 17 = .ok (.istore_n 1, 1) := by decide +kernel
theorem dX11_bits_18 : decode cX11_bits 18 = .ok (.iinc 2 1, 3) := by decide +kernel
theorem dX11_bits_21 : decode cX11_bits 21 = .ok (.goto (-17), 3) := by decide +kernel
theorem dX11_bits_24 : decode cX11_bits 24 = .ok (.iload_n 1, 1) := by decide +kernel
theorem dX11_bits_25 : decode cX11_bits 25 = .ok (.ireturn, 1) := by decide +kernel
theorem dX11_refuse_0 : decode cX11_refuse 0 = .ok (.aload_n 0, 1) := by decide +kernel
theorem dX11_refuse_1 : decode cX11_refuse 1 = .ok (.getfield 17, 3) := by decide +kernel
theorem dX11_refuse_4 : decode cX11_refuse 4 = .ok (.iload_n 1, 1) := by decide +kernel
theorem dX11_refuse_5 : decode cX11_refuse 5 = .ok (.bipush (-3), 2) := by decide +kernel
theorem dX11_refuse_7 : decode cX11_refuse 7 = .ok (.if_icmp .ne 7, 3) := by decide +kernel
theorem dX11_refuse_10 : decode cX11_refuse 10 = .ok (.iconst 1, 1) := by decide +kernel
theorem dX11_refuse_11 : decode cX11_refuse 11 = .ok (.goto 14, 3) := by decide +kernel
theorem dX11_refuse_14 : decode cX11_refuse 14 = .ok (.iload_n 1, 1) := by decide +kernel
theorem dX11_refuse_15 : decode cX11_refuse 15 = .ok (.bipush (-4), 2) := by decide +kernel
theorem dX11_refuse_17 : decode cX11_refuse 17 = .ok (.if_icmp .ne 7, 3) := by decide +kernel
theorem dX11_refuse_20 : decode cX11_refuse 20 = .ok (.iconst 2, 1) := by decide +kernel
theorem dX11_refuse_21 : decode cX11_refuse 21 = .ok (.goto 4, 3) := by decide +kernel
theorem dX11_refuse_24 : decode cX11_refuse 24 = .ok (.iconst 0, 1) := by decide +kernel
theorem dX11_refuse_25 : decode cX11_refuse 25 = .ok (.dup2, 1) := by decide +kernel
theorem dX11_refuse_26 : decode cX11_refuse 26 = .ok (.iaload, 1) := by decide +kernel
theorem dX11_refuse_27 : decode cX11_refuse 27 = .ok (.iconst 1, 1) := by decide +kernel
theorem dX11_refuse_28 : decode cX11_refuse 28 = .ok (.iadd, 1) := by decide +kernel
theorem dX11_refuse_29 : decode cX11_refuse 29 = .ok (.iastore, 1) := by decide +kernel
theorem dX11_refuse_30 : decode cX11_refuse 30 = .ok (.iload_n 1, 1) := by decide +kernel
theorem dX11_refuse_31 : decode cX11_refuse 31 = .ok (.ireturn, 1) := by decide +kernel
theorem dX11_badTen_0 : decode cX11_badTen 0 = .ok (.aload_n 0, 1) := by decide +kernel
theorem dX11_badTen_1 : decode cX11_badTen 1 = .ok (.bipush (-2), 2) := by decide +kernel
theorem dX11_badTen_3 : decode cX11_badTen 3 = .ok (.invokevirtual 48, 3) := by decide +kernel
theorem dX11_badTen_6 : decode cX11_badTen 6 = .ok (.pop, 1) := by decide +kernel
theorem dX11_badTen_7 : decode cX11_badTen 7 = .ok (.bipush (-10), 2) := by decide +kernel
theorem dX11_badTen_9 : decode cX11_badTen 9 = .ok (.ireturn, 1) := by decide +kernel
theorem dX11_layBook_0 : decode cX11_layBook 0 = .ok (.iconst 0, 1) := by decide +kernel
theorem dX11_layBook_1 : decode cX11_layBook 1 = .ok (.istore_n 2, 1) := by decide +kernel
theorem dX11_layBook_2 : decode cX11_layBook 2 = .ok (.iload_n 2, 1) := by decide +kernel
theorem dX11_layBook_3 : decode cX11_layBook 3 = .ok (.bipush 95, 2) := by decide +kernel
theorem dX11_layBook_5 : decode cX11_layBook 5 = .ok (.if_icmp .ge 16, 3) := by decide +kernel
theorem dX11_layBook_8 : decode cX11_layBook 8 = .ok (.aload_n 0, 1) := by decide +kernel
theorem dX11_layBook_9 : decode cX11_layBook 9 = .ok (.getfield 7, 3) := by decide +kernel
theorem dX11_layBook_12 : decode cX11_layBook 12 = .ok (.iload_n 2, 1) := by decide +kernel
theorem dX11_layBook_13 : decode cX11_layBook 13 = .ok (.iconst 0, 1) := by decide +kernel
theorem dX11_layBook_14 : decode cX11_layBook 14 = .ok (.iastore, 1) := by decide +kernel
theorem dX11_layBook_15 : decode cX11_layBook 15 = .ok (.iinc 2 1, 3) := by decide +kernel
theorem dX11_layBook_18 : decode cX11_layBook 18 = .ok (.goto (-16), 3) := by decide +kernel
theorem dX11_layBook_21 : decode cX11_layBook 21 = .ok (.aload_n 0, 1) := by decide +kernel
theorem dX11_layBook_22 : decode cX11_layBook 22 = .ok (.getfield 7, 3) := by decide +kernel
theorem dX11_layBook_25 : decode cX11_layBook 25 = .ok (.iconst 3, 1) := by decide +kernel
theorem dX11_layBook_26 : decode cX11_layBook 26 = .ok (.iload_n 1, 1) := by decide +kernel
theorem dX11_layBook_27 : decode cX11_layBook 27 = .ok (.iastore, 1) := by decide +kernel
theorem dX11_layBook_28 : decode cX11_layBook 28 = .ok (.return_, 1) := by decide +kernel
theorem dX11_book_0 : decode cX11_book 0 = .ok (.iload_n 1, 1) := by decide +kernel
theorem dX11_book_1 : decode cX11_book 1 = .ok (.iconst 0, 1) := by decide +kernel
theorem dX11_book_2 : decode cX11_book 2 = .ok (.sipush 255, 3) := by decide +kernel
theorem dX11_book_5 : decode cX11_book 5 = .ok (.invokestatic 52, 3) := by decide +kernel
theorem dX11_book_8 : decode cX11_book 8 = .ok (.ifCond .ne 10, 3) := by decide +kernel
theorem dX11_book_11 : decode cX11_book 11 = .ok (.aload_n 0, 1) := by decide +kernel
theorem dX11_book_12 : decode cX11_book 12 = .ok (.bipush (-2), 2) := by decide +kernel
theorem dX11_book_14 : decode cX11_book 14 = .ok (.invokevirtual 48, 3) := by decide +kernel
theorem dX11_book_17 : decode cX11_book 17 = .ok (.ireturn, 1) := by decide +kernel
theorem dX11_book_18 : decode cX11_book 18 = .ok (.aload_n 0, 1) := by decide +kernel
theorem dX11_book_19 : decode cX11_book 19 = .ok (.getfield 7, 3) := by decide +kernel
theorem dX11_book_22 : decode cX11_book 22 = .ok (.iconst 4, 1) := by decide +kernel
theorem dX11_book_23 : decode cX11_book 23 = .ok (.iaload, 1) := by decide +kernel
theorem dX11_book_24 : decode cX11_book 24 = .ok (.istore_n 2, 1) := by decide +kernel
theorem dX11_book_25 : decode cX11_book 25 = .ok (.aload_n 0, 1) := by decide +kernel
theorem dX11_book_26 : decode cX11_book 26 = .ok (.iload_n 1, 1) := by decide +kernel
theorem dX11_book_27 : decode cX11_book 27 = .ok (.invokevirtual 56, 3) := by decide +kernel
theorem dX11_book_30 : decode cX11_book 30 = .ok (.iload_n 2, 1) := by decide +kernel
theorem dX11_book_31 : decode cX11_book 31 = .ok (.ireturn, 1) := by decide +kernel
theorem dX11_addFiction_0 : decode cX11_addFiction 0 = .ok (.aload_n 0, 1) := by decide +kernel
theorem dX11_addFiction_1 : decode cX11_addFiction 1 = .ok (.getfield 7, 3) := by decide +kernel
theorem dX11_addFiction_4 : decode cX11_addFiction 4 = .ok (.iconst 4, 1) := by decide +kernel
theorem dX11_addFiction_5 : decode cX11_addFiction 5 = .ok (.iaload, 1) := by decide +kernel
theorem dX11_addFiction_6 : decode cX11_addFiction 6 = .ok (.istore 5, 2) := by decide +kernel
theorem dX11_addFiction_8 : decode cX11_addFiction 8 = .ok (.aload_n 0, 1) := by decide +kernel
theorem dX11_addFiction_9 : decode cX11_addFiction 9 = .ok (.getfield 7, 3) := by decide +kernel
theorem dX11_addFiction_12 : decode cX11_addFiction 12 = .ok (.iconst 5, 1) := by decide +kernel
theorem dX11_addFiction_13 : decode cX11_addFiction 13 = .ok (.iload 5, 2) := by decide +kernel
theorem dX11_addFiction_15 : decode cX11_addFiction 15 = .ok (.iadd, 1) := by decide +kernel
theorem dX11_addFiction_16 : decode cX11_addFiction 16 = .ok (.iload_n 1, 1) := by decide +kernel
theorem dX11_addFiction_17 : decode cX11_addFiction 17 = .ok (.iastore, 1) := by decide +kernel
theorem dX11_addFiction_18 : decode cX11_addFiction 18 = .ok (.aload_n 0, 1) := by decide +kernel
theorem dX11_addFiction_19 : decode cX11_addFiction 19 = .ok (.getfield 7, 3) := by decide +kernel
theorem dX11_addFiction_22 : decode cX11_addFiction 22 = .ok (.bipush 11, 2) := by decide +kernel
theorem dX11_addFiction_24 : decode cX11_addFiction 24 = .ok (.iload 5, 2) := by decide +kernel
theorem dX11_addFiction_26 : decode cX11_addFiction 26 = .ok (.iadd, 1) := by decide +kernel
theorem dX11_addFiction_27 : decode cX11_addFiction 27 = .ok (.iload_n 2, 1) := by decide +kernel
theorem dX11_addFiction_28 : decode cX11_addFiction 28 = .ok (.iastore, 1) := by decide +kernel
theorem dX11_addFiction_29 : decode cX11_addFiction 29 = .ok (.aload_n 0, 1) := by decide +kernel
theorem dX11_addFiction_30 : decode cX11_addFiction 30 = .ok (.getfield 7, 3) := by decide +kernel
theorem dX11_addFiction_33 : decode cX11_addFiction 33 = .ok (.bipush 17, 2) := by decide +kernel
theorem dX11_addFiction_35 : decode cX11_addFiction 35 = .ok (.iload 5, 2) := by decide +kernel
theorem dX11_addFiction_37 : decode cX11_addFiction 37 = .ok (.iadd, 1) := by decide +kernel
theorem dX11_addFiction_38 : decode cX11_addFiction 38 = .ok (.iload_n 3, 1) := by decide +kernel
theorem dX11_addFiction_39 : decode cX11_addFiction 39 = .ok (.iastore, 1) := by decide +kernel
theorem dX11_addFiction_40 : decode cX11_addFiction 40 = .ok (.aload_n 0, 1) := by decide +kernel
theorem dX11_addFiction_41 : decode cX11_addFiction 41 = .ok (.getfield 7, 3) := by decide +kernel
theorem dX11_addFiction_44 : decode cX11_addFiction 44 = .ok (.bipush 23, 2) := by decide +kernel
theorem dX11_addFiction_46 : decode cX11_addFiction 46 = .ok (.iload 5, 2) := by decide +kernel
theorem dX11_addFiction_48 : decode cX11_addFiction 48 = .ok (.iadd, 1) := by decide +kernel
theorem dX11_addFiction_49 : decode cX11_addFiction 49 = .ok (.iload 4, 2) := by decide +kernel
theorem dX11_addFiction_51 : decode cX11_addFiction 51 = .ok (.iastore, 1) := by decide +kernel
theorem dX11_addFiction_52 : decode cX11_addFiction 52 = .ok (.aload_n 0, 1) := by decide +kernel
theorem dX11_addFiction_53 : decode cX11_addFiction 53 = .ok (.getfield 7, 3) := by decide +kernel
theorem dX11_addFiction_56 : decode cX11_addFiction 56 = .ok (.iconst 4, 1) := by decide +kernel
theorem dX11_addFiction_57 : decode cX11_addFiction 57 = .ok (.dup2, 1) := by decide +kernel
theorem dX11_addFiction_58 : decode cX11_addFiction 58 = .ok (.iaload, 1) := by decide +kernel
theorem dX11_addFiction_59 : decode cX11_addFiction 59 = .ok (.iconst 1, 1) := by decide +kernel
theorem dX11_addFiction_60 : decode cX11_addFiction 60 = .ok (.iadd, 1) := by decide +kernel
theorem dX11_addFiction_61 : decode cX11_addFiction 61 = .ok (.iastore, 1) := by decide +kernel
theorem dX11_addFiction_62 : decode cX11_addFiction 62 = .ok (.aload_n 0, 1) := by decide +kernel
theorem dX11_addFiction_63 : decode cX11_addFiction 63 = .ok (.getfield 7, 3) := by decide +kernel
theorem dX11_addFiction_66 : decode cX11_addFiction 66 = .ok (.bipush 70, 2) := by decide +kernel
theorem dX11_addFiction_68 : decode cX11_addFiction 68 = .ok (.iconst 0, 1) := by decide +kernel
theorem dX11_addFiction_69 : decode cX11_addFiction 69 = .ok (.iastore, 1) := by decide +kernel
theorem dX11_addFiction_70 : decode cX11_addFiction 70 = .ok (.return_, 1) := by decide +kernel
theorem dX11_fiction_0 : decode cX11_fiction 0 = .ok (.iload_n 1, 1) := by decide +kernel
theorem dX11_fiction_1 : decode cX11_fiction 1 = .ok (.iconst 0, 1) := by decide +kernel
theorem dX11_fiction_2 : decode cX11_fiction 2 = .ok (.iconst 5, 1) := by decide +kernel
theorem dX11_fiction_3 : decode cX11_fiction 3 = .ok (.invokestatic 52, 3) := by decide +kernel
theorem dX11_fiction_6 : decode cX11_fiction 6 = .ok (.ifCond .eq 35, 3) := by decide +kernel
theorem dX11_fiction_9 : decode cX11_fiction 9 = .ok (.iload_n 2, 1) := by decide +kernel
theorem dX11_fiction_10 : decode cX11_fiction 10 = .ok (.iconst 0, 1) := by decide +kernel
theorem dX11_fiction_11 : decode cX11_fiction 11 = .ok (.sipush 255, 3) := by decide +kernel
theorem dX11_fiction_14 : decode cX11_fiction 14 = .ok (.invokestatic 52, 3) := by decide +kernel
theorem dX11_fiction_17 : decode cX11_fiction 17 = .ok (.ifCond .eq 24, 3) := by decide +kernel
theorem dX11_fiction_20 : decode cX11_fiction 20 = .ok (.iload_n 3, 1) := by decide +kernel
theorem dX11_fiction_21 : decode cX11_fiction 21 = .ok (.iconst 0, 1) := by decide +kernel
theorem dX11_fiction_22 : decode cX11_fiction 22 = .ok (.bipush 7, 2) := by decide +kernel
theorem dX11_fiction_24 : decode cX11_fiction 24 = .ok (.invokestatic 52, 3) := by decide +kernel
theorem dX11_fiction_27 : decode cX11_fiction 27 = .ok (.ifCond .eq 14, 3) := by decide +kernel
theorem dX11_fiction_30 : decode cX11_fiction 30 = .ok (.iload 4, 2) := by decide +kernel
theorem dX11_fiction_32 : decode cX11_fiction 32 = .ok (.iconst 0, 1) := by decide +kernel
theorem dX11_fiction_33 : decode cX11_fiction 33 = .ok (.bipush 20, 2) := by decide +kernel
theorem dX11_fiction_35 : decode cX11_fiction 35 = .ok (.invokestatic 52, 3) := by decide +kernel
theorem dX11_fiction_38 : decode cX11_fiction 38 = .ok (.ifCond .ne 10, 3) := by decide +kernel
theorem dX11_fiction_41 : decode cX11_fiction 41 = .ok (.aload_n 0, 1) := by decide +kernel
theorem dX11_fiction_42 : decode cX11_fiction 42 = .ok (.bipush (-2), 2) := by decide +kernel
theorem dX11_fiction_44 : decode cX11_fiction 44 = .ok (.invokevirtual 48, 3) := by decide +kernel
theorem dX11_fiction_47 : decode cX11_fiction 47 = .ok (.ireturn, 1) := by decide +kernel
theorem dX11_fiction_48 : decode cX11_fiction 48 = .ok (.aload_n 0, 1) := by decide +kernel
theorem dX11_fiction_49 : decode cX11_fiction 49 = .ok (.getfield 7, 3) := by decide +kernel
theorem dX11_fiction_52 : decode cX11_fiction 52 = .ok (.iconst 4, 1) := by decide +kernel
theorem dX11_fiction_53 : decode cX11_fiction 53 = .ok (.iaload, 1) := by decide +kernel
theorem dX11_fiction_54 : decode cX11_fiction 54 = .ok (.bipush 6, 2) := by decide +kernel
theorem dX11_fiction_56 : decode cX11_fiction 56 = .ok (.if_icmp .ne 10, 3) := by decide +kernel
theorem dX11_fiction_59 : decode cX11_fiction 59 = .ok (.aload_n 0, 1) := by decide +kernel
theorem dX11_fiction_60 : decode cX11_fiction 60 = .ok (.bipush (-4), 2) := by decide +kernel
theorem dX11_fiction_62 : decode cX11_fiction 62 = .ok (.invokevirtual 48, 3) := by decide +kernel
theorem dX11_fiction_65 : decode cX11_fiction 65 = .ok (.ireturn, 1) := by decide +kernel
theorem dX11_fiction_66 : decode cX11_fiction 66 = .ok (.aload_n 0, 1) := by decide +kernel
theorem dX11_fiction_67 : decode cX11_fiction 67 = .ok (.iload_n 1, 1) := by decide +kernel
theorem dX11_fiction_68 : decode cX11_fiction 68 = .ok (.iload_n 2, 1) := by decide +kernel
theorem dX11_fiction_69 : decode cX11_fiction 69 = .ok (.iload_n 3, 1) := by decide +kernel
theorem dX11_fiction_70 : decode cX11_fiction 70 = .ok (.iload 4, 2) := by decide +kernel
theorem dX11_fiction_72 : decode cX11_fiction 72 = .ok (.invokevirtual 60, 3) := by decide +kernel
theorem dX11_fiction_75 : decode cX11_fiction 75 = .ok (.aload_n 0, 1) := by decide +kernel
theorem dX11_fiction_76 : decode cX11_fiction 76 = .ok (.getfield 7, 3) := by decide +kernel
theorem dX11_fiction_79 : decode cX11_fiction 79 = .ok (.iconst 4, 1) := by decide +kernel
theorem dX11_fiction_80 : decode cX11_fiction 80 = .ok (.iaload, 1) := by decide +kernel
theorem dX11_fiction_81 : decode cX11_fiction 81 = .ok (.iconst 1, 1) := by decide +kernel
theorem dX11_fiction_82 : decode cX11_fiction 82 = .ok (.isub, 1) := by decide +kernel
theorem dX11_fiction_83 : decode cX11_fiction 83 = .ok (.ireturn, 1) := by decide +kernel
theorem dX11_addCourt_0 : decode cX11_addCourt 0 = .ok (.aload_n 0, 1) := by decide +kernel
theorem dX11_addCourt_1 : decode cX11_addCourt 1 = .ok (.getfield 7, 3) := by decide +kernel
theorem dX11_addCourt_4 : decode cX11_addCourt 4 = .ok (.bipush 30, 2) := by decide +kernel
theorem dX11_addCourt_6 : decode cX11_addCourt 6 = .ok (.aload_n 0, 1) := by decide +kernel
theorem dX11_addCourt_7 : decode cX11_addCourt 7 = .ok (.getfield 7, 3) := by decide +kernel
theorem dX11_addCourt_10 : decode cX11_addCourt 10 = .ok (.bipush 29, 2) := by decide +kernel
theorem dX11_addCourt_12 : decode cX11_addCourt 12 = .ok (.iaload, 1) := by decide +kernel
theorem dX11_addCourt_13 : decode cX11_addCourt 13 = .ok (.iadd, 1) := by decide +kernel
theorem dX11_addCourt_14 : decode cX11_addCourt 14 = .ok (.iload_n 1, 1) := by decide +kernel
theorem dX11_addCourt_15 : decode cX11_addCourt 15 = .ok (.iastore, 1) := by decide +kernel
theorem dX11_addCourt_16 : decode cX11_addCourt 16 = .ok (.aload_n 0, 1) := by decide +kernel
theorem dX11_addCourt_17 : decode cX11_addCourt 17 = .ok (.getfield 7, 3) := by decide +kernel
theorem dX11_addCourt_20 : decode cX11_addCourt 20 = .ok (.bipush 34, 2) := by decide +kernel
theorem dX11_addCourt_22 : decode cX11_addCourt 22 = .ok (.aload_n 0, 1) := by decide +kernel
theorem dX11_addCourt_23 : decode cX11_addCourt 23 = .ok (.getfield 7, 3) := by decide +kernel
theorem dX11_addCourt_26 : decode cX11_addCourt 26 = .ok (.bipush 29, 2) := by decide +kernel
theorem dX11_addCourt_28 : decode cX11_addCourt 28 = .ok (.iaload, 1) := by decide +kernel
theorem dX11_addCourt_29 : decode cX11_addCourt 29 = .ok (.iadd, 1) := by decide +kernel
theorem dX11_addCourt_30 : decode cX11_addCourt 30 = .ok (.iload_n 2, 1) := by decide +kernel
theorem dX11_addCourt_31 : decode cX11_addCourt 31 = .ok (.iastore, 1) := by decide +kernel
theorem dX11_addCourt_32 : decode cX11_addCourt 32 = .ok (.aload_n 0, 1) := by decide +kernel
theorem dX11_addCourt_33 : decode cX11_addCourt 33 = .ok (.getfield 7, 3) := by decide +kernel
theorem dX11_addCourt_36 : decode cX11_addCourt 36 = .ok (.bipush 29, 2) := by decide +kernel
theorem dX11_addCourt_38 : decode cX11_addCourt 38 = .ok (.dup2, 1) := by decide +kernel
theorem dX11_addCourt_39 : decode cX11_addCourt 39 = .ok (.iaload, 1) := by decide +kernel
theorem dX11_addCourt_40 : decode cX11_addCourt 40 = .ok (.iconst 1, 1) := by decide +kernel
theorem dX11_addCourt_41 : decode cX11_addCourt 41 = .ok (.iadd, 1) := by decide +kernel
theorem dX11_addCourt_42 : decode cX11_addCourt 42 = .ok (.iastore, 1) := by decide +kernel
theorem dX11_addCourt_43 : decode cX11_addCourt 43 = .ok (.aload_n 0, 1) := by decide +kernel
theorem dX11_addCourt_44 : decode cX11_addCourt 44 = .ok (.getfield 7, 3) := by decide +kernel
theorem dX11_addCourt_47 : decode cX11_addCourt 47 = .ok (.bipush 70, 2) := by decide +kernel
theorem dX11_addCourt_49 : decode cX11_addCourt 49 = .ok (.iconst 0, 1) := by decide +kernel
theorem dX11_addCourt_50 : decode cX11_addCourt 50 = .ok (.iastore, 1) := by decide +kernel
theorem dX11_addCourt_51 : decode cX11_addCourt 51 = .ok (.return_, 1) := by decide +kernel
theorem dX11_court_0 : decode cX11_court 0 = .ok (.iload_n 1, 1) := by decide +kernel
theorem dX11_court_1 : decode cX11_court 1 = .ok (.iconst 0, 1) := by decide +kernel
theorem dX11_court_2 : decode cX11_court 2 = .ok (.sipush 255, 3) := by decide +kernel
theorem dX11_court_5 : decode cX11_court 5 = .ok (.invokestatic 52, 3) := by decide +kernel
theorem dX11_court_8 : decode cX11_court 8 = .ok (.ifCond .eq 13, 3) := by decide +kernel
theorem dX11_court_11 : decode cX11_court 11 = .ok (.iload_n 2, 1) := by decide +kernel
theorem dX11_court_12 : decode cX11_court 12 = .ok (.iconst 0, 1) := by decide +kernel
theorem dX11_court_13 : decode cX11_court 13 = .ok (.bipush 20, 2) := by decide +kernel
theorem dX11_court_15 : decode cX11_court 15 = .ok (.invokestatic 52, 3) := by decide +kernel
theorem dX11_court_18 : decode cX11_court 18 = .ok (.ifCond .ne 10, 3) := by decide +kernel
theorem dX11_court_21 : decode cX11_court 21 = .ok (.aload_n 0, 1) := by decide +kernel
theorem dX11_court_22 : decode cX11_court 22 = .ok (.bipush (-2), 2) := by decide +kernel
theorem dX11_court_24 : decode cX11_court 24 = .ok (.invokevirtual 48, 3) := by decide +kernel
theorem dX11_court_27 : decode cX11_court 27 = .ok (.ireturn, 1) := by decide +kernel
theorem dX11_court_28 : decode cX11_court 28 = .ok (.aload_n 0, 1) := by decide +kernel
theorem dX11_court_29 : decode cX11_court 29 = .ok (.getfield 7, 3) := by decide +kernel
theorem dX11_court_32 : decode cX11_court 32 = .ok (.bipush 29, 2) := by decide +kernel
theorem dX11_court_34 : decode cX11_court 34 = .ok (.iaload, 1) := by decide +kernel
theorem dX11_court_35 : decode cX11_court 35 = .ok (.iconst 4, 1) := by decide +kernel
theorem dX11_court_36 : decode cX11_court 36 = .ok (.if_icmp .ne 10, 3) := by decide +kernel
theorem dX11_court_39 : decode cX11_court 39 = .ok (.aload_n 0, 1) := by decide +kernel
theorem dX11_court_40 : decode cX11_court 40 = .ok (.bipush (-4), 2) := by decide +kernel
theorem dX11_court_42 : decode cX11_court 42 = .ok (.invokevirtual 48, 3) := by decide +kernel
theorem dX11_court_45 : decode cX11_court 45 = .ok (.ireturn, 1) := by decide +kernel
theorem dX11_court_46 : decode cX11_court 46 = .ok (.aload_n 0, 1) := by decide +kernel
theorem dX11_court_47 : decode cX11_court 47 = .ok (.iload_n 1, 1) := by decide +kernel
theorem dX11_court_48 : decode cX11_court 48 = .ok (.iload_n 2, 1) := by decide +kernel
theorem dX11_court_49 : decode cX11_court 49 = .ok (.invokevirtual 64, 3) := by decide +kernel
theorem dX11_court_52 : decode cX11_court 52 = .ok (.aload_n 0, 1) := by decide +kernel
theorem dX11_court_53 : decode cX11_court 53 = .ok (.getfield 7, 3) := by decide +kernel
theorem dX11_court_56 : decode cX11_court 56 = .ok (.bipush 29, 2) := by decide +kernel
theorem dX11_court_58 : decode cX11_court 58 = .ok (.iaload, 1) := by decide +kernel
theorem dX11_court_59 : decode cX11_court 59 = .ok (.iconst 1, 1) := by decide +kernel
theorem dX11_court_60 : decode cX11_court 60 = .ok (.isub, 1) := by decide +kernel
theorem dX11_court_61 : decode cX11_court 61 = .ok (.ireturn, 1) := by decide +kernel
theorem dX11_type_0 : decode cX11_type 0 = .ok (.iload_n 1, 1) := by decide +kernel
theorem dX11_type_1 : decode cX11_type 1 = .ok (.iconst 0, 1) := by decide +kernel
theorem dX11_type_2 : decode cX11_type 2 = .ok (.bipush 127, 2) := by decide +kernel
theorem dX11_type_4 : decode cX11_type 4 = .ok (.invokestatic 52, 3) := by decide +kernel
theorem dX11_type_7 : decode cX11_type 7 = .ok (.ifCond .ne 10, 3) := by decide +kernel
theorem dX11_type_10 : decode cX11_type 10 = .ok (.aload_n 0, 1) := by decide +kernel
theorem dX11_type_11 : decode cX11_type 11 = .ok (.bipush (-2), 2) := by decide +kernel
theorem dX11_type_13 : decode cX11_type 13 = .ok (.invokevirtual 48, 3) := by decide +kernel
theorem dX11_type_16 : decode cX11_type 16 = .ok (.ireturn, 1) := by decide +kernel
theorem dX11_type_17 : decode cX11_type 17 = .ok (.aload_n 0, 1) := by decide +kernel
theorem dX11_type_18 : decode cX11_type 18 = .ok (.getfield 68, 3) := by decide +kernel
theorem dX11_type_21 : decode cX11_type 21 = .ok (.sipush 150, 3) := by decide +kernel
theorem dX11_type_24 : decode cX11_type 24 = .ok (.if_icmp .ne 10, 3) := by decide +kernel
theorem dX11_type_27 : decode cX11_type 27 = .ok (.aload_n 0, 1) := by decide +kernel
theorem dX11_type_28 : decode cX11_type 28 = .ok (.bipush (-4), 2) := by decide +kernel
theorem dX11_type_30 : decode cX11_type 30 = .ok (.invokevirtual 48, 3) := by decide +kernel
theorem dX11_type_33 : decode cX11_type 33 = .ok (.ireturn, 1) := by decide +kernel
theorem dX11_type_34 : decode cX11_type 34 = .ok (.aload_n 0, 1) := by decide +kernel
theorem dX11_type_35 : decode cX11_type 35 = .ok (.getfield 24, 3) := by decide +kernel
theorem dX11_type_38 : decode cX11_type 38 = .ok (.aload_n 0, 1) := by decide +kernel
theorem dX11_type_39 : decode cX11_type 39 = .ok (.getfield 68, 3) := by decide +kernel
theorem dX11_type_42 : decode cX11_type 42 = .ok (.iload_n 1, 1) := by decide +kernel
theorem dX11_type_43 : decode cX11_type 43 = .ok (.iastore, 1) := by decide +kernel
theorem dX11_type_44 : decode cX11_type 44 = .ok (.aload_n 0, 1) := by decide +kernel
theorem dX11_type_45 : decode cX11_type 45 = .ok (.dup, 1) := by decide +kernel
theorem dX11_type_46 : decode cX11_type 46 = .ok (.getfield 68, 3) := by decide +kernel
theorem dX11_type_49 : decode cX11_type 49 = .ok (.iconst 1, 1) := by decide +kernel
theorem dX11_type_50 : decode cX11_type 50 = .ok (.iadd, 1) := by decide +kernel
theorem dX11_type_51 : decode cX11_type 51 = .ok (.putfield 68, 3) := by decide +kernel
theorem dX11_type_54 : decode cX11_type 54 = .ok (.aload_n 0, 1) := by decide +kernel
theorem dX11_type_55 : decode cX11_type 55 = .ok (.getfield 68, 3) := by decide +kernel
theorem dX11_type_58 : decode cX11_type 58 = .ok (.ireturn, 1) := by decide +kernel
theorem dX11_clear_0 : decode cX11_clear 0 = .ok (.aload_n 0, 1) := by decide +kernel
theorem dX11_clear_1 : decode cX11_clear 1 = .ok (.getfield 68, 3) := by decide +kernel
theorem dX11_clear_4 : decode cX11_clear 4 = .ok (.istore_n 1, 1) := by decide +kernel
theorem dX11_clear_5 : decode cX11_clear 5 = .ok (.aload_n 0, 1) := by decide +kernel
theorem dX11_clear_6 : decode cX11_clear 6 = .ok (.iconst 0, 1) := by decide +kernel
theorem dX11_clear_7 : decode cX11_clear 7 = .ok (.putfield 68, 3) := by decide +kernel
theorem dX11_clear_10 : decode cX11_clear 10 = .ok (.iload_n 1, 1) := by decide +kernel
theorem dX11_clear_11 : decode cX11_clear 11 = .ok (.ireturn, 1) := by decide +kernel
theorem dX11_isLetter_0 : decode cX11_isLetter 0 = .ok (.iload_n 1, 1) := by decide +kernel
theorem dX11_isLetter_1 : decode cX11_isLetter 1 = .ok (.aload_n 0, 1) := by decide +kernel
theorem dX11_isLetter_2 : decode cX11_isLetter 2 = .ok (.getfield 68, 3) := by decide +kernel
theorem dX11_isLetter_5 : decode cX11_isLetter 5 = .ok (.if_icmp .ge 23, 3) := by decide +kernel
theorem dX11_isLetter_8 : decode cX11_isLetter 8 = .ok (.aload_n 0, 1) := by decide +kernel
theorem dX11_isLetter_9 : decode cX11_isLetter 9 = .ok (.getfield 24, 3) := by decide +kernel
theorem dX11_isLetter_12 : decode cX11_isLetter 12 = .ok (.iload_n 1, 1) := by decide +kernel
theorem dX11_isLetter_13 : decode cX11_isLetter 13 = .ok (.iaload, 1) := by decide +kernel
theorem dX11_isLetter_14 : decode cX11_isLetter 14 = .ok (.bipush 97, 2) := by decide +kernel
theorem dX11_isLetter_16 : decode cX11_isLetter 16 = .ok (.bipush 122, 2) := by decide +kernel
theorem dX11_isLetter_18 : decode cX11_isLetter 18 = .ok (.invokestatic 52, 3) := by decide +kernel
theorem dX11_isLetter_21 : decode cX11_isLetter 21 = .ok (.ifCond .eq 7, 3) := by decide +kernel
theorem dX11_isLetter_24 : decode cX11_isLetter 24 = .ok (.iconst 1, 1) := by decide +kernel
theorem dX11_isLetter_25 : decode cX11_isLetter 25 = .ok (.goto 4, 3) := by decide +kernel
theorem dX11_isLetter_28 : decode cX11_isLetter 28 = .ok (.iconst 0, 1) := by decide +kernel
theorem dX11_isLetter_29 : decode cX11_isLetter 29 = .ok (.ireturn, 1) := by decide +kernel
theorem dX11_isFigure_0 : decode cX11_isFigure 0 = .ok (.iload_n 1, 1) := by decide +kernel
theorem dX11_isFigure_1 : decode cX11_isFigure 1 = .ok (.aload_n 0, 1) := by decide +kernel
theorem dX11_isFigure_2 : decode cX11_isFigure 2 = .ok (.getfield 68, 3) := by decide +kernel
theorem dX11_isFigure_5 : decode cX11_isFigure 5 = .ok (.if_icmp .ge 23, 3) := by decide +kernel
theorem dX11_isFigure_8 : decode cX11_isFigure 8 = .ok (.aload_n 0, 1) := by decide +kernel
theorem dX11_isFigure_9 : decode cX11_isFigure 9 = .ok (.getfield 24, 3) := by decide +kernel
theorem dX11_isFigure_12 : decode cX11_isFigure 12 = .ok (.iload_n 1, 1) := by decide +kernel
theorem dX11_isFigure_13 : decode cX11_isFigure 13 = .ok (.iaload, 1) := by decide +kernel
theorem dX11_isFigure_14 : decode cX11_isFigure 14 = .ok (.bipush 48, 2) := by decide +kernel
theorem dX11_isFigure_16 : decode cX11_isFigure 16 = .ok (.bipush 57, 2) := by decide +kernel
theorem dX11_isFigure_18 : decode cX11_isFigure 18 = .ok (.invokestatic 52, 3) := by decide +kernel
theorem dX11_isFigure_21 : decode cX11_isFigure 21 = .ok (.ifCond .eq 7, 3) := by decide +kernel
theorem dX11_isFigure_24 : decode cX11_isFigure 24 = .ok (.iconst 1, 1) := by decide +kernel
theorem dX11_isFigure_25 : decode cX11_isFigure 25 = .ok (.goto 4, 3) := by decide +kernel
theorem dX11_isFigure_28 : decode cX11_isFigure 28 = .ok (.iconst 0, 1) := by decide +kernel
theorem dX11_isFigure_29 : decode cX11_isFigure 29 = .ok (.ireturn, 1) := by decide +kernel
theorem dX11_next_0 : decode cX11_next 0 = .ok (.aload_n 0, 1) := by decide +kernel
theorem dX11_next_1 : decode cX11_next 1 = .ok (.aload_n 0, 1) := by decide +kernel
theorem dX11_next_2 : decode cX11_next 2 = .ok (.getfield 72, 3) := by decide +kernel
theorem dX11_next_5 : decode cX11_next 5 = .ok (.putfield 75, 3) := by decide +kernel
theorem dX11_next_8 : decode cX11_next 8 = .ok (.aload_n 0, 1) := by decide +kernel
theorem dX11_next_9 : decode cX11_next 9 = .ok (.getfield 75, 3) := by decide +kernel
theorem dX11_next_12 : decode cX11_next 12 = .ok (.aload_n 0, 1) := by decide +kernel
theorem dX11_next_13 : decode cX11_next 13 = .ok (.getfield 68, 3) := by decide +kernel
theorem dX11_next_16 : decode cX11_next 16 = .ok (.if_icmp .ge 30, 3) := by decide +kernel
theorem dX11_next_19 : decode cX11_next 19 = .ok (.aload_n 0, 1) := by decide +kernel
theorem dX11_next_20 : decode cX11_next 20 = .ok (.getfield 24, 3) := by decide +kernel
theorem dX11_next_23 : decode cX11_next 23 = .ok (.aload_n 0, 1) := by decide +kernel
theorem dX11_next_24 : decode cX11_next 24 = .ok (.getfield 75, 3) := by decide +kernel
theorem dX11_next_27 : decode cX11_next 27 = .ok (.iaload, 1) := by decide +kernel
theorem dX11_next_28 : decode cX11_next 28 = .ok (.bipush 32, 2) := by decide +kernel
theorem dX11_next_30 : decode cX11_next 30 = .ok (.if_icmp .ne 16, 3) := by decide +kernel
theorem dX11_next_33 : decode cX11_next 33 = .ok (.aload_n 0, 1) := by decide +kernel
theorem dX11_next_34 : decode cX11_next 34 = .ok (.dup, 1) := by decide +kernel
theorem dX11_next_35 : decode cX11_next 35 = .ok (.getfield 75, 3) := by decide +kernel
theorem dX11_next_38 : decode cX11_next 38 = .ok (.iconst 1, 1) := by decide +kernel
theorem dX11_next_39 : decode cX11_next 39 = .ok (.iadd, 1) := by decide +kernel
theorem dX11_next_40 : decode cX11_next 40 = .ok (.putfield 75, 3) := by decide +kernel
theorem dX11_next_43 : decode cX11_next 43 = .ok (.goto (-35), 3) := by decide +kernel
theorem dX11_next_46 : decode cX11_next 46 = .ok (.aload_n 0, 1) := by decide +kernel
theorem dX11_next_47 : decode cX11_next 47 = .ok (.aload_n 0, 1) := by decide +kernel
theorem dX11_next_48 : decode cX11_next 48 = .ok (.getfield 75, 3) := by decide +kernel
theorem dX11_next_51 : decode cX11_next 51 = .ok (.aload_n 0, 1) := by decide +kernel
theorem dX11_next_52 : decode cX11_next 52 = .ok (.getfield 68, 3) := by decide +kernel
theorem dX11_next_55 : decode cX11_next 55 = .ok (.if_icmp .ge 12, 3) := by decide +kernel
theorem dX11_next_58 : decode cX11_next 58 = .ok (.aload_n 0, 1) := by decide +kernel
theorem dX11_next_59 : decode cX11_next 59 = .ok (.getfield 75, 3) := by decide +kernel
theorem dX11_next_62 : decode cX11_next 62 = .ok (.iconst 1, 1) := by decide +kernel
theorem dX11_next_63 : decode cX11_next 63 = .ok (.iadd, 1) := by decide +kernel
theorem dX11_next_64 : decode cX11_next 64 = .ok (.goto 7, 3) := by decide +kernel
theorem dX11_next_67 : decode cX11_next 67 = .ok (.aload_n 0, 1) := by decide +kernel
theorem dX11_next_68 : decode cX11_next 68 = .ok (.getfield 75, 3) := by decide +kernel
theorem dX11_next_71 : decode cX11_next 71 = .ok (.putfield 72, 3) := by decide +kernel
theorem dX11_next_74 : decode cX11_next 74 = .ok (.aload_n 0, 1) := by decide +kernel
theorem dX11_next_75 : decode cX11_next 75 = .ok (.aload_n 0, 1) := by decide +kernel
theorem dX11_next_76 : decode cX11_next 76 = .ok (.getfield 75, 3) := by decide +kernel
theorem dX11_next_79 : decode cX11_next 79 = .ok (.invokevirtual 78, 3) := by decide +kernel
theorem dX11_next_82 : decode cX11_next 82 = .ok (.ifCond .eq 14, 3) := by decide +kernel
theorem dX11_next_85 : decode cX11_next 85 = .ok (.aload_n 0, 1) := by decide +kernel
theorem dX11_next_86 : decode cX11_next 86 = .ok (.aload_n 0, 1) := by decide +kernel
theorem dX11_next_87 : decode cX11_next 87 = .ok (.getfield 72, 3) := by decide +kernel
theorem dX11_next_90 : decode cX11_next 90 = .ok (.invokevirtual 78, 3) := by decide +kernel
theorem dX11_next_93 : decode cX11_next 93 = .ok (.ifCond .ne 25, 3) := by decide +kernel
theorem dX11_next_96 : decode cX11_next 96 = .ok (.aload_n 0, 1) := by decide +kernel
theorem dX11_next_97 : decode cX11_next 97 = .ok (.aload_n 0, 1) := by decide +kernel
theorem dX11_next_98 : decode cX11_next 98 = .ok (.getfield 75, 3) := by decide +kernel
theorem dX11_next_101 : decode cX11_next 101 = .ok (.invokevirtual 82, 3) := by decide +kernel
theorem dX11_next_104 : decode cX11_next 104 = .ok (.ifCond .eq 27, 3) := by decide +kernel
theorem dX11_next_107 : decode cX11_next 107 = .ok (.aload_n 0, 1) := by decide +kernel
theorem dX11_next_108 : decode cX11_next 108 = .ok (.aload_n 0, 1) := by decide +kernel
theorem dX11_next_109 : decode cX11_next 109 = .ok (.getfield 72, 3) := by decide +kernel
theorem dX11_next_112 : decode cX11_next 112 = .ok (.invokevirtual 82, 3) := by decide +kernel
theorem dX11_next_115 : decode cX11_next 115 = .ok (.ifCond .eq 16, 3) := by decide +kernel
theorem dX11_next_118 : decode cX11_next 118 = .ok (.aload_n 0, 1) := by decide +kernel
theorem dX11_next_119 : decode cX11_next 119 = .ok (.dup, 1) := by decide +kernel
theorem dX11_next_120 : decode cX11_next 120 = .ok (.getfield 72, 3) := by decide +kernel
theorem dX11_next_123 : decode cX11_next 123 = .ok (.iconst 1, 1) := by decide +kernel
theorem dX11_next_124 : decode cX11_next 124 = .ok (.iadd, 1) := by decide +kernel
theorem dX11_next_125 : decode cX11_next 125 = .ok (.putfield 72, 3) := by decide +kernel
theorem dX11_next_128 : decode cX11_next 128 = .ok (.goto (-54), 3) := by decide +kernel
theorem dX11_next_131 : decode cX11_next 131 = .ok (.return_, 1) := by decide +kernel
theorem dX11_isWord_0 : decode cX11_isWord 0 = .ok (.aload_n 0, 1) := by decide +kernel
theorem dX11_isWord_1 : decode cX11_isWord 1 = .ok (.getfield 72, 3) := by decide +kernel
theorem dX11_isWord_4 : decode cX11_isWord 4 = .ok (.aload_n 0, 1) := by decide +kernel
theorem dX11_isWord_5 : decode cX11_isWord 5 = .ok (.getfield 75, 3) := by decide +kernel
theorem dX11_isWord_8 : decode cX11_isWord 8 = .ok (.isub, 1) := by decide +kernel
theorem dX11_isWord_9 : decode cX11_isWord 9 = .ok (.bipush 7, 2) := by decide +kernel
theorem dX11_isWord_11 : decode cX11_isWord 11 = .ok (.if_icmp .gt 7, 3) := by decide +kernel
theorem dX11_isWord_14 : decode cX11_isWord 14 = .ok (.iconst 1, 1) := by decide +kernel
theorem dX11_isWord_15 : decode cX11_isWord 15 = .ok (.goto 4, 3) := by decide +kernel
theorem dX11_isWord_18 : decode cX11_isWord 18 = .ok (.iconst 0, 1) := by decide +kernel
theorem dX11_isWord_19 : decode cX11_isWord 19 = .ok (.istore_n 2, 1) := by decide +kernel
theorem dX11_isWord_20 : decode cX11_isWord 20 = .ok (.iconst 0, 1) := by decide +kernel
theorem dX11_isWord_21 : decode cX11_isWord 21 = .ok (.istore_n 3, 1) := by decide +kernel
theorem dX11_isWord_22 : decode cX11_isWord 22 = .ok (.iload_n 3, 1) := by decide +kernel
theorem dX11_isWord_23 : decode cX11_isWord 23 = .ok (.bipush 7, 2) := by decide +kernel
theorem dX11_isWord_25 : decode cX11_isWord 25 = .ok (.if_icmp .ge 65, 3) := by decide +kernel
theorem dX11_isWord_28 : decode cX11_isWord 28 = .ok (.iload_n 2, 1) := by decide +kernel
theorem dX11_isWord_29 : decode cX11_isWord 29 = .ok (.ifCond .eq 61, 3) := by decide +kernel
theorem dX11_isWord_32 : decode cX11_isWord 32 = .ok (.aload_n 0, 1) := by decide +kernel
theorem dX11_isWord_33 : decode cX11_isWord 33 = .ok (.getfield 75, 3) := by decide +kernel
theorem dX11_isWord_36 : decode cX11_isWord 36 = .ok (.iload_n 3, 1) := by decide +kernel
theorem dX11_isWord_37 : decode cX11_isWord 37 = .ok (.iadd, 1) := by decide +kernel
theorem dX11_isWord_38 : decode cX11_isWord 38 = .ok (.aload_n 0, 1) := by decide +kernel
theorem dX11_isWord_39 : decode cX11_isWord 39 = .ok (.getfield 72, 3) := by decide +kernel
theorem dX11_isWord_42 : decode cX11_isWord 42 = .ok (.if_icmp .ge 17, 3) := by decide +kernel
theorem dX11_isWord_45 : decode cX11_isWord 45 = .ok (.aload_n 0, 1) := by decide +kernel
theorem dX11_isWord_46 : decode cX11_isWord 46 = .ok (.getfield 24, 3) := by decide +kernel
theorem dX11_isWord_49 : decode cX11_isWord 49 = .ok (.aload_n 0, 1) := by decide +kernel
theorem dX11_isWord_50 : decode cX11_isWord 50 = .ok (.getfield 75, 3) := by decide +kernel
theorem dX11_isWord_53 : decode cX11_isWord 53 = .ok (.iload_n 3, 1) := by decide +kernel
theorem dX11_isWord_54 : decode cX11_isWord 54 = .ok (.iadd, 1) := by decide +kernel
theorem dX11_isWord_55 : decode cX11_isWord 55 = .ok (.iaload, 1) := by decide +kernel
theorem dX11_isWord_56 : decode cX11_isWord 56 = .ok (.goto 4, 3) := by decide +kernel
theorem dX11_isWord_59 : decode cX11_isWord 59 = .ok (.iconst 0, 1) := by decide +kernel
theorem dX11_isWord_60 : decode cX11_isWord 60 = .ok (.istore 4, 2) := by decide +kernel
theorem dX11_isWord_62 : decode cX11_isWord 62 = .ok (.iload 4, 2) := by decide +kernel
theorem dX11_isWord_64 : decode cX11_isWord 64 = .ok (.aload_n 0, 1) := by decide +kernel
theorem dX11_isWord_65 : decode cX11_isWord 65 = .ok (.getfield 27, 3) := by decide +kernel
theorem dX11_isWord_68 : decode cX11_isWord 68 = .ok (.bipush 7, 2) := by decide +kernel
theorem dX11_isWord_70 : decode cX11_isWord 70 = .ok (.iload_n 1, 1) := by decide +kernel
theorem dX11_isWord_71 : decode cX11_isWord 71 = .ok (.imul, 1) := by decide +kernel
theorem dX11_isWord_72 : decode cX11_isWord 72 = .ok (.iload_n 3, 1) := by decide +kernel
theorem dX11_isWord_73 : decode cX11_isWord 73 = .ok (.iadd, 1) := by decide +kernel
theorem dX11_isWord_74 : decode cX11_isWord 74 = .ok (.iaload, 1) := by decide +kernel
theorem dX11_isWord_75 : decode cX11_isWord 75 = .ok (.if_icmp .ne 7, 3) := by decide +kernel
theorem dX11_isWord_78 : decode cX11_isWord 78 = .ok (.iconst 1, 1) := by decide +kernel
theorem dX11_isWord_79 : decode cX11_isWord 79 = .ok (.goto 4, 3) := by decide +kernel
theorem dX11_isWord_82 : decode cX11_isWord 82 = .ok (.iconst 0, 1) := by decide +kernel
theorem dX11_isWord_83 : decode cX11_isWord 83 = .ok (.istore_n 2, 1) := by decide +kernel
theorem dX11_isWord_84 : decode cX11_isWord 84 = .ok (.iinc 3 1, 3) := by decide +kernel
theorem dX11_isWord_87 : decode cX11_isWord 87 = .ok (.goto (-65), 3) := by decide +kernel
theorem dX11_isWord_90 : decode cX11_isWord 90 = .ok (.iload_n 2, 1) := by decide +kernel
theorem dX11_isWord_91 : decode cX11_isWord 91 = .ok (.ireturn, 1) := by decide +kernel
theorem dX11_wordHere_0 : decode cX11_wordHere 0 = .ok (.iconst 0, 1) := by decide +kernel
theorem dX11_wordHere_1 : decode cX11_wordHere 1 = .ok (.istore_n 1, 1) := by decide +kernel
theorem dX11_wordHere_2 : decode cX11_wordHere 2 = .ok (.iload_n 1, 1) := by decide +kernel
theorem dX11_wordHere_3 : decode cX11_wordHere 3 = .ok (.iconst 3, 1) := by decide +kernel
theorem dX11_wordHere_4 : decode cX11_wordHere 4 = .ok (.if_icmp .ge 30, 3) := by decide +kernel
theorem dX11_wordHere_7 : decode cX11_wordHere 7 = .ok (.aload_n 0, 1) := by decide +kernel
theorem dX11_wordHere_8 : decode cX11_wordHere 8 = .ok (.aload_n 0, 1) := by decide +kernel
theorem dX11_wordHere_9 : decode cX11_wordHere 9 = .ok (.getfield 75, 3) := by decide +kernel
theorem dX11_wordHere_12 : decode cX11_wordHere 12 = .ok (.invokevirtual 78, 3) := by decide +kernel
theorem dX11_wordHere_15 : decode cX11_wordHere 15 = .ok (.ifCond .eq 13, 3) := by decide +kernel
theorem dX11_wordHere_18 : decode cX11_wordHere 18 = .ok (.aload_n 0, 1) := by decide +kernel
theorem dX11_wordHere_19 : decode cX11_wordHere 19 = .ok (.iload_n 1, 1) := by decide +kernel
theorem dX11_wordHere_20 : decode cX11_wordHere 20 = .ok (.invokevirtual 85, 3) := by decide +kernel
theorem dX11_wordHere_23 : decode cX11_wordHere 23 = .ok (.ifCond .eq 5, 3) := by decide +kernel
theorem dX11_wordHere_26 : decode cX11_wordHere 26 = .ok (.iload_n 1, 1) := by decide +kernel
theorem dX11_wordHere_27 : decode cX11_wordHere 27 = .ok (.ireturn, 1) := by decide +kernel
theorem dX11_wordHere_28 : decode cX11_wordHere 28 = .ok (.iinc 1 1, 3) := by decide +kernel
theorem dX11_wordHere_31 : decode cX11_wordHere 31 = .ok (.goto (-29), 3) := by decide +kernel
theorem dX11_wordHere_34 : decode cX11_wordHere 34 = .ok (.iconst (-1), 1) := by decide +kernel
theorem dX11_wordHere_35 : decode cX11_wordHere 35 = .ok (.ireturn, 1) := by decide +kernel
theorem dX11_numberHere_0 : decode cX11_numberHere 0 = .ok (.aload_n 0, 1) := by decide +kernel
theorem dX11_numberHere_1 : decode cX11_numberHere 1 = .ok (.aload_n 0, 1) := by decide +kernel
theorem dX11_numberHere_2 : decode cX11_numberHere 2 = .ok (.getfield 75, 3) := by decide +kernel
theorem dX11_numberHere_5 : decode cX11_numberHere 5 = .ok (.invokevirtual 82, 3) := by decide +kernel
theorem dX11_numberHere_8 : decode cX11_numberHere 8 = .ok (.ifCond .eq 16, 3) := by decide +kernel
theorem dX11_numberHere_11 : decode cX11_numberHere 11 = .ok (.aload_n 0, 1) := by decide +kernel
theorem dX11_numberHere_12 : decode cX11_numberHere 12 = .ok (.getfield 72, 3) := by decide +kernel
theorem dX11_numberHere_15 : decode cX11_numberHere 15 = .ok (.aload_n 0, 1) := by decide +kernel
theorem dX11_numberHere_16 : decode cX11_numberHere 16 = .ok (.getfield 75, 3) := by decide +kernel
theorem dX11_numberHere_19 : decode cX11_numberHere 19 = .ok (.isub, 1) := by decide +kernel
theorem dX11_numberHere_20 : decode cX11_numberHere 20 = .ok (.iconst 2, 1) := by decide +kernel
theorem dX11_numberHere_21 : decode cX11_numberHere 21 = .ok (.if_icmp .le 5, 3) := by decide +kernel
theorem dX11_numberHere_24 : decode cX11_numberHere 24 = .ok (.iconst (-1), 1) := by decide +kernel
theorem dX11_numberHere_25 : decode cX11_numberHere 25 = .ok (.ireturn, 1) := by decide +kernel
theorem dX11_numberHere_26 : decode cX11_numberHere 26 = .ok (.aload_n 0, 1) := by decide +kernel
theorem dX11_numberHere_27 : decode cX11_numberHere 27 = .ok (.getfield 24, 3) := by decide +kernel
theorem dX11_numberHere_30 : decode cX11_numberHere 30 = .ok (.aload_n 0, 1) := by decide +kernel
theorem dX11_numberHere_31 : decode cX11_numberHere 31 = .ok (.getfield 75, 3) := by decide +kernel
theorem dX11_numberHere_34 : decode cX11_numberHere 34 = .ok (.iaload, 1) := by decide +kernel
theorem dX11_numberHere_35 : decode cX11_numberHere 35 = .ok (.bipush 48, 2) := by decide +kernel
theorem dX11_numberHere_37 : decode cX11_numberHere 37 = .ok (.isub, 1) := by decide +kernel
theorem dX11_numberHere_38 : decode cX11_numberHere 38 = .ok (.istore_n 3, 1) := by decide +kernel
theorem dX11_numberHere_39 : decode cX11_numberHere 39 = .ok (.aload_n 0, 1) := by decide +kernel
theorem dX11_numberHere_40 : decode cX11_numberHere 40 = .ok (.getfield 72, 3) := by decide +kernel
theorem dX11_numberHere_43 : decode cX11_numberHere 43 = .ok (.aload_n 0, 1) := by decide +kernel
theorem dX11_numberHere_44 : decode cX11_numberHere 44 = .ok (.getfield 75, 3) := by decide +kernel
theorem dX11_numberHere_47 : decode cX11_numberHere 47 = .ok (.isub, 1) := by decide +kernel
theorem dX11_numberHere_48 : decode cX11_numberHere 48 = .ok (.iconst 2, 1) := by decide +kernel
theorem dX11_numberHere_49 : decode cX11_numberHere 49 = .ok (.if_icmp .ne 25, 3) := by decide +kernel
theorem dX11_numberHere_52 : decode cX11_numberHere 52 = .ok (.bipush 10, 2) := by decide +kernel
theorem dX11_numberHere_54 : decode cX11_numberHere 54 = .ok (.iload_n 3, 1) := by decide +kernel
theorem dX11_numberHere_55 : decode cX11_numberHere 55 = .ok (.imul, 1) := by decide +kernel
theorem dX11_numberHere_56 : decode cX11_numberHere 56 = .ok (.aload_n 0, 1) := by decide +kernel
theorem dX11_numberHere_57 : decode cX11_numberHere 57 = .ok (.getfield 24, 3) := by decide +kernel
theorem dX11_numberHere_60 : decode cX11_numberHere 60 = .ok (.aload_n 0, 1) := by decide +kernel
theorem dX11_numberHere_61 : decode cX11_numberHere 61 = .ok (.getfield 75, 3) := by decide +kernel
theorem dX11_numberHere_64 : decode cX11_numberHere 64 = .ok (.iconst 1, 1) := by decide +kernel
theorem dX11_numberHere_65 : decode cX11_numberHere 65 = .ok (.iadd, 1) := by decide +kernel
theorem dX11_numberHere_66 : decode cX11_numberHere 66 = .ok (.iaload, 1) := by decide +kernel
theorem dX11_numberHere_67 : decode cX11_numberHere 67 = .ok (.iadd, 1) := by decide +kernel
theorem dX11_numberHere_68 : decode cX11_numberHere 68 = .ok (.bipush 48, 2) := by decide +kernel
theorem dX11_numberHere_70 : decode cX11_numberHere 70 = .ok (.isub, 1) := by decide +kernel
theorem dX11_numberHere_71 : decode cX11_numberHere 71 = .ok (.goto 4, 3) := by decide +kernel
theorem dX11_numberHere_74 : decode cX11_numberHere 74 = .ok (.iload_n 3, 1) := by decide +kernel
theorem dX11_numberHere_75 : decode cX11_numberHere 75 = .ok (.istore_n 3, 1) := by decide +kernel
theorem dX11_numberHere_76 : decode cX11_numberHere 76 = .ok (.iload_n 3, 1) := by decide +kernel
theorem dX11_numberHere_77 : decode cX11_numberHere 77 = .ok (.iload_n 1, 1) := by decide +kernel
theorem dX11_numberHere_78 : decode cX11_numberHere 78 = .ok (.iload_n 2, 1) := by decide +kernel
theorem dX11_numberHere_79 : decode cX11_numberHere 79 = .ok (.invokestatic 52, 3) := by decide +kernel
theorem dX11_numberHere_82 : decode cX11_numberHere 82 = .ok (.ifCond .eq 7, 3) := by decide +kernel
theorem dX11_numberHere_85 : decode cX11_numberHere 85 = .ok (.iload_n 3, 1) := by decide +kernel
theorem dX11_numberHere_86 : decode cX11_numberHere 86 = .ok (.goto 4, 3) := by decide +kernel
theorem dX11_numberHere_89 : decode cX11_numberHere 89 = .ok (.iconst (-1), 1) := by decide +kernel
theorem dX11_numberHere_90 : decode cX11_numberHere 90 = .ok (.ireturn, 1) := by decide +kernel
theorem dX11_number_0 : decode cX11_number 0 = .ok (.aload_n 0, 1) := by decide +kernel
theorem dX11_number_1 : decode cX11_number 1 = .ok (.invokevirtual 88, 3) := by decide +kernel
theorem dX11_number_4 : decode cX11_number 4 = .ok (.aload_n 0, 1) := by decide +kernel
theorem dX11_number_5 : decode cX11_number 5 = .ok (.iload_n 1, 1) := by decide +kernel
theorem dX11_number_6 : decode cX11_number 6 = .ok (.iload_n 2, 1) := by decide +kernel
theorem dX11_number_7 : decode cX11_number 7 = .ok (.invokevirtual 91, 3) := by decide +kernel
theorem dX11_number_10 : decode cX11_number 10 = .ok (.ireturn, 1) := by decide +kernel
theorem dX11_facts_0 : decode cX11_facts 0 = .ok (.iconst 0, 1) := by decide +kernel
theorem dX11_facts_1 : decode cX11_facts 1 = .ok (.istore_n 1, 1) := by decide +kernel
theorem dX11_facts_2 : decode cX11_facts 2 = .ok (.aload_n 0, 1) := by decide +kernel
theorem dX11_facts_3 : decode cX11_facts 3 = .ok (.invokevirtual 88, 3) := by decide +kernel
theorem dX11_facts_6 : decode cX11_facts 6 = .ok (.aload_n 0, 1) := by decide +kernel
theorem dX11_facts_7 : decode cX11_facts 7 = .ok (.aload_n 0, 1) := by decide +kernel
theorem dX11_facts_8 : decode cX11_facts 8 = .ok (.getfield 75, 3) := by decide +kernel
theorem dX11_facts_11 : decode cX11_facts 11 = .ok (.invokevirtual 82, 3) := by decide +kernel
theorem dX11_facts_14 : decode cX11_facts 14 = .ok (.ifCond .eq 31, 3) := by decide +kernel
theorem dX11_facts_17 : decode cX11_facts 17 = .ok (.aload_n 0, 1) := by decide +kernel
theorem dX11_facts_18 : decode cX11_facts 18 = .ok (.iconst 0, 1) := by decide +kernel
theorem dX11_facts_19 : decode cX11_facts 19 = .ok (.bipush 7, 2) := by decide +kernel
theorem dX11_facts_21 : decode cX11_facts 21 = .ok (.invokevirtual 91, 3) := by decide +kernel
theorem dX11_facts_24 : decode cX11_facts 24 = .ok (.istore_n 2, 1) := by decide +kernel
theorem dX11_facts_25 : decode cX11_facts 25 = .ok (.iload_n 2, 1) := by decide +kernel
theorem dX11_facts_26 : decode cX11_facts 26 = .ok (.iconst (-1), 1) := by decide +kernel
theorem dX11_facts_27 : decode cX11_facts 27 = .ok (.if_icmp .ne 5, 3) := by decide +kernel
theorem dX11_facts_30 : decode cX11_facts 30 = .ok (.iconst (-1), 1) := by decide +kernel
theorem dX11_facts_31 : decode cX11_facts 31 = .ok (.ireturn, 1) := by decide +kernel
theorem dX11_facts_32 : decode cX11_facts 32 = .ok (.iload_n 1, 1) := by decide +kernel
theorem dX11_facts_33 : decode cX11_facts 33 = .ok (.iconst 1, 1) := by decide +kernel
theorem dX11_facts_34 : decode cX11_facts 34 = .ok (.iload_n 2, 1) := by decide +kernel
theorem dX11_facts_35 : decode cX11_facts 35 = .ok (.ishl, 1) := by decide +kernel
theorem dX11_facts_36 : decode cX11_facts 36 = .ok (.ior, 1) := by decide +kernel
theorem dX11_facts_37 : decode cX11_facts 37 = .ok (.istore_n 1, 1) := by decide +kernel
theorem dX11_facts_38 : decode cX11_facts 38 = .ok (.aload_n 0, 1) := by decide +kernel
theorem dX11_facts_39 : decode cX11_facts 39 = .ok (.invokevirtual 88, 3) := by decide +kernel
theorem dX11_facts_42 : decode cX11_facts 42 = .ok (.goto (-36), 3) := by decide +kernel
theorem dX11_facts_45 : decode cX11_facts 45 = .ok (.aload_n 0, 1) := by decide +kernel
theorem dX11_facts_46 : decode cX11_facts 46 = .ok (.getfield 75, 3) := by decide +kernel
theorem dX11_facts_49 : decode cX11_facts 49 = .ok (.aload_n 0, 1) := by decide +kernel
theorem dX11_facts_50 : decode cX11_facts 50 = .ok (.getfield 68, 3) := by decide +kernel
theorem dX11_facts_53 : decode cX11_facts 53 = .ok (.if_icmp .ge 21, 3) := by decide +kernel
theorem dX11_facts_56 : decode cX11_facts 56 = .ok (.aload_n 0, 1) := by decide +kernel
theorem dX11_facts_57 : decode cX11_facts 57 = .ok (.getfield 24, 3) := by decide +kernel
theorem dX11_facts_60 : decode cX11_facts 60 = .ok (.aload_n 0, 1) := by decide +kernel
theorem dX11_facts_61 : decode cX11_facts 61 = .ok (.getfield 75, 3) := by decide +kernel
theorem dX11_facts_64 : decode cX11_facts 64 = .ok (.iaload, 1) := by decide +kernel
theorem dX11_facts_65 : decode cX11_facts 65 = .ok (.bipush 59, 2) := by decide +kernel
theorem dX11_facts_67 : decode cX11_facts 67 = .ok (.if_icmp .ne 7, 3) := by decide +kernel
theorem dX11_facts_70 : decode cX11_facts 70 = .ok (.iload_n 1, 1) := by decide +kernel
theorem dX11_facts_71 : decode cX11_facts 71 = .ok (.goto 4, 3) := by decide +kernel
theorem dX11_facts_74 : decode cX11_facts 74 = .ok (.iconst (-1), 1) := by decide +kernel
theorem dX11_facts_75 : decode cX11_facts 75 = .ok (.ireturn, 1) := by decide +kernel
theorem dX11_readsFiction_0 : decode cX11_readsFiction 0 = .ok (.aload_n 0, 1) := by decide +kernel
theorem dX11_readsFiction_1 : decode cX11_readsFiction 1 = .ok (.getfield 95, 3) := by decide +kernel
theorem dX11_readsFiction_4 : decode cX11_readsFiction 4 = .ok (.bipush 6, 2) := by decide +kernel
theorem dX11_readsFiction_6 : decode cX11_readsFiction 6 = .ok (.if_icmp .ne 5, 3) := by decide +kernel
theorem dX11_readsFiction_9 : decode cX11_readsFiction 9 = .ok (.iconst 0, 1) := by decide +kernel
theorem dX11_readsFiction_10 : decode cX11_readsFiction 10 = .ok (.ireturn, 1) := by decide +kernel
theorem dX11_readsFiction_11 : decode cX11_readsFiction 11 = .ok (.aload_n 0, 1) := by decide +kernel
theorem dX11_readsFiction_12 : decode cX11_readsFiction 12 = .ok (.iconst 0, 1) := by decide +kernel
theorem dX11_readsFiction_13 : decode cX11_readsFiction 13 = .ok (.iconst 5, 1) := by decide +kernel
theorem dX11_readsFiction_14 : decode cX11_readsFiction 14 = .ok (.invokevirtual 98, 3) := by decide +kernel
theorem dX11_readsFiction_17 : decode cX11_readsFiction 17 = .ok (.istore_n 1, 1) := by decide +kernel
theorem dX11_readsFiction_18 : decode cX11_readsFiction 18 = .ok (.iload_n 1, 1) := by decide +kernel
theorem dX11_readsFiction_19 : decode cX11_readsFiction 19 = .ok (.iconst (-1), 1) := by decide +kernel
theorem dX11_readsFiction_20 : decode cX11_readsFiction 20 = .ok (.if_icmp .ne 7, 3) := by decide +kernel
theorem dX11_readsFiction_23 : decode cX11_readsFiction 23 = .ok (.iconst (-1), 1) := by decide +kernel
theorem dX11_readsFiction_24 : decode cX11_readsFiction 24 = .ok (.goto 10, 3) := by decide +kernel
theorem dX11_readsFiction_27 : decode cX11_readsFiction 27 = .ok (.aload_n 0, 1) := by decide +kernel
theorem dX11_readsFiction_28 : decode cX11_readsFiction 28 = .ok (.iconst 0, 1) := by decide +kernel
theorem dX11_readsFiction_29 : decode cX11_readsFiction 29 = .ok (.bipush 7, 2) := by decide +kernel
theorem dX11_readsFiction_31 : decode cX11_readsFiction 31 = .ok (.invokevirtual 98, 3) := by decide +kernel
theorem dX11_readsFiction_34 : decode cX11_readsFiction 34 = .ok (.istore_n 2, 1) := by decide +kernel
theorem dX11_readsFiction_35 : decode cX11_readsFiction 35 = .ok (.iload_n 2, 1) := by decide +kernel
theorem dX11_readsFiction_36 : decode cX11_readsFiction 36 = .ok (.iconst (-1), 1) := by decide +kernel
theorem dX11_readsFiction_37 : decode cX11_readsFiction 37 = .ok (.if_icmp .ne 7, 3) := by decide +kernel
theorem dX11_readsFiction_40 : decode cX11_readsFiction 40 = .ok (.iconst (-1), 1) := by decide +kernel
theorem dX11_readsFiction_41 : decode cX11_readsFiction 41 = .ok (.goto 10, 3) := by decide +kernel
theorem dX11_readsFiction_44 : decode cX11_readsFiction 44 = .ok (.aload_n 0, 1) := by decide +kernel
theorem dX11_readsFiction_45 : decode cX11_readsFiction 45 = .ok (.iconst 0, 1) := by decide +kernel
theorem dX11_readsFiction_46 : decode cX11_readsFiction 46 = .ok (.bipush 20, 2) := by decide +kernel
theorem dX11_readsFiction_48 : decode cX11_readsFiction 48 = .ok (.invokevirtual 98, 3) := by decide +kernel
theorem dX11_readsFiction_51 : decode cX11_readsFiction 51 = .ok (.istore_n 3, 1) := by decide +kernel
theorem dX11_readsFiction_52 : decode cX11_readsFiction 52 = .ok (.iload_n 3, 1) := by decide +kernel
theorem dX11_readsFiction_53 : decode cX11_readsFiction 53 = .ok (.iconst (-1), 1) := by decide +kernel
theorem dX11_readsFiction_54 : decode cX11_readsFiction 54 = .ok (.if_icmp .ne 7, 3) := by decide +kernel
theorem dX11_readsFiction_57 : decode cX11_readsFiction 57 = .ok (.iconst (-1), 1) := by decide +kernel
theorem dX11_readsFiction_58 : decode cX11_readsFiction 58 = .ok (.goto 7, 3) := by decide +kernel
theorem dX11_readsFiction_61 : decode cX11_readsFiction 61 = .ok (.aload_n 0, 1) := by decide +kernel
theorem dX11_readsFiction_62 : decode cX11_readsFiction 62 = .ok (.invokevirtual 101, 3) := by decide +kernel
theorem dX11_readsFiction_65 : decode cX11_readsFiction 65 = .ok (.istore 4, 2) := by decide +kernel
theorem dX11_readsFiction_67 : decode cX11_readsFiction 67 = .ok (.iload 4, 2) := by decide +kernel
theorem dX11_readsFiction_69 : decode cX11_readsFiction 69 = .ok (.iconst (-1), 1) := by decide +kernel
theorem dX11_readsFiction_70 : decode cX11_readsFiction 70 = .ok (.if_icmp .ne 5, 3) := by decide +kernel
theorem dX11_readsFiction_73 : decode cX11_readsFiction 73 = .ok (.iconst 0, 1) := by decide +kernel
theorem dX11_readsFiction_74 : decode cX11_readsFiction 74 = .ok (.ireturn, 1) := by decide +kernel
theorem dX11_readsFiction_75 : decode cX11_readsFiction 75 = .ok (.aload_n 0, 1) := by decide +kernel
theorem dX11_readsFiction_76 : decode cX11_readsFiction 76 = .ok (.getfield 30, 3) := by decide +kernel
theorem dX11_readsFiction_79 : decode cX11_readsFiction 79 = .ok (.iconst 4, 1) := by decide +kernel
theorem dX11_readsFiction_80 : decode cX11_readsFiction 80 = .ok (.aload_n 0, 1) := by decide +kernel
theorem dX11_readsFiction_81 : decode cX11_readsFiction 81 = .ok (.getfield 95, 3) := by decide +kernel
theorem dX11_readsFiction_84 : decode cX11_readsFiction 84 = .ok (.imul, 1) := by decide +kernel
theorem dX11_readsFiction_85 : decode cX11_readsFiction 85 = .ok (.iload_n 1, 1) := by decide +kernel
theorem dX11_readsFiction_86 : decode cX11_readsFiction 86 = .ok (.iastore, 1) := by decide +kernel
theorem dX11_readsFiction_87 : decode cX11_readsFiction 87 = .ok (.aload_n 0, 1) := by decide +kernel
theorem dX11_readsFiction_88 : decode cX11_readsFiction 88 = .ok (.getfield 30, 3) := by decide +kernel
theorem dX11_readsFiction_91 : decode cX11_readsFiction 91 = .ok (.iconst 4, 1) := by decide +kernel
theorem dX11_readsFiction_92 : decode cX11_readsFiction 92 = .ok (.aload_n 0, 1) := by decide +kernel
theorem dX11_readsFiction_93 : decode cX11_readsFiction 93 = .ok (.getfield 95, 3) := by decide +kernel
theorem dX11_readsFiction_96 : decode cX11_readsFiction 96 = .ok (.imul, 1) := by decide +kernel
theorem dX11_readsFiction_97 : decode cX11_readsFiction 97 = .ok (.iconst 1, 1) := by decide +kernel
theorem dX11_readsFiction_98 : decode cX11_readsFiction 98 = .ok (.iadd, 1) := by decide +kernel
theorem dX11_readsFiction_99 : decode cX11_readsFiction 99 = .ok (.iload 4, 2) := by decide +kernel
theorem dX11_readsFiction_101 : decode cX11_readsFiction 101 = .ok (.iastore, 1) := by decide +kernel
theorem dX11_readsFiction_102 : decode cX11_readsFiction 102 = .ok (.aload_n 0, 1) := by decide +kernel
theorem dX11_readsFiction_103 : decode cX11_readsFiction 103 = .ok (.getfield 30, 3) := by decide +kernel
theorem dX11_readsFiction_106 : decode cX11_readsFiction 106 = .ok (.iconst 4, 1) := by decide +kernel
theorem dX11_readsFiction_107 : decode cX11_readsFiction 107 = .ok (.aload_n 0, 1) := by decide +kernel
theorem dX11_readsFiction_108 : decode cX11_readsFiction 108 = .ok (.getfield 95, 3) := by decide +kernel
theorem dX11_readsFiction_111 : decode cX11_readsFiction 111 = .ok (.imul, 1) := by decide +kernel
theorem dX11_readsFiction_112 : decode cX11_readsFiction 112 = .ok (.iconst 2, 1) := by decide +kernel
theorem dX11_readsFiction_113 : decode cX11_readsFiction 113 = .ok (.iadd, 1) := by decide +kernel
theorem dX11_readsFiction_114 : decode cX11_readsFiction 114 = .ok (.iload_n 2, 1) := by decide +kernel
theorem dX11_readsFiction_115 : decode cX11_readsFiction 115 = .ok (.iastore, 1) := by decide +kernel
theorem dX11_readsFiction_116 : decode cX11_readsFiction 116 = .ok (.aload_n 0, 1) := by decide +kernel
theorem dX11_readsFiction_117 : decode cX11_readsFiction 117 = .ok (.getfield 30, 3) := by decide +kernel
theorem dX11_readsFiction_120 : decode cX11_readsFiction 120 = .ok (.iconst 4, 1) := by decide +kernel
theorem dX11_readsFiction_121 : decode cX11_readsFiction 121 = .ok (.aload_n 0, 1) := by decide +kernel
theorem dX11_readsFiction_122 : decode cX11_readsFiction 122 = .ok (.getfield 95, 3) := by decide +kernel
theorem dX11_readsFiction_125 : decode cX11_readsFiction 125 = .ok (.imul, 1) := by decide +kernel
theorem dX11_readsFiction_126 : decode cX11_readsFiction 126 = .ok (.iconst 3, 1) := by decide +kernel
theorem dX11_readsFiction_127 : decode cX11_readsFiction 127 = .ok (.iadd, 1) := by decide +kernel
theorem dX11_readsFiction_128 : decode cX11_readsFiction 128 = .ok (.iload_n 3, 1) := by decide +kernel
theorem dX11_readsFiction_129 : decode cX11_readsFiction 129 = .ok (.iastore, 1) := by decide +kernel
theorem dX11_readsFiction_130 : decode cX11_readsFiction 130 = .ok (.aload_n 0, 1) := by decide +kernel
theorem dX11_readsFiction_131 : decode cX11_readsFiction 131 = .ok (.dup, 1) := by decide +kernel
theorem dX11_readsFiction_132 : decode cX11_readsFiction 132 = .ok (.getfield 95, 3) := by decide +kernel
theorem dX11_readsFiction_135 : decode cX11_readsFiction 135 = .ok (.iconst 1, 1) := by decide +kernel
theorem dX11_readsFiction_136 : decode cX11_readsFiction 136 = .ok (.iadd, 1) := by decide +kernel
theorem dX11_readsFiction_137 : decode cX11_readsFiction 137 = .ok (.putfield 95, 3) := by decide +kernel
theorem dX11_readsFiction_140 : decode cX11_readsFiction 140 = .ok (.iconst 1, 1) := by decide +kernel
theorem dX11_readsFiction_141 : decode cX11_readsFiction 141 = .ok (.ireturn, 1) := by decide +kernel
theorem dX11_readsCourt_0 : decode cX11_readsCourt 0 = .ok (.aload_n 0, 1) := by decide +kernel
theorem dX11_readsCourt_1 : decode cX11_readsCourt 1 = .ok (.getfield 105, 3) := by decide +kernel
theorem dX11_readsCourt_4 : decode cX11_readsCourt 4 = .ok (.iconst 4, 1) := by decide +kernel
theorem dX11_readsCourt_5 : decode cX11_readsCourt 5 = .ok (.if_icmp .ne 5, 3) := by decide +kernel
theorem dX11_readsCourt_8 : decode cX11_readsCourt 8 = .ok (.iconst 0, 1) := by decide +kernel
theorem dX11_readsCourt_9 : decode cX11_readsCourt 9 = .ok (.ireturn, 1) := by decide +kernel
theorem dX11_readsCourt_10 : decode cX11_readsCourt 10 = .ok (.aload_n 0, 1) := by decide +kernel
theorem dX11_readsCourt_11 : decode cX11_readsCourt 11 = .ok (.iconst 0, 1) := by decide +kernel
theorem dX11_readsCourt_12 : decode cX11_readsCourt 12 = .ok (.bipush 20, 2) := by decide +kernel
theorem dX11_readsCourt_14 : decode cX11_readsCourt 14 = .ok (.invokevirtual 98, 3) := by decide +kernel
theorem dX11_readsCourt_17 : decode cX11_readsCourt 17 = .ok (.istore_n 1, 1) := by decide +kernel
theorem dX11_readsCourt_18 : decode cX11_readsCourt 18 = .ok (.iload_n 1, 1) := by decide +kernel
theorem dX11_readsCourt_19 : decode cX11_readsCourt 19 = .ok (.iconst (-1), 1) := by decide +kernel
theorem dX11_readsCourt_20 : decode cX11_readsCourt 20 = .ok (.if_icmp .ne 7, 3) := by decide +kernel
theorem dX11_readsCourt_23 : decode cX11_readsCourt 23 = .ok (.iconst (-1), 1) := by decide +kernel
theorem dX11_readsCourt_24 : decode cX11_readsCourt 24 = .ok (.goto 7, 3) := by decide +kernel
theorem dX11_readsCourt_27 : decode cX11_readsCourt 27 = .ok (.aload_n 0, 1) := by decide +kernel
theorem dX11_readsCourt_28 : decode cX11_readsCourt 28 = .ok (.invokevirtual 101, 3) := by decide +kernel
theorem dX11_readsCourt_31 : decode cX11_readsCourt 31 = .ok (.istore_n 2, 1) := by decide +kernel
theorem dX11_readsCourt_32 : decode cX11_readsCourt 32 = .ok (.iload_n 2, 1) := by decide +kernel
theorem dX11_readsCourt_33 : decode cX11_readsCourt 33 = .ok (.iconst (-1), 1) := by decide +kernel
theorem dX11_readsCourt_34 : decode cX11_readsCourt 34 = .ok (.if_icmp .ne 5, 3) := by decide +kernel
theorem dX11_readsCourt_37 : decode cX11_readsCourt 37 = .ok (.iconst 0, 1) := by decide +kernel
theorem dX11_readsCourt_38 : decode cX11_readsCourt 38 = .ok (.ireturn, 1) := by decide +kernel
theorem dX11_readsCourt_39 : decode cX11_readsCourt 39 = .ok (.aload_n 0, 1) := by decide +kernel
theorem dX11_readsCourt_40 : decode cX11_readsCourt 40 = .ok (.getfield 33, 3) := by decide +kernel
theorem dX11_readsCourt_43 : decode cX11_readsCourt 43 = .ok (.iconst 2, 1) := by decide +kernel
theorem dX11_readsCourt_44 : decode cX11_readsCourt 44 = .ok (.aload_n 0, 1) := by decide +kernel
theorem dX11_readsCourt_45 : decode cX11_readsCourt 45 = .ok (.getfield 105, 3) := by decide +kernel
theorem dX11_readsCourt_48 : decode cX11_readsCourt 48 = .ok (.imul, 1) := by decide +kernel
theorem dX11_readsCourt_49 : decode cX11_readsCourt 49 = .ok (.iload_n 2, 1) := by decide +kernel
theorem dX11_readsCourt_50 : decode cX11_readsCourt 50 = .ok (.iastore, 1) := by decide +kernel
theorem dX11_readsCourt_51 : decode cX11_readsCourt 51 = .ok (.aload_n 0, 1) := by decide +kernel
theorem dX11_readsCourt_52 : decode cX11_readsCourt 52 = .ok (.getfield 33, 3) := by decide +kernel
theorem dX11_readsCourt_55 : decode cX11_readsCourt 55 = .ok (.iconst 2, 1) := by decide +kernel
theorem dX11_readsCourt_56 : decode cX11_readsCourt 56 = .ok (.aload_n 0, 1) := by decide +kernel
theorem dX11_readsCourt_57 : decode cX11_readsCourt 57 = .ok (.getfield 105, 3) := by decide +kernel
theorem dX11_readsCourt_60 : decode cX11_readsCourt 60 = .ok (.imul, 1) := by decide +kernel
theorem dX11_readsCourt_61 : decode cX11_readsCourt 61 = .ok (.iconst 1, 1) := by decide +kernel
theorem dX11_readsCourt_62 : decode cX11_readsCourt 62 = .ok (.iadd, 1) := by decide +kernel
theorem dX11_readsCourt_63 : decode cX11_readsCourt 63 = .ok (.iload_n 1, 1) := by decide +kernel
theorem dX11_readsCourt_64 : decode cX11_readsCourt 64 = .ok (.iastore, 1) := by decide +kernel
theorem dX11_readsCourt_65 : decode cX11_readsCourt 65 = .ok (.aload_n 0, 1) := by decide +kernel
theorem dX11_readsCourt_66 : decode cX11_readsCourt 66 = .ok (.dup, 1) := by decide +kernel
theorem dX11_readsCourt_67 : decode cX11_readsCourt 67 = .ok (.getfield 105, 3) := by decide +kernel
theorem dX11_readsCourt_70 : decode cX11_readsCourt 70 = .ok (.iconst 1, 1) := by decide +kernel
theorem dX11_readsCourt_71 : decode cX11_readsCourt 71 = .ok (.iadd, 1) := by decide +kernel
theorem dX11_readsCourt_72 : decode cX11_readsCourt 72 = .ok (.putfield 105, 3) := by decide +kernel
theorem dX11_readsCourt_75 : decode cX11_readsCourt 75 = .ok (.iconst 1, 1) := by decide +kernel
theorem dX11_readsCourt_76 : decode cX11_readsCourt 76 = .ok (.ireturn, 1) := by decide +kernel
theorem dX11_readItems_0 : decode cX11_readItems 0 = .ok (.aload_n 0, 1) := by decide +kernel
theorem dX11_readItems_1 : decode cX11_readItems 1 = .ok (.iconst 0, 1) := by decide +kernel
theorem dX11_readItems_2 : decode cX11_readItems 2 = .ok (.putfield 72, 3) := by decide +kernel
theorem dX11_readItems_5 : decode cX11_readItems 5 = .ok (.aload_n 0, 1) := by decide +kernel
theorem dX11_readItems_6 : decode cX11_readItems 6 = .ok (.iconst 0, 1) := by decide +kernel
theorem dX11_readItems_7 : decode cX11_readItems 7 = .ok (.putfield 95, 3) := by decide +kernel
theorem dX11_readItems_10 : decode cX11_readItems 10 = .ok (.aload_n 0, 1) := by decide +kernel
theorem dX11_readItems_11 : decode cX11_readItems 11 = .ok (.iconst 0, 1) := by decide +kernel
theorem dX11_readItems_12 : decode cX11_readItems 12 = .ok (.putfield 105, 3) := by decide +kernel
theorem dX11_readItems_15 : decode cX11_readItems 15 = .ok (.iconst 0, 1) := by decide +kernel
theorem dX11_readItems_16 : decode cX11_readItems 16 = .ok (.istore_n 1, 1) := by decide +kernel
theorem dX11_readItems_17 : decode cX11_readItems 17 = .ok (.aload_n 0, 1) := by decide +kernel
theorem dX11_readItems_18 : decode cX11_readItems 18 = .ok (.invokevirtual 88, 3) := by decide +kernel
theorem dX11_readItems_21 : decode cX11_readItems 21 = .ok (.iload_n 1, 1) := by decide +kernel
theorem dX11_readItems_22 : decode cX11_readItems 22 = .ok (.ifCond .eq 14, 3) := by decide +kernel
theorem dX11_readItems_25 : decode cX11_readItems 25 = .ok (.aload_n 0, 1) := by decide +kernel
theorem dX11_readItems_26 : decode cX11_readItems 26 = .ok (.getfield 75, 3) := by decide +kernel
theorem dX11_readItems_29 : decode cX11_readItems 29 = .ok (.aload_n 0, 1) := by decide +kernel
theorem dX11_readItems_30 : decode cX11_readItems 30 = .ok (.getfield 68, 3) := by decide +kernel
theorem dX11_readItems_33 : decode cX11_readItems 33 = .ok (.if_icmp .ge 108, 3) := by decide +kernel
theorem dX11_readItems_36 : decode cX11_readItems 36 = .ok (.aload_n 0, 1) := by decide +kernel
theorem dX11_readItems_37 : decode cX11_readItems 37 = .ok (.invokevirtual 108, 3) := by decide +kernel
theorem dX11_readItems_40 : decode cX11_readItems 40 = .ok (.istore_n 2, 1) := by decide +kernel
theorem dX11_readItems_41 : decode cX11_readItems 41 = .ok (.iload_n 2, 1) := by decide +kernel
theorem dX11_readItems_42 : decode cX11_readItems 42 = .ok (.iconst (-1), 1) := by decide +kernel
theorem dX11_readItems_43 : decode cX11_readItems 43 = .ok (.if_icmp .eq 24, 3) := by decide +kernel
theorem dX11_readItems_46 : decode cX11_readItems 46 = .ok (.iload_n 2, 1) := by decide +kernel
theorem dX11_readItems_47 : decode cX11_readItems 47 = .ok (.ifCond .ne 7, 3) := by decide +kernel
theorem dX11_readItems_50 : decode cX11_readItems 50 = .ok (.iconst 1, 1) := by decide +kernel
theorem dX11_readItems_51 : decode cX11_readItems 51 = .ok (.goto 4, 3) := by decide +kernel
theorem dX11_readItems_54 : decode cX11_readItems 54 = .ok (.iconst 0, 1) := by decide +kernel
theorem dX11_readItems_55 : decode cX11_readItems 55 = .ok (.iload_n 1, 1) := by decide +kernel
theorem dX11_readItems_56 : decode cX11_readItems 56 = .ok (.ifCond .ne 7, 3) := by decide +kernel
theorem dX11_readItems_59 : decode cX11_readItems 59 = .ok (.iconst 1, 1) := by decide +kernel
theorem dX11_readItems_60 : decode cX11_readItems 60 = .ok (.goto 4, 3) := by decide +kernel
theorem dX11_readItems_63 : decode cX11_readItems 63 = .ok (.iconst 0, 1) := by decide +kernel
theorem dX11_readItems_64 : decode cX11_readItems 64 = .ok (.if_icmp .eq 5, 3) := by decide +kernel
theorem dX11_readItems_67 : decode cX11_readItems 67 = .ok (.iconst (-1), 1) := by decide +kernel
theorem dX11_readItems_68 : decode cX11_readItems 68 = .ok (.ireturn, 1) := by decide +kernel
theorem dX11_readItems_69 : decode cX11_readItems 69 = .ok (.aload_n 0, 1) := by decide +kernel
theorem dX11_readItems_70 : decode cX11_readItems 70 = .ok (.iload_n 2, 1) := by decide +kernel
theorem dX11_readItems_71 : decode cX11_readItems 71 = .ok (.ifCond .ne 10, 3) := by decide +kernel
theorem dX11_readItems_74 : decode cX11_readItems 74 = .ok (.aload_n 0, 1) := by decide +kernel
theorem dX11_readItems_75 : decode cX11_readItems 75 = .ok (.invokevirtual 101, 3) := by decide +kernel
theorem dX11_readItems_78 : decode cX11_readItems 78 = .ok (.goto 7, 3) := by decide +kernel
theorem dX11_readItems_81 : decode cX11_readItems 81 = .ok (.aload_n 0, 1) := by decide +kernel
theorem dX11_readItems_82 : decode cX11_readItems 82 = .ok (.getfield 111, 3) := by decide +kernel
theorem dX11_readItems_85 : decode cX11_readItems 85 = .ok (.putfield 111, 3) := by decide +kernel
theorem dX11_readItems_88 : decode cX11_readItems 88 = .ok (.iload_n 2, 1) := by decide +kernel
theorem dX11_readItems_89 : decode cX11_readItems 89 = .ok (.ifCond .ne 19, 3) := by decide +kernel
theorem dX11_readItems_92 : decode cX11_readItems 92 = .ok (.aload_n 0, 1) := by decide +kernel
theorem dX11_readItems_93 : decode cX11_readItems 93 = .ok (.getfield 111, 3) := by decide +kernel
theorem dX11_readItems_96 : decode cX11_readItems 96 = .ok (.iconst (-1), 1) := by decide +kernel
theorem dX11_readItems_97 : decode cX11_readItems 97 = .ok (.if_icmp .eq 7, 3) := by decide +kernel
theorem dX11_readItems_100 : decode cX11_readItems 100 = .ok (.iconst 1, 1) := by decide +kernel
theorem dX11_readItems_101 : decode cX11_readItems 101 = .ok (.goto 23, 3) := by decide +kernel
theorem dX11_readItems_104 : decode cX11_readItems 104 = .ok (.iconst 0, 1) := by decide +kernel
theorem dX11_readItems_105 : decode cX11_readItems 105 = .ok (.goto 19, 3) := by decide +kernel
theorem dX11_readItems_108 : decode cX11_readItems 108 = .ok (.iload_n 2, 1) := by decide +kernel
theorem dX11_readItems_109 : decode cX11_readItems 109 = .ok (.iconst 1, 1) := by decide +kernel
theorem dX11_readItems_110 : decode cX11_readItems 110 = .ok (.if_icmp .ne 10, 3) := by decide +kernel
theorem dX11_readItems_113 : decode cX11_readItems 113 = .ok (.aload_n 0, 1) := by decide +kernel
theorem dX11_readItems_114 : decode cX11_readItems 114 = .ok (.invokevirtual 114, 3) := by decide +kernel
theorem dX11_readItems_117 : decode cX11_readItems 117 = .ok (.goto 7, 3) := by decide +kernel
theorem dX11_readItems_120 : decode cX11_readItems 120 = .ok (.aload_n 0, 1) := by decide +kernel
theorem dX11_readItems_121 : decode cX11_readItems 121 = .ok (.invokevirtual 118, 3) := by decide +kernel
theorem dX11_readItems_124 : decode cX11_readItems 124 = .ok (.istore_n 3, 1) := by decide +kernel
theorem dX11_readItems_125 : decode cX11_readItems 125 = .ok (.iload_n 3, 1) := by decide +kernel
theorem dX11_readItems_126 : decode cX11_readItems 126 = .ok (.ifCond .ne 5, 3) := by decide +kernel
theorem dX11_readItems_129 : decode cX11_readItems 129 = .ok (.iconst (-1), 1) := by decide +kernel
theorem dX11_readItems_130 : decode cX11_readItems 130 = .ok (.ireturn, 1) := by decide +kernel
theorem dX11_readItems_131 : decode cX11_readItems 131 = .ok (.iinc 1 1, 3) := by decide +kernel
theorem dX11_readItems_134 : decode cX11_readItems 134 = .ok (.aload_n 0, 1) := by decide +kernel
theorem dX11_readItems_135 : decode cX11_readItems 135 = .ok (.invokevirtual 88, 3) := by decide +kernel
theorem dX11_readItems_138 : decode cX11_readItems 138 = .ok (.goto (-117), 3) := by decide +kernel
theorem dX11_readItems_141 : decode cX11_readItems 141 = .ok (.iload_n 1, 1) := by decide +kernel
theorem dX11_readItems_142 : decode cX11_readItems 142 = .ok (.ireturn, 1) := by decide +kernel
theorem dX11_read_0 : decode cX11_read 0 = .ok (.aload_n 0, 1) := by decide +kernel
theorem dX11_read_1 : decode cX11_read 1 = .ok (.invokevirtual 121, 3) := by decide +kernel
theorem dX11_read_4 : decode cX11_read 4 = .ok (.istore_n 1, 1) := by decide +kernel
theorem dX11_read_5 : decode cX11_read 5 = .ok (.iload_n 1, 1) := by decide +kernel
theorem dX11_read_6 : decode cX11_read 6 = .ok (.iconst (-1), 1) := by decide +kernel
theorem dX11_read_7 : decode cX11_read 7 = .ok (.if_icmp .ne 11, 3) := by decide +kernel
theorem dX11_read_10 : decode cX11_read 10 = .ok (.bipush (-10), 2) := by decide +kernel
theorem dX11_read_12 : decode cX11_read 12 = .ok (.aload_n 0, 1) := by decide +kernel
theorem dX11_read_13 : decode cX11_read 13 = .ok (.getfield 75, 3) := by decide +kernel
theorem dX11_read_16 : decode cX11_read 16 = .ok (.isub, 1) := by decide +kernel
theorem dX11_read_17 : decode cX11_read 17 = .ok (.ireturn, 1) := by decide +kernel
theorem dX11_read_18 : decode cX11_read 18 = .ok (.aload_n 0, 1) := by decide +kernel
theorem dX11_read_19 : decode cX11_read 19 = .ok (.aload_n 0, 1) := by decide +kernel
theorem dX11_read_20 : decode cX11_read 20 = .ok (.getfield 111, 3) := by decide +kernel
theorem dX11_read_23 : decode cX11_read 23 = .ok (.invokevirtual 56, 3) := by decide +kernel
theorem dX11_read_26 : decode cX11_read 26 = .ok (.iconst 0, 1) := by decide +kernel
theorem dX11_read_27 : decode cX11_read 27 = .ok (.istore_n 2, 1) := by decide +kernel
theorem dX11_read_28 : decode cX11_read 28 = .ok (.iload_n 2, 1) := by decide +kernel
theorem dX11_read_29 : decode cX11_read 29 = .ok (.aload_n 0, 1) := by decide +kernel
theorem dX11_read_30 : decode cX11_read 30 = .ok (.getfield 95, 3) := by decide +kernel
theorem dX11_read_33 : decode cX11_read 33 = .ok (.if_icmp .ge 51, 3) := by decide +kernel
theorem dX11_read_36 : decode cX11_read 36 = .ok (.aload_n 0, 1) := by decide +kernel
theorem dX11_read_37 : decode cX11_read 37 = .ok (.aload_n 0, 1) := by decide +kernel
theorem dX11_read_38 : decode cX11_read 38 = .ok (.getfield 30, 3) := by decide +kernel
theorem dX11_read_41 : decode cX11_read 41 = .ok (.iconst 4, 1) := by decide +kernel
theorem dX11_read_42 : decode cX11_read 42 = .ok (.iload_n 2, 1) := by decide +kernel
theorem dX11_read_43 : decode cX11_read 43 = .ok (.imul, 1) := by decide +kernel
theorem dX11_read_44 : decode cX11_read 44 = .ok (.iaload, 1) := by decide +kernel
theorem dX11_read_45 : decode cX11_read 45 = .ok (.aload_n 0, 1) := by decide +kernel
theorem dX11_read_46 : decode cX11_read 46 = .ok (.getfield 30, 3) := by decide +kernel
theorem dX11_read_49 : decode cX11_read 49 = .ok (.iconst 4, 1) := by decide +kernel
theorem dX11_read_50 : decode cX11_read 50 = .ok (.iload_n 2, 1) := by decide +kernel
theorem dX11_read_51 : decode cX11_read 51 = .ok (.imul, 1) := by decide +kernel
theorem dX11_read_52 : decode cX11_read 52 = .ok (.iconst 1, 1) := by decide +kernel
theorem dX11_read_53 : decode cX11_read 53 = .ok (.iadd, 1) := by decide +kernel
theorem dX11_read_54 : decode cX11_read 54 = .ok (.iaload, 1) := by decide +kernel
theorem dX11_read_55 : decode cX11_read 55 = .ok (.aload_n 0, 1) := by decide +kernel
theorem dX11_read_56 : decode cX11_read 56 = .ok (.getfield 30, 3) := by decide +kernel
theorem dX11_read_59 : decode cX11_read 59 = .ok (.iconst 4, 1) := by decide +kernel
theorem dX11_read_60 : decode cX11_read 60 = .ok (.iload_n 2, 1) := by decide +kernel
theorem dX11_read_61 : decode cX11_read 61 = .ok (.imul, 1) := by decide +kernel
theorem dX11_read_62 : decode cX11_read 62 = .ok (.iconst 2, 1) := by decide +kernel
theorem dX11_read_63 : decode cX11_read 63 = .ok (.iadd, 1) := by decide +kernel
theorem dX11_read_64 : decode cX11_read 64 = .ok (.iaload, 1) := by decide +kernel
theorem dX11_read_65 : decode cX11_read 65 = .ok (.aload_n 0, 1) := by decide +kernel
theorem dX11_read_66 : decode cX11_read 66 = .ok (.getfield 30, 3) := by decide +kernel
theorem dX11_read_69 : decode cX11_read 69 = .ok (.iconst 4, 1) := by decide +kernel
theorem dX11_read_70 : decode cX11_read 70 = .ok (.iload_n 2, 1) := by decide +kernel
theorem dX11_read_71 : decode cX11_read 71 = .ok (.imul, 1) := by decide +kernel
theorem dX11_read_72 : decode cX11_read 72 = .ok (.iconst 3, 1) := by decide +kernel
theorem dX11_read_73 : decode cX11_read 73 = .ok (.iadd, 1) := by decide +kernel
theorem dX11_read_74 : decode cX11_read 74 = .ok (.iaload, 1) := by decide +kernel
theorem dX11_read_75 : decode cX11_read 75 = .ok (.invokevirtual 60, 3) := by decide +kernel
theorem dX11_read_78 : decode cX11_read 78 = .ok (.iinc 2 1, 3) := by decide +kernel
theorem dX11_read_81 : decode cX11_read 81 = .ok (.goto (-53), 3) := by decide +kernel
theorem dX11_read_84 : decode cX11_read 84 = .ok (.iconst 0, 1) := by decide +kernel
theorem dX11_read_85 : decode cX11_read 85 = .ok (.istore_n 2, 1) := by decide +kernel
theorem dX11_read_86 : decode cX11_read 86 = .ok (.iload_n 2, 1) := by decide +kernel
theorem dX11_read_87 : decode cX11_read 87 = .ok (.aload_n 0, 1) := by decide +kernel
theorem dX11_read_88 : decode cX11_read 88 = .ok (.getfield 105, 3) := by decide +kernel
theorem dX11_read_91 : decode cX11_read 91 = .ok (.if_icmp .ge 31, 3) := by decide +kernel
theorem dX11_read_94 : decode cX11_read 94 = .ok (.aload_n 0, 1) := by decide +kernel
theorem dX11_read_95 : decode cX11_read 95 = .ok (.aload_n 0, 1) := by decide +kernel
theorem dX11_read_96 : decode cX11_read 96 = .ok (.getfield 33, 3) := by decide +kernel
theorem dX11_read_99 : decode cX11_read 99 = .ok (.iconst 2, 1) := by decide +kernel
theorem dX11_read_100 : decode cX11_read 100 = .ok (.iload_n 2, 1) := by decide +kernel
theorem dX11_read_101 : decode cX11_read 101 = .ok (.imul, 1) := by decide +kernel
theorem dX11_read_102 : decode cX11_read 102 = .ok (.iaload, 1) := by decide +kernel
theorem dX11_read_103 : decode cX11_read 103 = .ok (.aload_n 0, 1) := by decide +kernel
theorem dX11_read_104 : decode cX11_read 104 = .ok (.getfield 33, 3) := by decide +kernel
theorem dX11_read_107 : decode cX11_read 107 = .ok (.iconst 2, 1) := by decide +kernel
theorem dX11_read_108 : decode cX11_read 108 = .ok (.iload_n 2, 1) := by decide +kernel
theorem dX11_read_109 : decode cX11_read 109 = .ok (.imul, 1) := by decide +kernel
theorem dX11_read_110 : decode cX11_read 110 = .ok (.iconst 1, 1) := by decide +kernel
theorem dX11_read_111 : decode cX11_read 111 = .ok (.iadd, 1) := by decide +kernel
theorem dX11_read_112 : decode cX11_read 112 = .ok (.iaload, 1) := by decide +kernel
theorem dX11_read_113 : decode cX11_read 113 = .ok (.invokevirtual 64, 3) := by decide +kernel
theorem dX11_read_116 : decode cX11_read 116 = .ok (.iinc 2 1, 3) := by decide +kernel
theorem dX11_read_119 : decode cX11_read 119 = .ok (.goto (-33), 3) := by decide +kernel
theorem dX11_read_122 : decode cX11_read 122 = .ok (.iload_n 1, 1) := by decide +kernel
theorem dX11_read_123 : decode cX11_read 123 = .ok (.ireturn, 1) := by decide +kernel
theorem dX11_isFiction_0 : decode cX11_isFiction 0 = .ok (.iload_n 1, 1) := by decide +kernel
theorem dX11_isFiction_1 : decode cX11_isFiction 1 = .ok (.iconst 0, 1) := by decide +kernel
theorem dX11_isFiction_2 : decode cX11_isFiction 2 = .ok (.aload_n 0, 1) := by decide +kernel
theorem dX11_isFiction_3 : decode cX11_isFiction 3 = .ok (.getfield 7, 3) := by decide +kernel
theorem dX11_isFiction_6 : decode cX11_isFiction 6 = .ok (.iconst 4, 1) := by decide +kernel
theorem dX11_isFiction_7 : decode cX11_isFiction 7 = .ok (.iaload, 1) := by decide +kernel
theorem dX11_isFiction_8 : decode cX11_isFiction 8 = .ok (.iconst 1, 1) := by decide +kernel
theorem dX11_isFiction_9 : decode cX11_isFiction 9 = .ok (.isub, 1) := by decide +kernel
theorem dX11_isFiction_10 : decode cX11_isFiction 10 = .ok (.invokestatic 52, 3) := by decide +kernel
theorem dX11_isFiction_13 : decode cX11_isFiction 13 = .ok (.ireturn, 1) := by decide +kernel
theorem dX11_isCourt_0 : decode cX11_isCourt 0 = .ok (.iload_n 1, 1) := by decide +kernel
theorem dX11_isCourt_1 : decode cX11_isCourt 1 = .ok (.iconst 0, 1) := by decide +kernel
theorem dX11_isCourt_2 : decode cX11_isCourt 2 = .ok (.aload_n 0, 1) := by decide +kernel
theorem dX11_isCourt_3 : decode cX11_isCourt 3 = .ok (.getfield 7, 3) := by decide +kernel
theorem dX11_isCourt_6 : decode cX11_isCourt 6 = .ok (.bipush 29, 2) := by decide +kernel
theorem dX11_isCourt_8 : decode cX11_isCourt 8 = .ok (.iaload, 1) := by decide +kernel
theorem dX11_isCourt_9 : decode cX11_isCourt 9 = .ok (.iconst 1, 1) := by decide +kernel
theorem dX11_isCourt_10 : decode cX11_isCourt 10 = .ok (.isub, 1) := by decide +kernel
theorem dX11_isCourt_11 : decode cX11_isCourt 11 = .ok (.invokestatic 52, 3) := by decide +kernel
theorem dX11_isCourt_14 : decode cX11_isCourt 14 = .ok (.ireturn, 1) := by decide +kernel
theorem dX11_supposedBy_0 : decode cX11_supposedBy 0 = .ok (.aload_n 0, 1) := by decide +kernel
theorem dX11_supposedBy_1 : decode cX11_supposedBy 1 = .ok (.getfield 7, 3) := by decide +kernel
theorem dX11_supposedBy_4 : decode cX11_supposedBy 4 = .ok (.iconst 3, 1) := by decide +kernel
theorem dX11_supposedBy_5 : decode cX11_supposedBy 5 = .ok (.iaload, 1) := by decide +kernel
theorem dX11_supposedBy_6 : decode cX11_supposedBy 6 = .ok (.istore_n 2, 1) := by decide +kernel
theorem dX11_supposedBy_7 : decode cX11_supposedBy 7 = .ok (.iconst 0, 1) := by decide +kernel
theorem dX11_supposedBy_8 : decode cX11_supposedBy 8 = .ok (.istore_n 3, 1) := by decide +kernel
theorem dX11_supposedBy_9 : decode cX11_supposedBy 9 = .ok (.iload_n 3, 1) := by decide +kernel
theorem dX11_supposedBy_10 : decode cX11_supposedBy 10 = .ok (.aload_n 0, 1) := by decide +kernel
theorem dX11_supposedBy_11 : decode cX11_supposedBy 11 = .ok (.getfield 7, 3) := by decide +kernel
theorem dX11_supposedBy_14 : decode cX11_supposedBy 14 = .ok (.iconst 4, 1) := by decide +kernel
theorem dX11_supposedBy_15 : decode cX11_supposedBy 15 = .ok (.iaload, 1) := by decide +kernel
theorem dX11_supposedBy_16 : decode cX11_supposedBy 16 = .ok (.if_icmp .ge 35, 3) := by decide +kernel
theorem dX11_supposedBy_19 : decode cX11_supposedBy 19 = .ok (.iload_n 2, 1) := by decide +kernel
theorem dX11_supposedBy_20 : decode cX11_supposedBy 20 = .ok (.iload_n 1, 1) := by decide +kernel
theorem dX11_supposedBy_21 : decode cX11_supposedBy 21 = .ok (.iload_n 3, 1) := by decide +kernel
theorem dX11_supposedBy_22 : decode cX11_supposedBy 22 = .ok (.invokestatic 124, 3) := by decide +kernel
theorem dX11_supposedBy_25 : decode cX11_supposedBy 25 = .ok (.ifCond .eq 17, 3) := by decide +kernel
theorem dX11_supposedBy_28 : decode cX11_supposedBy 28 = .ok (.iconst 1, 1) := by decide +kernel
theorem dX11_supposedBy_29 : decode cX11_supposedBy 29 = .ok (.aload_n 0, 1) := by decide +kernel
theorem dX11_supposedBy_30 : decode cX11_supposedBy 30 = .ok (.getfield 7, 3) := by decide +kernel
theorem dX11_supposedBy_33 : decode cX11_supposedBy 33 = .ok (.bipush 17, 2) := by decide +kernel
theorem dX11_supposedBy_35 : decode cX11_supposedBy 35 = .ok (.iload_n 3, 1) := by decide +kernel
theorem dX11_supposedBy_36 : decode cX11_supposedBy 36 = .ok (.iadd, 1) := by decide +kernel
theorem dX11_supposedBy_37 : decode cX11_supposedBy 37 = .ok (.iaload, 1) := by decide +kernel
theorem dX11_supposedBy_38 : decode cX11_supposedBy 38 = .ok (.ishl, 1) := by decide +kernel
theorem dX11_supposedBy_39 : decode cX11_supposedBy 39 = .ok (.goto 4, 3) := by decide +kernel
theorem dX11_supposedBy_42 : decode cX11_supposedBy 42 = .ok (.iconst 0, 1) := by decide +kernel
theorem dX11_supposedBy_43 : decode cX11_supposedBy 43 = .ok (.ior, 1) := by decide +kernel
theorem dX11_supposedBy_44 : decode cX11_supposedBy 44 = .ok (.istore_n 2, 1) := by decide +kernel
theorem dX11_supposedBy_45 : decode cX11_supposedBy 45 = .ok (.iinc 3 1, 3) := by decide +kernel
theorem dX11_supposedBy_48 : decode cX11_supposedBy 48 = .ok (.goto (-39), 3) := by decide +kernel
theorem dX11_supposedBy_51 : decode cX11_supposedBy 51 = .ok (.iload_n 2, 1) := by decide +kernel
theorem dX11_supposedBy_52 : decode cX11_supposedBy 52 = .ok (.ireturn, 1) := by decide +kernel
theorem dX11_costBy_0 : decode cX11_costBy 0 = .ok (.iload_n 0, 1) := by decide +kernel
theorem dX11_costBy_1 : decode cX11_costBy 1 = .ok (.tableswitch 60 1 5 #[35, 50, 35, 60, 54], 35) := by decide +kernel
theorem dX11_costBy_36 : decode cX11_costBy 36 = .ok (.iload_n 2, 1) := by decide +kernel
theorem dX11_costBy_37 : decode cX11_costBy 37 = .ok (.iconst 1, 1) := by decide +kernel
theorem dX11_costBy_38 : decode cX11_costBy 38 = .ok (.if_icmp .le 11, 3) := by decide +kernel
theorem dX11_costBy_41 : decode cX11_costBy 41 = .ok (.iload_n 1, 1) := by decide +kernel
theorem dX11_costBy_42 : decode cX11_costBy 42 = .ok (.iconst 1, 1) := by decide +kernel
theorem dX11_costBy_43 : decode cX11_costBy 43 = .ok (.iadd, 1) := by decide +kernel
theorem dX11_costBy_44 : decode cX11_costBy 44 = .ok (.iconst 2, 1) := by decide +kernel
theorem dX11_costBy_45 : decode cX11_costBy 45 = .ok (.idiv, 1) := by decide +kernel
theorem dX11_costBy_46 : decode cX11_costBy 46 = .ok (.goto 4, 3) := by decide +kernel
theorem dX11_costBy_49 : decode cX11_costBy 49 = .ok (.iload_n 1, 1) := by decide +kernel
theorem dX11_costBy_50 : decode cX11_costBy 50 = .ok (.ireturn, 1) := by decide +kernel
theorem dX11_costBy_51 : decode cX11_costBy 51 = .ok (.iload_n 1, 1) := by decide +kernel
theorem dX11_costBy_52 : decode cX11_costBy 52 = .ok (.iconst 2, 1) := by decide +kernel
theorem dX11_costBy_53 : decode cX11_costBy 53 = .ok (.iadd, 1) := by decide +kernel
theorem dX11_costBy_54 : decode cX11_costBy 54 = .ok (.ireturn, 1) := by decide +kernel
theorem dX11_costBy_55 : decode cX11_costBy 55 = .ok (.iload_n 1, 1) := by decide +kernel
theorem dX11_costBy_56 : decode cX11_costBy 56 = .ok (.iconst 2, 1) := by decide +kernel
theorem dX11_costBy_57 : decode cX11_costBy 57 = .ok (.iadd, 1) := by decide +kernel
theorem dX11_costBy_58 : decode cX11_costBy 58 = .ok (.iload_n 2, 1) := by decide +kernel
theorem dX11_costBy_59 : decode cX11_costBy 59 = .ok (.iadd, 1) := by decide +kernel
theorem dX11_costBy_60 : decode cX11_costBy 60 = .ok (.ireturn, 1) := by decide +kernel
theorem dX11_costBy_61 : decode cX11_costBy 61 = .ok (.iload_n 1, 1) := by decide +kernel
theorem dX11_costBy_62 : decode cX11_costBy 62 = .ok (.ireturn, 1) := by decide +kernel
theorem dX11_cost_0 : decode cX11_cost 0 = .ok (.aload_n 0, 1) := by decide +kernel
theorem dX11_cost_1 : decode cX11_cost 1 = .ok (.getfield 7, 3) := by decide +kernel
theorem dX11_cost_4 : decode cX11_cost 4 = .ok (.iconst 5, 1) := by decide +kernel
theorem dX11_cost_5 : decode cX11_cost 5 = .ok (.iload_n 1, 1) := by decide +kernel
theorem dX11_cost_6 : decode cX11_cost 6 = .ok (.iadd, 1) := by decide +kernel
theorem dX11_cost_7 : decode cX11_cost 7 = .ok (.iaload, 1) := by decide +kernel
theorem dX11_cost_8 : decode cX11_cost 8 = .ok (.aload_n 0, 1) := by decide +kernel
theorem dX11_cost_9 : decode cX11_cost 9 = .ok (.getfield 7, 3) := by decide +kernel
theorem dX11_cost_12 : decode cX11_cost 12 = .ok (.bipush 23, 2) := by decide +kernel
theorem dX11_cost_14 : decode cX11_cost 14 = .ok (.iload_n 1, 1) := by decide +kernel
theorem dX11_cost_15 : decode cX11_cost 15 = .ok (.iadd, 1) := by decide +kernel
theorem dX11_cost_16 : decode cX11_cost 16 = .ok (.iaload, 1) := by decide +kernel
theorem dX11_cost_17 : decode cX11_cost 17 = .ok (.iload_n 2, 1) := by decide +kernel
theorem dX11_cost_18 : decode cX11_cost 18 = .ok (.invokestatic 128, 3) := by decide +kernel
theorem dX11_cost_21 : decode cX11_cost 21 = .ok (.ireturn, 1) := by decide +kernel
theorem dX11_wins_0 : decode cX11_wins 0 = .ok (.aload_n 0, 1) := by decide +kernel
theorem dX11_wins_1 : decode cX11_wins 1 = .ok (.getfield 7, 3) := by decide +kernel
theorem dX11_wins_4 : decode cX11_wins 4 = .ok (.bipush 11, 2) := by decide +kernel
theorem dX11_wins_6 : decode cX11_wins 6 = .ok (.iload_n 1, 1) := by decide +kernel
theorem dX11_wins_7 : decode cX11_wins 7 = .ok (.iadd, 1) := by decide +kernel
theorem dX11_wins_8 : decode cX11_wins 8 = .ok (.iaload, 1) := by decide +kernel
theorem dX11_wins_9 : decode cX11_wins 9 = .ok (.aload_n 0, 1) := by decide +kernel
theorem dX11_wins_10 : decode cX11_wins 10 = .ok (.getfield 7, 3) := by decide +kernel
theorem dX11_wins_13 : decode cX11_wins 13 = .ok (.iconst 3, 1) := by decide +kernel
theorem dX11_wins_14 : decode cX11_wins 14 = .ok (.iaload, 1) := by decide +kernel
theorem dX11_wins_15 : decode cX11_wins 15 = .ok (.iconst (-1), 1) := by decide +kernel
theorem dX11_wins_16 : decode cX11_wins 16 = .ok (.ixor, 1) := by decide +kernel
theorem dX11_wins_17 : decode cX11_wins 17 = .ok (.iand, 1) := by decide +kernel
theorem dX11_wins_18 : decode cX11_wins 18 = .ok (.invokestatic 132, 3) := by decide +kernel
theorem dX11_wins_21 : decode cX11_wins 21 = .ok (.istore_n 2, 1) := by decide +kernel
theorem dX11_wins_22 : decode cX11_wins 22 = .ok (.aload_n 0, 1) := by decide +kernel
theorem dX11_wins_23 : decode cX11_wins 23 = .ok (.getfield 7, 3) := by decide +kernel
theorem dX11_wins_26 : decode cX11_wins 26 = .ok (.iconst 5, 1) := by decide +kernel
theorem dX11_wins_27 : decode cX11_wins 27 = .ok (.iload_n 1, 1) := by decide +kernel
theorem dX11_wins_28 : decode cX11_wins 28 = .ok (.iadd, 1) := by decide +kernel
theorem dX11_wins_29 : decode cX11_wins 29 = .ok (.iaload, 1) := by decide +kernel
theorem dX11_wins_30 : decode cX11_wins 30 = .ok (.tableswitch 66 1 5 #[34, 66, 45, 66, 55], 34) := by decide +kernel
theorem dX11_wins_64 : decode cX11_wins 64 = .ok (.iload_n 2, 1) := by decide +kernel
theorem dX11_wins_65 : decode cX11_wins 65 = .ok (.iconst 1, 1) := by decide +kernel
theorem dX11_wins_66 : decode cX11_wins 66 = .ok (.if_icmp .le 7, 3) := by decide +kernel
theorem dX11_wins_69 : decode cX11_wins 69 = .ok (.iconst 1, 1) := by decide +kernel
theorem dX11_wins_70 : decode cX11_wins 70 = .ok (.goto 4, 3) := by decide +kernel
theorem dX11_wins_73 : decode cX11_wins 73 = .ok (.iconst 0, 1) := by decide +kernel
theorem dX11_wins_74 : decode cX11_wins 74 = .ok (.ireturn, 1) := by decide +kernel
theorem dX11_wins_75 : decode cX11_wins 75 = .ok (.iload_n 2, 1) := by decide +kernel
theorem dX11_wins_76 : decode cX11_wins 76 = .ok (.ifCond .le 7, 3) := by decide +kernel
theorem dX11_wins_79 : decode cX11_wins 79 = .ok (.iconst 1, 1) := by decide +kernel
theorem dX11_wins_80 : decode cX11_wins 80 = .ok (.goto 4, 3) := by decide +kernel
theorem dX11_wins_83 : decode cX11_wins 83 = .ok (.iconst 0, 1) := by decide +kernel
theorem dX11_wins_84 : decode cX11_wins 84 = .ok (.ireturn, 1) := by decide +kernel
theorem dX11_wins_85 : decode cX11_wins 85 = .ok (.iload_n 2, 1) := by decide +kernel
theorem dX11_wins_86 : decode cX11_wins 86 = .ok (.iconst 2, 1) := by decide +kernel
theorem dX11_wins_87 : decode cX11_wins 87 = .ok (.if_icmp .le 7, 3) := by decide +kernel
theorem dX11_wins_90 : decode cX11_wins 90 = .ok (.iconst 1, 1) := by decide +kernel
theorem dX11_wins_91 : decode cX11_wins 91 = .ok (.goto 4, 3) := by decide +kernel
theorem dX11_wins_94 : decode cX11_wins 94 = .ok (.iconst 0, 1) := by decide +kernel
theorem dX11_wins_95 : decode cX11_wins 95 = .ok (.ireturn, 1) := by decide +kernel
theorem dX11_wins_96 : decode cX11_wins 96 = .ok (.iconst 0, 1) := by decide +kernel
theorem dX11_wins_97 : decode cX11_wins 97 = .ok (.ireturn, 1) := by decide +kernel
theorem dX11_mayPlead_0 : decode cX11_mayPlead 0 = .ok (.aload_n 0, 1) := by decide +kernel
theorem dX11_mayPlead_1 : decode cX11_mayPlead 1 = .ok (.getfield 7, 3) := by decide +kernel
theorem dX11_mayPlead_4 : decode cX11_mayPlead 4 = .ok (.bipush 11, 2) := by decide +kernel
theorem dX11_mayPlead_6 : decode cX11_mayPlead 6 = .ok (.iload_n 1, 1) := by decide +kernel
theorem dX11_mayPlead_7 : decode cX11_mayPlead 7 = .ok (.iadd, 1) := by decide +kernel
theorem dX11_mayPlead_8 : decode cX11_mayPlead 8 = .ok (.iaload, 1) := by decide +kernel
theorem dX11_mayPlead_9 : decode cX11_mayPlead 9 = .ok (.istore 4, 2) := by decide +kernel
theorem dX11_mayPlead_11 : decode cX11_mayPlead 11 = .ok (.iload 4, 2) := by decide +kernel
theorem dX11_mayPlead_13 : decode cX11_mayPlead 13 = .ok (.aload_n 0, 1) := by decide +kernel
theorem dX11_mayPlead_14 : decode cX11_mayPlead 14 = .ok (.iload_n 2, 1) := by decide +kernel
theorem dX11_mayPlead_15 : decode cX11_mayPlead 15 = .ok (.invokevirtual 135, 3) := by decide +kernel
theorem dX11_mayPlead_18 : decode cX11_mayPlead 18 = .ok (.iand, 1) := by decide +kernel
theorem dX11_mayPlead_19 : decode cX11_mayPlead 19 = .ok (.istore 5, 2) := by decide +kernel
theorem dX11_mayPlead_21 : decode cX11_mayPlead 21 = .ok (.iload 5, 2) := by decide +kernel
theorem dX11_mayPlead_23 : decode cX11_mayPlead 23 = .ok (.iload 4, 2) := by decide +kernel
theorem dX11_mayPlead_25 : decode cX11_mayPlead 25 = .ok (.if_icmp .ne 7, 3) := by decide +kernel
theorem dX11_mayPlead_28 : decode cX11_mayPlead 28 = .ok (.iconst 1, 1) := by decide +kernel
theorem dX11_mayPlead_29 : decode cX11_mayPlead 29 = .ok (.goto 4, 3) := by decide +kernel
theorem dX11_mayPlead_32 : decode cX11_mayPlead 32 = .ok (.iconst 0, 1) := by decide +kernel
theorem dX11_mayPlead_33 : decode cX11_mayPlead 33 = .ok (.istore 6, 2) := by decide +kernel
theorem dX11_mayPlead_35 : decode cX11_mayPlead 35 = .ok (.iload_n 2, 1) := by decide +kernel
theorem dX11_mayPlead_36 : decode cX11_mayPlead 36 = .ok (.iload_n 1, 1) := by decide +kernel
theorem dX11_mayPlead_37 : decode cX11_mayPlead 37 = .ok (.invokestatic 124, 3) := by decide +kernel
theorem dX11_mayPlead_40 : decode cX11_mayPlead 40 = .ok (.ifCond .eq 5, 3) := by decide +kernel
theorem dX11_mayPlead_43 : decode cX11_mayPlead 43 = .ok (.iconst 0, 1) := by decide +kernel
theorem dX11_mayPlead_44 : decode cX11_mayPlead 44 = .ok (.ireturn, 1) := by decide +kernel
theorem dX11_mayPlead_45 : decode cX11_mayPlead 45 = .ok (.aload_n 0, 1) := by decide +kernel
theorem dX11_mayPlead_46 : decode cX11_mayPlead 46 = .ok (.getfield 7, 3) := by decide +kernel
theorem dX11_mayPlead_49 : decode cX11_mayPlead 49 = .ok (.iconst 5, 1) := by decide +kernel
theorem dX11_mayPlead_50 : decode cX11_mayPlead 50 = .ok (.iload_n 1, 1) := by decide +kernel
theorem dX11_mayPlead_51 : decode cX11_mayPlead 51 = .ok (.iadd, 1) := by decide +kernel
theorem dX11_mayPlead_52 : decode cX11_mayPlead 52 = .ok (.iaload, 1) := by decide +kernel
theorem dX11_mayPlead_53 : decode cX11_mayPlead 53 = .ok (.tableswitch 80 2 5 #[31, 46, 64, 31], 31) := by decide +kernel
theorem dX11_mayPlead_84 : decode cX11_mayPlead 84 = .ok (.iload 6, 2) := by decide +kernel
theorem dX11_mayPlead_86 : decode cX11_mayPlead 86 = .ok (.ifCond .ne 7, 3) := by decide +kernel
theorem dX11_mayPlead_89 : decode cX11_mayPlead 89 = .ok (.iload_n 3, 1) := by decide +kernel
theorem dX11_mayPlead_90 : decode cX11_mayPlead 90 = .ok (.ifCond .ne 7, 3) := by decide +kernel
theorem dX11_mayPlead_93 : decode cX11_mayPlead 93 = .ok (.iconst 1, 1) := by decide +kernel
theorem dX11_mayPlead_94 : decode cX11_mayPlead 94 = .ok (.goto 4, 3) := by decide +kernel
theorem dX11_mayPlead_97 : decode cX11_mayPlead 97 = .ok (.iconst 0, 1) := by decide +kernel
theorem dX11_mayPlead_98 : decode cX11_mayPlead 98 = .ok (.ireturn, 1) := by decide +kernel
theorem dX11_mayPlead_99 : decode cX11_mayPlead 99 = .ok (.iload 6, 2) := by decide +kernel
theorem dX11_mayPlead_101 : decode cX11_mayPlead 101 = .ok (.ifCond .eq 14, 3) := by decide +kernel
theorem dX11_mayPlead_104 : decode cX11_mayPlead 104 = .ok (.iload_n 3, 1) := by decide +kernel
theorem dX11_mayPlead_105 : decode cX11_mayPlead 105 = .ok (.iconst 2, 1) := by decide +kernel
theorem dX11_mayPlead_106 : decode cX11_mayPlead 106 = .ok (.irem, 1) := by decide +kernel
theorem dX11_mayPlead_107 : decode cX11_mayPlead 107 = .ok (.iconst 1, 1) := by decide +kernel
theorem dX11_mayPlead_108 : decode cX11_mayPlead 108 = .ok (.if_icmp .ne 7, 3) := by decide +kernel
theorem dX11_mayPlead_111 : decode cX11_mayPlead 111 = .ok (.iconst 1, 1) := by decide +kernel
theorem dX11_mayPlead_112 : decode cX11_mayPlead 112 = .ok (.goto 4, 3) := by decide +kernel
theorem dX11_mayPlead_115 : decode cX11_mayPlead 115 = .ok (.iconst 0, 1) := by decide +kernel
theorem dX11_mayPlead_116 : decode cX11_mayPlead 116 = .ok (.ireturn, 1) := by decide +kernel
theorem dX11_mayPlead_117 : decode cX11_mayPlead 117 = .ok (.iload 6, 2) := by decide +kernel
theorem dX11_mayPlead_119 : decode cX11_mayPlead 119 = .ok (.ifCond .ne 8, 3) := by decide +kernel
theorem dX11_mayPlead_122 : decode cX11_mayPlead 122 = .ok (.iload 5, 2) := by decide +kernel
theorem dX11_mayPlead_124 : decode cX11_mayPlead 124 = .ok (.ifCond .eq 7, 3) := by decide +kernel
theorem dX11_mayPlead_127 : decode cX11_mayPlead 127 = .ok (.iconst 1, 1) := by decide +kernel
theorem dX11_mayPlead_128 : decode cX11_mayPlead 128 = .ok (.goto 4, 3) := by decide +kernel
theorem dX11_mayPlead_131 : decode cX11_mayPlead 131 = .ok (.iconst 0, 1) := by decide +kernel
theorem dX11_mayPlead_132 : decode cX11_mayPlead 132 = .ok (.ireturn, 1) := by decide +kernel
theorem dX11_mayPlead_133 : decode cX11_mayPlead 133 = .ok (.iload 6, 2) := by decide +kernel
theorem dX11_mayPlead_135 : decode cX11_mayPlead 135 = .ok (.ireturn, 1) := by decide +kernel
theorem dX11_keepPast_0 : decode cX11_keepPast 0 = .ok (.aload_n 0, 1) := by decide +kernel
theorem dX11_keepPast_1 : decode cX11_keepPast 1 = .ok (.getfield 7, 3) := by decide +kernel
theorem dX11_keepPast_4 : decode cX11_keepPast 4 = .ok (.bipush 70, 2) := by decide +kernel
theorem dX11_keepPast_6 : decode cX11_keepPast 6 = .ok (.iaload, 1) := by decide +kernel
theorem dX11_keepPast_7 : decode cX11_keepPast 7 = .ok (.bipush 8, 2) := by decide +kernel
theorem dX11_keepPast_9 : decode cX11_keepPast 9 = .ok (.if_icmp .ne 46, 3) := by decide +kernel
theorem dX11_keepPast_12 : decode cX11_keepPast 12 = .ok (.iconst 0, 1) := by decide +kernel
theorem dX11_keepPast_13 : decode cX11_keepPast 13 = .ok (.istore_n 1, 1) := by decide +kernel
theorem dX11_keepPast_14 : decode cX11_keepPast 14 = .ok (.iload_n 1, 1) := by decide +kernel
theorem dX11_keepPast_15 : decode cX11_keepPast 15 = .ok (.bipush 21, 2) := by decide +kernel
theorem dX11_keepPast_17 : decode cX11_keepPast 17 = .ok (.if_icmp .ge 27, 3) := by decide +kernel
theorem dX11_keepPast_20 : decode cX11_keepPast 20 = .ok (.aload_n 0, 1) := by decide +kernel
theorem dX11_keepPast_21 : decode cX11_keepPast 21 = .ok (.getfield 7, 3) := by decide +kernel
theorem dX11_keepPast_24 : decode cX11_keepPast 24 = .ok (.bipush 71, 2) := by decide +kernel
theorem dX11_keepPast_26 : decode cX11_keepPast 26 = .ok (.iload_n 1, 1) := by decide +kernel
theorem dX11_keepPast_27 : decode cX11_keepPast 27 = .ok (.iadd, 1) := by decide +kernel
theorem dX11_keepPast_28 : decode cX11_keepPast 28 = .ok (.aload_n 0, 1) := by decide +kernel
theorem dX11_keepPast_29 : decode cX11_keepPast 29 = .ok (.getfield 7, 3) := by decide +kernel
theorem dX11_keepPast_32 : decode cX11_keepPast 32 = .ok (.bipush 74, 2) := by decide +kernel
theorem dX11_keepPast_34 : decode cX11_keepPast 34 = .ok (.iload_n 1, 1) := by decide +kernel
theorem dX11_keepPast_35 : decode cX11_keepPast 35 = .ok (.iadd, 1) := by decide +kernel
theorem dX11_keepPast_36 : decode cX11_keepPast 36 = .ok (.iaload, 1) := by decide +kernel
theorem dX11_keepPast_37 : decode cX11_keepPast 37 = .ok (.iastore, 1) := by decide +kernel
theorem dX11_keepPast_38 : decode cX11_keepPast 38 = .ok (.iinc 1 1, 3) := by decide +kernel
theorem dX11_keepPast_41 : decode cX11_keepPast 41 = .ok (.goto (-27), 3) := by decide +kernel
theorem dX11_keepPast_44 : decode cX11_keepPast 44 = .ok (.aload_n 0, 1) := by decide +kernel
theorem dX11_keepPast_45 : decode cX11_keepPast 45 = .ok (.getfield 7, 3) := by decide +kernel
theorem dX11_keepPast_48 : decode cX11_keepPast 48 = .ok (.bipush 70, 2) := by decide +kernel
theorem dX11_keepPast_50 : decode cX11_keepPast 50 = .ok (.dup2, 1) := by decide +kernel
theorem dX11_keepPast_51 : decode cX11_keepPast 51 = .ok (.iaload, 1) := by decide +kernel
theorem dX11_keepPast_52 : decode cX11_keepPast 52 = .ok (.iconst 1, 1) := by decide +kernel
theorem dX11_keepPast_53 : decode cX11_keepPast 53 = .ok (.isub, 1) := by decide +kernel
theorem dX11_keepPast_54 : decode cX11_keepPast 54 = .ok (.iastore, 1) := by decide +kernel
theorem dX11_keepPast_55 : decode cX11_keepPast 55 = .ok (.iconst 0, 1) := by decide +kernel
theorem dX11_keepPast_56 : decode cX11_keepPast 56 = .ok (.istore_n 1, 1) := by decide +kernel
theorem dX11_keepPast_57 : decode cX11_keepPast 57 = .ok (.iload_n 1, 1) := by decide +kernel
theorem dX11_keepPast_58 : decode cX11_keepPast 58 = .ok (.iconst 3, 1) := by decide +kernel
theorem dX11_keepPast_59 : decode cX11_keepPast 59 = .ok (.if_icmp .ge 34, 3) := by decide +kernel
theorem dX11_keepPast_62 : decode cX11_keepPast 62 = .ok (.aload_n 0, 1) := by decide +kernel
theorem dX11_keepPast_63 : decode cX11_keepPast 63 = .ok (.getfield 7, 3) := by decide +kernel
theorem dX11_keepPast_66 : decode cX11_keepPast 66 = .ok (.bipush 71, 2) := by decide +kernel
theorem dX11_keepPast_68 : decode cX11_keepPast 68 = .ok (.iconst 3, 1) := by decide +kernel
theorem dX11_keepPast_69 : decode cX11_keepPast 69 = .ok (.aload_n 0, 1) := by decide +kernel
theorem dX11_keepPast_70 : decode cX11_keepPast 70 = .ok (.getfield 7, 3) := by decide +kernel
theorem dX11_keepPast_73 : decode cX11_keepPast 73 = .ok (.bipush 70, 2) := by decide +kernel
theorem dX11_keepPast_75 : decode cX11_keepPast 75 = .ok (.iaload, 1) := by decide +kernel
theorem dX11_keepPast_76 : decode cX11_keepPast 76 = .ok (.imul, 1) := by decide +kernel
theorem dX11_keepPast_77 : decode cX11_keepPast 77 = .ok (.iadd, 1) := by decide +kernel
theorem dX11_keepPast_78 : decode cX11_keepPast 78 = .ok (.iload_n 1, 1) := by decide +kernel
theorem dX11_keepPast_79 : decode cX11_keepPast 79 = .ok (.iadd, 1) := by decide +kernel
theorem dX11_keepPast_80 : decode cX11_keepPast 80 = .ok (.aload_n 0, 1) := by decide +kernel
theorem dX11_keepPast_81 : decode cX11_keepPast 81 = .ok (.getfield 7, 3) := by decide +kernel
theorem dX11_keepPast_84 : decode cX11_keepPast 84 = .ok (.iload_n 1, 1) := by decide +kernel
theorem dX11_keepPast_85 : decode cX11_keepPast 85 = .ok (.iaload, 1) := by decide +kernel
theorem dX11_keepPast_86 : decode cX11_keepPast 86 = .ok (.iastore, 1) := by decide +kernel
theorem dX11_keepPast_87 : decode cX11_keepPast 87 = .ok (.iinc 1 1, 3) := by decide +kernel
theorem dX11_keepPast_90 : decode cX11_keepPast 90 = .ok (.goto (-33), 3) := by decide +kernel
theorem dX11_keepPast_93 : decode cX11_keepPast 93 = .ok (.aload_n 0, 1) := by decide +kernel
theorem dX11_keepPast_94 : decode cX11_keepPast 94 = .ok (.getfield 7, 3) := by decide +kernel
theorem dX11_keepPast_97 : decode cX11_keepPast 97 = .ok (.bipush 70, 2) := by decide +kernel
theorem dX11_keepPast_99 : decode cX11_keepPast 99 = .ok (.dup2, 1) := by decide +kernel
theorem dX11_keepPast_100 : decode cX11_keepPast 100 = .ok (.iaload, 1) := by decide +kernel
theorem dX11_keepPast_101 : decode cX11_keepPast 101 = .ok (.iconst 1, 1) := by decide +kernel
theorem dX11_keepPast_102 : decode cX11_keepPast 102 = .ok (.iadd, 1) := by decide +kernel
theorem dX11_keepPast_103 : decode cX11_keepPast 103 = .ok (.iastore, 1) := by decide +kernel
theorem dX11_keepPast_104 : decode cX11_keepPast 104 = .ok (.return_, 1) := by decide +kernel
theorem dX11_suit_0 : decode cX11_suit 0 = .ok (.aload_n 0, 1) := by decide +kernel
theorem dX11_suit_1 : decode cX11_suit 1 = .ok (.getfield 7, 3) := by decide +kernel
theorem dX11_suit_4 : decode cX11_suit 4 = .ok (.iconst 0, 1) := by decide +kernel
theorem dX11_suit_5 : decode cX11_suit 5 = .ok (.iaload, 1) := by decide +kernel
theorem dX11_suit_6 : decode cX11_suit 6 = .ok (.invokestatic 132, 3) := by decide +kernel
theorem dX11_suit_9 : decode cX11_suit 9 = .ok (.istore_n 1, 1) := by decide +kernel
theorem dX11_suit_10 : decode cX11_suit 10 = .ok (.iconst 0, 1) := by decide +kernel
theorem dX11_suit_11 : decode cX11_suit 11 = .ok (.istore_n 2, 1) := by decide +kernel
theorem dX11_suit_12 : decode cX11_suit 12 = .ok (.iload_n 2, 1) := by decide +kernel
theorem dX11_suit_13 : decode cX11_suit 13 = .ok (.iconst 3, 1) := by decide +kernel
theorem dX11_suit_14 : decode cX11_suit 14 = .ok (.if_icmp .ge 16, 3) := by decide +kernel
theorem dX11_suit_17 : decode cX11_suit 17 = .ok (.aload_n 0, 1) := by decide +kernel
theorem dX11_suit_18 : decode cX11_suit 18 = .ok (.getfield 7, 3) := by decide +kernel
theorem dX11_suit_21 : decode cX11_suit 21 = .ok (.iload_n 2, 1) := by decide +kernel
theorem dX11_suit_22 : decode cX11_suit 22 = .ok (.iconst 0, 1) := by decide +kernel
theorem dX11_suit_23 : decode cX11_suit 23 = .ok (.iastore, 1) := by decide +kernel
theorem dX11_suit_24 : decode cX11_suit 24 = .ok (.iinc 2 1, 3) := by decide +kernel
theorem dX11_suit_27 : decode cX11_suit 27 = .ok (.goto (-15), 3) := by decide +kernel
theorem dX11_suit_30 : decode cX11_suit 30 = .ok (.aload_n 0, 1) := by decide +kernel
theorem dX11_suit_31 : decode cX11_suit 31 = .ok (.getfield 7, 3) := by decide +kernel
theorem dX11_suit_34 : decode cX11_suit 34 = .ok (.bipush 70, 2) := by decide +kernel
theorem dX11_suit_36 : decode cX11_suit 36 = .ok (.iconst 0, 1) := by decide +kernel
theorem dX11_suit_37 : decode cX11_suit 37 = .ok (.iastore, 1) := by decide +kernel
theorem dX11_suit_38 : decode cX11_suit 38 = .ok (.iload_n 1, 1) := by decide +kernel
theorem dX11_suit_39 : decode cX11_suit 39 = .ok (.ireturn, 1) := by decide +kernel
theorem dX11_pleadAt_0 : decode cX11_pleadAt 0 = .ok (.aload_n 0, 1) := by decide +kernel
theorem dX11_pleadAt_1 : decode cX11_pleadAt 1 = .ok (.getfield 7, 3) := by decide +kernel
theorem dX11_pleadAt_4 : decode cX11_pleadAt 4 = .ok (.iload_n 1, 1) := by decide +kernel
theorem dX11_pleadAt_5 : decode cX11_pleadAt 5 = .ok (.iconst 2, 1) := by decide +kernel
theorem dX11_pleadAt_6 : decode cX11_pleadAt 6 = .ok (.iadd, 1) := by decide +kernel
theorem dX11_pleadAt_7 : decode cX11_pleadAt 7 = .ok (.dup2, 1) := by decide +kernel
theorem dX11_pleadAt_8 : decode cX11_pleadAt 8 = .ok (.iaload, 1) := by decide +kernel
theorem dX11_pleadAt_9 : decode cX11_pleadAt 9 = .ok (.aload_n 0, 1) := by decide +kernel
theorem dX11_pleadAt_10 : decode cX11_pleadAt 10 = .ok (.iload_n 2, 1) := by decide +kernel
theorem dX11_pleadAt_11 : decode cX11_pleadAt 11 = .ok (.aload_n 0, 1) := by decide +kernel
theorem dX11_pleadAt_12 : decode cX11_pleadAt 12 = .ok (.getfield 7, 3) := by decide +kernel
theorem dX11_pleadAt_15 : decode cX11_pleadAt 15 = .ok (.iload_n 1, 1) := by decide +kernel
theorem dX11_pleadAt_16 : decode cX11_pleadAt 16 = .ok (.iconst 1, 1) := by decide +kernel
theorem dX11_pleadAt_17 : decode cX11_pleadAt 17 = .ok (.iadd, 1) := by decide +kernel
theorem dX11_pleadAt_18 : decode cX11_pleadAt 18 = .ok (.iaload, 1) := by decide +kernel
theorem dX11_pleadAt_19 : decode cX11_pleadAt 19 = .ok (.invokevirtual 138, 3) := by decide +kernel
theorem dX11_pleadAt_22 : decode cX11_pleadAt 22 = .ok (.iadd, 1) := by decide +kernel
theorem dX11_pleadAt_23 : decode cX11_pleadAt 23 = .ok (.iastore, 1) := by decide +kernel
theorem dX11_pleadAt_24 : decode cX11_pleadAt 24 = .ok (.aload_n 0, 1) := by decide +kernel
theorem dX11_pleadAt_25 : decode cX11_pleadAt 25 = .ok (.getfield 7, 3) := by decide +kernel
theorem dX11_pleadAt_28 : decode cX11_pleadAt 28 = .ok (.iload_n 1, 1) := by decide +kernel
theorem dX11_pleadAt_29 : decode cX11_pleadAt 29 = .ok (.iconst 0, 1) := by decide +kernel
theorem dX11_pleadAt_30 : decode cX11_pleadAt 30 = .ok (.iadd, 1) := by decide +kernel
theorem dX11_pleadAt_31 : decode cX11_pleadAt 31 = .ok (.dup2, 1) := by decide +kernel
theorem dX11_pleadAt_32 : decode cX11_pleadAt 32 = .ok (.iaload, 1) := by decide +kernel
theorem dX11_pleadAt_33 : decode cX11_pleadAt 33 = .ok (.iconst 1, 1) := by decide +kernel
theorem dX11_pleadAt_34 : decode cX11_pleadAt 34 = .ok (.iload_n 2, 1) := by decide +kernel
theorem dX11_pleadAt_35 : decode cX11_pleadAt 35 = .ok (.ishl, 1) := by decide +kernel
theorem dX11_pleadAt_36 : decode cX11_pleadAt 36 = .ok (.ior, 1) := by decide +kernel
theorem dX11_pleadAt_37 : decode cX11_pleadAt 37 = .ok (.iastore, 1) := by decide +kernel
theorem dX11_pleadAt_38 : decode cX11_pleadAt 38 = .ok (.aload_n 0, 1) := by decide +kernel
theorem dX11_pleadAt_39 : decode cX11_pleadAt 39 = .ok (.getfield 7, 3) := by decide +kernel
theorem dX11_pleadAt_42 : decode cX11_pleadAt 42 = .ok (.iload_n 1, 1) := by decide +kernel
theorem dX11_pleadAt_43 : decode cX11_pleadAt 43 = .ok (.iconst 1, 1) := by decide +kernel
theorem dX11_pleadAt_44 : decode cX11_pleadAt 44 = .ok (.iadd, 1) := by decide +kernel
theorem dX11_pleadAt_45 : decode cX11_pleadAt 45 = .ok (.dup2, 1) := by decide +kernel
theorem dX11_pleadAt_46 : decode cX11_pleadAt 46 = .ok (.iaload, 1) := by decide +kernel
theorem dX11_pleadAt_47 : decode cX11_pleadAt 47 = .ok (.iconst 1, 1) := by decide +kernel
theorem dX11_pleadAt_48 : decode cX11_pleadAt 48 = .ok (.iadd, 1) := by decide +kernel
theorem dX11_pleadAt_49 : decode cX11_pleadAt 49 = .ok (.iastore, 1) := by decide +kernel
theorem dX11_pleadAt_50 : decode cX11_pleadAt 50 = .ok (.return_, 1) := by decide +kernel
theorem dX11_plead_0 : decode cX11_plead 0 = .ok (.aload_n 0, 1) := by decide +kernel
theorem dX11_plead_1 : decode cX11_plead 1 = .ok (.iload_n 1, 1) := by decide +kernel
theorem dX11_plead_2 : decode cX11_plead 2 = .ok (.invokevirtual 141, 3) := by decide +kernel
theorem dX11_plead_5 : decode cX11_plead 5 = .ok (.ifCond .ne 10, 3) := by decide +kernel
theorem dX11_plead_8 : decode cX11_plead 8 = .ok (.aload_n 0, 1) := by decide +kernel
theorem dX11_plead_9 : decode cX11_plead 9 = .ok (.bipush (-2), 2) := by decide +kernel
theorem dX11_plead_11 : decode cX11_plead 11 = .ok (.invokevirtual 48, 3) := by decide +kernel
theorem dX11_plead_14 : decode cX11_plead 14 = .ok (.ireturn, 1) := by decide +kernel
theorem dX11_plead_15 : decode cX11_plead 15 = .ok (.aload_n 0, 1) := by decide +kernel
theorem dX11_plead_16 : decode cX11_plead 16 = .ok (.iload_n 1, 1) := by decide +kernel
theorem dX11_plead_17 : decode cX11_plead 17 = .ok (.aload_n 0, 1) := by decide +kernel
theorem dX11_plead_18 : decode cX11_plead 18 = .ok (.getfield 7, 3) := by decide +kernel
theorem dX11_plead_21 : decode cX11_plead 21 = .ok (.iconst 0, 1) := by decide +kernel
theorem dX11_plead_22 : decode cX11_plead 22 = .ok (.iaload, 1) := by decide +kernel
theorem dX11_plead_23 : decode cX11_plead 23 = .ok (.aload_n 0, 1) := by decide +kernel
theorem dX11_plead_24 : decode cX11_plead 24 = .ok (.getfield 7, 3) := by decide +kernel
theorem dX11_plead_27 : decode cX11_plead 27 = .ok (.iconst 1, 1) := by decide +kernel
theorem dX11_plead_28 : decode cX11_plead 28 = .ok (.iaload, 1) := by decide +kernel
theorem dX11_plead_29 : decode cX11_plead 29 = .ok (.invokevirtual 144, 3) := by decide +kernel
theorem dX11_plead_32 : decode cX11_plead 32 = .ok (.ifCond .ne 10, 3) := by decide +kernel
theorem dX11_plead_35 : decode cX11_plead 35 = .ok (.aload_n 0, 1) := by decide +kernel
theorem dX11_plead_36 : decode cX11_plead 36 = .ok (.bipush (-3), 2) := by decide +kernel
theorem dX11_plead_38 : decode cX11_plead 38 = .ok (.invokevirtual 48, 3) := by decide +kernel
theorem dX11_plead_41 : decode cX11_plead 41 = .ok (.ireturn, 1) := by decide +kernel
theorem dX11_plead_42 : decode cX11_plead 42 = .ok (.aload_n 0, 1) := by decide +kernel
theorem dX11_plead_43 : decode cX11_plead 43 = .ok (.invokevirtual 147, 3) := by decide +kernel
theorem dX11_plead_46 : decode cX11_plead 46 = .ok (.aload_n 0, 1) := by decide +kernel
theorem dX11_plead_47 : decode cX11_plead 47 = .ok (.getfield 7, 3) := by decide +kernel
theorem dX11_plead_50 : decode cX11_plead 50 = .ok (.iconst 2, 1) := by decide +kernel
theorem dX11_plead_51 : decode cX11_plead 51 = .ok (.iaload, 1) := by decide +kernel
theorem dX11_plead_52 : decode cX11_plead 52 = .ok (.istore_n 2, 1) := by decide +kernel
theorem dX11_plead_53 : decode cX11_plead 53 = .ok (.aload_n 0, 1) := by decide +kernel
theorem dX11_plead_54 : decode cX11_plead 54 = .ok (.iconst 0, 1) := by decide +kernel
theorem dX11_plead_55 : decode cX11_plead 55 = .ok (.iload_n 1, 1) := by decide +kernel
theorem dX11_plead_56 : decode cX11_plead 56 = .ok (.invokevirtual 150, 3) := by decide +kernel
theorem dX11_plead_59 : decode cX11_plead 59 = .ok (.aload_n 0, 1) := by decide +kernel
theorem dX11_plead_60 : decode cX11_plead 60 = .ok (.getfield 7, 3) := by decide +kernel
theorem dX11_plead_63 : decode cX11_plead 63 = .ok (.iconst 2, 1) := by decide +kernel
theorem dX11_plead_64 : decode cX11_plead 64 = .ok (.iaload, 1) := by decide +kernel
theorem dX11_plead_65 : decode cX11_plead 65 = .ok (.iload_n 2, 1) := by decide +kernel
theorem dX11_plead_66 : decode cX11_plead 66 = .ok (.isub, 1) := by decide +kernel
theorem dX11_plead_67 : decode cX11_plead 67 = .ok (.ireturn, 1) := by decide +kernel
theorem dX11_denyAt_0 : decode cX11_denyAt 0 = .ok (.aload_n 0, 1) := by decide +kernel
theorem dX11_denyAt_1 : decode cX11_denyAt 1 = .ok (.getfield 7, 3) := by decide +kernel
theorem dX11_denyAt_4 : decode cX11_denyAt 4 = .ok (.iload_n 1, 1) := by decide +kernel
theorem dX11_denyAt_5 : decode cX11_denyAt 5 = .ok (.iconst 0, 1) := by decide +kernel
theorem dX11_denyAt_6 : decode cX11_denyAt 6 = .ok (.iadd, 1) := by decide +kernel
theorem dX11_denyAt_7 : decode cX11_denyAt 7 = .ok (.dup2, 1) := by decide +kernel
theorem dX11_denyAt_8 : decode cX11_denyAt 8 = .ok (.iaload, 1) := by decide +kernel
theorem dX11_denyAt_9 : decode cX11_denyAt 9 = .ok (.aload_n 0, 1) := by decide +kernel
theorem dX11_denyAt_10 : decode cX11_denyAt 10 = .ok (.iload_n 2, 1) := by decide +kernel
theorem dX11_denyAt_11 : decode cX11_denyAt 11 = .ok (.invokevirtual 153, 3) := by decide +kernel
theorem dX11_denyAt_14 : decode cX11_denyAt 14 = .ok (.ifCond .eq 11, 3) := by decide +kernel
theorem dX11_denyAt_17 : decode cX11_denyAt 17 = .ok (.iconst 1, 1) := by decide +kernel
theorem dX11_denyAt_18 : decode cX11_denyAt 18 = .ok (.iload_n 2, 1) := by decide +kernel
theorem dX11_denyAt_19 : decode cX11_denyAt 19 = .ok (.ishl, 1) := by decide +kernel
theorem dX11_denyAt_20 : decode cX11_denyAt 20 = .ok (.iconst (-1), 1) := by decide +kernel
theorem dX11_denyAt_21 : decode cX11_denyAt 21 = .ok (.ixor, 1) := by decide +kernel
theorem dX11_denyAt_22 : decode cX11_denyAt 22 = .ok (.goto 5, 3) := by decide +kernel
theorem dX11_denyAt_25 : decode cX11_denyAt 25 = .ok (.bipush 63, 2) := by decide +kernel
theorem dX11_denyAt_27 : decode cX11_denyAt 27 = .ok (.iand, 1) := by decide +kernel
theorem dX11_denyAt_28 : decode cX11_denyAt 28 = .ok (.iastore, 1) := by decide +kernel
theorem dX11_denyAt_29 : decode cX11_denyAt 29 = .ok (.aload_n 0, 1) := by decide +kernel
theorem dX11_denyAt_30 : decode cX11_denyAt 30 = .ok (.iload_n 2, 1) := by decide +kernel
theorem dX11_denyAt_31 : decode cX11_denyAt 31 = .ok (.invokevirtual 153, 3) := by decide +kernel
theorem dX11_denyAt_34 : decode cX11_denyAt 34 = .ok (.ifCond .eq 7, 3) := by decide +kernel
theorem dX11_denyAt_37 : decode cX11_denyAt 37 = .ok (.iconst 1, 1) := by decide +kernel
theorem dX11_denyAt_38 : decode cX11_denyAt 38 = .ok (.goto 4, 3) := by decide +kernel
theorem dX11_denyAt_41 : decode cX11_denyAt 41 = .ok (.iconst 0, 1) := by decide +kernel
theorem dX11_denyAt_42 : decode cX11_denyAt 42 = .ok (.ireturn, 1) := by decide +kernel
theorem dX11_deny_0 : decode cX11_deny 0 = .ok (.aload_n 0, 1) := by decide +kernel
theorem dX11_deny_1 : decode cX11_deny 1 = .ok (.iload_n 1, 1) := by decide +kernel
theorem dX11_deny_2 : decode cX11_deny 2 = .ok (.invokevirtual 141, 3) := by decide +kernel
theorem dX11_deny_5 : decode cX11_deny 5 = .ok (.ifCond .ne 10, 3) := by decide +kernel
theorem dX11_deny_8 : decode cX11_deny 8 = .ok (.aload_n 0, 1) := by decide +kernel
theorem dX11_deny_9 : decode cX11_deny 9 = .ok (.bipush (-2), 2) := by decide +kernel
theorem dX11_deny_11 : decode cX11_deny 11 = .ok (.invokevirtual 48, 3) := by decide +kernel
theorem dX11_deny_14 : decode cX11_deny 14 = .ok (.ireturn, 1) := by decide +kernel
theorem dX11_deny_15 : decode cX11_deny 15 = .ok (.aload_n 0, 1) := by decide +kernel
theorem dX11_deny_16 : decode cX11_deny 16 = .ok (.getfield 7, 3) := by decide +kernel
theorem dX11_deny_19 : decode cX11_deny 19 = .ok (.iconst 0, 1) := by decide +kernel
theorem dX11_deny_20 : decode cX11_deny 20 = .ok (.iaload, 1) := by decide +kernel
theorem dX11_deny_21 : decode cX11_deny 21 = .ok (.iload_n 1, 1) := by decide +kernel
theorem dX11_deny_22 : decode cX11_deny 22 = .ok (.invokestatic 124, 3) := by decide +kernel
theorem dX11_deny_25 : decode cX11_deny 25 = .ok (.ifCond .ne 10, 3) := by decide +kernel
theorem dX11_deny_28 : decode cX11_deny 28 = .ok (.aload_n 0, 1) := by decide +kernel
theorem dX11_deny_29 : decode cX11_deny 29 = .ok (.bipush (-3), 2) := by decide +kernel
theorem dX11_deny_31 : decode cX11_deny 31 = .ok (.invokevirtual 48, 3) := by decide +kernel
theorem dX11_deny_34 : decode cX11_deny 34 = .ok (.ireturn, 1) := by decide +kernel
theorem dX11_deny_35 : decode cX11_deny 35 = .ok (.aload_n 0, 1) := by decide +kernel
theorem dX11_deny_36 : decode cX11_deny 36 = .ok (.invokevirtual 147, 3) := by decide +kernel
theorem dX11_deny_39 : decode cX11_deny 39 = .ok (.aload_n 0, 1) := by decide +kernel
theorem dX11_deny_40 : decode cX11_deny 40 = .ok (.iconst 0, 1) := by decide +kernel
theorem dX11_deny_41 : decode cX11_deny 41 = .ok (.iload_n 1, 1) := by decide +kernel
theorem dX11_deny_42 : decode cX11_deny 42 = .ok (.invokevirtual 156, 3) := by decide +kernel
theorem dX11_deny_45 : decode cX11_deny 45 = .ok (.ireturn, 1) := by decide +kernel
theorem dX11_undo_0 : decode cX11_undo 0 = .ok (.aload_n 0, 1) := by decide +kernel
theorem dX11_undo_1 : decode cX11_undo 1 = .ok (.getfield 7, 3) := by decide +kernel
theorem dX11_undo_4 : decode cX11_undo 4 = .ok (.bipush 70, 2) := by decide +kernel
theorem dX11_undo_6 : decode cX11_undo 6 = .ok (.iaload, 1) := by decide +kernel
theorem dX11_undo_7 : decode cX11_undo 7 = .ok (.ifCond .ne 10, 3) := by decide +kernel
theorem dX11_undo_10 : decode cX11_undo 10 = .ok (.aload_n 0, 1) := by decide +kernel
theorem dX11_undo_11 : decode cX11_undo 11 = .ok (.bipush (-3), 2) := by decide +kernel
theorem dX11_undo_13 : decode cX11_undo 13 = .ok (.invokevirtual 48, 3) := by decide +kernel
theorem dX11_undo_16 : decode cX11_undo 16 = .ok (.ireturn, 1) := by decide +kernel
theorem dX11_undo_17 : decode cX11_undo 17 = .ok (.aload_n 0, 1) := by decide +kernel
theorem dX11_undo_18 : decode cX11_undo 18 = .ok (.getfield 7, 3) := by decide +kernel
theorem dX11_undo_21 : decode cX11_undo 21 = .ok (.bipush 70, 2) := by decide +kernel
theorem dX11_undo_23 : decode cX11_undo 23 = .ok (.dup2, 1) := by decide +kernel
theorem dX11_undo_24 : decode cX11_undo 24 = .ok (.iaload, 1) := by decide +kernel
theorem dX11_undo_25 : decode cX11_undo 25 = .ok (.iconst 1, 1) := by decide +kernel
theorem dX11_undo_26 : decode cX11_undo 26 = .ok (.isub, 1) := by decide +kernel
theorem dX11_undo_27 : decode cX11_undo 27 = .ok (.iastore, 1) := by decide +kernel
theorem dX11_undo_28 : decode cX11_undo 28 = .ok (.iconst 0, 1) := by decide +kernel
theorem dX11_undo_29 : decode cX11_undo 29 = .ok (.istore_n 1, 1) := by decide +kernel
theorem dX11_undo_30 : decode cX11_undo 30 = .ok (.iload_n 1, 1) := by decide +kernel
theorem dX11_undo_31 : decode cX11_undo 31 = .ok (.iconst 3, 1) := by decide +kernel
theorem dX11_undo_32 : decode cX11_undo 32 = .ok (.if_icmp .ge 34, 3) := by decide +kernel
theorem dX11_undo_35 : decode cX11_undo 35 = .ok (.aload_n 0, 1) := by decide +kernel
theorem dX11_undo_36 : decode cX11_undo 36 = .ok (.getfield 7, 3) := by decide +kernel
theorem dX11_undo_39 : decode cX11_undo 39 = .ok (.iload_n 1, 1) := by decide +kernel
theorem dX11_undo_40 : decode cX11_undo 40 = .ok (.aload_n 0, 1) := by decide +kernel
theorem dX11_undo_41 : decode cX11_undo 41 = .ok (.getfield 7, 3) := by decide +kernel
theorem dX11_undo_44 : decode cX11_undo 44 = .ok (.bipush 71, 2) := by decide +kernel
theorem dX11_undo_46 : decode cX11_undo 46 = .ok (.iconst 3, 1) := by decide +kernel
theorem dX11_undo_47 : decode cX11_undo 47 = .ok (.aload_n 0, 1) := by decide +kernel
theorem dX11_undo_48 : decode cX11_undo 48 = .ok (.getfield 7, 3) := by decide +kernel
theorem dX11_undo_51 : decode cX11_undo 51 = .ok (.bipush 70, 2) := by decide +kernel
theorem dX11_undo_53 : decode cX11_undo 53 = .ok (.iaload, 1) := by decide +kernel
theorem dX11_undo_54 : decode cX11_undo 54 = .ok (.imul, 1) := by decide +kernel
theorem dX11_undo_55 : decode cX11_undo 55 = .ok (.iadd, 1) := by decide +kernel
theorem dX11_undo_56 : decode cX11_undo 56 = .ok (.iload_n 1, 1) := by decide +kernel
theorem dX11_undo_57 : decode cX11_undo 57 = .ok (.iadd, 1) := by decide +kernel
theorem dX11_undo_58 : decode cX11_undo 58 = .ok (.iaload, 1) := by decide +kernel
theorem dX11_undo_59 : decode cX11_undo 59 = .ok (.iastore, 1) := by decide +kernel
theorem dX11_undo_60 : decode cX11_undo 60 = .ok (.iinc 1 1, 3) := by decide +kernel
theorem dX11_undo_63 : decode cX11_undo 63 = .ok (.goto (-33), 3) := by decide +kernel
theorem dX11_undo_66 : decode cX11_undo 66 = .ok (.aload_n 0, 1) := by decide +kernel
theorem dX11_undo_67 : decode cX11_undo 67 = .ok (.getfield 7, 3) := by decide +kernel
theorem dX11_undo_70 : decode cX11_undo 70 = .ok (.iconst 1, 1) := by decide +kernel
theorem dX11_undo_71 : decode cX11_undo 71 = .ok (.iaload, 1) := by decide +kernel
theorem dX11_undo_72 : decode cX11_undo 72 = .ok (.ireturn, 1) := by decide +kernel
theorem dX11_of_0 : decode cX11_of 0 = .ok (.aload_n 0, 1) := by decide +kernel
theorem dX11_of_1 : decode cX11_of 1 = .ok (.iload_n 1, 1) := by decide +kernel
theorem dX11_of_2 : decode cX11_of 2 = .ok (.invokevirtual 141, 3) := by decide +kernel
theorem dX11_of_5 : decode cX11_of 5 = .ok (.ifCond .eq 13, 3) := by decide +kernel
theorem dX11_of_8 : decode cX11_of 8 = .ok (.iload_n 2, 1) := by decide +kernel
theorem dX11_of_9 : decode cX11_of 9 = .ok (.iconst 0, 1) := by decide +kernel
theorem dX11_of_10 : decode cX11_of 10 = .ok (.bipush 7, 2) := by decide +kernel
theorem dX11_of_12 : decode cX11_of 12 = .ok (.invokestatic 52, 3) := by decide +kernel
theorem dX11_of_15 : decode cX11_of 15 = .ok (.ifCond .ne 10, 3) := by decide +kernel
theorem dX11_of_18 : decode cX11_of 18 = .ok (.aload_n 0, 1) := by decide +kernel
theorem dX11_of_19 : decode cX11_of 19 = .ok (.bipush (-2), 2) := by decide +kernel
theorem dX11_of_21 : decode cX11_of 21 = .ok (.invokevirtual 48, 3) := by decide +kernel
theorem dX11_of_24 : decode cX11_of 24 = .ok (.ireturn, 1) := by decide +kernel
theorem dX11_of_25 : decode cX11_of 25 = .ok (.iload_n 2, 1) := by decide +kernel
theorem dX11_of_26 : decode cX11_of 26 = .ok (.tableswitch 130 0 6 #[42, 51, 61, 71, 81, 92, 118], 42) := by decide +kernel
theorem dX11_of_68 : decode cX11_of 68 = .ok (.aload_n 0, 1) := by decide +kernel
theorem dX11_of_69 : decode cX11_of 69 = .ok (.getfield 7, 3) := by decide +kernel
theorem dX11_of_72 : decode cX11_of 72 = .ok (.iconst 5, 1) := by decide +kernel
theorem dX11_of_73 : decode cX11_of 73 = .ok (.iload_n 1, 1) := by decide +kernel
theorem dX11_of_74 : decode cX11_of 74 = .ok (.iadd, 1) := by decide +kernel
theorem dX11_of_75 : decode cX11_of 75 = .ok (.iaload, 1) := by decide +kernel
theorem dX11_of_76 : decode cX11_of 76 = .ok (.ireturn, 1) := by decide +kernel
theorem dX11_of_77 : decode cX11_of 77 = .ok (.aload_n 0, 1) := by decide +kernel
theorem dX11_of_78 : decode cX11_of 78 = .ok (.getfield 7, 3) := by decide +kernel
theorem dX11_of_81 : decode cX11_of 81 = .ok (.bipush 11, 2) := by decide +kernel
theorem dX11_of_83 : decode cX11_of 83 = .ok (.iload_n 1, 1) := by decide +kernel
theorem dX11_of_84 : decode cX11_of 84 = .ok (.iadd, 1) := by decide +kernel
theorem dX11_of_85 : decode cX11_of 85 = .ok (.iaload, 1) := by decide +kernel
theorem dX11_of_86 : decode cX11_of 86 = .ok (.ireturn, 1) := by decide +kernel
theorem dX11_of_87 : decode cX11_of 87 = .ok (.aload_n 0, 1) := by decide +kernel
theorem dX11_of_88 : decode cX11_of 88 = .ok (.getfield 7, 3) := by decide +kernel
theorem dX11_of_91 : decode cX11_of 91 = .ok (.bipush 17, 2) := by decide +kernel
theorem dX11_of_93 : decode cX11_of 93 = .ok (.iload_n 1, 1) := by decide +kernel
theorem dX11_of_94 : decode cX11_of 94 = .ok (.iadd, 1) := by decide +kernel
theorem dX11_of_95 : decode cX11_of 95 = .ok (.iaload, 1) := by decide +kernel
theorem dX11_of_96 : decode cX11_of 96 = .ok (.ireturn, 1) := by decide +kernel
theorem dX11_of_97 : decode cX11_of 97 = .ok (.aload_n 0, 1) := by decide +kernel
theorem dX11_of_98 : decode cX11_of 98 = .ok (.getfield 7, 3) := by decide +kernel
theorem dX11_of_101 : decode cX11_of 101 = .ok (.bipush 23, 2) := by decide +kernel
theorem dX11_of_103 : decode cX11_of 103 = .ok (.iload_n 1, 1) := by decide +kernel
theorem dX11_of_104 : decode cX11_of 104 = .ok (.iadd, 1) := by decide +kernel
theorem dX11_of_105 : decode cX11_of 105 = .ok (.iaload, 1) := by decide +kernel
theorem dX11_of_106 : decode cX11_of 106 = .ok (.ireturn, 1) := by decide +kernel
theorem dX11_of_107 : decode cX11_of 107 = .ok (.aload_n 0, 1) := by decide +kernel
theorem dX11_of_108 : decode cX11_of 108 = .ok (.getfield 7, 3) := by decide +kernel
theorem dX11_of_111 : decode cX11_of 111 = .ok (.iconst 0, 1) := by decide +kernel
theorem dX11_of_112 : decode cX11_of 112 = .ok (.iaload, 1) := by decide +kernel
theorem dX11_of_113 : decode cX11_of 113 = .ok (.iload_n 1, 1) := by decide +kernel
theorem dX11_of_114 : decode cX11_of 114 = .ok (.ishr, 1) := by decide +kernel
theorem dX11_of_115 : decode cX11_of 115 = .ok (.iconst 1, 1) := by decide +kernel
theorem dX11_of_116 : decode cX11_of 116 = .ok (.iand, 1) := by decide +kernel
theorem dX11_of_117 : decode cX11_of 117 = .ok (.ireturn, 1) := by decide +kernel
theorem dX11_of_118 : decode cX11_of 118 = .ok (.aload_n 0, 1) := by decide +kernel
theorem dX11_of_119 : decode cX11_of 119 = .ok (.iload_n 1, 1) := by decide +kernel
theorem dX11_of_120 : decode cX11_of 120 = .ok (.aload_n 0, 1) := by decide +kernel
theorem dX11_of_121 : decode cX11_of 121 = .ok (.getfield 7, 3) := by decide +kernel
theorem dX11_of_124 : decode cX11_of 124 = .ok (.iconst 0, 1) := by decide +kernel
theorem dX11_of_125 : decode cX11_of 125 = .ok (.iaload, 1) := by decide +kernel
theorem dX11_of_126 : decode cX11_of 126 = .ok (.aload_n 0, 1) := by decide +kernel
theorem dX11_of_127 : decode cX11_of 127 = .ok (.getfield 7, 3) := by decide +kernel
theorem dX11_of_130 : decode cX11_of 130 = .ok (.iconst 1, 1) := by decide +kernel
theorem dX11_of_131 : decode cX11_of 131 = .ok (.iaload, 1) := by decide +kernel
theorem dX11_of_132 : decode cX11_of 132 = .ok (.invokevirtual 144, 3) := by decide +kernel
theorem dX11_of_135 : decode cX11_of 135 = .ok (.ifCond .eq 7, 3) := by decide +kernel
theorem dX11_of_138 : decode cX11_of 138 = .ok (.iconst 1, 1) := by decide +kernel
theorem dX11_of_139 : decode cX11_of 139 = .ok (.goto 4, 3) := by decide +kernel
theorem dX11_of_142 : decode cX11_of 142 = .ok (.iconst 0, 1) := by decide +kernel
theorem dX11_of_143 : decode cX11_of 143 = .ok (.ireturn, 1) := by decide +kernel
theorem dX11_of_144 : decode cX11_of 144 = .ok (.aload_n 0, 1) := by decide +kernel
theorem dX11_of_145 : decode cX11_of 145 = .ok (.iload_n 1, 1) := by decide +kernel
theorem dX11_of_146 : decode cX11_of 146 = .ok (.aload_n 0, 1) := by decide +kernel
theorem dX11_of_147 : decode cX11_of 147 = .ok (.getfield 7, 3) := by decide +kernel
theorem dX11_of_150 : decode cX11_of 150 = .ok (.iconst 1, 1) := by decide +kernel
theorem dX11_of_151 : decode cX11_of 151 = .ok (.iaload, 1) := by decide +kernel
theorem dX11_of_152 : decode cX11_of 152 = .ok (.invokevirtual 138, 3) := by decide +kernel
theorem dX11_of_155 : decode cX11_of 155 = .ok (.ireturn, 1) := by decide +kernel
theorem dX11_of_156 : decode cX11_of 156 = .ok (.aload_n 0, 1) := by decide +kernel
theorem dX11_of_157 : decode cX11_of 157 = .ok (.iload_n 1, 1) := by decide +kernel
theorem dX11_of_158 : decode cX11_of 158 = .ok (.invokevirtual 153, 3) := by decide +kernel
theorem dX11_of_161 : decode cX11_of 161 = .ok (.ifCond .eq 7, 3) := by decide +kernel
theorem dX11_of_164 : decode cX11_of 164 = .ok (.iconst 1, 1) := by decide +kernel
theorem dX11_of_165 : decode cX11_of 165 = .ok (.goto 4, 3) := by decide +kernel
theorem dX11_of_168 : decode cX11_of 168 = .ok (.iconst 0, 1) := by decide +kernel
theorem dX11_of_169 : decode cX11_of 169 = .ok (.ireturn, 1) := by decide +kernel
theorem dX11_nowOf_0 : decode cX11_nowOf 0 = .ok (.iload_n 1, 1) := by decide +kernel
theorem dX11_nowOf_1 : decode cX11_nowOf 1 = .ok (.tableswitch 63 0 3 #[31, 42, 49, 56], 31) := by decide +kernel
theorem dX11_nowOf_32 : decode cX11_nowOf 32 = .ok (.aload_n 0, 1) := by decide +kernel
theorem dX11_nowOf_33 : decode cX11_nowOf 33 = .ok (.aload_n 0, 1) := by decide +kernel
theorem dX11_nowOf_34 : decode cX11_nowOf 34 = .ok (.getfield 7, 3) := by decide +kernel
theorem dX11_nowOf_37 : decode cX11_nowOf 37 = .ok (.iconst 0, 1) := by decide +kernel
theorem dX11_nowOf_38 : decode cX11_nowOf 38 = .ok (.iaload, 1) := by decide +kernel
theorem dX11_nowOf_39 : decode cX11_nowOf 39 = .ok (.invokevirtual 135, 3) := by decide +kernel
theorem dX11_nowOf_42 : decode cX11_nowOf 42 = .ok (.ireturn, 1) := by decide +kernel
theorem dX11_nowOf_43 : decode cX11_nowOf 43 = .ok (.aload_n 0, 1) := by decide +kernel
theorem dX11_nowOf_44 : decode cX11_nowOf 44 = .ok (.getfield 7, 3) := by decide +kernel
theorem dX11_nowOf_47 : decode cX11_nowOf 47 = .ok (.iconst 0, 1) := by decide +kernel
theorem dX11_nowOf_48 : decode cX11_nowOf 48 = .ok (.iaload, 1) := by decide +kernel
theorem dX11_nowOf_49 : decode cX11_nowOf 49 = .ok (.ireturn, 1) := by decide +kernel
theorem dX11_nowOf_50 : decode cX11_nowOf 50 = .ok (.aload_n 0, 1) := by decide +kernel
theorem dX11_nowOf_51 : decode cX11_nowOf 51 = .ok (.getfield 7, 3) := by decide +kernel
theorem dX11_nowOf_54 : decode cX11_nowOf 54 = .ok (.iconst 1, 1) := by decide +kernel
theorem dX11_nowOf_55 : decode cX11_nowOf 55 = .ok (.iaload, 1) := by decide +kernel
theorem dX11_nowOf_56 : decode cX11_nowOf 56 = .ok (.ireturn, 1) := by decide +kernel
theorem dX11_nowOf_57 : decode cX11_nowOf 57 = .ok (.aload_n 0, 1) := by decide +kernel
theorem dX11_nowOf_58 : decode cX11_nowOf 58 = .ok (.getfield 7, 3) := by decide +kernel
theorem dX11_nowOf_61 : decode cX11_nowOf 61 = .ok (.iconst 2, 1) := by decide +kernel
theorem dX11_nowOf_62 : decode cX11_nowOf 62 = .ok (.iaload, 1) := by decide +kernel
theorem dX11_nowOf_63 : decode cX11_nowOf 63 = .ok (.ireturn, 1) := by decide +kernel
theorem dX11_nowOf_64 : decode cX11_nowOf 64 = .ok (.aload_n 0, 1) := by decide +kernel
theorem dX11_nowOf_65 : decode cX11_nowOf 65 = .ok (.getfield 7, 3) := by decide +kernel
theorem dX11_nowOf_68 : decode cX11_nowOf 68 = .ok (.iconst 3, 1) := by decide +kernel
theorem dX11_nowOf_69 : decode cX11_nowOf 69 = .ok (.iaload, 1) := by decide +kernel
theorem dX11_nowOf_70 : decode cX11_nowOf 70 = .ok (.ireturn, 1) := by decide +kernel
theorem dX11_now_0 : decode cX11_now 0 = .ok (.iload_n 1, 1) := by decide +kernel
theorem dX11_now_1 : decode cX11_now 1 = .ok (.iconst 0, 1) := by decide +kernel
theorem dX11_now_2 : decode cX11_now 2 = .ok (.iconst 4, 1) := by decide +kernel
theorem dX11_now_3 : decode cX11_now 3 = .ok (.invokestatic 52, 3) := by decide +kernel
theorem dX11_now_6 : decode cX11_now 6 = .ok (.ifCond .eq 11, 3) := by decide +kernel
theorem dX11_now_9 : decode cX11_now 9 = .ok (.aload_n 0, 1) := by decide +kernel
theorem dX11_now_10 : decode cX11_now 10 = .ok (.iload_n 1, 1) := by decide +kernel
theorem dX11_now_11 : decode cX11_now 11 = .ok (.invokevirtual 159, 3) := by decide +kernel
theorem dX11_now_14 : decode cX11_now 14 = .ok (.goto 9, 3) := by decide +kernel
theorem dX11_now_17 : decode cX11_now 17 = .ok (.aload_n 0, 1) := by decide +kernel
theorem dX11_now_18 : decode cX11_now 18 = .ok (.bipush (-2), 2) := by decide +kernel
theorem dX11_now_20 : decode cX11_now 20 = .ok (.invokevirtual 48, 3) := by decide +kernel
theorem dX11_now_23 : decode cX11_now 23 = .ok (.ireturn, 1) := by decide +kernel
theorem dX11_may_0 : decode cX11_may 0 = .ok (.iconst 0, 1) := by decide +kernel
theorem dX11_may_1 : decode cX11_may 1 = .ok (.istore_n 1, 1) := by decide +kernel
theorem dX11_may_2 : decode cX11_may 2 = .ok (.iconst 0, 1) := by decide +kernel
theorem dX11_may_3 : decode cX11_may 3 = .ok (.istore_n 2, 1) := by decide +kernel
theorem dX11_may_4 : decode cX11_may 4 = .ok (.iload_n 2, 1) := by decide +kernel
theorem dX11_may_5 : decode cX11_may 5 = .ok (.aload_n 0, 1) := by decide +kernel
theorem dX11_may_6 : decode cX11_may 6 = .ok (.getfield 7, 3) := by decide +kernel
theorem dX11_may_9 : decode cX11_may 9 = .ok (.iconst 4, 1) := by decide +kernel
theorem dX11_may_10 : decode cX11_may 10 = .ok (.iaload, 1) := by decide +kernel
theorem dX11_may_11 : decode cX11_may 11 = .ok (.if_icmp .ge 39, 3) := by decide +kernel
theorem dX11_may_14 : decode cX11_may 14 = .ok (.iload_n 1, 1) := by decide +kernel
theorem dX11_may_15 : decode cX11_may 15 = .ok (.aload_n 0, 1) := by decide +kernel
theorem dX11_may_16 : decode cX11_may 16 = .ok (.iload_n 2, 1) := by decide +kernel
theorem dX11_may_17 : decode cX11_may 17 = .ok (.aload_n 0, 1) := by decide +kernel
theorem dX11_may_18 : decode cX11_may 18 = .ok (.getfield 7, 3) := by decide +kernel
theorem dX11_may_21 : decode cX11_may 21 = .ok (.iconst 0, 1) := by decide +kernel
theorem dX11_may_22 : decode cX11_may 22 = .ok (.iaload, 1) := by decide +kernel
theorem dX11_may_23 : decode cX11_may 23 = .ok (.aload_n 0, 1) := by decide +kernel
theorem dX11_may_24 : decode cX11_may 24 = .ok (.getfield 7, 3) := by decide +kernel
theorem dX11_may_27 : decode cX11_may 27 = .ok (.iconst 1, 1) := by decide +kernel
theorem dX11_may_28 : decode cX11_may 28 = .ok (.iaload, 1) := by decide +kernel
theorem dX11_may_29 : decode cX11_may 29 = .ok (.invokevirtual 144, 3) := by decide +kernel
theorem dX11_may_32 : decode cX11_may 32 = .ok (.ifCond .eq 9, 3) := by decide +kernel
theorem dX11_may_35 : decode cX11_may 35 = .ok (.iconst 1, 1) := by decide +kernel
theorem dX11_may_36 : decode cX11_may 36 = .ok (.iload_n 2, 1) := by decide +kernel
theorem dX11_may_37 : decode cX11_may 37 = .ok (.ishl, 1) := by decide +kernel
theorem dX11_may_38 : decode cX11_may 38 = .ok (.goto 4, 3) := by decide +kernel
theorem dX11_may_41 : decode cX11_may 41 = .ok (.iconst 0, 1) := by decide +kernel
theorem dX11_may_42 : decode cX11_may 42 = .ok (.ior, 1) := by decide +kernel
theorem dX11_may_43 : decode cX11_may 43 = .ok (.istore_n 1, 1) := by decide +kernel
theorem dX11_may_44 : decode cX11_may 44 = .ok (.iinc 2 1, 3) := by decide +kernel
theorem dX11_may_47 : decode cX11_may 47 = .ok (.goto (-43), 3) := by decide +kernel
theorem dX11_may_50 : decode cX11_may 50 = .ok (.iload_n 1, 1) := by decide +kernel
theorem dX11_may_51 : decode cX11_may 51 = .ok (.ireturn, 1) := by decide +kernel
theorem dX11_hears_0 : decode cX11_hears 0 = .ok (.aload_n 0, 1) := by decide +kernel
theorem dX11_hears_1 : decode cX11_hears 1 = .ok (.getfield 7, 3) := by decide +kernel
theorem dX11_hears_4 : decode cX11_hears 4 = .ok (.bipush 30, 2) := by decide +kernel
theorem dX11_hears_6 : decode cX11_hears 6 = .ok (.iload_n 1, 1) := by decide +kernel
theorem dX11_hears_7 : decode cX11_hears 7 = .ok (.iadd, 1) := by decide +kernel
theorem dX11_hears_8 : decode cX11_hears 8 = .ok (.iaload, 1) := by decide +kernel
theorem dX11_hears_9 : decode cX11_hears 9 = .ok (.iload_n 2, 1) := by decide +kernel
theorem dX11_hears_10 : decode cX11_hears 10 = .ok (.iconst (-1), 1) := by decide +kernel
theorem dX11_hears_11 : decode cX11_hears 11 = .ok (.ixor, 1) := by decide +kernel
theorem dX11_hears_12 : decode cX11_hears 12 = .ok (.iand, 1) := by decide +kernel
theorem dX11_hears_13 : decode cX11_hears 13 = .ok (.ifCond .ne 7, 3) := by decide +kernel
theorem dX11_hears_16 : decode cX11_hears 16 = .ok (.iconst 1, 1) := by decide +kernel
theorem dX11_hears_17 : decode cX11_hears 17 = .ok (.goto 4, 3) := by decide +kernel
theorem dX11_hears_20 : decode cX11_hears 20 = .ok (.iconst 0, 1) := by decide +kernel
theorem dX11_hears_21 : decode cX11_hears 21 = .ok (.ireturn, 1) := by decide +kernel
theorem dX11_hearBy_0 : decode cX11_hearBy 0 = .ok (.iconst 0, 1) := by decide +kernel
theorem dX11_hearBy_1 : decode cX11_hearBy 1 = .ok (.istore_n 2, 1) := by decide +kernel
theorem dX11_hearBy_2 : decode cX11_hearBy 2 = .ok (.iconst 0, 1) := by decide +kernel
theorem dX11_hearBy_3 : decode cX11_hearBy 3 = .ok (.istore_n 3, 1) := by decide +kernel
theorem dX11_hearBy_4 : decode cX11_hearBy 4 = .ok (.iload_n 3, 1) := by decide +kernel
theorem dX11_hearBy_5 : decode cX11_hearBy 5 = .ok (.aload_n 0, 1) := by decide +kernel
theorem dX11_hearBy_6 : decode cX11_hearBy 6 = .ok (.getfield 7, 3) := by decide +kernel
theorem dX11_hearBy_9 : decode cX11_hearBy 9 = .ok (.bipush 29, 2) := by decide +kernel
theorem dX11_hearBy_11 : decode cX11_hearBy 11 = .ok (.iaload, 1) := by decide +kernel
theorem dX11_hearBy_12 : decode cX11_hearBy 12 = .ok (.if_icmp .ge 32, 3) := by decide +kernel
theorem dX11_hearBy_15 : decode cX11_hearBy 15 = .ok (.iload_n 2, 1) := by decide +kernel
theorem dX11_hearBy_16 : decode cX11_hearBy 16 = .ok (.aload_n 0, 1) := by decide +kernel
theorem dX11_hearBy_17 : decode cX11_hearBy 17 = .ok (.iload_n 3, 1) := by decide +kernel
theorem dX11_hearBy_18 : decode cX11_hearBy 18 = .ok (.aload_n 0, 1) := by decide +kernel
theorem dX11_hearBy_19 : decode cX11_hearBy 19 = .ok (.iload_n 1, 1) := by decide +kernel
theorem dX11_hearBy_20 : decode cX11_hearBy 20 = .ok (.invokevirtual 135, 3) := by decide +kernel
theorem dX11_hearBy_23 : decode cX11_hearBy 23 = .ok (.invokevirtual 162, 3) := by decide +kernel
theorem dX11_hearBy_26 : decode cX11_hearBy 26 = .ok (.ifCond .eq 9, 3) := by decide +kernel
theorem dX11_hearBy_29 : decode cX11_hearBy 29 = .ok (.iconst 1, 1) := by decide +kernel
theorem dX11_hearBy_30 : decode cX11_hearBy 30 = .ok (.iload_n 3, 1) := by decide +kernel
theorem dX11_hearBy_31 : decode cX11_hearBy 31 = .ok (.ishl, 1) := by decide +kernel
theorem dX11_hearBy_32 : decode cX11_hearBy 32 = .ok (.goto 4, 3) := by decide +kernel
theorem dX11_hearBy_35 : decode cX11_hearBy 35 = .ok (.iconst 0, 1) := by decide +kernel
theorem dX11_hearBy_36 : decode cX11_hearBy 36 = .ok (.ior, 1) := by decide +kernel
theorem dX11_hearBy_37 : decode cX11_hearBy 37 = .ok (.istore_n 2, 1) := by decide +kernel
theorem dX11_hearBy_38 : decode cX11_hearBy 38 = .ok (.iinc 3 1, 3) := by decide +kernel
theorem dX11_hearBy_41 : decode cX11_hearBy 41 = .ok (.goto (-37), 3) := by decide +kernel
theorem dX11_hearBy_44 : decode cX11_hearBy 44 = .ok (.iload_n 2, 1) := by decide +kernel
theorem dX11_hearBy_45 : decode cX11_hearBy 45 = .ok (.ireturn, 1) := by decide +kernel
theorem dX11_hear_0 : decode cX11_hear 0 = .ok (.aload_n 0, 1) := by decide +kernel
theorem dX11_hear_1 : decode cX11_hear 1 = .ok (.aload_n 0, 1) := by decide +kernel
theorem dX11_hear_2 : decode cX11_hear 2 = .ok (.getfield 7, 3) := by decide +kernel
theorem dX11_hear_5 : decode cX11_hear 5 = .ok (.iconst 0, 1) := by decide +kernel
theorem dX11_hear_6 : decode cX11_hear 6 = .ok (.iaload, 1) := by decide +kernel
theorem dX11_hear_7 : decode cX11_hear 7 = .ok (.invokevirtual 165, 3) := by decide +kernel
theorem dX11_hear_10 : decode cX11_hear 10 = .ok (.ireturn, 1) := by decide +kernel
theorem dX11_beginRows_0 : decode cX11_beginRows 0 = .ok (.aload_n 0, 1) := by decide +kernel
theorem dX11_beginRows_1 : decode cX11_beginRows 1 = .ok (.iconst 0, 1) := by decide +kernel
theorem dX11_beginRows_2 : decode cX11_beginRows 2 = .ok (.putfield 168, 3) := by decide +kernel
theorem dX11_beginRows_5 : decode cX11_beginRows 5 = .ok (.aload_n 0, 1) := by decide +kernel
theorem dX11_beginRows_6 : decode cX11_beginRows 6 = .ok (.iconst 0, 1) := by decide +kernel
theorem dX11_beginRows_7 : decode cX11_beginRows 7 = .ok (.putfield 172, 3) := by decide +kernel
theorem dX11_beginRows_10 : decode cX11_beginRows 10 = .ok (.aload_n 0, 1) := by decide +kernel
theorem dX11_beginRows_11 : decode cX11_beginRows 11 = .ok (.getfield 39, 3) := by decide +kernel
theorem dX11_beginRows_14 : decode cX11_beginRows 14 = .ok (.iconst 0, 1) := by decide +kernel
theorem dX11_beginRows_15 : decode cX11_beginRows 15 = .ok (.aload_n 0, 1) := by decide +kernel
theorem dX11_beginRows_16 : decode cX11_beginRows 16 = .ok (.getfield 7, 3) := by decide +kernel
theorem dX11_beginRows_19 : decode cX11_beginRows 19 = .ok (.iconst 0, 1) := by decide +kernel
theorem dX11_beginRows_20 : decode cX11_beginRows 20 = .ok (.iaload, 1) := by decide +kernel
theorem dX11_beginRows_21 : decode cX11_beginRows 21 = .ok (.iastore, 1) := by decide +kernel
theorem dX11_beginRows_22 : decode cX11_beginRows 22 = .ok (.aload_n 0, 1) := by decide +kernel
theorem dX11_beginRows_23 : decode cX11_beginRows 23 = .ok (.getfield 42, 3) := by decide +kernel
theorem dX11_beginRows_26 : decode cX11_beginRows 26 = .ok (.iconst 0, 1) := by decide +kernel
theorem dX11_beginRows_27 : decode cX11_beginRows 27 = .ok (.iconst 0, 1) := by decide +kernel
theorem dX11_beginRows_28 : decode cX11_beginRows 28 = .ok (.iastore, 1) := by decide +kernel
theorem dX11_beginRows_29 : decode cX11_beginRows 29 = .ok (.return_, 1) := by decide +kernel
theorem dX11_nextRow_0 : decode cX11_nextRow 0 = .ok (.aload_n 0, 1) := by decide +kernel
theorem dX11_nextRow_1 : decode cX11_nextRow 1 = .ok (.getfield 168, 3) := by decide +kernel
theorem dX11_nextRow_4 : decode cX11_nextRow 4 = .ok (.ifCond .ne 10, 3) := by decide +kernel
theorem dX11_nextRow_7 : decode cX11_nextRow 7 = .ok (.aload_n 0, 1) := by decide +kernel
theorem dX11_nextRow_8 : decode cX11_nextRow 8 = .ok (.iconst 1, 1) := by decide +kernel
theorem dX11_nextRow_9 : decode cX11_nextRow 9 = .ok (.putfield 168, 3) := by decide +kernel
theorem dX11_nextRow_12 : decode cX11_nextRow 12 = .ok (.iconst 1, 1) := by decide +kernel
theorem dX11_nextRow_13 : decode cX11_nextRow 13 = .ok (.ireturn, 1) := by decide +kernel
theorem dX11_nextRow_14 : decode cX11_nextRow 14 = .ok (.iconst 0, 1) := by decide +kernel
theorem dX11_nextRow_15 : decode cX11_nextRow 15 = .ok (.istore_n 1, 1) := by decide +kernel
theorem dX11_nextRow_16 : decode cX11_nextRow 16 = .ok (.aload_n 0, 1) := by decide +kernel
theorem dX11_nextRow_17 : decode cX11_nextRow 17 = .ok (.getfield 172, 3) := by decide +kernel
theorem dX11_nextRow_20 : decode cX11_nextRow 20 = .ok (.ifCond .lt 176, 3) := by decide +kernel
theorem dX11_nextRow_23 : decode cX11_nextRow 23 = .ok (.iload_n 1, 1) := by decide +kernel
theorem dX11_nextRow_24 : decode cX11_nextRow 24 = .ok (.aload_n 0, 1) := by decide +kernel
theorem dX11_nextRow_25 : decode cX11_nextRow 25 = .ok (.getfield 7, 3) := by decide +kernel
theorem dX11_nextRow_28 : decode cX11_nextRow 28 = .ok (.iconst 4, 1) := by decide +kernel
theorem dX11_nextRow_29 : decode cX11_nextRow 29 = .ok (.iaload, 1) := by decide +kernel
theorem dX11_nextRow_30 : decode cX11_nextRow 30 = .ok (.if_icmp .ge 37, 3) := by decide +kernel
theorem dX11_nextRow_33 : decode cX11_nextRow 33 = .ok (.aload_n 0, 1) := by decide +kernel
theorem dX11_nextRow_34 : decode cX11_nextRow 34 = .ok (.iload_n 1, 1) := by decide +kernel
theorem dX11_nextRow_35 : decode cX11_nextRow 35 = .ok (.aload_n 0, 1) := by decide +kernel
theorem dX11_nextRow_36 : decode cX11_nextRow 36 = .ok (.getfield 39, 3) := by decide +kernel
theorem dX11_nextRow_39 : decode cX11_nextRow 39 = .ok (.aload_n 0, 1) := by decide +kernel
theorem dX11_nextRow_40 : decode cX11_nextRow 40 = .ok (.getfield 172, 3) := by decide +kernel
theorem dX11_nextRow_43 : decode cX11_nextRow 43 = .ok (.iaload, 1) := by decide +kernel
theorem dX11_nextRow_44 : decode cX11_nextRow 44 = .ok (.aload_n 0, 1) := by decide +kernel
theorem dX11_nextRow_45 : decode cX11_nextRow 45 = .ok (.getfield 7, 3) := by decide +kernel
theorem dX11_nextRow_48 : decode cX11_nextRow 48 = .ok (.iconst 1, 1) := by decide +kernel
theorem dX11_nextRow_49 : decode cX11_nextRow 49 = .ok (.iaload, 1) := by decide +kernel
theorem dX11_nextRow_50 : decode cX11_nextRow 50 = .ok (.aload_n 0, 1) := by decide +kernel
theorem dX11_nextRow_51 : decode cX11_nextRow 51 = .ok (.getfield 172, 3) := by decide +kernel
theorem dX11_nextRow_54 : decode cX11_nextRow 54 = .ok (.iadd, 1) := by decide +kernel
theorem dX11_nextRow_55 : decode cX11_nextRow 55 = .ok (.invokevirtual 144, 3) := by decide +kernel
theorem dX11_nextRow_58 : decode cX11_nextRow 58 = .ok (.ifCond .ne 9, 3) := by decide +kernel
theorem dX11_nextRow_61 : decode cX11_nextRow 61 = .ok (.iinc 1 1, 3) := by decide +kernel
theorem dX11_nextRow_64 : decode cX11_nextRow 64 = .ok (.goto (-41), 3) := by decide +kernel
theorem dX11_nextRow_67 : decode cX11_nextRow 67 = .ok (.iload_n 1, 1) := by decide +kernel
theorem dX11_nextRow_68 : decode cX11_nextRow 68 = .ok (.aload_n 0, 1) := by decide +kernel
theorem dX11_nextRow_69 : decode cX11_nextRow 69 = .ok (.getfield 7, 3) := by decide +kernel
theorem dX11_nextRow_72 : decode cX11_nextRow 72 = .ok (.iconst 4, 1) := by decide +kernel
theorem dX11_nextRow_73 : decode cX11_nextRow 73 = .ok (.iaload, 1) := by decide +kernel
theorem dX11_nextRow_74 : decode cX11_nextRow 74 = .ok (.if_icmp .ge 86, 3) := by decide +kernel
theorem dX11_nextRow_77 : decode cX11_nextRow 77 = .ok (.aload_n 0, 1) := by decide +kernel
theorem dX11_nextRow_78 : decode cX11_nextRow 78 = .ok (.getfield 36, 3) := by decide +kernel
theorem dX11_nextRow_81 : decode cX11_nextRow 81 = .ok (.aload_n 0, 1) := by decide +kernel
theorem dX11_nextRow_82 : decode cX11_nextRow 82 = .ok (.getfield 172, 3) := by decide +kernel
theorem dX11_nextRow_85 : decode cX11_nextRow 85 = .ok (.iload_n 1, 1) := by decide +kernel
theorem dX11_nextRow_86 : decode cX11_nextRow 86 = .ok (.iastore, 1) := by decide +kernel
theorem dX11_nextRow_87 : decode cX11_nextRow 87 = .ok (.aload_n 0, 1) := by decide +kernel
theorem dX11_nextRow_88 : decode cX11_nextRow 88 = .ok (.getfield 39, 3) := by decide +kernel
theorem dX11_nextRow_91 : decode cX11_nextRow 91 = .ok (.aload_n 0, 1) := by decide +kernel
theorem dX11_nextRow_92 : decode cX11_nextRow 92 = .ok (.getfield 172, 3) := by decide +kernel
theorem dX11_nextRow_95 : decode cX11_nextRow 95 = .ok (.iconst 1, 1) := by decide +kernel
theorem dX11_nextRow_96 : decode cX11_nextRow 96 = .ok (.iadd, 1) := by decide +kernel
theorem dX11_nextRow_97 : decode cX11_nextRow 97 = .ok (.aload_n 0, 1) := by decide +kernel
theorem dX11_nextRow_98 : decode cX11_nextRow 98 = .ok (.getfield 39, 3) := by decide +kernel
theorem dX11_nextRow_101 : decode cX11_nextRow 101 = .ok (.aload_n 0, 1) := by decide +kernel
theorem dX11_nextRow_102 : decode cX11_nextRow 102 = .ok (.getfield 172, 3) := by decide +kernel
theorem dX11_nextRow_105 : decode cX11_nextRow 105 = .ok (.iaload, 1) := by decide +kernel
theorem dX11_nextRow_106 : decode cX11_nextRow 106 = .ok (.iconst 1, 1) := by decide +kernel
theorem dX11_nextRow_107 : decode cX11_nextRow 107 = .ok (.iload_n 1, 1) := by decide +kernel
theorem dX11_nextRow_108 : decode cX11_nextRow 108 = .ok (.ishl, 1) := by decide +kernel
theorem dX11_nextRow_109 : decode cX11_nextRow 109 = .ok (.ior, 1) := by decide +kernel
theorem dX11_nextRow_110 : decode cX11_nextRow 110 = .ok (.iastore, 1) := by decide +kernel
theorem dX11_nextRow_111 : decode cX11_nextRow 111 = .ok (.aload_n 0, 1) := by decide +kernel
theorem dX11_nextRow_112 : decode cX11_nextRow 112 = .ok (.getfield 42, 3) := by decide +kernel
theorem dX11_nextRow_115 : decode cX11_nextRow 115 = .ok (.aload_n 0, 1) := by decide +kernel
theorem dX11_nextRow_116 : decode cX11_nextRow 116 = .ok (.getfield 172, 3) := by decide +kernel
theorem dX11_nextRow_119 : decode cX11_nextRow 119 = .ok (.iconst 1, 1) := by decide +kernel
theorem dX11_nextRow_120 : decode cX11_nextRow 120 = .ok (.iadd, 1) := by decide +kernel
theorem dX11_nextRow_121 : decode cX11_nextRow 121 = .ok (.aload_n 0, 1) := by decide +kernel
theorem dX11_nextRow_122 : decode cX11_nextRow 122 = .ok (.getfield 42, 3) := by decide +kernel
theorem dX11_nextRow_125 : decode cX11_nextRow 125 = .ok (.aload_n 0, 1) := by decide +kernel
theorem dX11_nextRow_126 : decode cX11_nextRow 126 = .ok (.getfield 172, 3) := by decide +kernel
theorem dX11_nextRow_129 : decode cX11_nextRow 129 = .ok (.iaload, 1) := by decide +kernel
theorem dX11_nextRow_130 : decode cX11_nextRow 130 = .ok (.aload_n 0, 1) := by decide +kernel
theorem dX11_nextRow_131 : decode cX11_nextRow 131 = .ok (.iload_n 1, 1) := by decide +kernel
theorem dX11_nextRow_132 : decode cX11_nextRow 132 = .ok (.aload_n 0, 1) := by decide +kernel
theorem dX11_nextRow_133 : decode cX11_nextRow 133 = .ok (.getfield 7, 3) := by decide +kernel
theorem dX11_nextRow_136 : decode cX11_nextRow 136 = .ok (.iconst 1, 1) := by decide +kernel
theorem dX11_nextRow_137 : decode cX11_nextRow 137 = .ok (.iaload, 1) := by decide +kernel
theorem dX11_nextRow_138 : decode cX11_nextRow 138 = .ok (.aload_n 0, 1) := by decide +kernel
theorem dX11_nextRow_139 : decode cX11_nextRow 139 = .ok (.getfield 172, 3) := by decide +kernel
theorem dX11_nextRow_142 : decode cX11_nextRow 142 = .ok (.iadd, 1) := by decide +kernel
theorem dX11_nextRow_143 : decode cX11_nextRow 143 = .ok (.invokevirtual 138, 3) := by decide +kernel
theorem dX11_nextRow_146 : decode cX11_nextRow 146 = .ok (.iadd, 1) := by decide +kernel
theorem dX11_nextRow_147 : decode cX11_nextRow 147 = .ok (.iastore, 1) := by decide +kernel
theorem dX11_nextRow_148 : decode cX11_nextRow 148 = .ok (.aload_n 0, 1) := by decide +kernel
theorem dX11_nextRow_149 : decode cX11_nextRow 149 = .ok (.dup, 1) := by decide +kernel
theorem dX11_nextRow_150 : decode cX11_nextRow 150 = .ok (.getfield 172, 3) := by decide +kernel
theorem dX11_nextRow_153 : decode cX11_nextRow 153 = .ok (.iconst 1, 1) := by decide +kernel
theorem dX11_nextRow_154 : decode cX11_nextRow 154 = .ok (.iadd, 1) := by decide +kernel
theorem dX11_nextRow_155 : decode cX11_nextRow 155 = .ok (.putfield 172, 3) := by decide +kernel
theorem dX11_nextRow_158 : decode cX11_nextRow 158 = .ok (.iconst 1, 1) := by decide +kernel
theorem dX11_nextRow_159 : decode cX11_nextRow 159 = .ok (.ireturn, 1) := by decide +kernel
theorem dX11_nextRow_160 : decode cX11_nextRow 160 = .ok (.aload_n 0, 1) := by decide +kernel
theorem dX11_nextRow_161 : decode cX11_nextRow 161 = .ok (.dup, 1) := by decide +kernel
theorem dX11_nextRow_162 : decode cX11_nextRow 162 = .ok (.getfield 172, 3) := by decide +kernel
theorem dX11_nextRow_165 : decode cX11_nextRow 165 = .ok (.iconst 1, 1) := by decide +kernel
theorem dX11_nextRow_166 : decode cX11_nextRow 166 = .ok (.isub, 1) := by decide +kernel
theorem dX11_nextRow_167 : decode cX11_nextRow 167 = .ok (.putfield 172, 3) := by decide +kernel
theorem dX11_nextRow_170 : decode cX11_nextRow 170 = .ok (.aload_n 0, 1) := by decide +kernel
theorem dX11_nextRow_171 : decode cX11_nextRow 171 = .ok (.getfield 172, 3) := by decide +kernel
theorem dX11_nextRow_174 : decode cX11_nextRow 174 = .ok (.ifCond .ge 7, 3) := by decide +kernel
theorem dX11_nextRow_177 : decode cX11_nextRow 177 = .ok (.iconst 0, 1) := by decide +kernel
theorem dX11_nextRow_178 : decode cX11_nextRow 178 = .ok (.goto 14, 3) := by decide +kernel
theorem dX11_nextRow_181 : decode cX11_nextRow 181 = .ok (.aload_n 0, 1) := by decide +kernel
theorem dX11_nextRow_182 : decode cX11_nextRow 182 = .ok (.getfield 36, 3) := by decide +kernel
theorem dX11_nextRow_185 : decode cX11_nextRow 185 = .ok (.aload_n 0, 1) := by decide +kernel
theorem dX11_nextRow_186 : decode cX11_nextRow 186 = .ok (.getfield 172, 3) := by decide +kernel
theorem dX11_nextRow_189 : decode cX11_nextRow 189 = .ok (.iaload, 1) := by decide +kernel
theorem dX11_nextRow_190 : decode cX11_nextRow 190 = .ok (.iconst 1, 1) := by decide +kernel
theorem dX11_nextRow_191 : decode cX11_nextRow 191 = .ok (.iadd, 1) := by decide +kernel
theorem dX11_nextRow_192 : decode cX11_nextRow 192 = .ok (.istore_n 1, 1) := by decide +kernel
theorem dX11_nextRow_193 : decode cX11_nextRow 193 = .ok (.goto (-177), 3) := by decide +kernel
theorem dX11_nextRow_196 : decode cX11_nextRow 196 = .ok (.iconst 0, 1) := by decide +kernel
theorem dX11_nextRow_197 : decode cX11_nextRow 197 = .ok (.ireturn, 1) := by decide +kernel
theorem dX11_bestTo_0 : decode cX11_bestTo 0 = .ok (.iconst (-1), 1) := by decide +kernel
theorem dX11_bestTo_1 : decode cX11_bestTo 1 = .ok (.istore_n 3, 1) := by decide +kernel
theorem dX11_bestTo_2 : decode cX11_bestTo 2 = .ok (.aload_n 0, 1) := by decide +kernel
theorem dX11_bestTo_3 : decode cX11_bestTo 3 = .ok (.invokevirtual 175, 3) := by decide +kernel
theorem dX11_bestTo_6 : decode cX11_bestTo 6 = .ok (.aload_n 0, 1) := by decide +kernel
theorem dX11_bestTo_7 : decode cX11_bestTo 7 = .ok (.invokevirtual 178, 3) := by decide +kernel
theorem dX11_bestTo_10 : decode cX11_bestTo 10 = .ok (.ifCond .eq 113, 3) := by decide +kernel
theorem dX11_bestTo_13 : decode cX11_bestTo 13 = .ok (.iload_n 2, 1) := by decide +kernel
theorem dX11_bestTo_14 : decode cX11_bestTo 14 = .ok (.ifCond .ne 10, 3) := by decide +kernel
theorem dX11_bestTo_17 : decode cX11_bestTo 17 = .ok (.aload_n 0, 1) := by decide +kernel
theorem dX11_bestTo_18 : decode cX11_bestTo 18 = .ok (.getfield 172, 3) := by decide +kernel
theorem dX11_bestTo_21 : decode cX11_bestTo 21 = .ok (.goto 22, 3) := by decide +kernel
theorem dX11_bestTo_24 : decode cX11_bestTo 24 = .ok (.aload_n 0, 1) := by decide +kernel
theorem dX11_bestTo_25 : decode cX11_bestTo 25 = .ok (.getfield 42, 3) := by decide +kernel
theorem dX11_bestTo_28 : decode cX11_bestTo 28 = .ok (.aload_n 0, 1) := by decide +kernel
theorem dX11_bestTo_29 : decode cX11_bestTo 29 = .ok (.getfield 172, 3) := by decide +kernel
theorem dX11_bestTo_32 : decode cX11_bestTo 32 = .ok (.iaload, 1) := by decide +kernel
theorem dX11_bestTo_33 : decode cX11_bestTo 33 = .ok (.aload_n 0, 1) := by decide +kernel
theorem dX11_bestTo_34 : decode cX11_bestTo 34 = .ok (.getfield 7, 3) := by decide +kernel
theorem dX11_bestTo_37 : decode cX11_bestTo 37 = .ok (.bipush 34, 2) := by decide +kernel
theorem dX11_bestTo_39 : decode cX11_bestTo 39 = .ok (.iload_n 1, 1) := by decide +kernel
theorem dX11_bestTo_40 : decode cX11_bestTo 40 = .ok (.iadd, 1) := by decide +kernel
theorem dX11_bestTo_41 : decode cX11_bestTo 41 = .ok (.iaload, 1) := by decide +kernel
theorem dX11_bestTo_42 : decode cX11_bestTo 42 = .ok (.iadd, 1) := by decide +kernel
theorem dX11_bestTo_43 : decode cX11_bestTo 43 = .ok (.istore 4, 2) := by decide +kernel
theorem dX11_bestTo_45 : decode cX11_bestTo 45 = .ok (.aload_n 0, 1) := by decide +kernel
theorem dX11_bestTo_46 : decode cX11_bestTo 46 = .ok (.iload_n 1, 1) := by decide +kernel
theorem dX11_bestTo_47 : decode cX11_bestTo 47 = .ok (.aload_n 0, 1) := by decide +kernel
theorem dX11_bestTo_48 : decode cX11_bestTo 48 = .ok (.aload_n 0, 1) := by decide +kernel
theorem dX11_bestTo_49 : decode cX11_bestTo 49 = .ok (.getfield 39, 3) := by decide +kernel
theorem dX11_bestTo_52 : decode cX11_bestTo 52 = .ok (.aload_n 0, 1) := by decide +kernel
theorem dX11_bestTo_53 : decode cX11_bestTo 53 = .ok (.getfield 172, 3) := by decide +kernel
theorem dX11_bestTo_56 : decode cX11_bestTo 56 = .ok (.iaload, 1) := by decide +kernel
theorem dX11_bestTo_57 : decode cX11_bestTo 57 = .ok (.invokevirtual 135, 3) := by decide +kernel
theorem dX11_bestTo_60 : decode cX11_bestTo 60 = .ok (.invokevirtual 162, 3) := by decide +kernel
theorem dX11_bestTo_63 : decode cX11_bestTo 63 = .ok (.ifCond .eq 57, 3) := by decide +kernel
theorem dX11_bestTo_66 : decode cX11_bestTo 66 = .ok (.iload_n 3, 1) := by decide +kernel
theorem dX11_bestTo_67 : decode cX11_bestTo 67 = .ok (.iconst (-1), 1) := by decide +kernel
theorem dX11_bestTo_68 : decode cX11_bestTo 68 = .ok (.if_icmp .eq 9, 3) := by decide +kernel
theorem dX11_bestTo_71 : decode cX11_bestTo 71 = .ok (.iload 4, 2) := by decide +kernel
theorem dX11_bestTo_73 : decode cX11_bestTo 73 = .ok (.iload_n 3, 1) := by decide +kernel
theorem dX11_bestTo_74 : decode cX11_bestTo 74 = .ok (.if_icmp .ge 46, 3) := by decide +kernel
theorem dX11_bestTo_77 : decode cX11_bestTo 77 = .ok (.iload 4, 2) := by decide +kernel
theorem dX11_bestTo_79 : decode cX11_bestTo 79 = .ok (.istore_n 3, 1) := by decide +kernel
theorem dX11_bestTo_80 : decode cX11_bestTo 80 = .ok (.aload_n 0, 1) := by decide +kernel
theorem dX11_bestTo_81 : decode cX11_bestTo 81 = .ok (.aload_n 0, 1) := by decide +kernel
theorem dX11_bestTo_82 : decode cX11_bestTo 82 = .ok (.getfield 172, 3) := by decide +kernel
theorem dX11_bestTo_85 : decode cX11_bestTo 85 = .ok (.putfield 181, 3) := by decide +kernel
theorem dX11_bestTo_88 : decode cX11_bestTo 88 = .ok (.iconst 0, 1) := by decide +kernel
theorem dX11_bestTo_89 : decode cX11_bestTo 89 = .ok (.istore 5, 2) := by decide +kernel
theorem dX11_bestTo_91 : decode cX11_bestTo 91 = .ok (.iload 5, 2) := by decide +kernel
theorem dX11_bestTo_93 : decode cX11_bestTo 93 = .ok (.aload_n 0, 1) := by decide +kernel
theorem dX11_bestTo_94 : decode cX11_bestTo 94 = .ok (.getfield 172, 3) := by decide +kernel
theorem dX11_bestTo_97 : decode cX11_bestTo 97 = .ok (.if_icmp .ge 23, 3) := by decide +kernel
theorem dX11_bestTo_100 : decode cX11_bestTo 100 = .ok (.aload_n 0, 1) := by decide +kernel
theorem dX11_bestTo_101 : decode cX11_bestTo 101 = .ok (.getfield 45, 3) := by decide +kernel
theorem dX11_bestTo_104 : decode cX11_bestTo 104 = .ok (.iload 5, 2) := by decide +kernel
theorem dX11_bestTo_106 : decode cX11_bestTo 106 = .ok (.aload_n 0, 1) := by decide +kernel
theorem dX11_bestTo_107 : decode cX11_bestTo 107 = .ok (.getfield 36, 3) := by decide +kernel
theorem dX11_bestTo_110 : decode cX11_bestTo 110 = .ok (.iload 5, 2) := by decide +kernel
theorem dX11_bestTo_112 : decode cX11_bestTo 112 = .ok (.iaload, 1) := by decide +kernel
theorem dX11_bestTo_113 : decode cX11_bestTo 113 = .ok (.iastore, 1) := by decide +kernel
theorem dX11_bestTo_114 : decode cX11_bestTo 114 = .ok (.iinc 5 1, 3) := by decide +kernel
theorem dX11_bestTo_117 : decode cX11_bestTo 117 = .ok (.goto (-26), 3) := by decide +kernel
theorem dX11_bestTo_120 : decode cX11_bestTo 120 = .ok (.goto (-114), 3) := by decide +kernel
theorem dX11_bestTo_123 : decode cX11_bestTo 123 = .ok (.iload_n 3, 1) := by decide +kernel
theorem dX11_bestTo_124 : decode cX11_bestTo 124 = .ok (.ireturn, 1) := by decide +kernel
theorem dX11_least_0 : decode cX11_least 0 = .ok (.aload_n 0, 1) := by decide +kernel
theorem dX11_least_1 : decode cX11_least 1 = .ok (.iload_n 1, 1) := by decide +kernel
theorem dX11_least_2 : decode cX11_least 2 = .ok (.invokevirtual 184, 3) := by decide +kernel
theorem dX11_least_5 : decode cX11_least 5 = .ok (.ifCond .eq 17, 3) := by decide +kernel
theorem dX11_least_8 : decode cX11_least 8 = .ok (.iload_n 2, 1) := by decide +kernel
theorem dX11_least_9 : decode cX11_least 9 = .ok (.iconst 0, 1) := by decide +kernel
theorem dX11_least_10 : decode cX11_least 10 = .ok (.iconst 1, 1) := by decide +kernel
theorem dX11_least_11 : decode cX11_least 11 = .ok (.invokestatic 52, 3) := by decide +kernel
theorem dX11_least_14 : decode cX11_least 14 = .ok (.ifCond .eq 8, 3) := by decide +kernel
theorem dX11_least_17 : decode cX11_least 17 = .ok (.iload_n 3, 1) := by decide +kernel
theorem dX11_least_18 : decode cX11_least 18 = .ok (.iconst (-1), 1) := by decide +kernel
theorem dX11_least_19 : decode cX11_least 19 = .ok (.if_icmp .ge 8, 3) := by decide +kernel
theorem dX11_least_22 : decode cX11_least 22 = .ok (.aload_n 0, 1) := by decide +kernel
theorem dX11_least_23 : decode cX11_least 23 = .ok (.invokevirtual 187, 3) := by decide +kernel
theorem dX11_least_26 : decode cX11_least 26 = .ok (.ireturn, 1) := by decide +kernel
theorem dX11_least_27 : decode cX11_least 27 = .ok (.aload_n 0, 1) := by decide +kernel
theorem dX11_least_28 : decode cX11_least 28 = .ok (.iload_n 1, 1) := by decide +kernel
theorem dX11_least_29 : decode cX11_least 29 = .ok (.iload_n 2, 1) := by decide +kernel
theorem dX11_least_30 : decode cX11_least 30 = .ok (.invokevirtual 190, 3) := by decide +kernel
theorem dX11_least_33 : decode cX11_least 33 = .ok (.istore 4, 2) := by decide +kernel
theorem dX11_least_35 : decode cX11_least 35 = .ok (.iload 4, 2) := by decide +kernel
theorem dX11_least_37 : decode cX11_least 37 = .ok (.iconst (-1), 1) := by decide +kernel
theorem dX11_least_38 : decode cX11_least 38 = .ok (.if_icmp .eq 8, 3) := by decide +kernel
theorem dX11_least_41 : decode cX11_least 41 = .ok (.iload_n 3, 1) := by decide +kernel
theorem dX11_least_42 : decode cX11_least 42 = .ok (.iconst (-1), 1) := by decide +kernel
theorem dX11_least_43 : decode cX11_least 43 = .ok (.if_icmp .ne 6, 3) := by decide +kernel
theorem dX11_least_46 : decode cX11_least 46 = .ok (.iload 4, 2) := by decide +kernel
theorem dX11_least_48 : decode cX11_least 48 = .ok (.ireturn, 1) := by decide +kernel
theorem dX11_least_49 : decode cX11_least 49 = .ok (.iload_n 3, 1) := by decide +kernel
theorem dX11_least_50 : decode cX11_least 50 = .ok (.aload_n 0, 1) := by decide +kernel
theorem dX11_least_51 : decode cX11_least 51 = .ok (.getfield 181, 3) := by decide +kernel
theorem dX11_least_54 : decode cX11_least 54 = .ok (.if_icmp .ge 12, 3) := by decide +kernel
theorem dX11_least_57 : decode cX11_least 57 = .ok (.aload_n 0, 1) := by decide +kernel
theorem dX11_least_58 : decode cX11_least 58 = .ok (.getfield 45, 3) := by decide +kernel
theorem dX11_least_61 : decode cX11_least 61 = .ok (.iload_n 3, 1) := by decide +kernel
theorem dX11_least_62 : decode cX11_least 62 = .ok (.iaload, 1) := by decide +kernel
theorem dX11_least_63 : decode cX11_least 63 = .ok (.goto 5, 3) := by decide +kernel
theorem dX11_least_66 : decode cX11_least 66 = .ok (.bipush (-5), 2) := by decide +kernel
theorem dX11_least_68 : decode cX11_least 68 = .ok (.ireturn, 1) := by decide +kernel
theorem dX11_ever_0 : decode cX11_ever 0 = .ok (.iconst 0, 1) := by decide +kernel
theorem dX11_ever_1 : decode cX11_ever 1 = .ok (.istore_n 1, 1) := by decide +kernel
theorem dX11_ever_2 : decode cX11_ever 2 = .ok (.aload_n 0, 1) := by decide +kernel
theorem dX11_ever_3 : decode cX11_ever 3 = .ok (.invokevirtual 175, 3) := by decide +kernel
theorem dX11_ever_6 : decode cX11_ever 6 = .ok (.aload_n 0, 1) := by decide +kernel
theorem dX11_ever_7 : decode cX11_ever 7 = .ok (.invokevirtual 178, 3) := by decide +kernel
theorem dX11_ever_10 : decode cX11_ever 10 = .ok (.ifCond .eq 22, 3) := by decide +kernel
theorem dX11_ever_13 : decode cX11_ever 13 = .ok (.iload_n 1, 1) := by decide +kernel
theorem dX11_ever_14 : decode cX11_ever 14 = .ok (.aload_n 0, 1) := by decide +kernel
theorem dX11_ever_15 : decode cX11_ever 15 = .ok (.aload_n 0, 1) := by decide +kernel
theorem dX11_ever_16 : decode cX11_ever 16 = .ok (.getfield 39, 3) := by decide +kernel
theorem dX11_ever_19 : decode cX11_ever 19 = .ok (.aload_n 0, 1) := by decide +kernel
theorem dX11_ever_20 : decode cX11_ever 20 = .ok (.getfield 172, 3) := by decide +kernel
theorem dX11_ever_23 : decode cX11_ever 23 = .ok (.iaload, 1) := by decide +kernel
theorem dX11_ever_24 : decode cX11_ever 24 = .ok (.invokevirtual 135, 3) := by decide +kernel
theorem dX11_ever_27 : decode cX11_ever 27 = .ok (.ior, 1) := by decide +kernel
theorem dX11_ever_28 : decode cX11_ever 28 = .ok (.istore_n 1, 1) := by decide +kernel
theorem dX11_ever_29 : decode cX11_ever 29 = .ok (.goto (-23), 3) := by decide +kernel
theorem dX11_ever_32 : decode cX11_ever 32 = .ok (.iload_n 1, 1) := by decide +kernel
theorem dX11_ever_33 : decode cX11_ever 33 = .ok (.ireturn, 1) := by decide +kernel
theorem dX11_pairsOf_0 : decode cX11_pairsOf 0 = .ok (.iconst 0, 1) := by decide +kernel
theorem dX11_pairsOf_1 : decode cX11_pairsOf 1 = .ok (.istore_n 1, 1) := by decide +kernel
theorem dX11_pairsOf_2 : decode cX11_pairsOf 2 = .ok (.iconst 0, 1) := by decide +kernel
theorem dX11_pairsOf_3 : decode cX11_pairsOf 3 = .ok (.istore_n 2, 1) := by decide +kernel
theorem dX11_pairsOf_4 : decode cX11_pairsOf 4 = .ok (.iload_n 2, 1) := by decide +kernel
theorem dX11_pairsOf_5 : decode cX11_pairsOf 5 = .ok (.iconst 4, 1) := by decide +kernel
theorem dX11_pairsOf_6 : decode cX11_pairsOf 6 = .ok (.if_icmp .ge 30, 3) := by decide +kernel
theorem dX11_pairsOf_9 : decode cX11_pairsOf 9 = .ok (.iload_n 1, 1) := by decide +kernel
theorem dX11_pairsOf_10 : decode cX11_pairsOf 10 = .ok (.iload_n 0, 1) := by decide +kernel
theorem dX11_pairsOf_11 : decode cX11_pairsOf 11 = .ok (.iconst 2, 1) := by decide +kernel
theorem dX11_pairsOf_12 : decode cX11_pairsOf 12 = .ok (.iload_n 2, 1) := by decide +kernel
theorem dX11_pairsOf_13 : decode cX11_pairsOf 13 = .ok (.imul, 1) := by decide +kernel
theorem dX11_pairsOf_14 : decode cX11_pairsOf 14 = .ok (.ishr, 1) := by decide +kernel
theorem dX11_pairsOf_15 : decode cX11_pairsOf 15 = .ok (.iconst 3, 1) := by decide +kernel
theorem dX11_pairsOf_16 : decode cX11_pairsOf 16 = .ok (.iand, 1) := by decide +kernel
theorem dX11_pairsOf_17 : decode cX11_pairsOf 17 = .ok (.iconst 3, 1) := by decide +kernel
theorem dX11_pairsOf_18 : decode cX11_pairsOf 18 = .ok (.if_icmp .ne 9, 3) := by decide +kernel
theorem dX11_pairsOf_21 : decode cX11_pairsOf 21 = .ok (.iconst 1, 1) := by decide +kernel
theorem dX11_pairsOf_22 : decode cX11_pairsOf 22 = .ok (.iload_n 2, 1) := by decide +kernel
theorem dX11_pairsOf_23 : decode cX11_pairsOf 23 = .ok (.ishl, 1) := by decide +kernel
theorem dX11_pairsOf_24 : decode cX11_pairsOf 24 = .ok (.goto 4, 3) := by decide +kernel
theorem dX11_pairsOf_27 : decode cX11_pairsOf 27 = .ok (.iconst 0, 1) := by decide +kernel
theorem dX11_pairsOf_28 : decode cX11_pairsOf 28 = .ok (.ior, 1) := by decide +kernel
theorem dX11_pairsOf_29 : decode cX11_pairsOf 29 = .ok (.istore_n 1, 1) := by decide +kernel
theorem dX11_pairsOf_30 : decode cX11_pairsOf 30 = .ok (.iinc 2 1, 3) := by decide +kernel
theorem dX11_pairsOf_33 : decode cX11_pairsOf 33 = .ok (.goto (-29), 3) := by decide +kernel
theorem dX11_pairsOf_36 : decode cX11_pairsOf 36 = .ok (.iload_n 1, 1) := by decide +kernel
theorem dX11_pairsOf_37 : decode cX11_pairsOf 37 = .ok (.ireturn, 1) := by decide +kernel
theorem dX11_contradict_0 : decode cX11_contradict 0 = .ok (.aload_n 0, 1) := by decide +kernel
theorem dX11_contradict_1 : decode cX11_contradict 1 = .ok (.aload_n 0, 1) := by decide +kernel
theorem dX11_contradict_2 : decode cX11_contradict 2 = .ok (.getfield 7, 3) := by decide +kernel
theorem dX11_contradict_5 : decode cX11_contradict 5 = .ok (.iconst 0, 1) := by decide +kernel
theorem dX11_contradict_6 : decode cX11_contradict 6 = .ok (.iaload, 1) := by decide +kernel
theorem dX11_contradict_7 : decode cX11_contradict 7 = .ok (.invokevirtual 135, 3) := by decide +kernel
theorem dX11_contradict_10 : decode cX11_contradict 10 = .ok (.invokestatic 193, 3) := by decide +kernel
theorem dX11_contradict_13 : decode cX11_contradict 13 = .ok (.ireturn, 1) := by decide +kernel
theorem dX11_giveUp_0 : decode cX11_giveUp 0 = .ok (.iconst (-1), 1) := by decide +kernel
theorem dX11_giveUp_1 : decode cX11_giveUp 1 = .ok (.istore_n 1, 1) := by decide +kernel
theorem dX11_giveUp_2 : decode cX11_giveUp 2 = .ok (.iconst 0, 1) := by decide +kernel
theorem dX11_giveUp_3 : decode cX11_giveUp 3 = .ok (.istore_n 2, 1) := by decide +kernel
theorem dX11_giveUp_4 : decode cX11_giveUp 4 = .ok (.iload_n 2, 1) := by decide +kernel
theorem dX11_giveUp_5 : decode cX11_giveUp 5 = .ok (.bipush 64, 2) := by decide +kernel
theorem dX11_giveUp_7 : decode cX11_giveUp 7 = .ok (.if_icmp .ge 74, 3) := by decide +kernel
theorem dX11_giveUp_10 : decode cX11_giveUp 10 = .ok (.iload_n 2, 1) := by decide +kernel
theorem dX11_giveUp_11 : decode cX11_giveUp 11 = .ok (.aload_n 0, 1) := by decide +kernel
theorem dX11_giveUp_12 : decode cX11_giveUp 12 = .ok (.getfield 7, 3) := by decide +kernel
theorem dX11_giveUp_15 : decode cX11_giveUp 15 = .ok (.iconst 0, 1) := by decide +kernel
theorem dX11_giveUp_16 : decode cX11_giveUp 16 = .ok (.iaload, 1) := by decide +kernel
theorem dX11_giveUp_17 : decode cX11_giveUp 17 = .ok (.iconst (-1), 1) := by decide +kernel
theorem dX11_giveUp_18 : decode cX11_giveUp 18 = .ok (.ixor, 1) := by decide +kernel
theorem dX11_giveUp_19 : decode cX11_giveUp 19 = .ok (.iand, 1) := by decide +kernel
theorem dX11_giveUp_20 : decode cX11_giveUp 20 = .ok (.ifCond .ne 27, 3) := by decide +kernel
theorem dX11_giveUp_23 : decode cX11_giveUp 23 = .ok (.aload_n 0, 1) := by decide +kernel
theorem dX11_giveUp_24 : decode cX11_giveUp 24 = .ok (.aload_n 0, 1) := by decide +kernel
theorem dX11_giveUp_25 : decode cX11_giveUp 25 = .ok (.getfield 7, 3) := by decide +kernel
theorem dX11_giveUp_28 : decode cX11_giveUp 28 = .ok (.iconst 0, 1) := by decide +kernel
theorem dX11_giveUp_29 : decode cX11_giveUp 29 = .ok (.iaload, 1) := by decide +kernel
theorem dX11_giveUp_30 : decode cX11_giveUp 30 = .ok (.iload_n 2, 1) := by decide +kernel
theorem dX11_giveUp_31 : decode cX11_giveUp 31 = .ok (.iconst (-1), 1) := by decide +kernel
theorem dX11_giveUp_32 : decode cX11_giveUp 32 = .ok (.ixor, 1) := by decide +kernel
theorem dX11_giveUp_33 : decode cX11_giveUp 33 = .ok (.iand, 1) := by decide +kernel
theorem dX11_giveUp_34 : decode cX11_giveUp 34 = .ok (.invokevirtual 135, 3) := by decide +kernel
theorem dX11_giveUp_37 : decode cX11_giveUp 37 = .ok (.invokestatic 193, 3) := by decide +kernel
theorem dX11_giveUp_40 : decode cX11_giveUp 40 = .ok (.ifCond .ne 7, 3) := by decide +kernel
theorem dX11_giveUp_43 : decode cX11_giveUp 43 = .ok (.iconst 1, 1) := by decide +kernel
theorem dX11_giveUp_44 : decode cX11_giveUp 44 = .ok (.goto 4, 3) := by decide +kernel
theorem dX11_giveUp_47 : decode cX11_giveUp 47 = .ok (.iconst 0, 1) := by decide +kernel
theorem dX11_giveUp_48 : decode cX11_giveUp 48 = .ok (.istore_n 3, 1) := by decide +kernel
theorem dX11_giveUp_49 : decode cX11_giveUp 49 = .ok (.iload_n 3, 1) := by decide +kernel
theorem dX11_giveUp_50 : decode cX11_giveUp 50 = .ok (.ifCond .eq 23, 3) := by decide +kernel
theorem dX11_giveUp_53 : decode cX11_giveUp 53 = .ok (.iload_n 1, 1) := by decide +kernel
theorem dX11_giveUp_54 : decode cX11_giveUp 54 = .ok (.iconst (-1), 1) := by decide +kernel
theorem dX11_giveUp_55 : decode cX11_giveUp 55 = .ok (.if_icmp .eq 14, 3) := by decide +kernel
theorem dX11_giveUp_58 : decode cX11_giveUp 58 = .ok (.iload_n 2, 1) := by decide +kernel
theorem dX11_giveUp_59 : decode cX11_giveUp 59 = .ok (.invokestatic 132, 3) := by decide +kernel
theorem dX11_giveUp_62 : decode cX11_giveUp 62 = .ok (.iload_n 1, 1) := by decide +kernel
theorem dX11_giveUp_63 : decode cX11_giveUp 63 = .ok (.invokestatic 132, 3) := by decide +kernel
theorem dX11_giveUp_66 : decode cX11_giveUp 66 = .ok (.if_icmp .ge 7, 3) := by decide +kernel
theorem dX11_giveUp_69 : decode cX11_giveUp 69 = .ok (.iload_n 2, 1) := by decide +kernel
theorem dX11_giveUp_70 : decode cX11_giveUp 70 = .ok (.goto 4, 3) := by decide +kernel
theorem dX11_giveUp_73 : decode cX11_giveUp 73 = .ok (.iload_n 1, 1) := by decide +kernel
theorem dX11_giveUp_74 : decode cX11_giveUp 74 = .ok (.istore_n 1, 1) := by decide +kernel
theorem dX11_giveUp_75 : decode cX11_giveUp 75 = .ok (.iinc 2 1, 3) := by decide +kernel
theorem dX11_giveUp_78 : decode cX11_giveUp 78 = .ok (.goto (-74), 3) := by decide +kernel
theorem dX11_giveUp_81 : decode cX11_giveUp 81 = .ok (.iload_n 1, 1) := by decide +kernel
theorem dX11_giveUp_82 : decode cX11_giveUp 82 = .ok (.ireturn, 1) := by decide +kernel
theorem dX11_oneGets_0 : decode cX11_oneGets 0 = .ok (.iload_n 1, 1) := by decide +kernel
theorem dX11_oneGets_1 : decode cX11_oneGets 1 = .ok (.iconst 1, 1) := by decide +kernel
theorem dX11_oneGets_2 : decode cX11_oneGets 2 = .ok (.if_icmp .ne 7, 3) := by decide +kernel
theorem dX11_oneGets_5 : decode cX11_oneGets 5 = .ok (.iconst 0, 1) := by decide +kernel
theorem dX11_oneGets_6 : decode cX11_oneGets 6 = .ok (.goto 17, 3) := by decide +kernel
theorem dX11_oneGets_9 : decode cX11_oneGets 9 = .ok (.iload_n 2, 1) := by decide +kernel
theorem dX11_oneGets_10 : decode cX11_oneGets 10 = .ok (.ifCond .ne 12, 3) := by decide +kernel
theorem dX11_oneGets_13 : decode cX11_oneGets 13 = .ok (.iload_n 0, 1) := by decide +kernel
theorem dX11_oneGets_14 : decode cX11_oneGets 14 = .ok (.ifCond .eq 8, 3) := by decide +kernel
theorem dX11_oneGets_17 : decode cX11_oneGets 17 = .ok (.bipush (-3), 2) := by decide +kernel
theorem dX11_oneGets_19 : decode cX11_oneGets 19 = .ok (.goto 4, 3) := by decide +kernel
theorem dX11_oneGets_22 : decode cX11_oneGets 22 = .ok (.iconst 2, 1) := by decide +kernel
theorem dX11_oneGets_23 : decode cX11_oneGets 23 = .ok (.ireturn, 1) := by decide +kernel
theorem dX11_otherGets_0 : decode cX11_otherGets 0 = .ok (.iload_n 2, 1) := by decide +kernel
theorem dX11_otherGets_1 : decode cX11_otherGets 1 = .ok (.iconst 1, 1) := by decide +kernel
theorem dX11_otherGets_2 : decode cX11_otherGets 2 = .ok (.if_icmp .ne 7, 3) := by decide +kernel
theorem dX11_otherGets_5 : decode cX11_otherGets 5 = .ok (.iconst 0, 1) := by decide +kernel
theorem dX11_otherGets_6 : decode cX11_otherGets 6 = .ok (.goto 16, 3) := by decide +kernel
theorem dX11_otherGets_9 : decode cX11_otherGets 9 = .ok (.iload_n 1, 1) := by decide +kernel
theorem dX11_otherGets_10 : decode cX11_otherGets 10 = .ok (.ifCond .ne 11, 3) := by decide +kernel
theorem dX11_otherGets_13 : decode cX11_otherGets 13 = .ok (.iload_n 0, 1) := by decide +kernel
theorem dX11_otherGets_14 : decode cX11_otherGets 14 = .ok (.ifCond .eq 7, 3) := by decide +kernel
theorem dX11_otherGets_17 : decode cX11_otherGets 17 = .ok (.iconst 3, 1) := by decide +kernel
theorem dX11_otherGets_18 : decode cX11_otherGets 18 = .ok (.goto 4, 3) := by decide +kernel
theorem dX11_otherGets_21 : decode cX11_otherGets 21 = .ok (.iconst (-1), 1) := by decide +kernel
theorem dX11_otherGets_22 : decode cX11_otherGets 22 = .ok (.ireturn, 1) := by decide +kernel
theorem dX11_denial_0 : decode cX11_denial 0 = .ok (.aload_n 0, 1) := by decide +kernel
theorem dX11_denial_1 : decode cX11_denial 1 = .ok (.iload_n 1, 1) := by decide +kernel
theorem dX11_denial_2 : decode cX11_denial 2 = .ok (.invokevirtual 141, 3) := by decide +kernel
theorem dX11_denial_5 : decode cX11_denial 5 = .ok (.ifCond .ne 10, 3) := by decide +kernel
theorem dX11_denial_8 : decode cX11_denial 8 = .ok (.aload_n 0, 1) := by decide +kernel
theorem dX11_denial_9 : decode cX11_denial 9 = .ok (.bipush (-2), 2) := by decide +kernel
theorem dX11_denial_11 : decode cX11_denial 11 = .ok (.invokevirtual 48, 3) := by decide +kernel
theorem dX11_denial_14 : decode cX11_denial 14 = .ok (.ireturn, 1) := by decide +kernel
theorem dX11_denial_15 : decode cX11_denial 15 = .ok (.aload_n 0, 1) := by decide +kernel
theorem dX11_denial_16 : decode cX11_denial 16 = .ok (.getfield 7, 3) := by decide +kernel
theorem dX11_denial_19 : decode cX11_denial 19 = .ok (.iconst 0, 1) := by decide +kernel
theorem dX11_denial_20 : decode cX11_denial 20 = .ok (.iaload, 1) := by decide +kernel
theorem dX11_denial_21 : decode cX11_denial 21 = .ok (.iload_n 1, 1) := by decide +kernel
theorem dX11_denial_22 : decode cX11_denial 22 = .ok (.invokestatic 124, 3) := by decide +kernel
theorem dX11_denial_25 : decode cX11_denial 25 = .ok (.ifCond .ne 10, 3) := by decide +kernel
theorem dX11_denial_28 : decode cX11_denial 28 = .ok (.aload_n 0, 1) := by decide +kernel
theorem dX11_denial_29 : decode cX11_denial 29 = .ok (.bipush (-3), 2) := by decide +kernel
theorem dX11_denial_31 : decode cX11_denial 31 = .ok (.invokevirtual 48, 3) := by decide +kernel
theorem dX11_denial_34 : decode cX11_denial 34 = .ok (.ireturn, 1) := by decide +kernel
theorem dX11_denial_35 : decode cX11_denial 35 = .ok (.aload_n 0, 1) := by decide +kernel
theorem dX11_denial_36 : decode cX11_denial 36 = .ok (.iload_n 1, 1) := by decide +kernel
theorem dX11_denial_37 : decode cX11_denial 37 = .ok (.invokevirtual 153, 3) := by decide +kernel
theorem dX11_denial_40 : decode cX11_denial 40 = .ok (.istore_n 2, 1) := by decide +kernel
theorem dX11_denial_41 : decode cX11_denial 41 = .ok (.iconst 0, 1) := by decide +kernel
theorem dX11_denial_42 : decode cX11_denial 42 = .ok (.istore_n 3, 1) := by decide +kernel
theorem dX11_denial_43 : decode cX11_denial 43 = .ok (.iconst 0, 1) := by decide +kernel
theorem dX11_denial_44 : decode cX11_denial 44 = .ok (.istore 4, 2) := by decide +kernel
theorem dX11_denial_46 : decode cX11_denial 46 = .ok (.iload 4, 2) := by decide +kernel
theorem dX11_denial_48 : decode cX11_denial 48 = .ok (.iconst 4, 1) := by decide +kernel
theorem dX11_denial_49 : decode cX11_denial 49 = .ok (.if_icmp .ge 86, 3) := by decide +kernel
theorem dX11_denial_52 : decode cX11_denial 52 = .ok (.iload 4, 2) := by decide +kernel
theorem dX11_denial_54 : decode cX11_denial 54 = .ok (.iconst 2, 1) := by decide +kernel
theorem dX11_denial_55 : decode cX11_denial 55 = .ok (.irem, 1) := by decide +kernel
theorem dX11_denial_56 : decode cX11_denial 56 = .ok (.istore 5, 2) := by decide +kernel
theorem dX11_denial_58 : decode cX11_denial 58 = .ok (.iload 4, 2) := by decide +kernel
theorem dX11_denial_60 : decode cX11_denial 60 = .ok (.iconst 2, 1) := by decide +kernel
theorem dX11_denial_61 : decode cX11_denial 61 = .ok (.idiv, 1) := by decide +kernel
theorem dX11_denial_62 : decode cX11_denial 62 = .ok (.istore 6, 2) := by decide +kernel
theorem dX11_denial_64 : decode cX11_denial 64 = .ok (.iload_n 2, 1) := by decide +kernel
theorem dX11_denial_65 : decode cX11_denial 65 = .ok (.iconst 1, 1) := by decide +kernel
theorem dX11_denial_66 : decode cX11_denial 66 = .ok (.iload 5, 2) := by decide +kernel
theorem dX11_denial_68 : decode cX11_denial 68 = .ok (.isub, 1) := by decide +kernel
theorem dX11_denial_69 : decode cX11_denial 69 = .ok (.iload 6, 2) := by decide +kernel
theorem dX11_denial_71 : decode cX11_denial 71 = .ok (.invokestatic 196, 3) := by decide +kernel
theorem dX11_denial_74 : decode cX11_denial 74 = .ok (.iload_n 2, 1) := by decide +kernel
theorem dX11_denial_75 : decode cX11_denial 75 = .ok (.iload 5, 2) := by decide +kernel
theorem dX11_denial_77 : decode cX11_denial 77 = .ok (.iload 6, 2) := by decide +kernel
theorem dX11_denial_79 : decode cX11_denial 79 = .ok (.invokestatic 196, 3) := by decide +kernel
theorem dX11_denial_82 : decode cX11_denial 82 = .ok (.if_icmp .gt 28, 3) := by decide +kernel
theorem dX11_denial_85 : decode cX11_denial 85 = .ok (.iload_n 2, 1) := by decide +kernel
theorem dX11_denial_86 : decode cX11_denial 86 = .ok (.iload 5, 2) := by decide +kernel
theorem dX11_denial_88 : decode cX11_denial 88 = .ok (.iconst 1, 1) := by decide +kernel
theorem dX11_denial_89 : decode cX11_denial 89 = .ok (.iload 6, 2) := by decide +kernel
theorem dX11_denial_91 : decode cX11_denial 91 = .ok (.isub, 1) := by decide +kernel
theorem dX11_denial_92 : decode cX11_denial 92 = .ok (.invokestatic 200, 3) := by decide +kernel
theorem dX11_denial_95 : decode cX11_denial 95 = .ok (.iload_n 2, 1) := by decide +kernel
theorem dX11_denial_96 : decode cX11_denial 96 = .ok (.iload 5, 2) := by decide +kernel
theorem dX11_denial_98 : decode cX11_denial 98 = .ok (.iload 6, 2) := by decide +kernel
theorem dX11_denial_100 : decode cX11_denial 100 = .ok (.invokestatic 200, 3) := by decide +kernel
theorem dX11_denial_103 : decode cX11_denial 103 = .ok (.if_icmp .gt 7, 3) := by decide +kernel
theorem dX11_denial_106 : decode cX11_denial 106 = .ok (.iconst 1, 1) := by decide +kernel
theorem dX11_denial_107 : decode cX11_denial 107 = .ok (.goto 4, 3) := by decide +kernel
theorem dX11_denial_110 : decode cX11_denial 110 = .ok (.iconst 0, 1) := by decide +kernel
theorem dX11_denial_111 : decode cX11_denial 111 = .ok (.istore 7, 2) := by decide +kernel
theorem dX11_denial_113 : decode cX11_denial 113 = .ok (.iload_n 3, 1) := by decide +kernel
theorem dX11_denial_114 : decode cX11_denial 114 = .ok (.iload 7, 2) := by decide +kernel
theorem dX11_denial_116 : decode cX11_denial 116 = .ok (.ifCond .eq 10, 3) := by decide +kernel
theorem dX11_denial_119 : decode cX11_denial 119 = .ok (.iconst 1, 1) := by decide +kernel
theorem dX11_denial_120 : decode cX11_denial 120 = .ok (.iload 4, 2) := by decide +kernel
theorem dX11_denial_122 : decode cX11_denial 122 = .ok (.ishl, 1) := by decide +kernel
theorem dX11_denial_123 : decode cX11_denial 123 = .ok (.goto 4, 3) := by decide +kernel
theorem dX11_denial_126 : decode cX11_denial 126 = .ok (.iconst 0, 1) := by decide +kernel
theorem dX11_denial_127 : decode cX11_denial 127 = .ok (.ior, 1) := by decide +kernel
theorem dX11_denial_128 : decode cX11_denial 128 = .ok (.istore_n 3, 1) := by decide +kernel
theorem dX11_denial_129 : decode cX11_denial 129 = .ok (.iinc 4 1, 3) := by decide +kernel
theorem dX11_denial_132 : decode cX11_denial 132 = .ok (.goto (-86), 3) := by decide +kernel
theorem dX11_denial_135 : decode cX11_denial 135 = .ok (.iload_n 3, 1) := by decide +kernel
theorem dX11_denial_136 : decode cX11_denial 136 = .ok (.ireturn, 1) := by decide +kernel
theorem dX11_fees_0 : decode cX11_fees 0 = .ok (.iload_n 1, 1) := by decide +kernel
theorem dX11_fees_1 : decode cX11_fees 1 = .ok (.iconst 0, 1) := by decide +kernel
theorem dX11_fees_2 : decode cX11_fees 2 = .ok (.iconst 1, 1) := by decide +kernel
theorem dX11_fees_3 : decode cX11_fees 3 = .ok (.invokestatic 52, 3) := by decide +kernel
theorem dX11_fees_6 : decode cX11_fees 6 = .ok (.ifCond .ne 10, 3) := by decide +kernel
theorem dX11_fees_9 : decode cX11_fees 9 = .ok (.aload_n 0, 1) := by decide +kernel
theorem dX11_fees_10 : decode cX11_fees 10 = .ok (.bipush (-2), 2) := by decide +kernel
theorem dX11_fees_12 : decode cX11_fees 12 = .ok (.invokevirtual 48, 3) := by decide +kernel
theorem dX11_fees_15 : decode cX11_fees 15 = .ok (.ireturn, 1) := by decide +kernel
theorem dX11_fees_16 : decode cX11_fees 16 = .ok (.iconst (-1), 1) := by decide +kernel
theorem dX11_fees_17 : decode cX11_fees 17 = .ok (.istore_n 2, 1) := by decide +kernel
theorem dX11_fees_18 : decode cX11_fees 18 = .ok (.iconst (-1), 1) := by decide +kernel
theorem dX11_fees_19 : decode cX11_fees 19 = .ok (.istore_n 3, 1) := by decide +kernel
theorem dX11_fees_20 : decode cX11_fees 20 = .ok (.iconst 0, 1) := by decide +kernel
theorem dX11_fees_21 : decode cX11_fees 21 = .ok (.istore 4, 2) := by decide +kernel
theorem dX11_fees_23 : decode cX11_fees 23 = .ok (.iload 4, 2) := by decide +kernel
theorem dX11_fees_25 : decode cX11_fees 25 = .ok (.aload_n 0, 1) := by decide +kernel
theorem dX11_fees_26 : decode cX11_fees 26 = .ok (.getfield 7, 3) := by decide +kernel
theorem dX11_fees_29 : decode cX11_fees 29 = .ok (.bipush 29, 2) := by decide +kernel
theorem dX11_fees_31 : decode cX11_fees 31 = .ok (.iaload, 1) := by decide +kernel
theorem dX11_fees_32 : decode cX11_fees 32 = .ok (.if_icmp .ge 66, 3) := by decide +kernel
theorem dX11_fees_35 : decode cX11_fees 35 = .ok (.aload_n 0, 1) := by decide +kernel
theorem dX11_fees_36 : decode cX11_fees 36 = .ok (.iload 4, 2) := by decide +kernel
theorem dX11_fees_38 : decode cX11_fees 38 = .ok (.iconst 1, 1) := by decide +kernel
theorem dX11_fees_39 : decode cX11_fees 39 = .ok (.invokevirtual 190, 3) := by decide +kernel
theorem dX11_fees_42 : decode cX11_fees 42 = .ok (.istore 5, 2) := by decide +kernel
theorem dX11_fees_44 : decode cX11_fees 44 = .ok (.iload 5, 2) := by decide +kernel
theorem dX11_fees_46 : decode cX11_fees 46 = .ok (.iconst (-1), 1) := by decide +kernel
theorem dX11_fees_47 : decode cX11_fees 47 = .ok (.if_icmp .eq 18, 3) := by decide +kernel
theorem dX11_fees_50 : decode cX11_fees 50 = .ok (.iload_n 2, 1) := by decide +kernel
theorem dX11_fees_51 : decode cX11_fees 51 = .ok (.iconst (-1), 1) := by decide +kernel
theorem dX11_fees_52 : decode cX11_fees 52 = .ok (.if_icmp .eq 9, 3) := by decide +kernel
theorem dX11_fees_55 : decode cX11_fees 55 = .ok (.iload 5, 2) := by decide +kernel
theorem dX11_fees_57 : decode cX11_fees 57 = .ok (.iload_n 2, 1) := by decide +kernel
theorem dX11_fees_58 : decode cX11_fees 58 = .ok (.if_icmp .ge 7, 3) := by decide +kernel
theorem dX11_fees_61 : decode cX11_fees 61 = .ok (.iconst 1, 1) := by decide +kernel
theorem dX11_fees_62 : decode cX11_fees 62 = .ok (.goto 4, 3) := by decide +kernel
theorem dX11_fees_65 : decode cX11_fees 65 = .ok (.iconst 0, 1) := by decide +kernel
theorem dX11_fees_66 : decode cX11_fees 66 = .ok (.istore 6, 2) := by decide +kernel
theorem dX11_fees_68 : decode cX11_fees 68 = .ok (.iload 6, 2) := by decide +kernel
theorem dX11_fees_70 : decode cX11_fees 70 = .ok (.ifCond .eq 8, 3) := by decide +kernel
theorem dX11_fees_73 : decode cX11_fees 73 = .ok (.iload 4, 2) := by decide +kernel
theorem dX11_fees_75 : decode cX11_fees 75 = .ok (.goto 4, 3) := by decide +kernel
theorem dX11_fees_78 : decode cX11_fees 78 = .ok (.iload_n 3, 1) := by decide +kernel
theorem dX11_fees_79 : decode cX11_fees 79 = .ok (.istore_n 3, 1) := by decide +kernel
theorem dX11_fees_80 : decode cX11_fees 80 = .ok (.iload 6, 2) := by decide +kernel
theorem dX11_fees_82 : decode cX11_fees 82 = .ok (.ifCond .eq 8, 3) := by decide +kernel
theorem dX11_fees_85 : decode cX11_fees 85 = .ok (.iload 5, 2) := by decide +kernel
theorem dX11_fees_87 : decode cX11_fees 87 = .ok (.goto 4, 3) := by decide +kernel
theorem dX11_fees_90 : decode cX11_fees 90 = .ok (.iload_n 2, 1) := by decide +kernel
theorem dX11_fees_91 : decode cX11_fees 91 = .ok (.istore_n 2, 1) := by decide +kernel
theorem dX11_fees_92 : decode cX11_fees 92 = .ok (.iinc 4 1, 3) := by decide +kernel
theorem dX11_fees_95 : decode cX11_fees 95 = .ok (.goto (-72), 3) := by decide +kernel
theorem dX11_fees_98 : decode cX11_fees 98 = .ok (.iload_n 1, 1) := by decide +kernel
theorem dX11_fees_99 : decode cX11_fees 99 = .ok (.ifCond .ne 7, 3) := by decide +kernel
theorem dX11_fees_102 : decode cX11_fees 102 = .ok (.iload_n 3, 1) := by decide +kernel
theorem dX11_fees_103 : decode cX11_fees 103 = .ok (.goto 4, 3) := by decide +kernel
theorem dX11_fees_106 : decode cX11_fees 106 = .ok (.iload_n 2, 1) := by decide +kernel
theorem dX11_fees_107 : decode cX11_fees 107 = .ok (.ireturn, 1) := by decide +kernel
theorem dX11_rule_0 : decode cX11_rule 0 = .ok (.aload_n 0, 1) := by decide +kernel
theorem dX11_rule_1 : decode cX11_rule 1 = .ok (.iload_n 1, 1) := by decide +kernel
theorem dX11_rule_2 : decode cX11_rule 2 = .ok (.invokevirtual 184, 3) := by decide +kernel
theorem dX11_rule_5 : decode cX11_rule 5 = .ok (.ifCond .eq 28, 3) := by decide +kernel
theorem dX11_rule_8 : decode cX11_rule 8 = .ok (.aload_n 0, 1) := by decide +kernel
theorem dX11_rule_9 : decode cX11_rule 9 = .ok (.getfield 7, 3) := by decide +kernel
theorem dX11_rule_12 : decode cX11_rule 12 = .ok (.bipush 30, 2) := by decide +kernel
theorem dX11_rule_14 : decode cX11_rule 14 = .ok (.iload_n 1, 1) := by decide +kernel
theorem dX11_rule_15 : decode cX11_rule 15 = .ok (.iadd, 1) := by decide +kernel
theorem dX11_rule_16 : decode cX11_rule 16 = .ok (.iaload, 1) := by decide +kernel
theorem dX11_rule_17 : decode cX11_rule 17 = .ok (.aload_n 0, 1) := by decide +kernel
theorem dX11_rule_18 : decode cX11_rule 18 = .ok (.aload_n 0, 1) := by decide +kernel
theorem dX11_rule_19 : decode cX11_rule 19 = .ok (.getfield 7, 3) := by decide +kernel
theorem dX11_rule_22 : decode cX11_rule 22 = .ok (.iconst 0, 1) := by decide +kernel
theorem dX11_rule_23 : decode cX11_rule 23 = .ok (.iaload, 1) := by decide +kernel
theorem dX11_rule_24 : decode cX11_rule 24 = .ok (.invokevirtual 135, 3) := by decide +kernel
theorem dX11_rule_27 : decode cX11_rule 27 = .ok (.iconst (-1), 1) := by decide +kernel
theorem dX11_rule_28 : decode cX11_rule 28 = .ok (.ixor, 1) := by decide +kernel
theorem dX11_rule_29 : decode cX11_rule 29 = .ok (.iand, 1) := by decide +kernel
theorem dX11_rule_30 : decode cX11_rule 30 = .ok (.goto 9, 3) := by decide +kernel
theorem dX11_rule_33 : decode cX11_rule 33 = .ok (.aload_n 0, 1) := by decide +kernel
theorem dX11_rule_34 : decode cX11_rule 34 = .ok (.bipush (-2), 2) := by decide +kernel
theorem dX11_rule_36 : decode cX11_rule 36 = .ok (.invokevirtual 48, 3) := by decide +kernel
theorem dX11_rule_39 : decode cX11_rule 39 = .ok (.ireturn, 1) := by decide +kernel
theorem dX11_note_0 : decode cX11_note 0 = .ok (.aload_n 0, 1) := by decide +kernel
theorem dX11_note_1 : decode cX11_note 1 = .ok (.iload_n 1, 1) := by decide +kernel
theorem dX11_note_2 : decode cX11_note 2 = .ok (.invokevirtual 141, 3) := by decide +kernel
theorem dX11_note_5 : decode cX11_note 5 = .ok (.ifCond .eq 23, 3) := by decide +kernel
theorem dX11_note_8 : decode cX11_note 8 = .ok (.iload_n 2, 1) := by decide +kernel
theorem dX11_note_9 : decode cX11_note 9 = .ok (.iconst 0, 1) := by decide +kernel
theorem dX11_note_10 : decode cX11_note 10 = .ok (.bipush 20, 2) := by decide +kernel
theorem dX11_note_12 : decode cX11_note 12 = .ok (.invokestatic 52, 3) := by decide +kernel
theorem dX11_note_15 : decode cX11_note 15 = .ok (.ifCond .eq 13, 3) := by decide +kernel
theorem dX11_note_18 : decode cX11_note 18 = .ok (.iload_n 3, 1) := by decide +kernel
theorem dX11_note_19 : decode cX11_note 19 = .ok (.iconst 0, 1) := by decide +kernel
theorem dX11_note_20 : decode cX11_note 20 = .ok (.bipush 60, 2) := by decide +kernel
theorem dX11_note_22 : decode cX11_note 22 = .ok (.invokestatic 52, 3) := by decide +kernel
theorem dX11_note_25 : decode cX11_note 25 = .ok (.ifCond .ne 10, 3) := by decide +kernel
theorem dX11_note_28 : decode cX11_note 28 = .ok (.aload_n 0, 1) := by decide +kernel
theorem dX11_note_29 : decode cX11_note 29 = .ok (.bipush (-2), 2) := by decide +kernel
theorem dX11_note_31 : decode cX11_note 31 = .ok (.invokevirtual 48, 3) := by decide +kernel
theorem dX11_note_34 : decode cX11_note 34 = .ok (.ireturn, 1) := by decide +kernel
theorem dX11_note_35 : decode cX11_note 35 = .ok (.aload_n 0, 1) := by decide +kernel
theorem dX11_note_36 : decode cX11_note 36 = .ok (.getfield 7, 3) := by decide +kernel
theorem dX11_note_39 : decode cX11_note 39 = .ok (.bipush 38, 2) := by decide +kernel
theorem dX11_note_41 : decode cX11_note 41 = .ok (.iaload, 1) := by decide +kernel
theorem dX11_note_42 : decode cX11_note 42 = .ok (.bipush 6, 2) := by decide +kernel
theorem dX11_note_44 : decode cX11_note 44 = .ok (.if_icmp .ne 10, 3) := by decide +kernel
theorem dX11_note_47 : decode cX11_note 47 = .ok (.aload_n 0, 1) := by decide +kernel
theorem dX11_note_48 : decode cX11_note 48 = .ok (.bipush (-4), 2) := by decide +kernel
theorem dX11_note_50 : decode cX11_note 50 = .ok (.invokevirtual 48, 3) := by decide +kernel
theorem dX11_note_53 : decode cX11_note 53 = .ok (.ireturn, 1) := by decide +kernel
theorem dX11_note_54 : decode cX11_note 54 = .ok (.bipush 39, 2) := by decide +kernel
theorem dX11_note_56 : decode cX11_note 56 = .ok (.iconst 3, 1) := by decide +kernel
theorem dX11_note_57 : decode cX11_note 57 = .ok (.aload_n 0, 1) := by decide +kernel
theorem dX11_note_58 : decode cX11_note 58 = .ok (.getfield 7, 3) := by decide +kernel
theorem dX11_note_61 : decode cX11_note 61 = .ok (.bipush 38, 2) := by decide +kernel
theorem dX11_note_63 : decode cX11_note 63 = .ok (.iaload, 1) := by decide +kernel
theorem dX11_note_64 : decode cX11_note 64 = .ok (.imul, 1) := by decide +kernel
theorem dX11_note_65 : decode cX11_note 65 = .ok (.iadd, 1) := by decide +kernel
theorem dX11_note_66 : decode cX11_note 66 = .ok (.istore 4, 2) := by decide +kernel
theorem dX11_note_68 : decode cX11_note 68 = .ok (.aload_n 0, 1) := by decide +kernel
theorem dX11_note_69 : decode cX11_note 69 = .ok (.getfield 7, 3) := by decide +kernel
theorem dX11_note_72 : decode cX11_note 72 = .ok (.iload 4, 2) := by decide +kernel
theorem dX11_note_74 : decode cX11_note 74 = .ok (.iload_n 1, 1) := by decide +kernel
theorem dX11_note_75 : decode cX11_note 75 = .ok (.iastore, 1) := by decide +kernel
theorem dX11_note_76 : decode cX11_note 76 = .ok (.aload_n 0, 1) := by decide +kernel
theorem dX11_note_77 : decode cX11_note 77 = .ok (.getfield 7, 3) := by decide +kernel
theorem dX11_note_80 : decode cX11_note 80 = .ok (.iload 4, 2) := by decide +kernel
theorem dX11_note_82 : decode cX11_note 82 = .ok (.iconst 1, 1) := by decide +kernel
theorem dX11_note_83 : decode cX11_note 83 = .ok (.iadd, 1) := by decide +kernel
theorem dX11_note_84 : decode cX11_note 84 = .ok (.iload_n 2, 1) := by decide +kernel
theorem dX11_note_85 : decode cX11_note 85 = .ok (.iastore, 1) := by decide +kernel
theorem dX11_note_86 : decode cX11_note 86 = .ok (.aload_n 0, 1) := by decide +kernel
theorem dX11_note_87 : decode cX11_note 87 = .ok (.getfield 7, 3) := by decide +kernel
theorem dX11_note_90 : decode cX11_note 90 = .ok (.iload 4, 2) := by decide +kernel
theorem dX11_note_92 : decode cX11_note 92 = .ok (.iconst 2, 1) := by decide +kernel
theorem dX11_note_93 : decode cX11_note 93 = .ok (.iadd, 1) := by decide +kernel
theorem dX11_note_94 : decode cX11_note 94 = .ok (.iload_n 3, 1) := by decide +kernel
theorem dX11_note_95 : decode cX11_note 95 = .ok (.iastore, 1) := by decide +kernel
theorem dX11_note_96 : decode cX11_note 96 = .ok (.aload_n 0, 1) := by decide +kernel
theorem dX11_note_97 : decode cX11_note 97 = .ok (.getfield 7, 3) := by decide +kernel
theorem dX11_note_100 : decode cX11_note 100 = .ok (.bipush 38, 2) := by decide +kernel
theorem dX11_note_102 : decode cX11_note 102 = .ok (.dup2, 1) := by decide +kernel
theorem dX11_note_103 : decode cX11_note 103 = .ok (.iaload, 1) := by decide +kernel
theorem dX11_note_104 : decode cX11_note 104 = .ok (.iconst 1, 1) := by decide +kernel
theorem dX11_note_105 : decode cX11_note 105 = .ok (.iadd, 1) := by decide +kernel
theorem dX11_note_106 : decode cX11_note 106 = .ok (.iastore, 1) := by decide +kernel
theorem dX11_note_107 : decode cX11_note 107 = .ok (.aload_n 0, 1) := by decide +kernel
theorem dX11_note_108 : decode cX11_note 108 = .ok (.getfield 7, 3) := by decide +kernel
theorem dX11_note_111 : decode cX11_note 111 = .ok (.bipush 38, 2) := by decide +kernel
theorem dX11_note_113 : decode cX11_note 113 = .ok (.iaload, 1) := by decide +kernel
theorem dX11_note_114 : decode cX11_note 114 = .ok (.ireturn, 1) := by decide +kernel
theorem dX11_heard_0 : decode cX11_heard 0 = .ok (.aload_n 0, 1) := by decide +kernel
theorem dX11_heard_1 : decode cX11_heard 1 = .ok (.iload_n 1, 1) := by decide +kernel
theorem dX11_heard_2 : decode cX11_heard 2 = .ok (.invokevirtual 184, 3) := by decide +kernel
theorem dX11_heard_5 : decode cX11_heard 5 = .ok (.ifCond .eq 12, 3) := by decide +kernel
theorem dX11_heard_8 : decode cX11_heard 8 = .ok (.iload_n 2, 1) := by decide +kernel
theorem dX11_heard_9 : decode cX11_heard 9 = .ok (.iconst 0, 1) := by decide +kernel
theorem dX11_heard_10 : decode cX11_heard 10 = .ok (.iconst 1, 1) := by decide +kernel
theorem dX11_heard_11 : decode cX11_heard 11 = .ok (.invokestatic 52, 3) := by decide +kernel
theorem dX11_heard_14 : decode cX11_heard 14 = .ok (.ifCond .ne 10, 3) := by decide +kernel
theorem dX11_heard_17 : decode cX11_heard 17 = .ok (.aload_n 0, 1) := by decide +kernel
theorem dX11_heard_18 : decode cX11_heard 18 = .ok (.bipush (-2), 2) := by decide +kernel
theorem dX11_heard_20 : decode cX11_heard 20 = .ok (.invokevirtual 48, 3) := by decide +kernel
theorem dX11_heard_23 : decode cX11_heard 23 = .ok (.ireturn, 1) := by decide +kernel
theorem dX11_heard_24 : decode cX11_heard 24 = .ok (.aload_n 0, 1) := by decide +kernel
theorem dX11_heard_25 : decode cX11_heard 25 = .ok (.getfield 7, 3) := by decide +kernel
theorem dX11_heard_28 : decode cX11_heard 28 = .ok (.bipush 57, 2) := by decide +kernel
theorem dX11_heard_30 : decode cX11_heard 30 = .ok (.iaload, 1) := by decide +kernel
theorem dX11_heard_31 : decode cX11_heard 31 = .ok (.bipush 6, 2) := by decide +kernel
theorem dX11_heard_33 : decode cX11_heard 33 = .ok (.if_icmp .ne 10, 3) := by decide +kernel
theorem dX11_heard_36 : decode cX11_heard 36 = .ok (.aload_n 0, 1) := by decide +kernel
theorem dX11_heard_37 : decode cX11_heard 37 = .ok (.bipush (-4), 2) := by decide +kernel
theorem dX11_heard_39 : decode cX11_heard 39 = .ok (.invokevirtual 48, 3) := by decide +kernel
theorem dX11_heard_42 : decode cX11_heard 42 = .ok (.ireturn, 1) := by decide +kernel
theorem dX11_heard_43 : decode cX11_heard 43 = .ok (.aload_n 0, 1) := by decide +kernel
theorem dX11_heard_44 : decode cX11_heard 44 = .ok (.getfield 7, 3) := by decide +kernel
theorem dX11_heard_47 : decode cX11_heard 47 = .ok (.bipush 58, 2) := by decide +kernel
theorem dX11_heard_49 : decode cX11_heard 49 = .ok (.iconst 2, 1) := by decide +kernel
theorem dX11_heard_50 : decode cX11_heard 50 = .ok (.aload_n 0, 1) := by decide +kernel
theorem dX11_heard_51 : decode cX11_heard 51 = .ok (.getfield 7, 3) := by decide +kernel
theorem dX11_heard_54 : decode cX11_heard 54 = .ok (.bipush 57, 2) := by decide +kernel
theorem dX11_heard_56 : decode cX11_heard 56 = .ok (.iaload, 1) := by decide +kernel
theorem dX11_heard_57 : decode cX11_heard 57 = .ok (.imul, 1) := by decide +kernel
theorem dX11_heard_58 : decode cX11_heard 58 = .ok (.iadd, 1) := by decide +kernel
theorem dX11_heard_59 : decode cX11_heard 59 = .ok (.iload_n 1, 1) := by decide +kernel
theorem dX11_heard_60 : decode cX11_heard 60 = .ok (.iastore, 1) := by decide +kernel
theorem dX11_heard_61 : decode cX11_heard 61 = .ok (.aload_n 0, 1) := by decide +kernel
theorem dX11_heard_62 : decode cX11_heard 62 = .ok (.getfield 7, 3) := by decide +kernel
theorem dX11_heard_65 : decode cX11_heard 65 = .ok (.bipush 58, 2) := by decide +kernel
theorem dX11_heard_67 : decode cX11_heard 67 = .ok (.iconst 2, 1) := by decide +kernel
theorem dX11_heard_68 : decode cX11_heard 68 = .ok (.aload_n 0, 1) := by decide +kernel
theorem dX11_heard_69 : decode cX11_heard 69 = .ok (.getfield 7, 3) := by decide +kernel
theorem dX11_heard_72 : decode cX11_heard 72 = .ok (.bipush 57, 2) := by decide +kernel
theorem dX11_heard_74 : decode cX11_heard 74 = .ok (.iaload, 1) := by decide +kernel
theorem dX11_heard_75 : decode cX11_heard 75 = .ok (.imul, 1) := by decide +kernel
theorem dX11_heard_76 : decode cX11_heard 76 = .ok (.iadd, 1) := by decide +kernel
theorem dX11_heard_77 : decode cX11_heard 77 = .ok (.iconst 1, 1) := by decide +kernel
theorem dX11_heard_78 : decode cX11_heard 78 = .ok (.iadd, 1) := by decide +kernel
theorem dX11_heard_79 : decode cX11_heard 79 = .ok (.iload_n 2, 1) := by decide +kernel
theorem dX11_heard_80 : decode cX11_heard 80 = .ok (.iastore, 1) := by decide +kernel
theorem dX11_heard_81 : decode cX11_heard 81 = .ok (.aload_n 0, 1) := by decide +kernel
theorem dX11_heard_82 : decode cX11_heard 82 = .ok (.getfield 7, 3) := by decide +kernel
theorem dX11_heard_85 : decode cX11_heard 85 = .ok (.bipush 57, 2) := by decide +kernel
theorem dX11_heard_87 : decode cX11_heard 87 = .ok (.dup2, 1) := by decide +kernel
theorem dX11_heard_88 : decode cX11_heard 88 = .ok (.iaload, 1) := by decide +kernel
theorem dX11_heard_89 : decode cX11_heard 89 = .ok (.iconst 1, 1) := by decide +kernel
theorem dX11_heard_90 : decode cX11_heard 90 = .ok (.iadd, 1) := by decide +kernel
theorem dX11_heard_91 : decode cX11_heard 91 = .ok (.iastore, 1) := by decide +kernel
theorem dX11_heard_92 : decode cX11_heard 92 = .ok (.aload_n 0, 1) := by decide +kernel
theorem dX11_heard_93 : decode cX11_heard 93 = .ok (.getfield 7, 3) := by decide +kernel
theorem dX11_heard_96 : decode cX11_heard 96 = .ok (.bipush 57, 2) := by decide +kernel
theorem dX11_heard_98 : decode cX11_heard 98 = .ok (.iaload, 1) := by decide +kernel
theorem dX11_heard_99 : decode cX11_heard 99 = .ok (.ireturn, 1) := by decide +kernel
theorem dX11_forget_0 : decode cX11_forget 0 = .ok (.iload_n 1, 1) := by decide +kernel
theorem dX11_forget_1 : decode cX11_forget 1 = .ok (.iconst 0, 1) := by decide +kernel
theorem dX11_forget_2 : decode cX11_forget 2 = .ok (.iconst 1, 1) := by decide +kernel
theorem dX11_forget_3 : decode cX11_forget 3 = .ok (.invokestatic 52, 3) := by decide +kernel
theorem dX11_forget_6 : decode cX11_forget 6 = .ok (.ifCond .ne 10, 3) := by decide +kernel
theorem dX11_forget_9 : decode cX11_forget 9 = .ok (.aload_n 0, 1) := by decide +kernel
theorem dX11_forget_10 : decode cX11_forget 10 = .ok (.bipush (-2), 2) := by decide +kernel
theorem dX11_forget_12 : decode cX11_forget 12 = .ok (.invokevirtual 48, 3) := by decide +kernel
theorem dX11_forget_15 : decode cX11_forget 15 = .ok (.ireturn, 1) := by decide +kernel
theorem dX11_forget_16 : decode cX11_forget 16 = .ok (.iload_n 1, 1) := by decide +kernel
theorem dX11_forget_17 : decode cX11_forget 17 = .ok (.ifCond .ne 8, 3) := by decide +kernel
theorem dX11_forget_20 : decode cX11_forget 20 = .ok (.bipush 38, 2) := by decide +kernel
theorem dX11_forget_22 : decode cX11_forget 22 = .ok (.goto 5, 3) := by decide +kernel
theorem dX11_forget_25 : decode cX11_forget 25 = .ok (.bipush 57, 2) := by decide +kernel
theorem dX11_forget_27 : decode cX11_forget 27 = .ok (.istore_n 2, 1) := by decide +kernel
theorem dX11_forget_28 : decode cX11_forget 28 = .ok (.aload_n 0, 1) := by decide +kernel
theorem dX11_forget_29 : decode cX11_forget 29 = .ok (.getfield 7, 3) := by decide +kernel
theorem dX11_forget_32 : decode cX11_forget 32 = .ok (.iload_n 2, 1) := by decide +kernel
theorem dX11_forget_33 : decode cX11_forget 33 = .ok (.iaload, 1) := by decide +kernel
theorem dX11_forget_34 : decode cX11_forget 34 = .ok (.istore_n 3, 1) := by decide +kernel
theorem dX11_forget_35 : decode cX11_forget 35 = .ok (.aload_n 0, 1) := by decide +kernel
theorem dX11_forget_36 : decode cX11_forget 36 = .ok (.getfield 7, 3) := by decide +kernel
theorem dX11_forget_39 : decode cX11_forget 39 = .ok (.iload_n 2, 1) := by decide +kernel
theorem dX11_forget_40 : decode cX11_forget 40 = .ok (.iconst 0, 1) := by decide +kernel
theorem dX11_forget_41 : decode cX11_forget 41 = .ok (.iastore, 1) := by decide +kernel
theorem dX11_forget_42 : decode cX11_forget 42 = .ok (.iload_n 3, 1) := by decide +kernel
theorem dX11_forget_43 : decode cX11_forget 43 = .ok (.ireturn, 1) := by decide +kernel
theorem dX11_kindsOf_0 : decode cX11_kindsOf 0 = .ok (.iconst 0, 1) := by decide +kernel
theorem dX11_kindsOf_1 : decode cX11_kindsOf 1 = .ok (.istore_n 2, 1) := by decide +kernel
theorem dX11_kindsOf_2 : decode cX11_kindsOf 2 = .ok (.iconst 0, 1) := by decide +kernel
theorem dX11_kindsOf_3 : decode cX11_kindsOf 3 = .ok (.istore_n 3, 1) := by decide +kernel
theorem dX11_kindsOf_4 : decode cX11_kindsOf 4 = .ok (.iload_n 3, 1) := by decide +kernel
theorem dX11_kindsOf_5 : decode cX11_kindsOf 5 = .ok (.bipush 6, 2) := by decide +kernel
theorem dX11_kindsOf_7 : decode cX11_kindsOf 7 = .ok (.if_icmp .ge 114, 3) := by decide +kernel
theorem dX11_kindsOf_10 : decode cX11_kindsOf 10 = .ok (.iconst 1, 1) := by decide +kernel
theorem dX11_kindsOf_11 : decode cX11_kindsOf 11 = .ok (.istore 4, 2) := by decide +kernel
theorem dX11_kindsOf_13 : decode cX11_kindsOf 13 = .ok (.iconst 0, 1) := by decide +kernel
theorem dX11_kindsOf_14 : decode cX11_kindsOf 14 = .ok (.istore 5, 2) := by decide +kernel
theorem dX11_kindsOf_16 : decode cX11_kindsOf 16 = .ok (.iload 5, 2) := by decide +kernel
theorem dX11_kindsOf_18 : decode cX11_kindsOf 18 = .ok (.aload_n 0, 1) := by decide +kernel
theorem dX11_kindsOf_19 : decode cX11_kindsOf 19 = .ok (.getfield 7, 3) := by decide +kernel
theorem dX11_kindsOf_22 : decode cX11_kindsOf 22 = .ok (.bipush 38, 2) := by decide +kernel
theorem dX11_kindsOf_24 : decode cX11_kindsOf 24 = .ok (.iaload, 1) := by decide +kernel
theorem dX11_kindsOf_25 : decode cX11_kindsOf 25 = .ok (.if_icmp .ge 75, 3) := by decide +kernel
theorem dX11_kindsOf_28 : decode cX11_kindsOf 28 = .ok (.bipush 39, 2) := by decide +kernel
theorem dX11_kindsOf_30 : decode cX11_kindsOf 30 = .ok (.iconst 3, 1) := by decide +kernel
theorem dX11_kindsOf_31 : decode cX11_kindsOf 31 = .ok (.iload 5, 2) := by decide +kernel
theorem dX11_kindsOf_33 : decode cX11_kindsOf 33 = .ok (.imul, 1) := by decide +kernel
theorem dX11_kindsOf_34 : decode cX11_kindsOf 34 = .ok (.iadd, 1) := by decide +kernel
theorem dX11_kindsOf_35 : decode cX11_kindsOf 35 = .ok (.istore 6, 2) := by decide +kernel
theorem dX11_kindsOf_37 : decode cX11_kindsOf 37 = .ok (.iload 4, 2) := by decide +kernel
theorem dX11_kindsOf_39 : decode cX11_kindsOf 39 = .ok (.ifCond .eq 52, 3) := by decide +kernel
theorem dX11_kindsOf_42 : decode cX11_kindsOf 42 = .ok (.aload_n 0, 1) := by decide +kernel
theorem dX11_kindsOf_43 : decode cX11_kindsOf 43 = .ok (.getfield 7, 3) := by decide +kernel
theorem dX11_kindsOf_46 : decode cX11_kindsOf 46 = .ok (.iload 6, 2) := by decide +kernel
theorem dX11_kindsOf_48 : decode cX11_kindsOf 48 = .ok (.iaload, 1) := by decide +kernel
theorem dX11_kindsOf_49 : decode cX11_kindsOf 49 = .ok (.iload_n 1, 1) := by decide +kernel
theorem dX11_kindsOf_50 : decode cX11_kindsOf 50 = .ok (.if_icmp .ne 37, 3) := by decide +kernel
theorem dX11_kindsOf_53 : decode cX11_kindsOf 53 = .ok (.iload_n 3, 1) := by decide +kernel
theorem dX11_kindsOf_54 : decode cX11_kindsOf 54 = .ok (.aload_n 0, 1) := by decide +kernel
theorem dX11_kindsOf_55 : decode cX11_kindsOf 55 = .ok (.getfield 7, 3) := by decide +kernel
theorem dX11_kindsOf_58 : decode cX11_kindsOf 58 = .ok (.bipush 23, 2) := by decide +kernel
theorem dX11_kindsOf_60 : decode cX11_kindsOf 60 = .ok (.iload_n 1, 1) := by decide +kernel
theorem dX11_kindsOf_61 : decode cX11_kindsOf 61 = .ok (.iadd, 1) := by decide +kernel
theorem dX11_kindsOf_62 : decode cX11_kindsOf 62 = .ok (.iaload, 1) := by decide +kernel
theorem dX11_kindsOf_63 : decode cX11_kindsOf 63 = .ok (.aload_n 0, 1) := by decide +kernel
theorem dX11_kindsOf_64 : decode cX11_kindsOf 64 = .ok (.getfield 7, 3) := by decide +kernel
theorem dX11_kindsOf_67 : decode cX11_kindsOf 67 = .ok (.iload 6, 2) := by decide +kernel
theorem dX11_kindsOf_69 : decode cX11_kindsOf 69 = .ok (.iconst 1, 1) := by decide +kernel
theorem dX11_kindsOf_70 : decode cX11_kindsOf 70 = .ok (.iadd, 1) := by decide +kernel
theorem dX11_kindsOf_71 : decode cX11_kindsOf 71 = .ok (.iaload, 1) := by decide +kernel
theorem dX11_kindsOf_72 : decode cX11_kindsOf 72 = .ok (.invokestatic 128, 3) := by decide +kernel
theorem dX11_kindsOf_75 : decode cX11_kindsOf 75 = .ok (.aload_n 0, 1) := by decide +kernel
theorem dX11_kindsOf_76 : decode cX11_kindsOf 76 = .ok (.getfield 7, 3) := by decide +kernel
theorem dX11_kindsOf_79 : decode cX11_kindsOf 79 = .ok (.iload 6, 2) := by decide +kernel
theorem dX11_kindsOf_81 : decode cX11_kindsOf 81 = .ok (.iconst 2, 1) := by decide +kernel
theorem dX11_kindsOf_82 : decode cX11_kindsOf 82 = .ok (.iadd, 1) := by decide +kernel
theorem dX11_kindsOf_83 : decode cX11_kindsOf 83 = .ok (.iaload, 1) := by decide +kernel
theorem dX11_kindsOf_84 : decode cX11_kindsOf 84 = .ok (.if_icmp .ne 7, 3) := by decide +kernel
theorem dX11_kindsOf_87 : decode cX11_kindsOf 87 = .ok (.iconst 1, 1) := by decide +kernel
theorem dX11_kindsOf_88 : decode cX11_kindsOf 88 = .ok (.goto 4, 3) := by decide +kernel
theorem dX11_kindsOf_91 : decode cX11_kindsOf 91 = .ok (.iconst 0, 1) := by decide +kernel
theorem dX11_kindsOf_92 : decode cX11_kindsOf 92 = .ok (.istore 4, 2) := by decide +kernel
theorem dX11_kindsOf_94 : decode cX11_kindsOf 94 = .ok (.iinc 5 1, 3) := by decide +kernel
theorem dX11_kindsOf_97 : decode cX11_kindsOf 97 = .ok (.goto (-81), 3) := by decide +kernel
theorem dX11_kindsOf_100 : decode cX11_kindsOf 100 = .ok (.iload_n 2, 1) := by decide +kernel
theorem dX11_kindsOf_101 : decode cX11_kindsOf 101 = .ok (.iload 4, 2) := by decide +kernel
theorem dX11_kindsOf_103 : decode cX11_kindsOf 103 = .ok (.ifCond .eq 9, 3) := by decide +kernel
theorem dX11_kindsOf_106 : decode cX11_kindsOf 106 = .ok (.iconst 1, 1) := by decide +kernel
theorem dX11_kindsOf_107 : decode cX11_kindsOf 107 = .ok (.iload_n 3, 1) := by decide +kernel
theorem dX11_kindsOf_108 : decode cX11_kindsOf 108 = .ok (.ishl, 1) := by decide +kernel
theorem dX11_kindsOf_109 : decode cX11_kindsOf 109 = .ok (.goto 4, 3) := by decide +kernel
theorem dX11_kindsOf_112 : decode cX11_kindsOf 112 = .ok (.iconst 0, 1) := by decide +kernel
theorem dX11_kindsOf_113 : decode cX11_kindsOf 113 = .ok (.ior, 1) := by decide +kernel
theorem dX11_kindsOf_114 : decode cX11_kindsOf 114 = .ok (.istore_n 2, 1) := by decide +kernel
theorem dX11_kindsOf_115 : decode cX11_kindsOf 115 = .ok (.iinc 3 1, 3) := by decide +kernel
theorem dX11_kindsOf_118 : decode cX11_kindsOf 118 = .ok (.goto (-114), 3) := by decide +kernel
theorem dX11_kindsOf_121 : decode cX11_kindsOf 121 = .ok (.iload_n 2, 1) := by decide +kernel
theorem dX11_kindsOf_122 : decode cX11_kindsOf 122 = .ok (.ireturn, 1) := by decide +kernel
theorem dX11_is_0 : decode cX11_is 0 = .ok (.aload_n 0, 1) := by decide +kernel
theorem dX11_is_1 : decode cX11_is 1 = .ok (.iload_n 1, 1) := by decide +kernel
theorem dX11_is_2 : decode cX11_is 2 = .ok (.invokevirtual 141, 3) := by decide +kernel
theorem dX11_is_5 : decode cX11_is 5 = .ok (.ifCond .eq 11, 3) := by decide +kernel
theorem dX11_is_8 : decode cX11_is 8 = .ok (.aload_n 0, 1) := by decide +kernel
theorem dX11_is_9 : decode cX11_is 9 = .ok (.iload_n 1, 1) := by decide +kernel
theorem dX11_is_10 : decode cX11_is 10 = .ok (.invokevirtual 203, 3) := by decide +kernel
theorem dX11_is_13 : decode cX11_is 13 = .ok (.goto 9, 3) := by decide +kernel
theorem dX11_is_16 : decode cX11_is 16 = .ok (.aload_n 0, 1) := by decide +kernel
theorem dX11_is_17 : decode cX11_is 17 = .ok (.bipush (-2), 2) := by decide +kernel
theorem dX11_is_19 : decode cX11_is 19 = .ok (.invokevirtual 48, 3) := by decide +kernel
theorem dX11_is_22 : decode cX11_is 22 = .ok (.ireturn, 1) := by decide +kernel
theorem dX11_mostAlike_0 : decode cX11_mostAlike 0 = .ok (.iconst 0, 1) := by decide +kernel
theorem dX11_mostAlike_1 : decode cX11_mostAlike 1 = .ok (.istore 4, 2) := by decide +kernel
theorem dX11_mostAlike_3 : decode cX11_mostAlike 3 = .ok (.iconst 0, 1) := by decide +kernel
theorem dX11_mostAlike_4 : decode cX11_mostAlike 4 = .ok (.istore 5, 2) := by decide +kernel
theorem dX11_mostAlike_6 : decode cX11_mostAlike 6 = .ok (.iload 5, 2) := by decide +kernel
theorem dX11_mostAlike_8 : decode cX11_mostAlike 8 = .ok (.bipush 6, 2) := by decide +kernel
theorem dX11_mostAlike_10 : decode cX11_mostAlike 10 = .ok (.if_icmp .ge 105, 3) := by decide +kernel
theorem dX11_mostAlike_13 : decode cX11_mostAlike 13 = .ok (.iconst 0, 1) := by decide +kernel
theorem dX11_mostAlike_14 : decode cX11_mostAlike 14 = .ok (.istore 6, 2) := by decide +kernel
theorem dX11_mostAlike_16 : decode cX11_mostAlike 16 = .ok (.iconst 0, 1) := by decide +kernel
theorem dX11_mostAlike_17 : decode cX11_mostAlike 17 = .ok (.istore 7, 2) := by decide +kernel
theorem dX11_mostAlike_19 : decode cX11_mostAlike 19 = .ok (.iload 7, 2) := by decide +kernel
theorem dX11_mostAlike_21 : decode cX11_mostAlike 21 = .ok (.bipush 6, 2) := by decide +kernel
theorem dX11_mostAlike_23 : decode cX11_mostAlike 23 = .ok (.if_icmp .ge 70, 3) := by decide +kernel
theorem dX11_mostAlike_26 : decode cX11_mostAlike 26 = .ok (.iload 6, 2) := by decide +kernel
theorem dX11_mostAlike_28 : decode cX11_mostAlike 28 = .ok (.iload_n 2, 1) := by decide +kernel
theorem dX11_mostAlike_29 : decode cX11_mostAlike 29 = .ok (.iload 5, 2) := by decide +kernel
theorem dX11_mostAlike_31 : decode cX11_mostAlike 31 = .ok (.invokestatic 124, 3) := by decide +kernel
theorem dX11_mostAlike_34 : decode cX11_mostAlike 34 = .ok (.ifCond .eq 49, 3) := by decide +kernel
theorem dX11_mostAlike_37 : decode cX11_mostAlike 37 = .ok (.iload_n 2, 1) := by decide +kernel
theorem dX11_mostAlike_38 : decode cX11_mostAlike 38 = .ok (.iload 7, 2) := by decide +kernel
theorem dX11_mostAlike_40 : decode cX11_mostAlike 40 = .ok (.invokestatic 124, 3) := by decide +kernel
theorem dX11_mostAlike_43 : decode cX11_mostAlike 43 = .ok (.ifCond .eq 40, 3) := by decide +kernel
theorem dX11_mostAlike_46 : decode cX11_mostAlike 46 = .ok (.iload 5, 2) := by decide +kernel
theorem dX11_mostAlike_48 : decode cX11_mostAlike 48 = .ok (.aload_n 0, 1) := by decide +kernel
theorem dX11_mostAlike_49 : decode cX11_mostAlike 49 = .ok (.getfield 7, 3) := by decide +kernel
theorem dX11_mostAlike_52 : decode cX11_mostAlike 52 = .ok (.bipush 23, 2) := by decide +kernel
theorem dX11_mostAlike_54 : decode cX11_mostAlike 54 = .ok (.iload_n 1, 1) := by decide +kernel
theorem dX11_mostAlike_55 : decode cX11_mostAlike 55 = .ok (.iadd, 1) := by decide +kernel
theorem dX11_mostAlike_56 : decode cX11_mostAlike 56 = .ok (.iaload, 1) := by decide +kernel
theorem dX11_mostAlike_57 : decode cX11_mostAlike 57 = .ok (.iload_n 3, 1) := by decide +kernel
theorem dX11_mostAlike_58 : decode cX11_mostAlike 58 = .ok (.invokestatic 128, 3) := by decide +kernel
theorem dX11_mostAlike_61 : decode cX11_mostAlike 61 = .ok (.iload 7, 2) := by decide +kernel
theorem dX11_mostAlike_63 : decode cX11_mostAlike 63 = .ok (.aload_n 0, 1) := by decide +kernel
theorem dX11_mostAlike_64 : decode cX11_mostAlike 64 = .ok (.getfield 7, 3) := by decide +kernel
theorem dX11_mostAlike_67 : decode cX11_mostAlike 67 = .ok (.bipush 23, 2) := by decide +kernel
theorem dX11_mostAlike_69 : decode cX11_mostAlike 69 = .ok (.iload_n 1, 1) := by decide +kernel
theorem dX11_mostAlike_70 : decode cX11_mostAlike 70 = .ok (.iadd, 1) := by decide +kernel
theorem dX11_mostAlike_71 : decode cX11_mostAlike 71 = .ok (.iaload, 1) := by decide +kernel
theorem dX11_mostAlike_72 : decode cX11_mostAlike 72 = .ok (.iload_n 3, 1) := by decide +kernel
theorem dX11_mostAlike_73 : decode cX11_mostAlike 73 = .ok (.invokestatic 128, 3) := by decide +kernel
theorem dX11_mostAlike_76 : decode cX11_mostAlike 76 = .ok (.if_icmp .ne 7, 3) := by decide +kernel
theorem dX11_mostAlike_79 : decode cX11_mostAlike 79 = .ok (.iconst 1, 1) := by decide +kernel
theorem dX11_mostAlike_80 : decode cX11_mostAlike 80 = .ok (.goto 4, 3) := by decide +kernel
theorem dX11_mostAlike_83 : decode cX11_mostAlike 83 = .ok (.iconst 0, 1) := by decide +kernel
theorem dX11_mostAlike_84 : decode cX11_mostAlike 84 = .ok (.iadd, 1) := by decide +kernel
theorem dX11_mostAlike_85 : decode cX11_mostAlike 85 = .ok (.istore 6, 2) := by decide +kernel
theorem dX11_mostAlike_87 : decode cX11_mostAlike 87 = .ok (.iinc 7 1, 3) := by decide +kernel
theorem dX11_mostAlike_90 : decode cX11_mostAlike 90 = .ok (.goto (-71), 3) := by decide +kernel
theorem dX11_mostAlike_93 : decode cX11_mostAlike 93 = .ok (.iload 6, 2) := by decide +kernel
theorem dX11_mostAlike_95 : decode cX11_mostAlike 95 = .ok (.iload 4, 2) := by decide +kernel
theorem dX11_mostAlike_97 : decode cX11_mostAlike 97 = .ok (.if_icmp .le 8, 3) := by decide +kernel
theorem dX11_mostAlike_100 : decode cX11_mostAlike 100 = .ok (.iload 6, 2) := by decide +kernel
theorem dX11_mostAlike_102 : decode cX11_mostAlike 102 = .ok (.goto 5, 3) := by decide +kernel
theorem dX11_mostAlike_105 : decode cX11_mostAlike 105 = .ok (.iload 4, 2) := by decide +kernel
theorem dX11_mostAlike_107 : decode cX11_mostAlike 107 = .ok (.istore 4, 2) := by decide +kernel
theorem dX11_mostAlike_109 : decode cX11_mostAlike 109 = .ok (.iinc 5 1, 3) := by decide +kernel
theorem dX11_mostAlike_112 : decode cX11_mostAlike 112 = .ok (.goto (-106), 3) := by decide +kernel
theorem dX11_mostAlike_115 : decode cX11_mostAlike 115 = .ok (.iload 4, 2) := by decide +kernel
theorem dX11_mostAlike_117 : decode cX11_mostAlike 117 = .ok (.ireturn, 1) := by decide +kernel
theorem dX11_look_0 : decode cX11_look 0 = .ok (.aload_n 0, 1) := by decide +kernel
theorem dX11_look_1 : decode cX11_look 1 = .ok (.iload_n 1, 1) := by decide +kernel
theorem dX11_look_2 : decode cX11_look 2 = .ok (.invokevirtual 141, 3) := by decide +kernel
theorem dX11_look_5 : decode cX11_look 5 = .ok (.ifCond .ne 10, 3) := by decide +kernel
theorem dX11_look_8 : decode cX11_look 8 = .ok (.aload_n 0, 1) := by decide +kernel
theorem dX11_look_9 : decode cX11_look 9 = .ok (.bipush (-2), 2) := by decide +kernel
theorem dX11_look_11 : decode cX11_look 11 = .ok (.invokevirtual 48, 3) := by decide +kernel
theorem dX11_look_14 : decode cX11_look 14 = .ok (.ireturn, 1) := by decide +kernel
theorem dX11_look_15 : decode cX11_look 15 = .ok (.aload_n 0, 1) := by decide +kernel
theorem dX11_look_16 : decode cX11_look 16 = .ok (.iload_n 1, 1) := by decide +kernel
theorem dX11_look_17 : decode cX11_look 17 = .ok (.invokevirtual 203, 3) := by decide +kernel
theorem dX11_look_20 : decode cX11_look 20 = .ok (.istore_n 2, 1) := by decide +kernel
theorem dX11_look_21 : decode cX11_look 21 = .ok (.iconst (-1), 1) := by decide +kernel
theorem dX11_look_22 : decode cX11_look 22 = .ok (.istore_n 3, 1) := by decide +kernel
theorem dX11_look_23 : decode cX11_look 23 = .ok (.bipush 99, 2) := by decide +kernel
theorem dX11_look_25 : decode cX11_look 25 = .ok (.istore 4, 2) := by decide +kernel
theorem dX11_look_27 : decode cX11_look 27 = .ok (.iconst 0, 1) := by decide +kernel
theorem dX11_look_28 : decode cX11_look 28 = .ok (.istore 5, 2) := by decide +kernel
theorem dX11_look_30 : decode cX11_look 30 = .ok (.iload 5, 2) := by decide +kernel
theorem dX11_look_32 : decode cX11_look 32 = .ok (.bipush 10, 2) := by decide +kernel
theorem dX11_look_34 : decode cX11_look 34 = .ok (.if_icmp .ge 53, 3) := by decide +kernel
theorem dX11_look_37 : decode cX11_look 37 = .ok (.iload_n 2, 1) := by decide +kernel
theorem dX11_look_38 : decode cX11_look 38 = .ok (.ifCond .eq 49, 3) := by decide +kernel
theorem dX11_look_41 : decode cX11_look 41 = .ok (.aload_n 0, 1) := by decide +kernel
theorem dX11_look_42 : decode cX11_look 42 = .ok (.iload_n 1, 1) := by decide +kernel
theorem dX11_look_43 : decode cX11_look 43 = .ok (.iload_n 2, 1) := by decide +kernel
theorem dX11_look_44 : decode cX11_look 44 = .ok (.iload 5, 2) := by decide +kernel
theorem dX11_look_46 : decode cX11_look 46 = .ok (.invokevirtual 206, 3) := by decide +kernel
theorem dX11_look_49 : decode cX11_look 49 = .ok (.istore 6, 2) := by decide +kernel
theorem dX11_look_51 : decode cX11_look 51 = .ok (.iload 6, 2) := by decide +kernel
theorem dX11_look_53 : decode cX11_look 53 = .ok (.iload 4, 2) := by decide +kernel
theorem dX11_look_55 : decode cX11_look 55 = .ok (.if_icmp .ge 8, 3) := by decide +kernel
theorem dX11_look_58 : decode cX11_look 58 = .ok (.iload 5, 2) := by decide +kernel
theorem dX11_look_60 : decode cX11_look 60 = .ok (.goto 4, 3) := by decide +kernel
theorem dX11_look_63 : decode cX11_look 63 = .ok (.iload_n 3, 1) := by decide +kernel
theorem dX11_look_64 : decode cX11_look 64 = .ok (.istore_n 3, 1) := by decide +kernel
theorem dX11_look_65 : decode cX11_look 65 = .ok (.iload 6, 2) := by decide +kernel
theorem dX11_look_67 : decode cX11_look 67 = .ok (.iload 4, 2) := by decide +kernel
theorem dX11_look_69 : decode cX11_look 69 = .ok (.if_icmp .ge 8, 3) := by decide +kernel
theorem dX11_look_72 : decode cX11_look 72 = .ok (.iload 6, 2) := by decide +kernel
theorem dX11_look_74 : decode cX11_look 74 = .ok (.goto 5, 3) := by decide +kernel
theorem dX11_look_77 : decode cX11_look 77 = .ok (.iload 4, 2) := by decide +kernel
theorem dX11_look_79 : decode cX11_look 79 = .ok (.istore 4, 2) := by decide +kernel
theorem dX11_look_81 : decode cX11_look 81 = .ok (.iinc 5 1, 3) := by decide +kernel
theorem dX11_look_84 : decode cX11_look 84 = .ok (.goto (-54), 3) := by decide +kernel
theorem dX11_look_87 : decode cX11_look 87 = .ok (.iload_n 3, 1) := by decide +kernel
theorem dX11_look_88 : decode cX11_look 88 = .ok (.ireturn, 1) := by decide +kernel
theorem dX11_mayBeTrue_0 : decode cX11_mayBeTrue 0 = .ok (.iload_n 1, 1) := by decide +kernel
theorem dX11_mayBeTrue_1 : decode cX11_mayBeTrue 1 = .ok (.invokestatic 193, 3) := by decide +kernel
theorem dX11_mayBeTrue_4 : decode cX11_mayBeTrue 4 = .ok (.ifCond .ne 7, 3) := by decide +kernel
theorem dX11_mayBeTrue_7 : decode cX11_mayBeTrue 7 = .ok (.iconst 1, 1) := by decide +kernel
theorem dX11_mayBeTrue_8 : decode cX11_mayBeTrue 8 = .ok (.goto 4, 3) := by decide +kernel
theorem dX11_mayBeTrue_11 : decode cX11_mayBeTrue 11 = .ok (.iconst 0, 1) := by decide +kernel
theorem dX11_mayBeTrue_12 : decode cX11_mayBeTrue 12 = .ok (.istore_n 2, 1) := by decide +kernel
theorem dX11_mayBeTrue_13 : decode cX11_mayBeTrue 13 = .ok (.iconst 0, 1) := by decide +kernel
theorem dX11_mayBeTrue_14 : decode cX11_mayBeTrue 14 = .ok (.istore_n 3, 1) := by decide +kernel
theorem dX11_mayBeTrue_15 : decode cX11_mayBeTrue 15 = .ok (.iload_n 3, 1) := by decide +kernel
theorem dX11_mayBeTrue_16 : decode cX11_mayBeTrue 16 = .ok (.aload_n 0, 1) := by decide +kernel
theorem dX11_mayBeTrue_17 : decode cX11_mayBeTrue 17 = .ok (.getfield 7, 3) := by decide +kernel
theorem dX11_mayBeTrue_20 : decode cX11_mayBeTrue 20 = .ok (.bipush 57, 2) := by decide +kernel
theorem dX11_mayBeTrue_22 : decode cX11_mayBeTrue 22 = .ok (.iaload, 1) := by decide +kernel
theorem dX11_mayBeTrue_23 : decode cX11_mayBeTrue 23 = .ok (.if_icmp .ge 60, 3) := by decide +kernel
theorem dX11_mayBeTrue_26 : decode cX11_mayBeTrue 26 = .ok (.iload_n 2, 1) := by decide +kernel
theorem dX11_mayBeTrue_27 : decode cX11_mayBeTrue 27 = .ok (.ifCond .eq 48, 3) := by decide +kernel
theorem dX11_mayBeTrue_30 : decode cX11_mayBeTrue 30 = .ok (.aload_n 0, 1) := by decide +kernel
theorem dX11_mayBeTrue_31 : decode cX11_mayBeTrue 31 = .ok (.aload_n 0, 1) := by decide +kernel
theorem dX11_mayBeTrue_32 : decode cX11_mayBeTrue 32 = .ok (.getfield 7, 3) := by decide +kernel
theorem dX11_mayBeTrue_35 : decode cX11_mayBeTrue 35 = .ok (.bipush 58, 2) := by decide +kernel
theorem dX11_mayBeTrue_37 : decode cX11_mayBeTrue 37 = .ok (.iconst 2, 1) := by decide +kernel
theorem dX11_mayBeTrue_38 : decode cX11_mayBeTrue 38 = .ok (.iload_n 3, 1) := by decide +kernel
theorem dX11_mayBeTrue_39 : decode cX11_mayBeTrue 39 = .ok (.imul, 1) := by decide +kernel
theorem dX11_mayBeTrue_40 : decode cX11_mayBeTrue 40 = .ok (.iadd, 1) := by decide +kernel
theorem dX11_mayBeTrue_41 : decode cX11_mayBeTrue 41 = .ok (.iaload, 1) := by decide +kernel
theorem dX11_mayBeTrue_42 : decode cX11_mayBeTrue 42 = .ok (.iload_n 1, 1) := by decide +kernel
theorem dX11_mayBeTrue_43 : decode cX11_mayBeTrue 43 = .ok (.invokevirtual 162, 3) := by decide +kernel
theorem dX11_mayBeTrue_46 : decode cX11_mayBeTrue 46 = .ok (.aload_n 0, 1) := by decide +kernel
theorem dX11_mayBeTrue_47 : decode cX11_mayBeTrue 47 = .ok (.getfield 7, 3) := by decide +kernel
theorem dX11_mayBeTrue_50 : decode cX11_mayBeTrue 50 = .ok (.bipush 58, 2) := by decide +kernel
theorem dX11_mayBeTrue_52 : decode cX11_mayBeTrue 52 = .ok (.iconst 2, 1) := by decide +kernel
theorem dX11_mayBeTrue_53 : decode cX11_mayBeTrue 53 = .ok (.iload_n 3, 1) := by decide +kernel
theorem dX11_mayBeTrue_54 : decode cX11_mayBeTrue 54 = .ok (.imul, 1) := by decide +kernel
theorem dX11_mayBeTrue_55 : decode cX11_mayBeTrue 55 = .ok (.iadd, 1) := by decide +kernel
theorem dX11_mayBeTrue_56 : decode cX11_mayBeTrue 56 = .ok (.iconst 1, 1) := by decide +kernel
theorem dX11_mayBeTrue_57 : decode cX11_mayBeTrue 57 = .ok (.iadd, 1) := by decide +kernel
theorem dX11_mayBeTrue_58 : decode cX11_mayBeTrue 58 = .ok (.iaload, 1) := by decide +kernel
theorem dX11_mayBeTrue_59 : decode cX11_mayBeTrue 59 = .ok (.iconst 1, 1) := by decide +kernel
theorem dX11_mayBeTrue_60 : decode cX11_mayBeTrue 60 = .ok (.if_icmp .ne 7, 3) := by decide +kernel
theorem dX11_mayBeTrue_63 : decode cX11_mayBeTrue 63 = .ok (.iconst 1, 1) := by decide +kernel
theorem dX11_mayBeTrue_64 : decode cX11_mayBeTrue 64 = .ok (.goto 4, 3) := by decide +kernel
theorem dX11_mayBeTrue_67 : decode cX11_mayBeTrue 67 = .ok (.iconst 0, 1) := by decide +kernel
theorem dX11_mayBeTrue_68 : decode cX11_mayBeTrue 68 = .ok (.if_icmp .ne 7, 3) := by decide +kernel
theorem dX11_mayBeTrue_71 : decode cX11_mayBeTrue 71 = .ok (.iconst 1, 1) := by decide +kernel
theorem dX11_mayBeTrue_72 : decode cX11_mayBeTrue 72 = .ok (.goto 4, 3) := by decide +kernel
theorem dX11_mayBeTrue_75 : decode cX11_mayBeTrue 75 = .ok (.iconst 0, 1) := by decide +kernel
theorem dX11_mayBeTrue_76 : decode cX11_mayBeTrue 76 = .ok (.istore_n 2, 1) := by decide +kernel
theorem dX11_mayBeTrue_77 : decode cX11_mayBeTrue 77 = .ok (.iinc 3 1, 3) := by decide +kernel
theorem dX11_mayBeTrue_80 : decode cX11_mayBeTrue 80 = .ok (.goto (-65), 3) := by decide +kernel
theorem dX11_mayBeTrue_83 : decode cX11_mayBeTrue 83 = .ok (.iload_n 2, 1) := by decide +kernel
theorem dX11_mayBeTrue_84 : decode cX11_mayBeTrue 84 = .ok (.ireturn, 1) := by decide +kernel
theorem dX11_truth_0 : decode cX11_truth 0 = .ok (.iload_n 1, 1) := by decide +kernel
theorem dX11_truth_1 : decode cX11_truth 1 = .ok (.iconst 0, 1) := by decide +kernel
theorem dX11_truth_2 : decode cX11_truth 2 = .ok (.iconst 2, 1) := by decide +kernel
theorem dX11_truth_3 : decode cX11_truth 3 = .ok (.invokestatic 52, 3) := by decide +kernel
theorem dX11_truth_6 : decode cX11_truth 6 = .ok (.ifCond .ne 10, 3) := by decide +kernel
theorem dX11_truth_9 : decode cX11_truth 9 = .ok (.aload_n 0, 1) := by decide +kernel
theorem dX11_truth_10 : decode cX11_truth 10 = .ok (.bipush (-2), 2) := by decide +kernel
theorem dX11_truth_12 : decode cX11_truth 12 = .ok (.invokevirtual 48, 3) := by decide +kernel
theorem dX11_truth_15 : decode cX11_truth 15 = .ok (.ireturn, 1) := by decide +kernel
theorem dX11_truth_16 : decode cX11_truth 16 = .ok (.iconst 0, 1) := by decide +kernel
theorem dX11_truth_17 : decode cX11_truth 17 = .ok (.istore_n 2, 1) := by decide +kernel
theorem dX11_truth_18 : decode cX11_truth 18 = .ok (.sipush 255, 3) := by decide +kernel
theorem dX11_truth_21 : decode cX11_truth 21 = .ok (.istore_n 3, 1) := by decide +kernel
theorem dX11_truth_22 : decode cX11_truth 22 = .ok (.iconst 0, 1) := by decide +kernel
theorem dX11_truth_23 : decode cX11_truth 23 = .ok (.istore 4, 2) := by decide +kernel
theorem dX11_truth_25 : decode cX11_truth 25 = .ok (.iconst 0, 1) := by decide +kernel
theorem dX11_truth_26 : decode cX11_truth 26 = .ok (.istore 5, 2) := by decide +kernel
theorem dX11_truth_28 : decode cX11_truth 28 = .ok (.iload 5, 2) := by decide +kernel
theorem dX11_truth_30 : decode cX11_truth 30 = .ok (.sipush 256, 3) := by decide +kernel
theorem dX11_truth_33 : decode cX11_truth 33 = .ok (.if_icmp .ge 33, 3) := by decide +kernel
theorem dX11_truth_36 : decode cX11_truth 36 = .ok (.aload_n 0, 1) := by decide +kernel
theorem dX11_truth_37 : decode cX11_truth 37 = .ok (.iload 5, 2) := by decide +kernel
theorem dX11_truth_39 : decode cX11_truth 39 = .ok (.invokevirtual 209, 3) := by decide +kernel
theorem dX11_truth_42 : decode cX11_truth 42 = .ok (.ifCond .eq 18, 3) := by decide +kernel
theorem dX11_truth_45 : decode cX11_truth 45 = .ok (.iinc 2 1, 3) := by decide +kernel
theorem dX11_truth_48 : decode cX11_truth 48 = .ok (.iload_n 3, 1) := by decide +kernel
theorem dX11_truth_49 : decode cX11_truth 49 = .ok (.iload 5, 2) := by decide +kernel
theorem dX11_truth_51 : decode cX11_truth 51 = .ok (.iand, 1) := by decide +kernel
theorem dX11_truth_52 : decode cX11_truth 52 = .ok (.istore_n 3, 1) := by decide +kernel
theorem dX11_truth_53 : decode cX11_truth 53 = .ok (.iload 4, 2) := by decide +kernel
theorem dX11_truth_55 : decode cX11_truth 55 = .ok (.iload 5, 2) := by decide +kernel
theorem dX11_truth_57 : decode cX11_truth 57 = .ok (.ior, 1) := by decide +kernel
theorem dX11_truth_58 : decode cX11_truth 58 = .ok (.istore 4, 2) := by decide +kernel
theorem dX11_truth_60 : decode cX11_truth 60 = .ok (.iinc 5 1, 3) := by decide +kernel
theorem dX11_truth_63 : decode cX11_truth 63 = .ok (.goto (-35), 3) := by decide +kernel
theorem dX11_truth_66 : decode cX11_truth 66 = .ok (.iload_n 1, 1) := by decide +kernel
theorem dX11_truth_67 : decode cX11_truth 67 = .ok (.ifCond .ne 7, 3) := by decide +kernel
theorem dX11_truth_70 : decode cX11_truth 70 = .ok (.iload_n 2, 1) := by decide +kernel
theorem dX11_truth_71 : decode cX11_truth 71 = .ok (.goto 22, 3) := by decide +kernel
theorem dX11_truth_74 : decode cX11_truth 74 = .ok (.iload_n 1, 1) := by decide +kernel
theorem dX11_truth_75 : decode cX11_truth 75 = .ok (.iconst 2, 1) := by decide +kernel
theorem dX11_truth_76 : decode cX11_truth 76 = .ok (.if_icmp .ne 8, 3) := by decide +kernel
theorem dX11_truth_79 : decode cX11_truth 79 = .ok (.iload 4, 2) := by decide +kernel
theorem dX11_truth_81 : decode cX11_truth 81 = .ok (.goto 12, 3) := by decide +kernel
theorem dX11_truth_84 : decode cX11_truth 84 = .ok (.iload_n 2, 1) := by decide +kernel
theorem dX11_truth_85 : decode cX11_truth 85 = .ok (.ifCond .ne 7, 3) := by decide +kernel
theorem dX11_truth_88 : decode cX11_truth 88 = .ok (.iconst (-1), 1) := by decide +kernel
theorem dX11_truth_89 : decode cX11_truth 89 = .ok (.goto 4, 3) := by decide +kernel
theorem dX11_truth_92 : decode cX11_truth 92 = .ok (.iload_n 3, 1) := by decide +kernel
theorem dX11_truth_93 : decode cX11_truth 93 = .ok (.ireturn, 1) := by decide +kernel
theorem dX11_tellPart_0 : decode cX11_tellPart 0 = .ok (.lload_n 1, 1) := by decide +kernel
theorem dX11_tellPart_1 : decode cX11_tellPart 1 = .ok (.lstore 5, 2) := by decide +kernel
theorem dX11_tellPart_3 : decode cX11_tellPart 3 = .ok (.lload_n 3, 1) := by decide +kernel
theorem dX11_tellPart_4 : decode cX11_tellPart 4 = .ok (.lstore 7, 2) := by decide +kernel
theorem dX11_tellPart_6 : decode cX11_tellPart 6 = .ok (.lload 7, 2) := by decide +kernel
theorem dX11_tellPart_8 : decode cX11_tellPart 8 = .ok (.lconst 0, 1) := by decide +kernel
theorem dX11_tellPart_9 : decode cX11_tellPart 9 = .ok (.lcmp, 1) := by decide +kernel
theorem dX11_tellPart_10 : decode cX11_tellPart 10 = .ok (.ifCond .eq 21, 3) := by decide +kernel
theorem dX11_tellPart_13 : decode cX11_tellPart 13 = .ok (.lload 5, 2) := by decide +kernel
theorem dX11_tellPart_15 : decode cX11_tellPart 15 = .ok (.lload 7, 2) := by decide +kernel
theorem dX11_tellPart_17 : decode cX11_tellPart 17 = .ok (.lrem, 1) := by decide +kernel
theorem dX11_tellPart_18 : decode cX11_tellPart 18 = .ok (.lstore 9, 2) := by decide +kernel
theorem dX11_tellPart_20 : decode cX11_tellPart 20 = .ok (.lload 7, 2) := by decide +kernel
theorem dX11_tellPart_22 : decode cX11_tellPart 22 = .ok (.lstore 5, 2) := by decide +kernel
theorem dX11_tellPart_24 : decode cX11_tellPart 24 = .ok (.lload 9, 2) := by decide +kernel
theorem dX11_tellPart_26 : decode cX11_tellPart 26 = .ok (.lstore 7, 2) := by decide +kernel
theorem dX11_tellPart_28 : decode cX11_tellPart 28 = .ok (.goto (-22), 3) := by decide +kernel
theorem dX11_tellPart_31 : decode cX11_tellPart 31 = .ok (.aload_n 0, 1) := by decide +kernel
theorem dX11_tellPart_32 : decode cX11_tellPart 32 = .ok (.lload_n 1, 1) := by decide +kernel
theorem dX11_tellPart_33 : decode cX11_tellPart 33 = .ok (.lload 5, 2) := by decide +kernel
theorem dX11_tellPart_35 : decode cX11_tellPart 35 = .ok (.ldiv, 1) := by decide +kernel
theorem dX11_tellPart_36 : decode cX11_tellPart 36 = .ok (.putfield 212, 3) := by decide +kernel
theorem dX11_tellPart_39 : decode cX11_tellPart 39 = .ok (.aload_n 0, 1) := by decide +kernel
theorem dX11_tellPart_40 : decode cX11_tellPart 40 = .ok (.lload_n 3, 1) := by decide +kernel
theorem dX11_tellPart_41 : decode cX11_tellPart 41 = .ok (.lload 5, 2) := by decide +kernel
theorem dX11_tellPart_43 : decode cX11_tellPart 43 = .ok (.ldiv, 1) := by decide +kernel
theorem dX11_tellPart_44 : decode cX11_tellPart 44 = .ok (.putfield 20, 3) := by decide +kernel
theorem dX11_tellPart_47 : decode cX11_tellPart 47 = .ok (.return_, 1) := by decide +kernel
theorem dX11_odds_0 : decode cX11_odds 0 = .ok (.aload_n 0, 1) := by decide +kernel
theorem dX11_odds_1 : decode cX11_odds 1 = .ok (.iload_n 1, 1) := by decide +kernel
theorem dX11_odds_2 : decode cX11_odds 2 = .ok (.invokevirtual 184, 3) := by decide +kernel
theorem dX11_odds_5 : decode cX11_odds 5 = .ok (.ifCond .eq 13, 3) := by decide +kernel
theorem dX11_odds_8 : decode cX11_odds 8 = .ok (.iload_n 2, 1) := by decide +kernel
theorem dX11_odds_9 : decode cX11_odds 9 = .ok (.iconst 0, 1) := by decide +kernel
theorem dX11_odds_10 : decode cX11_odds 10 = .ok (.bipush 10, 2) := by decide +kernel
theorem dX11_odds_12 : decode cX11_odds 12 = .ok (.invokestatic 52, 3) := by decide +kernel
theorem dX11_odds_15 : decode cX11_odds 15 = .ok (.ifCond .ne 10, 3) := by decide +kernel
theorem dX11_odds_18 : decode cX11_odds 18 = .ok (.aload_n 0, 1) := by decide +kernel
theorem dX11_odds_19 : decode cX11_odds 19 = .ok (.bipush (-2), 2) := by decide +kernel
theorem dX11_odds_21 : decode cX11_odds 21 = .ok (.invokevirtual 48, 3) := by decide +kernel
theorem dX11_odds_24 : decode cX11_odds 24 = .ok (.ireturn, 1) := by decide +kernel
theorem dX11_odds_25 : decode cX11_odds 25 = .ok (.lconst 0, 1) := by decide +kernel
theorem dX11_odds_26 : decode cX11_odds 26 = .ok (.lstore_n 3, 1) := by decide +kernel
theorem dX11_odds_27 : decode cX11_odds 27 = .ok (.lconst 0, 1) := by decide +kernel
theorem dX11_odds_28 : decode cX11_odds 28 = .ok (.lstore 5, 2) := by decide +kernel
theorem dX11_odds_30 : decode cX11_odds 30 = .ok (.iconst 0, 1) := by decide +kernel
theorem dX11_odds_31 : decode cX11_odds 31 = .ok (.istore 7, 2) := by decide +kernel
theorem dX11_odds_33 : decode cX11_odds 33 = .ok (.iload 7, 2) := by decide +kernel
theorem dX11_odds_35 : decode cX11_odds 35 = .ok (.bipush 64, 2) := by decide +kernel
theorem dX11_odds_37 : decode cX11_odds 37 = .ok (.if_icmp .ge 167, 3) := by decide +kernel
theorem dX11_odds_40 : decode cX11_odds 40 = .ok (.iload 7, 2) := by decide +kernel
theorem dX11_odds_42 : decode cX11_odds 42 = .ok (.aload_n 0, 1) := by decide +kernel
theorem dX11_odds_43 : decode cX11_odds 43 = .ok (.getfield 7, 3) := by decide +kernel
theorem dX11_odds_46 : decode cX11_odds 46 = .ok (.iconst 0, 1) := by decide +kernel
theorem dX11_odds_47 : decode cX11_odds 47 = .ok (.iaload, 1) := by decide +kernel
theorem dX11_odds_48 : decode cX11_odds 48 = .ok (.iconst (-1), 1) := by decide +kernel
theorem dX11_odds_49 : decode cX11_odds 49 = .ok (.ixor, 1) := by decide +kernel
theorem dX11_odds_50 : decode cX11_odds 50 = .ok (.iand, 1) := by decide +kernel
theorem dX11_odds_51 : decode cX11_odds 51 = .ok (.ifCond .ne 7, 3) := by decide +kernel
theorem dX11_odds_54 : decode cX11_odds 54 = .ok (.lconst 1, 1) := by decide +kernel
theorem dX11_odds_55 : decode cX11_odds 55 = .ok (.goto 4, 3) := by decide +kernel
theorem dX11_odds_58 : decode cX11_odds 58 = .ok (.lconst 0, 1) := by decide +kernel
theorem dX11_odds_59 : decode cX11_odds 59 = .ok (.lstore 8, 2) := by decide +kernel
theorem dX11_odds_61 : decode cX11_odds 61 = .ok (.iconst 0, 1) := by decide +kernel
theorem dX11_odds_62 : decode cX11_odds 62 = .ok (.istore 10, 2) := by decide +kernel
theorem dX11_odds_64 : decode cX11_odds 64 = .ok (.iload 10, 2) := by decide +kernel
theorem dX11_odds_66 : decode cX11_odds 66 = .ok (.aload_n 0, 1) := by decide +kernel
theorem dX11_odds_67 : decode cX11_odds 67 = .ok (.getfield 7, 3) := by decide +kernel
theorem dX11_odds_70 : decode cX11_odds 70 = .ok (.iconst 4, 1) := by decide +kernel
theorem dX11_odds_71 : decode cX11_odds 71 = .ok (.iaload, 1) := by decide +kernel
theorem dX11_odds_72 : decode cX11_odds 72 = .ok (.if_icmp .ge 87, 3) := by decide +kernel
theorem dX11_odds_75 : decode cX11_odds 75 = .ok (.aload_n 0, 1) := by decide +kernel
theorem dX11_odds_76 : decode cX11_odds 76 = .ok (.getfield 7, 3) := by decide +kernel
theorem dX11_odds_79 : decode cX11_odds 79 = .ok (.iconst 0, 1) := by decide +kernel
theorem dX11_odds_80 : decode cX11_odds 80 = .ok (.iaload, 1) := by decide +kernel
theorem dX11_odds_81 : decode cX11_odds 81 = .ok (.iload 10, 2) := by decide +kernel
theorem dX11_odds_83 : decode cX11_odds 83 = .ok (.invokestatic 124, 3) := by decide +kernel
theorem dX11_odds_86 : decode cX11_odds 86 = .ok (.ifCond .eq 16, 3) := by decide +kernel
theorem dX11_odds_89 : decode cX11_odds 89 = .ok (.aload_n 0, 1) := by decide +kernel
theorem dX11_odds_90 : decode cX11_odds 90 = .ok (.iload 10, 2) := by decide +kernel
theorem dX11_odds_92 : decode cX11_odds 92 = .ok (.invokevirtual 153, 3) := by decide +kernel
theorem dX11_odds_95 : decode cX11_odds 95 = .ok (.ifCond .eq 7, 3) := by decide +kernel
theorem dX11_odds_98 : decode cX11_odds 98 = .ok (.iconst 1, 1) := by decide +kernel
theorem dX11_odds_99 : decode cX11_odds 99 = .ok (.goto 4, 3) := by decide +kernel
theorem dX11_odds_102 : decode cX11_odds 102 = .ok (.iconst 0, 1) := by decide +kernel
theorem dX11_odds_103 : decode cX11_odds 103 = .ok (.istore 11, 2) := by decide +kernel
theorem dX11_odds_105 : decode cX11_odds 105 = .ok (.lload 8, 2) := by decide +kernel
theorem dX11_odds_107 : decode cX11_odds 107 = .ok (.iload 11, 2) := by decide +kernel
theorem dX11_odds_109 : decode cX11_odds 109 = .ok (.ifCond .eq 26, 3) := by decide +kernel
theorem dX11_odds_112 : decode cX11_odds 112 = .ok (.iload 7, 2) := by decide +kernel
theorem dX11_odds_114 : decode cX11_odds 114 = .ok (.iload 10, 2) := by decide +kernel
theorem dX11_odds_116 : decode cX11_odds 116 = .ok (.invokestatic 124, 3) := by decide +kernel
theorem dX11_odds_119 : decode cX11_odds 119 = .ok (.ifCond .eq 8, 3) := by decide +kernel
theorem dX11_odds_122 : decode cX11_odds 122 = .ok (.iload_n 2, 1) := by decide +kernel
theorem dX11_odds_123 : decode cX11_odds 123 = .ok (.i2l, 1) := by decide +kernel
theorem dX11_odds_124 : decode cX11_odds 124 = .ok (.goto 26, 3) := by decide +kernel
theorem dX11_odds_127 : decode cX11_odds 127 = .ok (.bipush 10, 2) := by decide +kernel
theorem dX11_odds_129 : decode cX11_odds 129 = .ok (.iload_n 2, 1) := by decide +kernel
theorem dX11_odds_130 : decode cX11_odds 130 = .ok (.isub, 1) := by decide +kernel
theorem dX11_odds_131 : decode cX11_odds 131 = .ok (.i2l, 1) := by decide +kernel
theorem dX11_odds_132 : decode cX11_odds 132 = .ok (.goto 18, 3) := by decide +kernel
theorem dX11_odds_135 : decode cX11_odds 135 = .ok (.iload 7, 2) := by decide +kernel
theorem dX11_odds_137 : decode cX11_odds 137 = .ok (.iload 10, 2) := by decide +kernel
theorem dX11_odds_139 : decode cX11_odds 139 = .ok (.invokestatic 124, 3) := by decide +kernel
theorem dX11_odds_142 : decode cX11_odds 142 = .ok (.ifCond .eq 7, 3) := by decide +kernel
theorem dX11_odds_145 : decode cX11_odds 145 = .ok (.lconst 0, 1) := by decide +kernel
theorem dX11_odds_146 : decode cX11_odds 146 = .ok (.goto 4, 3) := by decide +kernel
theorem dX11_odds_149 : decode cX11_odds 149 = .ok (.lconst 1, 1) := by decide +kernel
theorem dX11_odds_150 : decode cX11_odds 150 = .ok (.lmul, 1) := by decide +kernel
theorem dX11_odds_151 : decode cX11_odds 151 = .ok (.lstore 8, 2) := by decide +kernel
theorem dX11_odds_153 : decode cX11_odds 153 = .ok (.iinc 10 1, 3) := by decide +kernel
theorem dX11_odds_156 : decode cX11_odds 156 = .ok (.goto (-92), 3) := by decide +kernel
theorem dX11_odds_159 : decode cX11_odds 159 = .ok (.lload_n 3, 1) := by decide +kernel
theorem dX11_odds_160 : decode cX11_odds 160 = .ok (.aload_n 0, 1) := by decide +kernel
theorem dX11_odds_161 : decode cX11_odds 161 = .ok (.iload_n 1, 1) := by decide +kernel
theorem dX11_odds_162 : decode cX11_odds 162 = .ok (.aload_n 0, 1) := by decide +kernel
theorem dX11_odds_163 : decode cX11_odds 163 = .ok (.aload_n 0, 1) := by decide +kernel
theorem dX11_odds_164 : decode cX11_odds 164 = .ok (.getfield 7, 3) := by decide +kernel
theorem dX11_odds_167 : decode cX11_odds 167 = .ok (.iconst 0, 1) := by decide +kernel
theorem dX11_odds_168 : decode cX11_odds 168 = .ok (.iaload, 1) := by decide +kernel
theorem dX11_odds_169 : decode cX11_odds 169 = .ok (.iload 7, 2) := by decide +kernel
theorem dX11_odds_171 : decode cX11_odds 171 = .ok (.iconst (-1), 1) := by decide +kernel
theorem dX11_odds_172 : decode cX11_odds 172 = .ok (.ixor, 1) := by decide +kernel
theorem dX11_odds_173 : decode cX11_odds 173 = .ok (.iand, 1) := by decide +kernel
theorem dX11_odds_174 : decode cX11_odds 174 = .ok (.invokevirtual 135, 3) := by decide +kernel
theorem dX11_odds_177 : decode cX11_odds 177 = .ok (.invokevirtual 162, 3) := by decide +kernel
theorem dX11_odds_180 : decode cX11_odds 180 = .ok (.ifCond .eq 8, 3) := by decide +kernel
theorem dX11_odds_183 : decode cX11_odds 183 = .ok (.lload 8, 2) := by decide +kernel
theorem dX11_odds_185 : decode cX11_odds 185 = .ok (.goto 4, 3) := by decide +kernel
theorem dX11_odds_188 : decode cX11_odds 188 = .ok (.lconst 0, 1) := by decide +kernel
theorem dX11_odds_189 : decode cX11_odds 189 = .ok (.ladd, 1) := by decide +kernel
theorem dX11_odds_190 : decode cX11_odds 190 = .ok (.lstore_n 3, 1) := by decide +kernel
theorem dX11_odds_191 : decode cX11_odds 191 = .ok (.lload 5, 2) := by decide +kernel
theorem dX11_odds_193 : decode cX11_odds 193 = .ok (.lload 8, 2) := by decide +kernel
theorem dX11_odds_195 : decode cX11_odds 195 = .ok (.ladd, 1) := by decide +kernel
theorem dX11_odds_196 : decode cX11_odds 196 = .ok (.lstore 5, 2) := by decide +kernel
theorem dX11_odds_198 : decode cX11_odds 198 = .ok (.iinc 7 1, 3) := by decide +kernel
theorem dX11_odds_201 : decode cX11_odds 201 = .ok (.goto (-168), 3) := by decide +kernel
theorem dX11_odds_204 : decode cX11_odds 204 = .ok (.aload_n 0, 1) := by decide +kernel
theorem dX11_odds_205 : decode cX11_odds 205 = .ok (.lload_n 3, 1) := by decide +kernel
theorem dX11_odds_206 : decode cX11_odds 206 = .ok (.lload 5, 2) := by decide +kernel
theorem dX11_odds_208 : decode cX11_odds 208 = .ok (.invokevirtual 215, 3) := by decide +kernel
theorem dX11_odds_211 : decode cX11_odds 211 = .ok (.iconst 1, 1) := by decide +kernel
theorem dX11_odds_212 : decode cX11_odds 212 = .ok (.ireturn, 1) := by decide +kernel
theorem dX11_terms_0 : decode cX11_terms 0 = .ok (.iload_n 1, 1) := by decide +kernel
theorem dX11_terms_1 : decode cX11_terms 1 = .ok (.iconst 0, 1) := by decide +kernel
theorem dX11_terms_2 : decode cX11_terms 2 = .ok (.ldc 219, 2) := by decide +kernel
theorem dX11_terms_4 : decode cX11_terms 4 = .ok (.invokestatic 52, 3) := by decide +kernel
theorem dX11_terms_7 : decode cX11_terms 7 = .ok (.ifCond .eq 13, 3) := by decide +kernel
theorem dX11_terms_10 : decode cX11_terms 10 = .ok (.iload_n 2, 1) := by decide +kernel
theorem dX11_terms_11 : decode cX11_terms 11 = .ok (.iconst 0, 1) := by decide +kernel
theorem dX11_terms_12 : decode cX11_terms 12 = .ok (.bipush 60, 2) := by decide +kernel
theorem dX11_terms_14 : decode cX11_terms 14 = .ok (.invokestatic 52, 3) := by decide +kernel
theorem dX11_terms_17 : decode cX11_terms 17 = .ok (.ifCond .ne 10, 3) := by decide +kernel
theorem dX11_terms_20 : decode cX11_terms 20 = .ok (.aload_n 0, 1) := by decide +kernel
theorem dX11_terms_21 : decode cX11_terms 21 = .ok (.bipush (-2), 2) := by decide +kernel
theorem dX11_terms_23 : decode cX11_terms 23 = .ok (.invokevirtual 48, 3) := by decide +kernel
theorem dX11_terms_26 : decode cX11_terms 26 = .ok (.ireturn, 1) := by decide +kernel
theorem dX11_terms_27 : decode cX11_terms 27 = .ok (.iconst 0, 1) := by decide +kernel
theorem dX11_terms_28 : decode cX11_terms 28 = .ok (.istore_n 3, 1) := by decide +kernel
theorem dX11_terms_29 : decode cX11_terms 29 = .ok (.iload_n 3, 1) := by decide +kernel
theorem dX11_terms_30 : decode cX11_terms 30 = .ok (.iconst 3, 1) := by decide +kernel
theorem dX11_terms_31 : decode cX11_terms 31 = .ok (.if_icmp .ge 25, 3) := by decide +kernel
theorem dX11_terms_34 : decode cX11_terms 34 = .ok (.aload_n 0, 1) := by decide +kernel
theorem dX11_terms_35 : decode cX11_terms 35 = .ok (.getfield 7, 3) := by decide +kernel
theorem dX11_terms_38 : decode cX11_terms 38 = .ok (.sipush 285, 3) := by decide +kernel
theorem dX11_terms_41 : decode cX11_terms 41 = .ok (.iload_n 3, 1) := by decide +kernel
theorem dX11_terms_42 : decode cX11_terms 42 = .ok (.iadd, 1) := by decide +kernel
theorem dX11_terms_43 : decode cX11_terms 43 = .ok (.aload_n 0, 1) := by decide +kernel
theorem dX11_terms_44 : decode cX11_terms 44 = .ok (.getfield 7, 3) := by decide +kernel
theorem dX11_terms_47 : decode cX11_terms 47 = .ok (.iload_n 3, 1) := by decide +kernel
theorem dX11_terms_48 : decode cX11_terms 48 = .ok (.iaload, 1) := by decide +kernel
theorem dX11_terms_49 : decode cX11_terms 49 = .ok (.iastore, 1) := by decide +kernel
theorem dX11_terms_50 : decode cX11_terms 50 = .ok (.iinc 3 1, 3) := by decide +kernel
theorem dX11_terms_53 : decode cX11_terms 53 = .ok (.goto (-24), 3) := by decide +kernel
theorem dX11_terms_56 : decode cX11_terms 56 = .ok (.iload_n 1, 1) := by decide +kernel
theorem dX11_terms_57 : decode cX11_terms 57 = .ok (.i2l, 1) := by decide +kernel
theorem dX11_terms_58 : decode cX11_terms 58 = .ok (.lstore_n 3, 1) := by decide +kernel
theorem dX11_terms_59 : decode cX11_terms 59 = .ok (.iconst 0, 1) := by decide +kernel
theorem dX11_terms_60 : decode cX11_terms 60 = .ok (.istore 5, 2) := by decide +kernel
theorem dX11_terms_62 : decode cX11_terms 62 = .ok (.iload 5, 2) := by decide +kernel
theorem dX11_terms_64 : decode cX11_terms 64 = .ok (.iload_n 2, 1) := by decide +kernel
theorem dX11_terms_65 : decode cX11_terms 65 = .ok (.if_icmp .ge 107, 3) := by decide +kernel
theorem dX11_terms_68 : decode cX11_terms 68 = .ok (.lload_n 3, 1) := by decide +kernel
theorem dX11_terms_69 : decode cX11_terms 69 = .ok (.ldc2_w 220, 3) := by decide +kernel
theorem dX11_terms_72 : decode cX11_terms 72 = .ok (.lmul, 1) := by decide +kernel
theorem dX11_terms_73 : decode cX11_terms 73 = .ok (.ldc2_w 222, 3) := by decide +kernel
theorem dX11_terms_76 : decode cX11_terms 76 = .ok (.ladd, 1) := by decide +kernel
theorem dX11_terms_77 : decode cX11_terms 77 = .ok (.ldc2_w 224, 3) := by decide +kernel
theorem dX11_terms_80 : decode cX11_terms 80 = .ok (.lrem, 1) := by decide +kernel
theorem dX11_terms_81 : decode cX11_terms 81 = .ok (.lstore_n 3, 1) := by decide +kernel
theorem dX11_terms_82 : decode cX11_terms 82 = .ok (.lload_n 3, 1) := by decide +kernel
theorem dX11_terms_83 : decode cX11_terms 83 = .ok (.ldc2_w 226, 3) := by decide +kernel
theorem dX11_terms_86 : decode cX11_terms 86 = .ok (.ldiv, 1) := by decide +kernel
theorem dX11_terms_87 : decode cX11_terms 87 = .ok (.ldc2_w 228, 3) := by decide +kernel
theorem dX11_terms_90 : decode cX11_terms 90 = .ok (.lrem, 1) := by decide +kernel
theorem dX11_terms_91 : decode cX11_terms 91 = .ok (.l2i, 1) := by decide +kernel
theorem dX11_terms_92 : decode cX11_terms 92 = .ok (.istore 6, 2) := by decide +kernel
theorem dX11_terms_94 : decode cX11_terms 94 = .ok (.aload_n 0, 1) := by decide +kernel
theorem dX11_terms_95 : decode cX11_terms 95 = .ok (.iload 6, 2) := by decide +kernel
theorem dX11_terms_97 : decode cX11_terms 97 = .ok (.invokevirtual 141, 3) := by decide +kernel
theorem dX11_terms_100 : decode cX11_terms 100 = .ok (.ifCond .eq 40, 3) := by decide +kernel
theorem dX11_terms_103 : decode cX11_terms 103 = .ok (.aload_n 0, 1) := by decide +kernel
theorem dX11_terms_104 : decode cX11_terms 104 = .ok (.iload 6, 2) := by decide +kernel
theorem dX11_terms_106 : decode cX11_terms 106 = .ok (.aload_n 0, 1) := by decide +kernel
theorem dX11_terms_107 : decode cX11_terms 107 = .ok (.getfield 7, 3) := by decide +kernel
theorem dX11_terms_110 : decode cX11_terms 110 = .ok (.sipush 285, 3) := by decide +kernel
theorem dX11_terms_113 : decode cX11_terms 113 = .ok (.iaload, 1) := by decide +kernel
theorem dX11_terms_114 : decode cX11_terms 114 = .ok (.aload_n 0, 1) := by decide +kernel
theorem dX11_terms_115 : decode cX11_terms 115 = .ok (.getfield 7, 3) := by decide +kernel
theorem dX11_terms_118 : decode cX11_terms 118 = .ok (.sipush 286, 3) := by decide +kernel
theorem dX11_terms_121 : decode cX11_terms 121 = .ok (.iaload, 1) := by decide +kernel
theorem dX11_terms_122 : decode cX11_terms 122 = .ok (.invokevirtual 144, 3) := by decide +kernel
theorem dX11_terms_125 : decode cX11_terms 125 = .ok (.ifCond .eq 15, 3) := by decide +kernel
theorem dX11_terms_128 : decode cX11_terms 128 = .ok (.aload_n 0, 1) := by decide +kernel
theorem dX11_terms_129 : decode cX11_terms 129 = .ok (.sipush 285, 3) := by decide +kernel
theorem dX11_terms_132 : decode cX11_terms 132 = .ok (.iload 6, 2) := by decide +kernel
theorem dX11_terms_134 : decode cX11_terms 134 = .ok (.invokevirtual 150, 3) := by decide +kernel
theorem dX11_terms_137 : decode cX11_terms 137 = .ok (.goto 29, 3) := by decide +kernel
theorem dX11_terms_140 : decode cX11_terms 140 = .ok (.aload_n 0, 1) := by decide +kernel
theorem dX11_terms_141 : decode cX11_terms 141 = .ok (.getfield 7, 3) := by decide +kernel
theorem dX11_terms_144 : decode cX11_terms 144 = .ok (.sipush 285, 3) := by decide +kernel
theorem dX11_terms_147 : decode cX11_terms 147 = .ok (.iaload, 1) := by decide +kernel
theorem dX11_terms_148 : decode cX11_terms 148 = .ok (.iload 6, 2) := by decide +kernel
theorem dX11_terms_150 : decode cX11_terms 150 = .ok (.invokestatic 124, 3) := by decide +kernel
theorem dX11_terms_153 : decode cX11_terms 153 = .ok (.ifCond .eq 13, 3) := by decide +kernel
theorem dX11_terms_156 : decode cX11_terms 156 = .ok (.aload_n 0, 1) := by decide +kernel
theorem dX11_terms_157 : decode cX11_terms 157 = .ok (.sipush 285, 3) := by decide +kernel
theorem dX11_terms_160 : decode cX11_terms 160 = .ok (.iload 6, 2) := by decide +kernel
theorem dX11_terms_162 : decode cX11_terms 162 = .ok (.invokevirtual 156, 3) := by decide +kernel
theorem dX11_terms_165 : decode cX11_terms 165 = .ok (.pop, 1) := by decide +kernel
theorem dX11_terms_166 : decode cX11_terms 166 = .ok (.iinc 5 1, 3) := by decide +kernel
theorem dX11_terms_169 : decode cX11_terms 169 = .ok (.goto (-107), 3) := by decide +kernel
theorem dX11_terms_172 : decode cX11_terms 172 = .ok (.aload_n 0, 1) := by decide +kernel
theorem dX11_terms_173 : decode cX11_terms 173 = .ok (.aload_n 0, 1) := by decide +kernel
theorem dX11_terms_174 : decode cX11_terms 174 = .ok (.getfield 7, 3) := by decide +kernel
theorem dX11_terms_177 : decode cX11_terms 177 = .ok (.sipush 285, 3) := by decide +kernel
theorem dX11_terms_180 : decode cX11_terms 180 = .ok (.iaload, 1) := by decide +kernel
theorem dX11_terms_181 : decode cX11_terms 181 = .ok (.invokevirtual 165, 3) := by decide +kernel
theorem dX11_terms_184 : decode cX11_terms 184 = .ok (.invokestatic 132, 3) := by decide +kernel
theorem dX11_terms_187 : decode cX11_terms 187 = .ok (.ireturn, 1) := by decide +kernel
theorem dX11_part_0 : decode cX11_part 0 = .ok (.iload_n 1, 1) := by decide +kernel
theorem dX11_part_1 : decode cX11_part 1 = .ok (.ifCond .ne 10, 3) := by decide +kernel
theorem dX11_part_4 : decode cX11_part 4 = .ok (.aload_n 0, 1) := by decide +kernel
theorem dX11_part_5 : decode cX11_part 5 = .ok (.getfield 212, 3) := by decide +kernel
theorem dX11_part_8 : decode cX11_part 8 = .ok (.goto 22, 3) := by decide +kernel
theorem dX11_part_11 : decode cX11_part 11 = .ok (.iload_n 1, 1) := by decide +kernel
theorem dX11_part_12 : decode cX11_part 12 = .ok (.iconst 1, 1) := by decide +kernel
theorem dX11_part_13 : decode cX11_part 13 = .ok (.if_icmp .ne 10, 3) := by decide +kernel
theorem dX11_part_16 : decode cX11_part 16 = .ok (.aload_n 0, 1) := by decide +kernel
theorem dX11_part_17 : decode cX11_part 17 = .ok (.getfield 20, 3) := by decide +kernel
theorem dX11_part_20 : decode cX11_part 20 = .ok (.goto 10, 3) := by decide +kernel
theorem dX11_part_23 : decode cX11_part 23 = .ok (.aload_n 0, 1) := by decide +kernel
theorem dX11_part_24 : decode cX11_part 24 = .ok (.bipush (-2), 2) := by decide +kernel
theorem dX11_part_26 : decode cX11_part 26 = .ok (.invokevirtual 48, 3) := by decide +kernel
theorem dX11_part_29 : decode cX11_part 29 = .ok (.i2l, 1) := by decide +kernel
theorem dX11_part_30 : decode cX11_part 30 = .ok (.lreturn, 1) := by decide +kernel
theorem dX11_image_0 : decode cX11_image 0 = .ok (.iload_n 1, 1) := by decide +kernel
theorem dX11_image_1 : decode cX11_image 1 = .ok (.iconst 0, 1) := by decide +kernel
theorem dX11_image_2 : decode cX11_image 2 = .ok (.iconst 1, 1) := by decide +kernel
theorem dX11_image_3 : decode cX11_image 3 = .ok (.invokestatic 52, 3) := by decide +kernel
theorem dX11_image_6 : decode cX11_image 6 = .ok (.ifCond .ne 10, 3) := by decide +kernel
theorem dX11_image_9 : decode cX11_image 9 = .ok (.aload_n 0, 1) := by decide +kernel
theorem dX11_image_10 : decode cX11_image 10 = .ok (.bipush (-2), 2) := by decide +kernel
theorem dX11_image_12 : decode cX11_image 12 = .ok (.invokevirtual 48, 3) := by decide +kernel
theorem dX11_image_15 : decode cX11_image 15 = .ok (.ireturn, 1) := by decide +kernel
theorem dX11_image_16 : decode cX11_image 16 = .ok (.iconst 0, 1) := by decide +kernel
theorem dX11_image_17 : decode cX11_image 17 = .ok (.istore_n 2, 1) := by decide +kernel
theorem dX11_image_18 : decode cX11_image 18 = .ok (.iload_n 2, 1) := by decide +kernel
theorem dX11_image_19 : decode cX11_image 19 = .ok (.bipush 95, 2) := by decide +kernel
theorem dX11_image_21 : decode cX11_image 21 = .ok (.if_icmp .ge 29, 3) := by decide +kernel
theorem dX11_image_24 : decode cX11_image 24 = .ok (.aload_n 0, 1) := by decide +kernel
theorem dX11_image_25 : decode cX11_image 25 = .ok (.getfield 7, 3) := by decide +kernel
theorem dX11_image_28 : decode cX11_image 28 = .ok (.bipush 95, 2) := by decide +kernel
theorem dX11_image_30 : decode cX11_image 30 = .ok (.bipush 95, 2) := by decide +kernel
theorem dX11_image_32 : decode cX11_image 32 = .ok (.iload_n 1, 1) := by decide +kernel
theorem dX11_image_33 : decode cX11_image 33 = .ok (.imul, 1) := by decide +kernel
theorem dX11_image_34 : decode cX11_image 34 = .ok (.iadd, 1) := by decide +kernel
theorem dX11_image_35 : decode cX11_image 35 = .ok (.iload_n 2, 1) := by decide +kernel
theorem dX11_image_36 : decode cX11_image 36 = .ok (.iadd, 1) := by decide +kernel
theorem dX11_image_37 : decode cX11_image 37 = .ok (.aload_n 0, 1) := by decide +kernel
theorem dX11_image_38 : decode cX11_image 38 = .ok (.getfield 7, 3) := by decide +kernel
theorem dX11_image_41 : decode cX11_image 41 = .ok (.iload_n 2, 1) := by decide +kernel
theorem dX11_image_42 : decode cX11_image 42 = .ok (.iaload, 1) := by decide +kernel
theorem dX11_image_43 : decode cX11_image 43 = .ok (.iastore, 1) := by decide +kernel
theorem dX11_image_44 : decode cX11_image 44 = .ok (.iinc 2 1, 3) := by decide +kernel
theorem dX11_image_47 : decode cX11_image 47 = .ok (.goto (-29), 3) := by decide +kernel
theorem dX11_image_50 : decode cX11_image 50 = .ok (.aload_n 0, 1) := by decide +kernel
theorem dX11_image_51 : decode cX11_image 51 = .ok (.getfield 13, 3) := by decide +kernel
theorem dX11_image_54 : decode cX11_image 54 = .ok (.iload_n 1, 1) := by decide +kernel
theorem dX11_image_55 : decode cX11_image 55 = .ok (.iconst 1, 1) := by decide +kernel
theorem dX11_image_56 : decode cX11_image 56 = .ok (.bastore, 1) := by decide +kernel
theorem dX11_image_57 : decode cX11_image 57 = .ok (.iconst 1, 1) := by decide +kernel
theorem dX11_image_58 : decode cX11_image 58 = .ok (.ireturn, 1) := by decide +kernel
theorem dX11_from_0 : decode cX11_from 0 = .ok (.iload_n 1, 1) := by decide +kernel
theorem dX11_from_1 : decode cX11_from 1 = .ok (.iconst 0, 1) := by decide +kernel
theorem dX11_from_2 : decode cX11_from 2 = .ok (.iconst 1, 1) := by decide +kernel
theorem dX11_from_3 : decode cX11_from 3 = .ok (.invokestatic 52, 3) := by decide +kernel
theorem dX11_from_6 : decode cX11_from 6 = .ok (.ifCond .ne 10, 3) := by decide +kernel
theorem dX11_from_9 : decode cX11_from 9 = .ok (.aload_n 0, 1) := by decide +kernel
theorem dX11_from_10 : decode cX11_from 10 = .ok (.bipush (-2), 2) := by decide +kernel
theorem dX11_from_12 : decode cX11_from 12 = .ok (.invokevirtual 48, 3) := by decide +kernel
theorem dX11_from_15 : decode cX11_from 15 = .ok (.ireturn, 1) := by decide +kernel
theorem dX11_from_16 : decode cX11_from 16 = .ok (.aload_n 0, 1) := by decide +kernel
theorem dX11_from_17 : decode cX11_from 17 = .ok (.getfield 13, 3) := by decide +kernel
theorem dX11_from_20 : decode cX11_from 20 = .ok (.iload_n 1, 1) := by decide +kernel
theorem dX11_from_21 : decode cX11_from 21 = .ok (.baload, 1) := by decide +kernel
theorem dX11_from_22 : decode cX11_from 22 = .ok (.ifCond .ne 10, 3) := by decide +kernel
theorem dX11_from_25 : decode cX11_from 25 = .ok (.aload_n 0, 1) := by decide +kernel
theorem dX11_from_26 : decode cX11_from 26 = .ok (.bipush (-3), 2) := by decide +kernel
theorem dX11_from_28 : decode cX11_from 28 = .ok (.invokevirtual 48, 3) := by decide +kernel
theorem dX11_from_31 : decode cX11_from 31 = .ok (.ireturn, 1) := by decide +kernel
theorem dX11_from_32 : decode cX11_from 32 = .ok (.iconst 0, 1) := by decide +kernel
theorem dX11_from_33 : decode cX11_from 33 = .ok (.istore_n 2, 1) := by decide +kernel
theorem dX11_from_34 : decode cX11_from 34 = .ok (.iload_n 2, 1) := by decide +kernel
theorem dX11_from_35 : decode cX11_from 35 = .ok (.bipush 95, 2) := by decide +kernel
theorem dX11_from_37 : decode cX11_from 37 = .ok (.if_icmp .ge 29, 3) := by decide +kernel
theorem dX11_from_40 : decode cX11_from 40 = .ok (.aload_n 0, 1) := by decide +kernel
theorem dX11_from_41 : decode cX11_from 41 = .ok (.getfield 7, 3) := by decide +kernel
theorem dX11_from_44 : decode cX11_from 44 = .ok (.iload_n 2, 1) := by decide +kernel
theorem dX11_from_45 : decode cX11_from 45 = .ok (.aload_n 0, 1) := by decide +kernel
theorem dX11_from_46 : decode cX11_from 46 = .ok (.getfield 7, 3) := by decide +kernel
theorem dX11_from_49 : decode cX11_from 49 = .ok (.bipush 95, 2) := by decide +kernel
theorem dX11_from_51 : decode cX11_from 51 = .ok (.bipush 95, 2) := by decide +kernel
theorem dX11_from_53 : decode cX11_from 53 = .ok (.iload_n 1, 1) := by decide +kernel
theorem dX11_from_54 : decode cX11_from 54 = .ok (.imul, 1) := by decide +kernel
theorem dX11_from_55 : decode cX11_from 55 = .ok (.iadd, 1) := by decide +kernel
theorem dX11_from_56 : decode cX11_from 56 = .ok (.iload_n 2, 1) := by decide +kernel
theorem dX11_from_57 : decode cX11_from 57 = .ok (.iadd, 1) := by decide +kernel
theorem dX11_from_58 : decode cX11_from 58 = .ok (.iaload, 1) := by decide +kernel
theorem dX11_from_59 : decode cX11_from 59 = .ok (.iastore, 1) := by decide +kernel
theorem dX11_from_60 : decode cX11_from 60 = .ok (.iinc 2 1, 3) := by decide +kernel
theorem dX11_from_63 : decode cX11_from 63 = .ok (.goto (-29), 3) := by decide +kernel
theorem dX11_from_66 : decode cX11_from 66 = .ok (.iconst 1, 1) := by decide +kernel
theorem dX11_from_67 : decode cX11_from 67 = .ok (.ireturn, 1) := by decide +kernel
theorem dX11_status_0 : decode cX11_status 0 = .ok (.iload_n 1, 1) := by decide +kernel
theorem dX11_status_1 : decode cX11_status 1 = .ok (.iconst 0, 1) := by decide +kernel
theorem dX11_status_2 : decode cX11_status 2 = .ok (.iconst 2, 1) := by decide +kernel
theorem dX11_status_3 : decode cX11_status 3 = .ok (.invokestatic 52, 3) := by decide +kernel
theorem dX11_status_6 : decode cX11_status 6 = .ok (.ifCond .ne 12, 3) := by decide +kernel
theorem dX11_status_9 : decode cX11_status 9 = .ok (.aload_n 0, 1) := by decide +kernel
theorem dX11_status_10 : decode cX11_status 10 = .ok (.bipush (-2), 2) := by decide +kernel
theorem dX11_status_12 : decode cX11_status 12 = .ok (.invokevirtual 48, 3) := by decide +kernel
theorem dX11_status_15 : decode cX11_status 15 = .ok (.pop, 1) := by decide +kernel
theorem dX11_status_16 : decode cX11_status 16 = .ok (.iconst (-1), 1) := by decide +kernel
theorem dX11_status_17 : decode cX11_status 17 = .ok (.ireturn, 1) := by decide +kernel
theorem dX11_status_18 : decode cX11_status 18 = .ok (.aload_n 0, 1) := by decide +kernel
theorem dX11_status_19 : decode cX11_status 19 = .ok (.getfield 17, 3) := by decide +kernel
theorem dX11_status_22 : decode cX11_status 22 = .ok (.iload_n 1, 1) := by decide +kernel
theorem dX11_status_23 : decode cX11_status 23 = .ok (.iaload, 1) := by decide +kernel
theorem dX11_status_24 : decode cX11_status 24 = .ok (.ireturn, 1) := by decide +kernel
theorem dX11_countOf_0 : decode cX11_countOf 0 = .ok (.iload_n 1, 1) := by decide +kernel
theorem dX11_countOf_1 : decode cX11_countOf 1 = .ok (.tableswitch 106 0 6 #[43, 50, 58, 72, 82, 90, 98], 43) := by decide +kernel
theorem dX11_countOf_44 : decode cX11_countOf 44 = .ok (.aload_n 0, 1) := by decide +kernel
theorem dX11_countOf_45 : decode cX11_countOf 45 = .ok (.getfield 7, 3) := by decide +kernel
theorem dX11_countOf_48 : decode cX11_countOf 48 = .ok (.iconst 4, 1) := by decide +kernel
theorem dX11_countOf_49 : decode cX11_countOf 49 = .ok (.iaload, 1) := by decide +kernel
theorem dX11_countOf_50 : decode cX11_countOf 50 = .ok (.ireturn, 1) := by decide +kernel
theorem dX11_countOf_51 : decode cX11_countOf 51 = .ok (.aload_n 0, 1) := by decide +kernel
theorem dX11_countOf_52 : decode cX11_countOf 52 = .ok (.getfield 7, 3) := by decide +kernel
theorem dX11_countOf_55 : decode cX11_countOf 55 = .ok (.bipush 29, 2) := by decide +kernel
theorem dX11_countOf_57 : decode cX11_countOf 57 = .ok (.iaload, 1) := by decide +kernel
theorem dX11_countOf_58 : decode cX11_countOf 58 = .ok (.ireturn, 1) := by decide +kernel
theorem dX11_countOf_59 : decode cX11_countOf 59 = .ok (.aload_n 0, 1) := by decide +kernel
theorem dX11_countOf_60 : decode cX11_countOf 60 = .ok (.aload_n 0, 1) := by decide +kernel
theorem dX11_countOf_61 : decode cX11_countOf 61 = .ok (.getfield 7, 3) := by decide +kernel
theorem dX11_countOf_64 : decode cX11_countOf 64 = .ok (.iconst 0, 1) := by decide +kernel
theorem dX11_countOf_65 : decode cX11_countOf 65 = .ok (.iaload, 1) := by decide +kernel
theorem dX11_countOf_66 : decode cX11_countOf 66 = .ok (.invokevirtual 135, 3) := by decide +kernel
theorem dX11_countOf_69 : decode cX11_countOf 69 = .ok (.invokestatic 132, 3) := by decide +kernel
theorem dX11_countOf_72 : decode cX11_countOf 72 = .ok (.ireturn, 1) := by decide +kernel
theorem dX11_countOf_73 : decode cX11_countOf 73 = .ok (.aload_n 0, 1) := by decide +kernel
theorem dX11_countOf_74 : decode cX11_countOf 74 = .ok (.getfield 7, 3) := by decide +kernel
theorem dX11_countOf_77 : decode cX11_countOf 77 = .ok (.iconst 0, 1) := by decide +kernel
theorem dX11_countOf_78 : decode cX11_countOf 78 = .ok (.iaload, 1) := by decide +kernel
theorem dX11_countOf_79 : decode cX11_countOf 79 = .ok (.invokestatic 132, 3) := by decide +kernel
theorem dX11_countOf_82 : decode cX11_countOf 82 = .ok (.ireturn, 1) := by decide +kernel
theorem dX11_countOf_83 : decode cX11_countOf 83 = .ok (.aload_n 0, 1) := by decide +kernel
theorem dX11_countOf_84 : decode cX11_countOf 84 = .ok (.getfield 7, 3) := by decide +kernel
theorem dX11_countOf_87 : decode cX11_countOf 87 = .ok (.bipush 38, 2) := by decide +kernel
theorem dX11_countOf_89 : decode cX11_countOf 89 = .ok (.iaload, 1) := by decide +kernel
theorem dX11_countOf_90 : decode cX11_countOf 90 = .ok (.ireturn, 1) := by decide +kernel
theorem dX11_countOf_91 : decode cX11_countOf 91 = .ok (.aload_n 0, 1) := by decide +kernel
theorem dX11_countOf_92 : decode cX11_countOf 92 = .ok (.getfield 7, 3) := by decide +kernel
theorem dX11_countOf_95 : decode cX11_countOf 95 = .ok (.bipush 57, 2) := by decide +kernel
theorem dX11_countOf_97 : decode cX11_countOf 97 = .ok (.iaload, 1) := by decide +kernel
theorem dX11_countOf_98 : decode cX11_countOf 98 = .ok (.ireturn, 1) := by decide +kernel
theorem dX11_countOf_99 : decode cX11_countOf 99 = .ok (.aload_n 0, 1) := by decide +kernel
theorem dX11_countOf_100 : decode cX11_countOf 100 = .ok (.getfield 7, 3) := by decide +kernel
theorem dX11_countOf_103 : decode cX11_countOf 103 = .ok (.bipush 70, 2) := by decide +kernel
theorem dX11_countOf_105 : decode cX11_countOf 105 = .ok (.iaload, 1) := by decide +kernel
theorem dX11_countOf_106 : decode cX11_countOf 106 = .ok (.ireturn, 1) := by decide +kernel
theorem dX11_countOf_107 : decode cX11_countOf 107 = .ok (.aload_n 0, 1) := by decide +kernel
theorem dX11_countOf_108 : decode cX11_countOf 108 = .ok (.getfield 68, 3) := by decide +kernel
theorem dX11_countOf_111 : decode cX11_countOf 111 = .ok (.ireturn, 1) := by decide +kernel
theorem dX11_count_0 : decode cX11_count 0 = .ok (.iload_n 1, 1) := by decide +kernel
theorem dX11_count_1 : decode cX11_count 1 = .ok (.iconst 0, 1) := by decide +kernel
theorem dX11_count_2 : decode cX11_count 2 = .ok (.bipush 7, 2) := by decide +kernel
theorem dX11_count_4 : decode cX11_count 4 = .ok (.invokestatic 52, 3) := by decide +kernel
theorem dX11_count_7 : decode cX11_count 7 = .ok (.ifCond .eq 11, 3) := by decide +kernel
theorem dX11_count_10 : decode cX11_count 10 = .ok (.aload_n 0, 1) := by decide +kernel
theorem dX11_count_11 : decode cX11_count 11 = .ok (.iload_n 1, 1) := by decide +kernel
theorem dX11_count_12 : decode cX11_count 12 = .ok (.invokevirtual 230, 3) := by decide +kernel
theorem dX11_count_15 : decode cX11_count 15 = .ok (.goto 9, 3) := by decide +kernel
theorem dX11_count_18 : decode cX11_count 18 = .ok (.aload_n 0, 1) := by decide +kernel
theorem dX11_count_19 : decode cX11_count 19 = .ok (.bipush (-2), 2) := by decide +kernel
theorem dX11_count_21 : decode cX11_count 21 = .ok (.invokevirtual 48, 3) := by decide +kernel
theorem dX11_count_24 : decode cX11_count 24 = .ok (.ireturn, 1) := by decide +kernel
theorem dX11_digest_0 : decode cX11_digest 0 = .ok (.ldc2_w 233, 3) := by decide +kernel
theorem dX11_digest_3 : decode cX11_digest 3 = .ok (.lstore_n 1, 1) := by decide +kernel
theorem dX11_digest_4 : decode cX11_digest 4 = .ok (.iconst 0, 1) := by decide +kernel
theorem dX11_digest_5 : decode cX11_digest 5 = .ok (.istore_n 3, 1) := by decide +kernel
theorem dX11_digest_6 : decode cX11_digest 6 = .ok (.iload_n 3, 1) := by decide +kernel
theorem dX11_digest_7 : decode cX11_digest 7 = .ok (.bipush 8, 2) := by decide +kernel
theorem dX11_digest_9 : decode cX11_digest 9 = .ok (.if_icmp .ge 22, 3) := by decide +kernel
theorem dX11_digest_12 : decode cX11_digest 12 = .ok (.ldc2_w 235, 3) := by decide +kernel
theorem dX11_digest_15 : decode cX11_digest 15 = .ok (.lload_n 1, 1) := by decide +kernel
theorem dX11_digest_16 : decode cX11_digest 16 = .ok (.lmul, 1) := by decide +kernel
theorem dX11_digest_17 : decode cX11_digest 17 = .ok (.aload_n 0, 1) := by decide +kernel
theorem dX11_digest_18 : decode cX11_digest 18 = .ok (.iload_n 3, 1) := by decide +kernel
theorem dX11_digest_19 : decode cX11_digest 19 = .ok (.invokevirtual 230, 3) := by decide +kernel
theorem dX11_digest_22 : decode cX11_digest 22 = .ok (.i2l, 1) := by decide +kernel
theorem dX11_digest_23 : decode cX11_digest 23 = .ok (.ladd, 1) := by decide +kernel
theorem dX11_digest_24 : decode cX11_digest 24 = .ok (.lstore_n 1, 1) := by decide +kernel
theorem dX11_digest_25 : decode cX11_digest 25 = .ok (.iinc 3 1, 3) := by decide +kernel
theorem dX11_digest_28 : decode cX11_digest 28 = .ok (.goto (-22), 3) := by decide +kernel
theorem dX11_digest_31 : decode cX11_digest 31 = .ok (.iconst 0, 1) := by decide +kernel
theorem dX11_digest_32 : decode cX11_digest 32 = .ok (.istore_n 3, 1) := by decide +kernel
theorem dX11_digest_33 : decode cX11_digest 33 = .ok (.iload_n 3, 1) := by decide +kernel
theorem dX11_digest_34 : decode cX11_digest 34 = .ok (.iconst 5, 1) := by decide +kernel
theorem dX11_digest_35 : decode cX11_digest 35 = .ok (.if_icmp .ge 22, 3) := by decide +kernel
theorem dX11_digest_38 : decode cX11_digest 38 = .ok (.ldc2_w 235, 3) := by decide +kernel
theorem dX11_digest_41 : decode cX11_digest 41 = .ok (.lload_n 1, 1) := by decide +kernel
theorem dX11_digest_42 : decode cX11_digest 42 = .ok (.lmul, 1) := by decide +kernel
theorem dX11_digest_43 : decode cX11_digest 43 = .ok (.aload_n 0, 1) := by decide +kernel
theorem dX11_digest_44 : decode cX11_digest 44 = .ok (.iload_n 3, 1) := by decide +kernel
theorem dX11_digest_45 : decode cX11_digest 45 = .ok (.invokevirtual 159, 3) := by decide +kernel
theorem dX11_digest_48 : decode cX11_digest 48 = .ok (.i2l, 1) := by decide +kernel
theorem dX11_digest_49 : decode cX11_digest 49 = .ok (.ladd, 1) := by decide +kernel
theorem dX11_digest_50 : decode cX11_digest 50 = .ok (.lstore_n 1, 1) := by decide +kernel
theorem dX11_digest_51 : decode cX11_digest 51 = .ok (.iinc 3 1, 3) := by decide +kernel
theorem dX11_digest_54 : decode cX11_digest 54 = .ok (.goto (-21), 3) := by decide +kernel
theorem dX11_digest_57 : decode cX11_digest 57 = .ok (.iconst 0, 1) := by decide +kernel
theorem dX11_digest_58 : decode cX11_digest 58 = .ok (.istore_n 3, 1) := by decide +kernel
theorem dX11_digest_59 : decode cX11_digest 59 = .ok (.iload_n 3, 1) := by decide +kernel
theorem dX11_digest_60 : decode cX11_digest 60 = .ok (.aload_n 0, 1) := by decide +kernel
theorem dX11_digest_61 : decode cX11_digest 61 = .ok (.getfield 7, 3) := by decide +kernel
theorem dX11_digest_64 : decode cX11_digest 64 = .ok (.iconst 4, 1) := by decide +kernel
theorem dX11_digest_65 : decode cX11_digest 65 = .ok (.iaload, 1) := by decide +kernel
theorem dX11_digest_66 : decode cX11_digest 66 = .ok (.if_icmp .ge 76, 3) := by decide +kernel
theorem dX11_digest_69 : decode cX11_digest 69 = .ok (.ldc2_w 235, 3) := by decide +kernel
theorem dX11_digest_72 : decode cX11_digest 72 = .ok (.lload_n 1, 1) := by decide +kernel
theorem dX11_digest_73 : decode cX11_digest 73 = .ok (.lmul, 1) := by decide +kernel
theorem dX11_digest_74 : decode cX11_digest 74 = .ok (.aload_n 0, 1) := by decide +kernel
theorem dX11_digest_75 : decode cX11_digest 75 = .ok (.getfield 7, 3) := by decide +kernel
theorem dX11_digest_78 : decode cX11_digest 78 = .ok (.iconst 5, 1) := by decide +kernel
theorem dX11_digest_79 : decode cX11_digest 79 = .ok (.iload_n 3, 1) := by decide +kernel
theorem dX11_digest_80 : decode cX11_digest 80 = .ok (.iadd, 1) := by decide +kernel
theorem dX11_digest_81 : decode cX11_digest 81 = .ok (.iaload, 1) := by decide +kernel
theorem dX11_digest_82 : decode cX11_digest 82 = .ok (.i2l, 1) := by decide +kernel
theorem dX11_digest_83 : decode cX11_digest 83 = .ok (.ladd, 1) := by decide +kernel
theorem dX11_digest_84 : decode cX11_digest 84 = .ok (.lstore_n 1, 1) := by decide +kernel
theorem dX11_digest_85 : decode cX11_digest 85 = .ok (.ldc2_w 235, 3) := by decide +kernel
theorem dX11_digest_88 : decode cX11_digest 88 = .ok (.lload_n 1, 1) := by decide +kernel
theorem dX11_digest_89 : decode cX11_digest 89 = .ok (.lmul, 1) := by decide +kernel
theorem dX11_digest_90 : decode cX11_digest 90 = .ok (.aload_n 0, 1) := by decide +kernel
theorem dX11_digest_91 : decode cX11_digest 91 = .ok (.getfield 7, 3) := by decide +kernel
theorem dX11_digest_94 : decode cX11_digest 94 = .ok (.bipush 11, 2) := by decide +kernel
theorem dX11_digest_96 : decode cX11_digest 96 = .ok (.iload_n 3, 1) := by decide +kernel
theorem dX11_digest_97 : decode cX11_digest 97 = .ok (.iadd, 1) := by decide +kernel
theorem dX11_digest_98 : decode cX11_digest 98 = .ok (.iaload, 1) := by decide +kernel
theorem dX11_digest_99 : decode cX11_digest 99 = .ok (.i2l, 1) := by decide +kernel
theorem dX11_digest_100 : decode cX11_digest 100 = .ok (.ladd, 1) := by decide +kernel
theorem dX11_digest_101 : decode cX11_digest 101 = .ok (.lstore_n 1, 1) := by decide +kernel
theorem dX11_digest_102 : decode cX11_digest 102 = .ok (.ldc2_w 235, 3) := by decide +kernel
theorem dX11_digest_105 : decode cX11_digest 105 = .ok (.lload_n 1, 1) := by decide +kernel
theorem dX11_digest_106 : decode cX11_digest 106 = .ok (.lmul, 1) := by decide +kernel
theorem dX11_digest_107 : decode cX11_digest 107 = .ok (.aload_n 0, 1) := by decide +kernel
theorem dX11_digest_108 : decode cX11_digest 108 = .ok (.getfield 7, 3) := by decide +kernel
theorem dX11_digest_111 : decode cX11_digest 111 = .ok (.bipush 17, 2) := by decide +kernel
theorem dX11_digest_113 : decode cX11_digest 113 = .ok (.iload_n 3, 1) := by decide +kernel
theorem dX11_digest_114 : decode cX11_digest 114 = .ok (.iadd, 1) := by decide +kernel
theorem dX11_digest_115 : decode cX11_digest 115 = .ok (.iaload, 1) := by decide +kernel
theorem dX11_digest_116 : decode cX11_digest 116 = .ok (.i2l, 1) := by decide +kernel
theorem dX11_digest_117 : decode cX11_digest 117 = .ok (.ladd, 1) := by decide +kernel
theorem dX11_digest_118 : decode cX11_digest 118 = .ok (.lstore_n 1, 1) := by decide +kernel
theorem dX11_digest_119 : decode cX11_digest 119 = .ok (.ldc2_w 235, 3) := by decide +kernel
theorem dX11_digest_122 : decode cX11_digest 122 = .ok (.lload_n 1, 1) := by decide +kernel
theorem dX11_digest_123 : decode cX11_digest 123 = .ok (.lmul, 1) := by decide +kernel
theorem dX11_digest_124 : decode cX11_digest 124 = .ok (.aload_n 0, 1) := by decide +kernel
theorem dX11_digest_125 : decode cX11_digest 125 = .ok (.getfield 7, 3) := by decide +kernel
theorem dX11_digest_128 : decode cX11_digest 128 = .ok (.bipush 23, 2) := by decide +kernel
theorem dX11_digest_130 : decode cX11_digest 130 = .ok (.iload_n 3, 1) := by decide +kernel
theorem dX11_digest_131 : decode cX11_digest 131 = .ok (.iadd, 1) := by decide +kernel
theorem dX11_digest_132 : decode cX11_digest 132 = .ok (.iaload, 1) := by decide +kernel
theorem dX11_digest_133 : decode cX11_digest 133 = .ok (.i2l, 1) := by decide +kernel
theorem dX11_digest_134 : decode cX11_digest 134 = .ok (.ladd, 1) := by decide +kernel
theorem dX11_digest_135 : decode cX11_digest 135 = .ok (.lstore_n 1, 1) := by decide +kernel
theorem dX11_digest_136 : decode cX11_digest 136 = .ok (.iinc 3 1, 3) := by decide +kernel
theorem dX11_digest_139 : decode cX11_digest 139 = .ok (.goto (-80), 3) := by decide +kernel
theorem dX11_digest_142 : decode cX11_digest 142 = .ok (.iconst 0, 1) := by decide +kernel
theorem dX11_digest_143 : decode cX11_digest 143 = .ok (.istore_n 3, 1) := by decide +kernel
theorem dX11_digest_144 : decode cX11_digest 144 = .ok (.iload_n 3, 1) := by decide +kernel
theorem dX11_digest_145 : decode cX11_digest 145 = .ok (.aload_n 0, 1) := by decide +kernel
theorem dX11_digest_146 : decode cX11_digest 146 = .ok (.getfield 7, 3) := by decide +kernel
theorem dX11_digest_149 : decode cX11_digest 149 = .ok (.bipush 29, 2) := by decide +kernel
theorem dX11_digest_151 : decode cX11_digest 151 = .ok (.iaload, 1) := by decide +kernel
theorem dX11_digest_152 : decode cX11_digest 152 = .ok (.if_icmp .ge 43, 3) := by decide +kernel
theorem dX11_digest_155 : decode cX11_digest 155 = .ok (.ldc2_w 235, 3) := by decide +kernel
theorem dX11_digest_158 : decode cX11_digest 158 = .ok (.lload_n 1, 1) := by decide +kernel
theorem dX11_digest_159 : decode cX11_digest 159 = .ok (.lmul, 1) := by decide +kernel
theorem dX11_digest_160 : decode cX11_digest 160 = .ok (.aload_n 0, 1) := by decide +kernel
theorem dX11_digest_161 : decode cX11_digest 161 = .ok (.getfield 7, 3) := by decide +kernel
theorem dX11_digest_164 : decode cX11_digest 164 = .ok (.bipush 30, 2) := by decide +kernel
theorem dX11_digest_166 : decode cX11_digest 166 = .ok (.iload_n 3, 1) := by decide +kernel
theorem dX11_digest_167 : decode cX11_digest 167 = .ok (.iadd, 1) := by decide +kernel
theorem dX11_digest_168 : decode cX11_digest 168 = .ok (.iaload, 1) := by decide +kernel
theorem dX11_digest_169 : decode cX11_digest 169 = .ok (.i2l, 1) := by decide +kernel
theorem dX11_digest_170 : decode cX11_digest 170 = .ok (.ladd, 1) := by decide +kernel
theorem dX11_digest_171 : decode cX11_digest 171 = .ok (.lstore_n 1, 1) := by decide +kernel
theorem dX11_digest_172 : decode cX11_digest 172 = .ok (.ldc2_w 235, 3) := by decide +kernel
theorem dX11_digest_175 : decode cX11_digest 175 = .ok (.lload_n 1, 1) := by decide +kernel
theorem dX11_digest_176 : decode cX11_digest 176 = .ok (.lmul, 1) := by decide +kernel
theorem dX11_digest_177 : decode cX11_digest 177 = .ok (.aload_n 0, 1) := by decide +kernel
theorem dX11_digest_178 : decode cX11_digest 178 = .ok (.getfield 7, 3) := by decide +kernel
theorem dX11_digest_181 : decode cX11_digest 181 = .ok (.bipush 34, 2) := by decide +kernel
theorem dX11_digest_183 : decode cX11_digest 183 = .ok (.iload_n 3, 1) := by decide +kernel
theorem dX11_digest_184 : decode cX11_digest 184 = .ok (.iadd, 1) := by decide +kernel
theorem dX11_digest_185 : decode cX11_digest 185 = .ok (.iaload, 1) := by decide +kernel
theorem dX11_digest_186 : decode cX11_digest 186 = .ok (.i2l, 1) := by decide +kernel
theorem dX11_digest_187 : decode cX11_digest 187 = .ok (.ladd, 1) := by decide +kernel
theorem dX11_digest_188 : decode cX11_digest 188 = .ok (.lstore_n 1, 1) := by decide +kernel
theorem dX11_digest_189 : decode cX11_digest 189 = .ok (.iinc 3 1, 3) := by decide +kernel
theorem dX11_digest_192 : decode cX11_digest 192 = .ok (.goto (-48), 3) := by decide +kernel
theorem dX11_digest_195 : decode cX11_digest 195 = .ok (.iconst 0, 1) := by decide +kernel
theorem dX11_digest_196 : decode cX11_digest 196 = .ok (.istore_n 3, 1) := by decide +kernel
theorem dX11_digest_197 : decode cX11_digest 197 = .ok (.iload_n 3, 1) := by decide +kernel
theorem dX11_digest_198 : decode cX11_digest 198 = .ok (.iconst 3, 1) := by decide +kernel
theorem dX11_digest_199 : decode cX11_digest 199 = .ok (.aload_n 0, 1) := by decide +kernel
theorem dX11_digest_200 : decode cX11_digest 200 = .ok (.getfield 7, 3) := by decide +kernel
theorem dX11_digest_203 : decode cX11_digest 203 = .ok (.bipush 38, 2) := by decide +kernel
theorem dX11_digest_205 : decode cX11_digest 205 = .ok (.iaload, 1) := by decide +kernel
theorem dX11_digest_206 : decode cX11_digest 206 = .ok (.imul, 1) := by decide +kernel
theorem dX11_digest_207 : decode cX11_digest 207 = .ok (.if_icmp .ge 26, 3) := by decide +kernel
theorem dX11_digest_210 : decode cX11_digest 210 = .ok (.ldc2_w 235, 3) := by decide +kernel
theorem dX11_digest_213 : decode cX11_digest 213 = .ok (.lload_n 1, 1) := by decide +kernel
theorem dX11_digest_214 : decode cX11_digest 214 = .ok (.lmul, 1) := by decide +kernel
theorem dX11_digest_215 : decode cX11_digest 215 = .ok (.aload_n 0, 1) := by decide +kernel
theorem dX11_digest_216 : decode cX11_digest 216 = .ok (.getfield 7, 3) := by decide +kernel
theorem dX11_digest_219 : decode cX11_digest 219 = .ok (.bipush 39, 2) := by decide +kernel
theorem dX11_digest_221 : decode cX11_digest 221 = .ok (.iload_n 3, 1) := by decide +kernel
theorem dX11_digest_222 : decode cX11_digest 222 = .ok (.iadd, 1) := by decide +kernel
theorem dX11_digest_223 : decode cX11_digest 223 = .ok (.iaload, 1) := by decide +kernel
theorem dX11_digest_224 : decode cX11_digest 224 = .ok (.i2l, 1) := by decide +kernel
theorem dX11_digest_225 : decode cX11_digest 225 = .ok (.ladd, 1) := by decide +kernel
theorem dX11_digest_226 : decode cX11_digest 226 = .ok (.lstore_n 1, 1) := by decide +kernel
theorem dX11_digest_227 : decode cX11_digest 227 = .ok (.iinc 3 1, 3) := by decide +kernel
theorem dX11_digest_230 : decode cX11_digest 230 = .ok (.goto (-33), 3) := by decide +kernel
theorem dX11_digest_233 : decode cX11_digest 233 = .ok (.iconst 0, 1) := by decide +kernel
theorem dX11_digest_234 : decode cX11_digest 234 = .ok (.istore_n 3, 1) := by decide +kernel
theorem dX11_digest_235 : decode cX11_digest 235 = .ok (.iload_n 3, 1) := by decide +kernel
theorem dX11_digest_236 : decode cX11_digest 236 = .ok (.iconst 2, 1) := by decide +kernel
theorem dX11_digest_237 : decode cX11_digest 237 = .ok (.aload_n 0, 1) := by decide +kernel
theorem dX11_digest_238 : decode cX11_digest 238 = .ok (.getfield 7, 3) := by decide +kernel
theorem dX11_digest_241 : decode cX11_digest 241 = .ok (.bipush 57, 2) := by decide +kernel
theorem dX11_digest_243 : decode cX11_digest 243 = .ok (.iaload, 1) := by decide +kernel
theorem dX11_digest_244 : decode cX11_digest 244 = .ok (.imul, 1) := by decide +kernel
theorem dX11_digest_245 : decode cX11_digest 245 = .ok (.if_icmp .ge 26, 3) := by decide +kernel
theorem dX11_digest_248 : decode cX11_digest 248 = .ok (.ldc2_w 235, 3) := by decide +kernel
theorem dX11_digest_251 : decode cX11_digest 251 = .ok (.lload_n 1, 1) := by decide +kernel
theorem dX11_digest_252 : decode cX11_digest 252 = .ok (.lmul, 1) := by decide +kernel
theorem dX11_digest_253 : decode cX11_digest 253 = .ok (.aload_n 0, 1) := by decide +kernel
theorem dX11_digest_254 : decode cX11_digest 254 = .ok (.getfield 7, 3) := by decide +kernel
theorem dX11_digest_257 : decode cX11_digest 257 = .ok (.bipush 58, 2) := by decide +kernel
theorem dX11_digest_259 : decode cX11_digest 259 = .ok (.iload_n 3, 1) := by decide +kernel
theorem dX11_digest_260 : decode cX11_digest 260 = .ok (.iadd, 1) := by decide +kernel
theorem dX11_digest_261 : decode cX11_digest 261 = .ok (.iaload, 1) := by decide +kernel
theorem dX11_digest_262 : decode cX11_digest 262 = .ok (.i2l, 1) := by decide +kernel
theorem dX11_digest_263 : decode cX11_digest 263 = .ok (.ladd, 1) := by decide +kernel
theorem dX11_digest_264 : decode cX11_digest 264 = .ok (.lstore_n 1, 1) := by decide +kernel
theorem dX11_digest_265 : decode cX11_digest 265 = .ok (.iinc 3 1, 3) := by decide +kernel
theorem dX11_digest_268 : decode cX11_digest 268 = .ok (.goto (-33), 3) := by decide +kernel
theorem dX11_digest_271 : decode cX11_digest 271 = .ok (.ldc2_w 235, 3) := by decide +kernel
theorem dX11_digest_274 : decode cX11_digest 274 = .ok (.lload_n 1, 1) := by decide +kernel
theorem dX11_digest_275 : decode cX11_digest 275 = .ok (.lmul, 1) := by decide +kernel
theorem dX11_digest_276 : decode cX11_digest 276 = .ok (.aload_n 0, 1) := by decide +kernel
theorem dX11_digest_277 : decode cX11_digest 277 = .ok (.getfield 212, 3) := by decide +kernel
theorem dX11_digest_280 : decode cX11_digest 280 = .ok (.ladd, 1) := by decide +kernel
theorem dX11_digest_281 : decode cX11_digest 281 = .ok (.lstore_n 1, 1) := by decide +kernel
theorem dX11_digest_282 : decode cX11_digest 282 = .ok (.ldc2_w 235, 3) := by decide +kernel
theorem dX11_digest_285 : decode cX11_digest 285 = .ok (.lload_n 1, 1) := by decide +kernel
theorem dX11_digest_286 : decode cX11_digest 286 = .ok (.lmul, 1) := by decide +kernel
theorem dX11_digest_287 : decode cX11_digest 287 = .ok (.aload_n 0, 1) := by decide +kernel
theorem dX11_digest_288 : decode cX11_digest 288 = .ok (.getfield 20, 3) := by decide +kernel
theorem dX11_digest_291 : decode cX11_digest 291 = .ok (.ladd, 1) := by decide +kernel
theorem dX11_digest_292 : decode cX11_digest 292 = .ok (.lreturn, 1) := by decide +kernel
