theorem dX0_init_0 : decode cX0_init 0 = .ok (.aload_n 0, 1) := by decide +kernel
theorem dX0_init_1 : decode cX0_init 1 = .ok (.invokespecial 5, 3) := by decide +kernel
theorem dX0_init_4 : decode cX0_init 4 = .ok (.aload_n 0, 1) := by decide +kernel
theorem dX0_init_5 : decode cX0_init 5 = .ok (.bipush 96, 2) := by decide +kernel
theorem dX0_init_7 : decode cX0_init 7 = .ok (.newarray .int, 2) := by decide +kernel
theorem dX0_init_9 : decode cX0_init 9 = .ok (.putfield 11, 3) := by decide +kernel
theorem dX0_init_12 : decode cX0_init 12 = .ok (.return_, 1) := by decide +kernel
theorem dX0_begin_0 : decode cX0_begin 0 = .ok (.aload_n 0, 1) := by decide +kernel
theorem dX0_begin_1 : decode cX0_begin 1 = .ok (.iload_n 1, 1) := by decide +kernel
theorem dX0_begin_2 : decode cX0_begin 2 = .ok (.putfield 15, 3) := by decide +kernel
theorem dX0_begin_5 : decode cX0_begin 5 = .ok (.aload_n 0, 1) := by decide +kernel
theorem dX0_begin_6 : decode cX0_begin 6 = .ok (.iconst 0, 1) := by decide +kernel
theorem dX0_begin_7 : decode cX0_begin 7 = .ok (.putfield 19, 3) := by decide +kernel
theorem dX0_begin_10 : decode cX0_begin 10 = .ok (.aload_n 0, 1) := by decide +kernel
theorem dX0_begin_11 : decode cX0_begin 11 = .ok (.iconst 0, 1) := by decide +kernel
theorem dX0_begin_12 : decode cX0_begin 12 = .ok (.putfield 22, 3) := by decide +kernel
theorem dX0_begin_15 : decode cX0_begin 15 = .ok (.return_, 1) := by decide +kernel
theorem dX0_putLeaf_0 : decode cX0_putLeaf 0 = .ok (.aload_n 0, 1) := by decide +kernel
theorem dX0_putLeaf_1 : decode cX0_putLeaf 1 = .ok (.iload_n 1, 1) := by decide +kernel
theorem dX0_putLeaf_2 : decode cX0_putLeaf 2 = .ok (.invokevirtual 25, 3) := by decide +kernel
theorem dX0_putLeaf_5 : decode cX0_putLeaf 5 = .ok (.aload_n 0, 1) := by decide +kernel
theorem dX0_putLeaf_6 : decode cX0_putLeaf 6 = .ok (.dup, 1) := by decide +kernel
theorem dX0_putLeaf_7 : decode cX0_putLeaf 7 = .ok (.getfield 19, 3) := by decide +kernel
theorem dX0_putLeaf_10 : decode cX0_putLeaf 10 = .ok (.iconst 1, 1) := by decide +kernel
theorem dX0_putLeaf_11 : decode cX0_putLeaf 11 = .ok (.iadd, 1) := by decide +kernel
theorem dX0_putLeaf_12 : decode cX0_putLeaf 12 = .ok (.putfield 19, 3) := by decide +kernel
theorem dX0_putLeaf_15 : decode cX0_putLeaf 15 = .ok (.return_, 1) := by decide +kernel
theorem dX0_putSign_0 : decode cX0_putSign 0 = .ok (.aload_n 0, 1) := by decide +kernel
theorem dX0_putSign_1 : decode cX0_putSign 1 = .ok (.sipush 20000, 3) := by decide +kernel
theorem dX0_putSign_4 : decode cX0_putSign 4 = .ok (.iload_n 1, 1) := by decide +kernel
theorem dX0_putSign_5 : decode cX0_putSign 5 = .ok (.iadd, 1) := by decide +kernel
theorem dX0_putSign_6 : decode cX0_putSign 6 = .ok (.invokevirtual 25, 3) := by decide +kernel
theorem dX0_putSign_9 : decode cX0_putSign 9 = .ok (.return_, 1) := by decide +kernel
theorem dX0_put_0 : decode cX0_put 0 = .ok (.aload_n 0, 1) := by decide +kernel
theorem dX0_put_1 : decode cX0_put 1 = .ok (.getfield 22, 3) := by decide +kernel
theorem dX0_put_4 : decode cX0_put 4 = .ok (.aload_n 0, 1) := by decide +kernel
theorem dX0_put_5 : decode cX0_put 5 = .ok (.getfield 11, 3) := by decide +kernel
theorem dX0_put_8 : decode cX0_put 8 = .ok (.arraylength, 1) := by decide +kernel
theorem dX0_put_9 : decode cX0_put 9 = .ok (.if_icmp .ge 23, 3) := by decide +kernel
theorem dX0_put_12 : decode cX0_put 12 = .ok (.aload_n 0, 1) := by decide +kernel
theorem dX0_put_13 : decode cX0_put 13 = .ok (.getfield 11, 3) := by decide +kernel
theorem dX0_put_16 : decode cX0_put 16 = .ok (.aload_n 0, 1) := by decide +kernel
theorem dX0_put_17 : decode cX0_put 17 = .ok (.getfield 22, 3) := by decide +kernel
theorem dX0_put_20 : decode cX0_put 20 = .ok (.iload_n 1, 1) := by decide +kernel
theorem dX0_put_21 : decode cX0_put 21 = .ok (.iastore, 1) := by decide +kernel
theorem dX0_put_22 : decode cX0_put 22 = .ok (.aload_n 0, 1) := by decide +kernel
theorem dX0_put_23 : decode cX0_put 23 = .ok (.dup, 1) := by decide +kernel
theorem dX0_put_24 : decode cX0_put 24 = .ok (.getfield 22, 3) := by decide +kernel
theorem dX0_put_27 : decode cX0_put 27 = .ok (.iconst 1, 1) := by decide +kernel
theorem dX0_put_28 : decode cX0_put 28 = .ok (.iadd, 1) := by decide +kernel
theorem dX0_put_29 : decode cX0_put 29 = .ok (.putfield 22, 3) := by decide +kernel
theorem dX0_put_32 : decode cX0_put 32 = .ok (.return_, 1) := by decide +kernel
theorem dX0_gives_0 : decode cX0_gives 0 = .ok (.iconst (-1), 1) := by decide +kernel
theorem dX0_gives_1 : decode cX0_gives 1 = .ok (.istore 5, 2) := by decide +kernel
theorem dX0_gives_3 : decode cX0_gives 3 = .ok (.iconst 0, 1) := by decide +kernel
theorem dX0_gives_4 : decode cX0_gives 4 = .ok (.istore 6, 2) := by decide +kernel
theorem dX0_gives_6 : decode cX0_gives 6 = .ok (.iload 6, 2) := by decide +kernel
theorem dX0_gives_8 : decode cX0_gives 8 = .ok (.aload_n 0, 1) := by decide +kernel
theorem dX0_gives_9 : decode cX0_gives 9 = .ok (.getfield 22, 3) := by decide +kernel
theorem dX0_gives_12 : decode cX0_gives 12 = .ok (.if_icmp .ge 164, 3) := by decide +kernel
theorem dX0_gives_15 : decode cX0_gives 15 = .ok (.iload 6, 2) := by decide +kernel
theorem dX0_gives_17 : decode cX0_gives 17 = .ok (.aload_n 0, 1) := by decide +kernel
theorem dX0_gives_18 : decode cX0_gives 18 = .ok (.getfield 11, 3) := by decide +kernel
theorem dX0_gives_21 : decode cX0_gives 21 = .ok (.arraylength, 1) := by decide +kernel
theorem dX0_gives_22 : decode cX0_gives 22 = .ok (.if_icmp .ge 154, 3) := by decide +kernel
theorem dX0_gives_25 : decode cX0_gives 25 = .ok (.aload_n 0, 1) := by decide +kernel
theorem dX0_gives_26 : decode cX0_gives 26 = .ok (.getfield 11, 3) := by decide +kernel
theorem dX0_gives_29 : decode cX0_gives 29 = .ok (.iload 6, 2) := by decide +kernel
theorem dX0_gives_31 : decode cX0_gives 31 = .ok (.iaload, 1) := by decide +kernel
theorem dX0_gives_32 : decode cX0_gives 32 = .ok (.istore 7, 2) := by decide +kernel
theorem dX0_gives_34 : decode cX0_gives 34 = .ok (.iload 7, 2) := by decide +kernel
theorem dX0_gives_36 : decode cX0_gives 36 = .ok (.sipush 20000, 3) := by decide +kernel
theorem dX0_gives_39 : decode cX0_gives 39 = .ok (.if_icmp .ge 62, 3) := by decide +kernel
theorem dX0_gives_42 : decode cX0_gives 42 = .ok (.iload 5, 2) := by decide +kernel
theorem dX0_gives_44 : decode cX0_gives 44 = .ok (.iconst 1, 1) := by decide +kernel
theorem dX0_gives_45 : decode cX0_gives 45 = .ok (.iadd, 1) := by decide +kernel
theorem dX0_gives_46 : decode cX0_gives 46 = .ok (.aload 4, 2) := by decide +kernel
theorem dX0_gives_48 : decode cX0_gives 48 = .ok (.arraylength, 1) := by decide +kernel
theorem dX0_gives_49 : decode cX0_gives 49 = .ok (.if_icmp .ge 52, 3) := by decide +kernel
theorem dX0_gives_52 : decode cX0_gives 52 = .ok (.iload 7, 2) := by decide +kernel
theorem dX0_gives_54 : decode cX0_gives 54 = .ok (.sipush 10000, 3) := by decide +kernel
theorem dX0_gives_57 : decode cX0_gives 57 = .ok (.isub, 1) := by decide +kernel
theorem dX0_gives_58 : decode cX0_gives 58 = .ok (.istore 8, 2) := by decide +kernel
theorem dX0_gives_60 : decode cX0_gives 60 = .ok (.iinc 5 1, 3) := by decide +kernel
theorem dX0_gives_63 : decode cX0_gives 63 = .ok (.aload 4, 2) := by decide +kernel
theorem dX0_gives_65 : decode cX0_gives 65 = .ok (.iload 5, 2) := by decide +kernel
theorem dX0_gives_67 : decode cX0_gives 67 = .ok (.iload 8, 2) := by decide +kernel
theorem dX0_gives_69 : decode cX0_gives 69 = .ok (.ifCond .ge 8, 3) := by decide +kernel
theorem dX0_gives_72 : decode cX0_gives 72 = .ok (.iload 7, 2) := by decide +kernel
theorem dX0_gives_74 : decode cX0_gives 74 = .ok (.goto 23, 3) := by decide +kernel
theorem dX0_gives_77 : decode cX0_gives 77 = .ok (.iload 8, 2) := by decide +kernel
theorem dX0_gives_79 : decode cX0_gives 79 = .ok (.ifCond .ne 7, 3) := by decide +kernel
theorem dX0_gives_82 : decode cX0_gives 82 = .ok (.iload_n 1, 1) := by decide +kernel
theorem dX0_gives_83 : decode cX0_gives 83 = .ok (.goto 14, 3) := by decide +kernel
theorem dX0_gives_86 : decode cX0_gives 86 = .ok (.iload 8, 2) := by decide +kernel
theorem dX0_gives_88 : decode cX0_gives 88 = .ok (.iconst 1, 1) := by decide +kernel
theorem dX0_gives_89 : decode cX0_gives 89 = .ok (.if_icmp .ne 7, 3) := by decide +kernel
theorem dX0_gives_92 : decode cX0_gives 92 = .ok (.iload_n 2, 1) := by decide +kernel
theorem dX0_gives_93 : decode cX0_gives 93 = .ok (.goto 4, 3) := by decide +kernel
theorem dX0_gives_96 : decode cX0_gives 96 = .ok (.iload_n 3, 1) := by decide +kernel
theorem dX0_gives_97 : decode cX0_gives 97 = .ok (.iastore, 1) := by decide +kernel
theorem dX0_gives_98 : decode cX0_gives 98 = .ok (.goto 72, 3) := by decide +kernel
theorem dX0_gives_101 : decode cX0_gives 101 = .ok (.iload 7, 2) := by decide +kernel
theorem dX0_gives_103 : decode cX0_gives 103 = .ok (.sipush 20033, 3) := by decide +kernel
theorem dX0_gives_106 : decode cX0_gives 106 = .ok (.if_icmp .ne 29, 3) := by decide +kernel
theorem dX0_gives_109 : decode cX0_gives 109 = .ok (.iload 5, 2) := by decide +kernel
theorem dX0_gives_111 : decode cX0_gives 111 = .ok (.ifCond .lt 24, 3) := by decide +kernel
theorem dX0_gives_114 : decode cX0_gives 114 = .ok (.aload 4, 2) := by decide +kernel
theorem dX0_gives_116 : decode cX0_gives 116 = .ok (.iload 5, 2) := by decide +kernel
theorem dX0_gives_118 : decode cX0_gives 118 = .ok (.aload 4, 2) := by decide +kernel
theorem dX0_gives_120 : decode cX0_gives 120 = .ok (.iload 5, 2) := by decide +kernel
theorem dX0_gives_122 : decode cX0_gives 122 = .ok (.iaload, 1) := by decide +kernel
theorem dX0_gives_123 : decode cX0_gives 123 = .ok (.ifCond .ne 7, 3) := by decide +kernel
theorem dX0_gives_126 : decode cX0_gives 126 = .ok (.iconst 1, 1) := by decide +kernel
theorem dX0_gives_127 : decode cX0_gives 127 = .ok (.goto 4, 3) := by decide +kernel
theorem dX0_gives_130 : decode cX0_gives 130 = .ok (.iconst 0, 1) := by decide +kernel
theorem dX0_gives_131 : decode cX0_gives 131 = .ok (.iastore, 1) := by decide +kernel
theorem dX0_gives_132 : decode cX0_gives 132 = .ok (.goto 38, 3) := by decide +kernel
theorem dX0_gives_135 : decode cX0_gives 135 = .ok (.iload 5, 2) := by decide +kernel
theorem dX0_gives_137 : decode cX0_gives 137 = .ok (.iconst 1, 1) := by decide +kernel
theorem dX0_gives_138 : decode cX0_gives 138 = .ok (.if_icmp .lt 32, 3) := by decide +kernel
theorem dX0_gives_141 : decode cX0_gives 141 = .ok (.iinc 5 (-1), 3) := by decide +kernel
theorem dX0_gives_144 : decode cX0_gives 144 = .ok (.aload 4, 2) := by decide +kernel
theorem dX0_gives_146 : decode cX0_gives 146 = .ok (.iload 5, 2) := by decide +kernel
theorem dX0_gives_148 : decode cX0_gives 148 = .ok (.iload 7, 2) := by decide +kernel
theorem dX0_gives_150 : decode cX0_gives 150 = .ok (.sipush 20000, 3) := by decide +kernel
theorem dX0_gives_153 : decode cX0_gives 153 = .ok (.isub, 1) := by decide +kernel
theorem dX0_gives_154 : decode cX0_gives 154 = .ok (.aload 4, 2) := by decide +kernel
theorem dX0_gives_156 : decode cX0_gives 156 = .ok (.iload 5, 2) := by decide +kernel
theorem dX0_gives_158 : decode cX0_gives 158 = .ok (.iaload, 1) := by decide +kernel
theorem dX0_gives_159 : decode cX0_gives 159 = .ok (.aload 4, 2) := by decide +kernel
theorem dX0_gives_161 : decode cX0_gives 161 = .ok (.iload 5, 2) := by decide +kernel
theorem dX0_gives_163 : decode cX0_gives 163 = .ok (.iconst 1, 1) := by decide +kernel
theorem dX0_gives_164 : decode cX0_gives 164 = .ok (.iadd, 1) := by decide +kernel
theorem dX0_gives_165 : decode cX0_gives 165 = .ok (.iaload, 1) := by decide +kernel
theorem dX0_gives_166 : decode cX0_gives 166 = .ok (.invokestatic 29, 3) := by decide +kernel
theorem dX0_gives_169 : decode cX0_gives 169 = .ok (.iastore, 1) := by decide +kernel
theorem dX0_gives_170 : decode cX0_gives 170 = .ok (.iinc 6 1, 3) := by decide +kernel
theorem dX0_gives_173 : decode cX0_gives 173 = .ok (.goto (-167), 3) := by decide +kernel
theorem dX0_gives_176 : decode cX0_gives 176 = .ok (.iload 5, 2) := by decide +kernel
theorem dX0_gives_178 : decode cX0_gives 178 = .ok (.ifCond .ne 10, 3) := by decide +kernel
theorem dX0_gives_181 : decode cX0_gives 181 = .ok (.aload 4, 2) := by decide +kernel
theorem dX0_gives_183 : decode cX0_gives 183 = .ok (.iconst 0, 1) := by decide +kernel
theorem dX0_gives_184 : decode cX0_gives 184 = .ok (.iaload, 1) := by decide +kernel
theorem dX0_gives_185 : decode cX0_gives 185 = .ok (.goto 4, 3) := by decide +kernel
theorem dX0_gives_188 : decode cX0_gives 188 = .ok (.iconst 0, 1) := by decide +kernel
theorem dX0_gives_189 : decode cX0_gives 189 = .ok (.ireturn, 1) := by decide +kernel
theorem dX0_joined_0 : decode cX0_joined 0 = .ok (.iload_n 0, 1) := by decide +kernel
theorem dX0_joined_1 : decode cX0_joined 1 = .ok (.tableswitch 186 38 62 #[172, 186, 186, 186, 123, 115, 186, 119, 186, 127, 186, 186, 186, 186, 186, 186, 186, 186, 186, 186, 186, 186, 139, 150, 161], 115) := by decide +kernel
theorem dX0_joined_116 : decode cX0_joined 116 = .ok (.iload_n 1, 1) := by decide +kernel
theorem dX0_joined_117 : decode cX0_joined 117 = .ok (.iload_n 2, 1) := by decide +kernel
theorem dX0_joined_118 : decode cX0_joined 118 = .ok (.iadd, 1) := by decide +kernel
theorem dX0_joined_119 : decode cX0_joined 119 = .ok (.ireturn, 1) := by decide +kernel
theorem dX0_joined_120 : decode cX0_joined 120 = .ok (.iload_n 1, 1) := by decide +kernel
theorem dX0_joined_121 : decode cX0_joined 121 = .ok (.iload_n 2, 1) := by decide +kernel
theorem dX0_joined_122 : decode cX0_joined 122 = .ok (.isub, 1) := by decide +kernel
theorem dX0_joined_123 : decode cX0_joined 123 = .ok (.ireturn, 1) := by decide +kernel
theorem dX0_joined_124 : decode cX0_joined 124 = .ok (.iload_n 1, 1) := by decide +kernel
theorem dX0_joined_125 : decode cX0_joined 125 = .ok (.iload_n 2, 1) := by decide +kernel
theorem dX0_joined_126 : decode cX0_joined 126 = .ok (.imul, 1) := by decide +kernel
theorem dX0_joined_127 : decode cX0_joined 127 = .ok (.ireturn, 1) := by decide +kernel
theorem dX0_joined_128 : decode cX0_joined 128 = .ok (.iload_n 2, 1) := by decide +kernel
theorem dX0_joined_129 : decode cX0_joined 129 = .ok (.ifCond .ne 7, 3) := by decide +kernel
theorem dX0_joined_132 : decode cX0_joined 132 = .ok (.iconst 0, 1) := by decide +kernel
theorem dX0_joined_133 : decode cX0_joined 133 = .ok (.goto 6, 3) := by decide +kernel
theorem dX0_joined_136 : decode cX0_joined 136 = .ok (.iload_n 1, 1) := by decide +kernel
theorem dX0_joined_137 : decode cX0_joined 137 = .ok (.iload_n 2, 1) := by decide +kernel
theorem dX0_joined_138 : decode cX0_joined 138 = .ok (.idiv, 1) := by decide +kernel
theorem dX0_joined_139 : decode cX0_joined 139 = .ok (.ireturn, 1) := by decide +kernel
theorem dX0_joined_140 : decode cX0_joined 140 = .ok (.iload_n 1, 1) := by decide +kernel
theorem dX0_joined_141 : decode cX0_joined 141 = .ok (.iload_n 2, 1) := by decide +kernel
theorem dX0_joined_142 : decode cX0_joined 142 = .ok (.if_icmp .ge 7, 3) := by decide +kernel
theorem dX0_joined_145 : decode cX0_joined 145 = .ok (.iconst 1, 1) := by decide +kernel
theorem dX0_joined_146 : decode cX0_joined 146 = .ok (.goto 4, 3) := by decide +kernel
theorem dX0_joined_149 : decode cX0_joined 149 = .ok (.iconst 0, 1) := by decide +kernel
theorem dX0_joined_150 : decode cX0_joined 150 = .ok (.ireturn, 1) := by decide +kernel
theorem dX0_joined_151 : decode cX0_joined 151 = .ok (.iload_n 1, 1) := by decide +kernel
theorem dX0_joined_152 : decode cX0_joined 152 = .ok (.iload_n 2, 1) := by decide +kernel
theorem dX0_joined_153 : decode cX0_joined 153 = .ok (.if_icmp .ne 7, 3) := by decide +kernel
theorem dX0_joined_156 : decode cX0_joined 156 = .ok (.iconst 1, 1) := by decide +kernel
theorem dX0_joined_157 : decode cX0_joined 157 = .ok (.goto 4, 3) := by decide +kernel
theorem dX0_joined_160 : decode cX0_joined 160 = .ok (.iconst 0, 1) := by decide +kernel
theorem dX0_joined_161 : decode cX0_joined 161 = .ok (.ireturn, 1) := by decide +kernel
theorem dX0_joined_162 : decode cX0_joined 162 = .ok (.iload_n 1, 1) := by decide +kernel
theorem dX0_joined_163 : decode cX0_joined 163 = .ok (.iload_n 2, 1) := by decide +kernel
theorem dX0_joined_164 : decode cX0_joined 164 = .ok (.if_icmp .le 7, 3) := by decide +kernel
theorem dX0_joined_167 : decode cX0_joined 167 = .ok (.iconst 1, 1) := by decide +kernel
theorem dX0_joined_168 : decode cX0_joined 168 = .ok (.goto 4, 3) := by decide +kernel
theorem dX0_joined_171 : decode cX0_joined 171 = .ok (.iconst 0, 1) := by decide +kernel
theorem dX0_joined_172 : decode cX0_joined 172 = .ok (.ireturn, 1) := by decide +kernel
theorem dX0_joined_173 : decode cX0_joined 173 = .ok (.iload_n 1, 1) := by decide +kernel
theorem dX0_joined_174 : decode cX0_joined 174 = .ok (.ifCond .eq 11, 3) := by decide +kernel
theorem dX0_joined_177 : decode cX0_joined 177 = .ok (.iload_n 2, 1) := by decide +kernel
theorem dX0_joined_178 : decode cX0_joined 178 = .ok (.ifCond .eq 7, 3) := by decide +kernel
theorem dX0_joined_181 : decode cX0_joined 181 = .ok (.iconst 1, 1) := by decide +kernel
theorem dX0_joined_182 : decode cX0_joined 182 = .ok (.goto 4, 3) := by decide +kernel
theorem dX0_joined_185 : decode cX0_joined 185 = .ok (.iconst 0, 1) := by decide +kernel
theorem dX0_joined_186 : decode cX0_joined 186 = .ok (.ireturn, 1) := by decide +kernel
theorem dX0_joined_187 : decode cX0_joined 187 = .ok (.iload_n 1, 1) := by decide +kernel
theorem dX0_joined_188 : decode cX0_joined 188 = .ok (.ifCond .ne 7, 3) := by decide +kernel
theorem dX0_joined_191 : decode cX0_joined 191 = .ok (.iload_n 2, 1) := by decide +kernel
theorem dX0_joined_192 : decode cX0_joined 192 = .ok (.ifCond .eq 7, 3) := by decide +kernel
theorem dX0_joined_195 : decode cX0_joined 195 = .ok (.iconst 1, 1) := by decide +kernel
theorem dX0_joined_196 : decode cX0_joined 196 = .ok (.goto 4, 3) := by decide +kernel
theorem dX0_joined_199 : decode cX0_joined 199 = .ok (.iconst 0, 1) := by decide +kernel
theorem dX0_joined_200 : decode cX0_joined 200 = .ok (.ireturn, 1) := by decide +kernel
theorem dX1_init_0 : decode cX1_init 0 = .ok (.aload_n 0, 1) := by decide +kernel
theorem dX1_init_1 : decode cX1_init 1 = .ok (.invokespecial 3, 3) := by decide +kernel
theorem dX1_init_4 : decode cX1_init 4 = .ok (.aload_n 0, 1) := by decide +kernel
theorem dX1_init_5 : decode cX1_init 5 = .ok (.iconst 0, 1) := by decide +kernel
theorem dX1_init_6 : decode cX1_init 6 = .ok (.newarray .byte, 2) := by decide +kernel
theorem dX1_init_8 : decode cX1_init 8 = .ok (.putfield 9, 3) := by decide +kernel
theorem dX1_init_11 : decode cX1_init 11 = .ok (.aload_n 0, 1) := by decide +kernel
theorem dX1_init_12 : decode cX1_init 12 = .ok (.aload_n 1, 1) := by decide +kernel
theorem dX1_init_13 : decode cX1_init 13 = .ok (.putfield 15, 3) := by decide +kernel
theorem dX1_init_16 : decode cX1_init 16 = .ok (.return_, 1) := by decide +kernel
theorem dX1_takesIn_0 : decode cX1_takesIn 0 = .ok (.aload_n 0, 1) := by decide +kernel
theorem dX1_takesIn_1 : decode cX1_takesIn 1 = .ok (.aload_n 1, 1) := by decide +kernel
theorem dX1_takesIn_2 : decode cX1_takesIn 2 = .ok (.putfield 9, 3) := by decide +kernel
theorem dX1_takesIn_5 : decode cX1_takesIn 5 = .ok (.aload_n 0, 1) := by decide +kernel
theorem dX1_takesIn_6 : decode cX1_takesIn 6 = .ok (.iload_n 2, 1) := by decide +kernel
theorem dX1_takesIn_7 : decode cX1_takesIn 7 = .ok (.aload_n 1, 1) := by decide +kernel
theorem dX1_takesIn_8 : decode cX1_takesIn 8 = .ok (.arraylength, 1) := by decide +kernel
theorem dX1_takesIn_9 : decode cX1_takesIn 9 = .ok (.invokestatic 19, 3) := by decide +kernel
theorem dX1_takesIn_12 : decode cX1_takesIn 12 = .ok (.putfield 25, 3) := by decide +kernel
theorem dX1_takesIn_15 : decode cX1_takesIn 15 = .ok (.aload_n 0, 1) := by decide +kernel
theorem dX1_takesIn_16 : decode cX1_takesIn 16 = .ok (.aload_n 3, 1) := by decide +kernel
theorem dX1_takesIn_17 : decode cX1_takesIn 17 = .ok (.putfield 15, 3) := by decide +kernel
theorem dX1_takesIn_20 : decode cX1_takesIn 20 = .ok (.aload_n 0, 1) := by decide +kernel
theorem dX1_takesIn_21 : decode cX1_takesIn 21 = .ok (.iconst 0, 1) := by decide +kernel
theorem dX1_takesIn_22 : decode cX1_takesIn 22 = .ok (.putfield 29, 3) := by decide +kernel
theorem dX1_takesIn_25 : decode cX1_takesIn 25 = .ok (.aload_n 0, 1) := by decide +kernel
theorem dX1_takesIn_26 : decode cX1_takesIn 26 = .ok (.iconst 0, 1) := by decide +kernel
theorem dX1_takesIn_27 : decode cX1_takesIn 27 = .ok (.putfield 32, 3) := by decide +kernel
theorem dX1_takesIn_30 : decode cX1_takesIn 30 = .ok (.aload_n 0, 1) := by decide +kernel
theorem dX1_takesIn_31 : decode cX1_takesIn 31 = .ok (.invokevirtual 35, 3) := by decide +kernel
theorem dX1_takesIn_34 : decode cX1_takesIn 34 = .ok (.aload_n 0, 1) := by decide +kernel
theorem dX1_takesIn_35 : decode cX1_takesIn 35 = .ok (.invokevirtual 38, 3) := by decide +kernel
theorem dX1_takesIn_38 : decode cX1_takesIn 38 = .ok (.istore 4, 2) := by decide +kernel
theorem dX1_takesIn_40 : decode cX1_takesIn 40 = .ok (.iload 4, 2) := by decide +kernel
theorem dX1_takesIn_42 : decode cX1_takesIn 42 = .ok (.ldc 42, 2) := by decide +kernel
theorem dX1_takesIn_44 : decode cX1_takesIn 44 = .ok (.if_icmp .ne 5, 3) := by decide +kernel
theorem dX1_takesIn_47 : decode cX1_takesIn 47 = .ok (.iconst 0, 1) := by decide +kernel
theorem dX1_takesIn_48 : decode cX1_takesIn 48 = .ok (.ireturn, 1) := by decide +kernel
theorem dX1_takesIn_49 : decode cX1_takesIn 49 = .ok (.aload_n 0, 1) := by decide +kernel
theorem dX1_takesIn_50 : decode cX1_takesIn 50 = .ok (.getfield 15, 3) := by decide +kernel
theorem dX1_takesIn_53 : decode cX1_takesIn 53 = .ok (.iload 4, 2) := by decide +kernel
theorem dX1_takesIn_55 : decode cX1_takesIn 55 = .ok (.invokevirtual 43, 3) := by decide +kernel
theorem dX1_takesIn_58 : decode cX1_takesIn 58 = .ok (.aload_n 0, 1) := by decide +kernel
theorem dX1_takesIn_59 : decode cX1_takesIn 59 = .ok (.invokevirtual 35, 3) := by decide +kernel
theorem dX1_takesIn_62 : decode cX1_takesIn 62 = .ok (.aload_n 0, 1) := by decide +kernel
theorem dX1_takesIn_63 : decode cX1_takesIn 63 = .ok (.iconst 0, 1) := by decide +kernel
theorem dX1_takesIn_64 : decode cX1_takesIn 64 = .ok (.iconst 0, 1) := by decide +kernel
theorem dX1_takesIn_65 : decode cX1_takesIn 65 = .ok (.invokevirtual 49, 3) := by decide +kernel
theorem dX1_takesIn_68 : decode cX1_takesIn 68 = .ok (.ifCond .eq 14, 3) := by decide +kernel
theorem dX1_takesIn_71 : decode cX1_takesIn 71 = .ok (.aload_n 0, 1) := by decide +kernel
theorem dX1_takesIn_72 : decode cX1_takesIn 72 = .ok (.getfield 29, 3) := by decide +kernel
theorem dX1_takesIn_75 : decode cX1_takesIn 75 = .ok (.ifCond .ne 7, 3) := by decide +kernel
theorem dX1_takesIn_78 : decode cX1_takesIn 78 = .ok (.iconst 1, 1) := by decide +kernel
theorem dX1_takesIn_79 : decode cX1_takesIn 79 = .ok (.goto 4, 3) := by decide +kernel
theorem dX1_takesIn_82 : decode cX1_takesIn 82 = .ok (.iconst 0, 1) := by decide +kernel
theorem dX1_takesIn_83 : decode cX1_takesIn 83 = .ok (.ireturn, 1) := by decide +kernel
theorem dX1_step_0 : decode cX1_step 0 = .ok (.aload_n 0, 1) := by decide +kernel
theorem dX1_step_1 : decode cX1_step 1 = .ok (.getfield 29, 3) := by decide +kernel
theorem dX1_step_4 : decode cX1_step 4 = .ok (.iconst 1, 1) := by decide +kernel
theorem dX1_step_5 : decode cX1_step 5 = .ok (.if_icmp .eq 11, 3) := by decide +kernel
theorem dX1_step_8 : decode cX1_step 8 = .ok (.aload_n 0, 1) := by decide +kernel
theorem dX1_step_9 : decode cX1_step 9 = .ok (.getfield 29, 3) := by decide +kernel
theorem dX1_step_12 : decode cX1_step 12 = .ok (.iconst 2, 1) := by decide +kernel
theorem dX1_step_13 : decode cX1_step 13 = .ok (.if_icmp .ne 7, 3) := by decide +kernel
theorem dX1_step_16 : decode cX1_step 16 = .ok (.iconst 1, 1) := by decide +kernel
theorem dX1_step_17 : decode cX1_step 17 = .ok (.goto 4, 3) := by decide +kernel
theorem dX1_step_20 : decode cX1_step 20 = .ok (.iconst 0, 1) := by decide +kernel
theorem dX1_step_21 : decode cX1_step 21 = .ok (.istore_n 1, 1) := by decide +kernel
theorem dX1_step_22 : decode cX1_step 22 = .ok (.aload_n 0, 1) := by decide +kernel
theorem dX1_step_23 : decode cX1_step 23 = .ok (.getfield 32, 3) := by decide +kernel
theorem dX1_step_26 : decode cX1_step 26 = .ok (.istore_n 2, 1) := by decide +kernel
theorem dX1_step_27 : decode cX1_step 27 = .ok (.aload_n 0, 1) := by decide +kernel
theorem dX1_step_28 : decode cX1_step 28 = .ok (.aload_n 0, 1) := by decide +kernel
theorem dX1_step_29 : decode cX1_step 29 = .ok (.getfield 32, 3) := by decide +kernel
theorem dX1_step_32 : decode cX1_step 32 = .ok (.putfield 53, 3) := by decide +kernel
theorem dX1_step_35 : decode cX1_step 35 = .ok (.aload_n 0, 1) := by decide +kernel
theorem dX1_step_36 : decode cX1_step 36 = .ok (.getfield 53, 3) := by decide +kernel
theorem dX1_step_39 : decode cX1_step 39 = .ok (.aload_n 0, 1) := by decide +kernel
theorem dX1_step_40 : decode cX1_step 40 = .ok (.getfield 25, 3) := by decide +kernel
theorem dX1_step_43 : decode cX1_step 43 = .ok (.if_icmp .ge 30, 3) := by decide +kernel
theorem dX1_step_46 : decode cX1_step 46 = .ok (.aload_n 0, 1) := by decide +kernel
theorem dX1_step_47 : decode cX1_step 47 = .ok (.getfield 9, 3) := by decide +kernel
theorem dX1_step_50 : decode cX1_step 50 = .ok (.aload_n 0, 1) := by decide +kernel
theorem dX1_step_51 : decode cX1_step 51 = .ok (.getfield 53, 3) := by decide +kernel
theorem dX1_step_54 : decode cX1_step 54 = .ok (.baload, 1) := by decide +kernel
theorem dX1_step_55 : decode cX1_step 55 = .ok (.bipush 32, 2) := by decide +kernel
theorem dX1_step_57 : decode cX1_step 57 = .ok (.if_icmp .ne 16, 3) := by decide +kernel
theorem dX1_step_60 : decode cX1_step 60 = .ok (.aload_n 0, 1) := by decide +kernel
theorem dX1_step_61 : decode cX1_step 61 = .ok (.dup, 1) := by decide +kernel
theorem dX1_step_62 : decode cX1_step 62 = .ok (.getfield 53, 3) := by decide +kernel
theorem dX1_step_65 : decode cX1_step 65 = .ok (.iconst 1, 1) := by decide +kernel
theorem dX1_step_66 : decode cX1_step 66 = .ok (.iadd, 1) := by decide +kernel
theorem dX1_step_67 : decode cX1_step 67 = .ok (.putfield 53, 3) := by decide +kernel
theorem dX1_step_70 : decode cX1_step 70 = .ok (.goto (-35), 3) := by decide +kernel
theorem dX1_step_73 : decode cX1_step 73 = .ok (.aload_n 0, 1) := by decide +kernel
theorem dX1_step_74 : decode cX1_step 74 = .ok (.aload_n 0, 1) := by decide +kernel
theorem dX1_step_75 : decode cX1_step 75 = .ok (.aload_n 0, 1) := by decide +kernel
theorem dX1_step_76 : decode cX1_step 76 = .ok (.getfield 53, 3) := by decide +kernel
theorem dX1_step_79 : decode cX1_step 79 = .ok (.invokevirtual 56, 3) := by decide +kernel
theorem dX1_step_82 : decode cX1_step 82 = .ok (.putfield 29, 3) := by decide +kernel
theorem dX1_step_85 : decode cX1_step 85 = .ok (.aload_n 0, 1) := by decide +kernel
theorem dX1_step_86 : decode cX1_step 86 = .ok (.aload_n 0, 1) := by decide +kernel
theorem dX1_step_87 : decode cX1_step 87 = .ok (.getfield 29, 3) := by decide +kernel
theorem dX1_step_90 : decode cX1_step 90 = .ok (.ifCond .ne 10, 3) := by decide +kernel
theorem dX1_step_93 : decode cX1_step 93 = .ok (.aload_n 0, 1) := by decide +kernel
theorem dX1_step_94 : decode cX1_step 94 = .ok (.getfield 53, 3) := by decide +kernel
theorem dX1_step_97 : decode cX1_step 97 = .ok (.goto 9, 3) := by decide +kernel
theorem dX1_step_100 : decode cX1_step 100 = .ok (.aload_n 0, 1) := by decide +kernel
theorem dX1_step_101 : decode cX1_step 101 = .ok (.getfield 53, 3) := by decide +kernel
theorem dX1_step_104 : decode cX1_step 104 = .ok (.iconst 1, 1) := by decide +kernel
theorem dX1_step_105 : decode cX1_step 105 = .ok (.iadd, 1) := by decide +kernel
theorem dX1_step_106 : decode cX1_step 106 = .ok (.putfield 32, 3) := by decide +kernel
theorem dX1_step_109 : decode cX1_step 109 = .ok (.aload_n 0, 1) := by decide +kernel
theorem dX1_step_110 : decode cX1_step 110 = .ok (.getfield 29, 3) := by decide +kernel
theorem dX1_step_113 : decode cX1_step 113 = .ok (.iconst 1, 1) := by decide +kernel
theorem dX1_step_114 : decode cX1_step 114 = .ok (.if_icmp .eq 11, 3) := by decide +kernel
theorem dX1_step_117 : decode cX1_step 117 = .ok (.aload_n 0, 1) := by decide +kernel
theorem dX1_step_118 : decode cX1_step 118 = .ok (.getfield 29, 3) := by decide +kernel
theorem dX1_step_121 : decode cX1_step 121 = .ok (.iconst 2, 1) := by decide +kernel
theorem dX1_step_122 : decode cX1_step 122 = .ok (.if_icmp .ne 42, 3) := by decide +kernel
theorem dX1_step_125 : decode cX1_step 125 = .ok (.aload_n 0, 1) := by decide +kernel
theorem dX1_step_126 : decode cX1_step 126 = .ok (.getfield 32, 3) := by decide +kernel
theorem dX1_step_129 : decode cX1_step 129 = .ok (.aload_n 0, 1) := by decide +kernel
theorem dX1_step_130 : decode cX1_step 130 = .ok (.getfield 25, 3) := by decide +kernel
theorem dX1_step_133 : decode cX1_step 133 = .ok (.if_icmp .ge 31, 3) := by decide +kernel
theorem dX1_step_136 : decode cX1_step 136 = .ok (.aload_n 0, 1) := by decide +kernel
theorem dX1_step_137 : decode cX1_step 137 = .ok (.aload_n 0, 1) := by decide +kernel
theorem dX1_step_138 : decode cX1_step 138 = .ok (.getfield 32, 3) := by decide +kernel
theorem dX1_step_141 : decode cX1_step 141 = .ok (.invokevirtual 56, 3) := by decide +kernel
theorem dX1_step_144 : decode cX1_step 144 = .ok (.aload_n 0, 1) := by decide +kernel
theorem dX1_step_145 : decode cX1_step 145 = .ok (.getfield 29, 3) := by decide +kernel
theorem dX1_step_148 : decode cX1_step 148 = .ok (.if_icmp .ne 16, 3) := by decide +kernel
theorem dX1_step_151 : decode cX1_step 151 = .ok (.aload_n 0, 1) := by decide +kernel
theorem dX1_step_152 : decode cX1_step 152 = .ok (.dup, 1) := by decide +kernel
theorem dX1_step_153 : decode cX1_step 153 = .ok (.getfield 32, 3) := by decide +kernel
theorem dX1_step_156 : decode cX1_step 156 = .ok (.iconst 1, 1) := by decide +kernel
theorem dX1_step_157 : decode cX1_step 157 = .ok (.iadd, 1) := by decide +kernel
theorem dX1_step_158 : decode cX1_step 158 = .ok (.putfield 32, 3) := by decide +kernel
theorem dX1_step_161 : decode cX1_step 161 = .ok (.goto (-36), 3) := by decide +kernel
theorem dX1_step_164 : decode cX1_step 164 = .ok (.aload_n 0, 1) := by decide +kernel
theorem dX1_step_165 : decode cX1_step 165 = .ok (.iload_n 1, 1) := by decide +kernel
theorem dX1_step_166 : decode cX1_step 166 = .ok (.ifCond .eq 15, 3) := by decide +kernel
theorem dX1_step_169 : decode cX1_step 169 = .ok (.aload_n 0, 1) := by decide +kernel
theorem dX1_step_170 : decode cX1_step 170 = .ok (.getfield 53, 3) := by decide +kernel
theorem dX1_step_173 : decode cX1_step 173 = .ok (.iload_n 2, 1) := by decide +kernel
theorem dX1_step_174 : decode cX1_step 174 = .ok (.if_icmp .ne 7, 3) := by decide +kernel
theorem dX1_step_177 : decode cX1_step 177 = .ok (.iconst 1, 1) := by decide +kernel
theorem dX1_step_178 : decode cX1_step 178 = .ok (.goto 4, 3) := by decide +kernel
theorem dX1_step_181 : decode cX1_step 181 = .ok (.iconst 0, 1) := by decide +kernel
theorem dX1_step_182 : decode cX1_step 182 = .ok (.putfield 60, 3) := by decide +kernel
theorem dX1_step_185 : decode cX1_step 185 = .ok (.return_, 1) := by decide +kernel
theorem dX1_sortAt_0 : decode cX1_sortAt 0 = .ok (.iload_n 1, 1) := by decide +kernel
theorem dX1_sortAt_1 : decode cX1_sortAt 1 = .ok (.ifCond .lt 11, 3) := by decide +kernel
theorem dX1_sortAt_4 : decode cX1_sortAt 4 = .ok (.iload_n 1, 1) := by decide +kernel
theorem dX1_sortAt_5 : decode cX1_sortAt 5 = .ok (.aload_n 0, 1) := by decide +kernel
theorem dX1_sortAt_6 : decode cX1_sortAt 6 = .ok (.getfield 25, 3) := by decide +kernel
theorem dX1_sortAt_9 : decode cX1_sortAt 9 = .ok (.if_icmp .lt 5, 3) := by decide +kernel
theorem dX1_sortAt_12 : decode cX1_sortAt 12 = .ok (.iconst 0, 1) := by decide +kernel
theorem dX1_sortAt_13 : decode cX1_sortAt 13 = .ok (.ireturn, 1) := by decide +kernel
theorem dX1_sortAt_14 : decode cX1_sortAt 14 = .ok (.aload_n 0, 1) := by decide +kernel
theorem dX1_sortAt_15 : decode cX1_sortAt 15 = .ok (.getfield 9, 3) := by decide +kernel
theorem dX1_sortAt_18 : decode cX1_sortAt 18 = .ok (.iload_n 1, 1) := by decide +kernel
theorem dX1_sortAt_19 : decode cX1_sortAt 19 = .ok (.baload, 1) := by decide +kernel
theorem dX1_sortAt_20 : decode cX1_sortAt 20 = .ok (.istore_n 2, 1) := by decide +kernel
theorem dX1_sortAt_21 : decode cX1_sortAt 21 = .ok (.iload_n 2, 1) := by decide +kernel
theorem dX1_sortAt_22 : decode cX1_sortAt 22 = .ok (.bipush 97, 2) := by decide +kernel
theorem dX1_sortAt_24 : decode cX1_sortAt 24 = .ok (.if_icmp .lt 11, 3) := by decide +kernel
theorem dX1_sortAt_27 : decode cX1_sortAt 27 = .ok (.iload_n 2, 1) := by decide +kernel
theorem dX1_sortAt_28 : decode cX1_sortAt 28 = .ok (.bipush 122, 2) := by decide +kernel
theorem dX1_sortAt_30 : decode cX1_sortAt 30 = .ok (.if_icmp .gt 5, 3) := by decide +kernel
theorem dX1_sortAt_33 : decode cX1_sortAt 33 = .ok (.iconst 1, 1) := by decide +kernel
theorem dX1_sortAt_34 : decode cX1_sortAt 34 = .ok (.ireturn, 1) := by decide +kernel
theorem dX1_sortAt_35 : decode cX1_sortAt 35 = .ok (.iload_n 2, 1) := by decide +kernel
theorem dX1_sortAt_36 : decode cX1_sortAt 36 = .ok (.bipush 48, 2) := by decide +kernel
theorem dX1_sortAt_38 : decode cX1_sortAt 38 = .ok (.if_icmp .lt 13, 3) := by decide +kernel
theorem dX1_sortAt_41 : decode cX1_sortAt 41 = .ok (.iload_n 2, 1) := by decide +kernel
theorem dX1_sortAt_42 : decode cX1_sortAt 42 = .ok (.bipush 57, 2) := by decide +kernel
theorem dX1_sortAt_44 : decode cX1_sortAt 44 = .ok (.if_icmp .gt 7, 3) := by decide +kernel
theorem dX1_sortAt_47 : decode cX1_sortAt 47 = .ok (.iconst 2, 1) := by decide +kernel
theorem dX1_sortAt_48 : decode cX1_sortAt 48 = .ok (.goto 4, 3) := by decide +kernel
theorem dX1_sortAt_51 : decode cX1_sortAt 51 = .ok (.iconst 3, 1) := by decide +kernel
theorem dX1_sortAt_52 : decode cX1_sortAt 52 = .ok (.ireturn, 1) := by decide +kernel
theorem dX1_isSign_0 : decode cX1_isSign 0 = .ok (.aload_n 0, 1) := by decide +kernel
theorem dX1_isSign_1 : decode cX1_isSign 1 = .ok (.getfield 29, 3) := by decide +kernel
theorem dX1_isSign_4 : decode cX1_isSign 4 = .ok (.iconst 3, 1) := by decide +kernel
theorem dX1_isSign_5 : decode cX1_isSign 5 = .ok (.if_icmp .ne 15, 3) := by decide +kernel
theorem dX1_isSign_8 : decode cX1_isSign 8 = .ok (.aload_n 0, 1) := by decide +kernel
theorem dX1_isSign_9 : decode cX1_isSign 9 = .ok (.invokevirtual 64, 3) := by decide +kernel
theorem dX1_isSign_12 : decode cX1_isSign 12 = .ok (.iload_n 1, 1) := by decide +kernel
theorem dX1_isSign_13 : decode cX1_isSign 13 = .ok (.if_icmp .ne 7, 3) := by decide +kernel
theorem dX1_isSign_16 : decode cX1_isSign 16 = .ok (.iconst 1, 1) := by decide +kernel
theorem dX1_isSign_17 : decode cX1_isSign 17 = .ok (.goto 4, 3) := by decide +kernel
theorem dX1_isSign_20 : decode cX1_isSign 20 = .ok (.iconst 0, 1) := by decide +kernel
theorem dX1_isSign_21 : decode cX1_isSign 21 = .ok (.ireturn, 1) := by decide +kernel
theorem dX1_byteHere_0 : decode cX1_byteHere 0 = .ok (.aload_n 0, 1) := by decide +kernel
theorem dX1_byteHere_1 : decode cX1_byteHere 1 = .ok (.getfield 53, 3) := by decide +kernel
theorem dX1_byteHere_4 : decode cX1_byteHere 4 = .ok (.ifCond .lt 26, 3) := by decide +kernel
theorem dX1_byteHere_7 : decode cX1_byteHere 7 = .ok (.aload_n 0, 1) := by decide +kernel
theorem dX1_byteHere_8 : decode cX1_byteHere 8 = .ok (.getfield 53, 3) := by decide +kernel
theorem dX1_byteHere_11 : decode cX1_byteHere 11 = .ok (.aload_n 0, 1) := by decide +kernel
theorem dX1_byteHere_12 : decode cX1_byteHere 12 = .ok (.getfield 25, 3) := by decide +kernel
theorem dX1_byteHere_15 : decode cX1_byteHere 15 = .ok (.if_icmp .ge 15, 3) := by decide +kernel
theorem dX1_byteHere_18 : decode cX1_byteHere 18 = .ok (.aload_n 0, 1) := by decide +kernel
theorem dX1_byteHere_19 : decode cX1_byteHere 19 = .ok (.getfield 9, 3) := by decide +kernel
theorem dX1_byteHere_22 : decode cX1_byteHere 22 = .ok (.aload_n 0, 1) := by decide +kernel
theorem dX1_byteHere_23 : decode cX1_byteHere 23 = .ok (.getfield 53, 3) := by decide +kernel
theorem dX1_byteHere_26 : decode cX1_byteHere 26 = .ok (.baload, 1) := by decide +kernel
theorem dX1_byteHere_27 : decode cX1_byteHere 27 = .ok (.goto 4, 3) := by decide +kernel
theorem dX1_byteHere_30 : decode cX1_byteHere 30 = .ok (.iconst 0, 1) := by decide +kernel
theorem dX1_byteHere_31 : decode cX1_byteHere 31 = .ok (.ireturn, 1) := by decide +kernel
theorem dX1_keyHere_0 : decode cX1_keyHere 0 = .ok (.aload_n 0, 1) := by decide +kernel
theorem dX1_keyHere_1 : decode cX1_keyHere 1 = .ok (.ldc 67, 2) := by decide +kernel
theorem dX1_keyHere_3 : decode cX1_keyHere 3 = .ok (.invokevirtual 69, 3) := by decide +kernel
theorem dX1_keyHere_6 : decode cX1_keyHere 6 = .ok (.ifCond .eq 5, 3) := by decide +kernel
theorem dX1_keyHere_9 : decode cX1_keyHere 9 = .ok (.iconst 0, 1) := by decide +kernel
theorem dX1_keyHere_10 : decode cX1_keyHere 10 = .ok (.ireturn, 1) := by decide +kernel
theorem dX1_keyHere_11 : decode cX1_keyHere 11 = .ok (.aload_n 0, 1) := by decide +kernel
theorem dX1_keyHere_12 : decode cX1_keyHere 12 = .ok (.ldc 73, 2) := by decide +kernel
theorem dX1_keyHere_14 : decode cX1_keyHere 14 = .ok (.invokevirtual 69, 3) := by decide +kernel
theorem dX1_keyHere_17 : decode cX1_keyHere 17 = .ok (.ifCond .eq 5, 3) := by decide +kernel
theorem dX1_keyHere_20 : decode cX1_keyHere 20 = .ok (.iconst 1, 1) := by decide +kernel
theorem dX1_keyHere_21 : decode cX1_keyHere 21 = .ok (.ireturn, 1) := by decide +kernel
theorem dX1_keyHere_22 : decode cX1_keyHere 22 = .ok (.aload_n 0, 1) := by decide +kernel
theorem dX1_keyHere_23 : decode cX1_keyHere 23 = .ok (.ldc 75, 2) := by decide +kernel
theorem dX1_keyHere_25 : decode cX1_keyHere 25 = .ok (.invokevirtual 69, 3) := by decide +kernel
theorem dX1_keyHere_28 : decode cX1_keyHere 28 = .ok (.ifCond .eq 7, 3) := by decide +kernel
theorem dX1_keyHere_31 : decode cX1_keyHere 31 = .ok (.iconst 2, 1) := by decide +kernel
theorem dX1_keyHere_32 : decode cX1_keyHere 32 = .ok (.goto 5, 3) := by decide +kernel
theorem dX1_keyHere_35 : decode cX1_keyHere 35 = .ok (.ldc 42, 2) := by decide +kernel
theorem dX1_keyHere_37 : decode cX1_keyHere 37 = .ok (.ireturn, 1) := by decide +kernel
theorem dX1_isWord_0 : decode cX1_isWord 0 = .ok (.aload_n 0, 1) := by decide +kernel
theorem dX1_isWord_1 : decode cX1_isWord 1 = .ok (.getfield 29, 3) := by decide +kernel
theorem dX1_isWord_4 : decode cX1_isWord 4 = .ok (.iconst 1, 1) := by decide +kernel
theorem dX1_isWord_5 : decode cX1_isWord 5 = .ok (.if_icmp .ne 19, 3) := by decide +kernel
theorem dX1_isWord_8 : decode cX1_isWord 8 = .ok (.aload_n 0, 1) := by decide +kernel
theorem dX1_isWord_9 : decode cX1_isWord 9 = .ok (.getfield 32, 3) := by decide +kernel
theorem dX1_isWord_12 : decode cX1_isWord 12 = .ok (.aload_n 0, 1) := by decide +kernel
theorem dX1_isWord_13 : decode cX1_isWord 13 = .ok (.getfield 53, 3) := by decide +kernel
theorem dX1_isWord_16 : decode cX1_isWord 16 = .ok (.isub, 1) := by decide +kernel
theorem dX1_isWord_17 : decode cX1_isWord 17 = .ok (.aload_n 1, 1) := by decide +kernel
theorem dX1_isWord_18 : decode cX1_isWord 18 = .ok (.invokevirtual 77, 3) := by decide +kernel
theorem dX1_isWord_21 : decode cX1_isWord 21 = .ok (.if_icmp .eq 5, 3) := by decide +kernel
theorem dX1_isWord_24 : decode cX1_isWord 24 = .ok (.iconst 0, 1) := by decide +kernel
theorem dX1_isWord_25 : decode cX1_isWord 25 = .ok (.ireturn, 1) := by decide +kernel
theorem dX1_isWord_26 : decode cX1_isWord 26 = .ok (.iconst 0, 1) := by decide +kernel
theorem dX1_isWord_27 : decode cX1_isWord 27 = .ok (.istore_n 2, 1) := by decide +kernel
theorem dX1_isWord_28 : decode cX1_isWord 28 = .ok (.iload_n 2, 1) := by decide +kernel
theorem dX1_isWord_29 : decode cX1_isWord 29 = .ok (.aload_n 1, 1) := by decide +kernel
theorem dX1_isWord_30 : decode cX1_isWord 30 = .ok (.invokevirtual 77, 3) := by decide +kernel
theorem dX1_isWord_33 : decode cX1_isWord 33 = .ok (.if_icmp .ge 43, 3) := by decide +kernel
theorem dX1_isWord_36 : decode cX1_isWord 36 = .ok (.aload_n 0, 1) := by decide +kernel
theorem dX1_isWord_37 : decode cX1_isWord 37 = .ok (.getfield 53, 3) := by decide +kernel
theorem dX1_isWord_40 : decode cX1_isWord 40 = .ok (.iload_n 2, 1) := by decide +kernel
theorem dX1_isWord_41 : decode cX1_isWord 41 = .ok (.iadd, 1) := by decide +kernel
theorem dX1_isWord_42 : decode cX1_isWord 42 = .ok (.aload_n 0, 1) := by decide +kernel
theorem dX1_isWord_43 : decode cX1_isWord 43 = .ok (.getfield 25, 3) := by decide +kernel
theorem dX1_isWord_46 : decode cX1_isWord 46 = .ok (.if_icmp .ge 30, 3) := by decide +kernel
theorem dX1_isWord_49 : decode cX1_isWord 49 = .ok (.aload_n 0, 1) := by decide +kernel
theorem dX1_isWord_50 : decode cX1_isWord 50 = .ok (.getfield 9, 3) := by decide +kernel
theorem dX1_isWord_53 : decode cX1_isWord 53 = .ok (.aload_n 0, 1) := by decide +kernel
theorem dX1_isWord_54 : decode cX1_isWord 54 = .ok (.getfield 53, 3) := by decide +kernel
theorem dX1_isWord_57 : decode cX1_isWord 57 = .ok (.iload_n 2, 1) := by decide +kernel
theorem dX1_isWord_58 : decode cX1_isWord 58 = .ok (.iadd, 1) := by decide +kernel
theorem dX1_isWord_59 : decode cX1_isWord 59 = .ok (.baload, 1) := by decide +kernel
theorem dX1_isWord_60 : decode cX1_isWord 60 = .ok (.aload_n 1, 1) := by decide +kernel
theorem dX1_isWord_61 : decode cX1_isWord 61 = .ok (.iload_n 2, 1) := by decide +kernel
theorem dX1_isWord_62 : decode cX1_isWord 62 = .ok (.invokevirtual 82, 3) := by decide +kernel
theorem dX1_isWord_65 : decode cX1_isWord 65 = .ok (.if_icmp .eq 5, 3) := by decide +kernel
theorem dX1_isWord_68 : decode cX1_isWord 68 = .ok (.iconst 0, 1) := by decide +kernel
theorem dX1_isWord_69 : decode cX1_isWord 69 = .ok (.ireturn, 1) := by decide +kernel
theorem dX1_isWord_70 : decode cX1_isWord 70 = .ok (.iinc 2 1, 3) := by decide +kernel
theorem dX1_isWord_73 : decode cX1_isWord 73 = .ok (.goto (-45), 3) := by decide +kernel
theorem dX1_isWord_76 : decode cX1_isWord 76 = .ok (.iconst 1, 1) := by decide +kernel
theorem dX1_isWord_77 : decode cX1_isWord 77 = .ok (.ireturn, 1) := by decide +kernel
theorem dX1_readOr_0 : decode cX1_readOr 0 = .ok (.aload_n 0, 1) := by decide +kernel
theorem dX1_readOr_1 : decode cX1_readOr 1 = .ok (.iload_n 1, 1) := by decide +kernel
theorem dX1_readOr_2 : decode cX1_readOr 2 = .ok (.iload_n 2, 1) := by decide +kernel
theorem dX1_readOr_3 : decode cX1_readOr 3 = .ok (.invokevirtual 86, 3) := by decide +kernel
theorem dX1_readOr_6 : decode cX1_readOr 6 = .ok (.ifCond .ne 5, 3) := by decide +kernel
theorem dX1_readOr_9 : decode cX1_readOr 9 = .ok (.iconst 0, 1) := by decide +kernel
theorem dX1_readOr_10 : decode cX1_readOr 10 = .ok (.ireturn, 1) := by decide +kernel
theorem dX1_readOr_11 : decode cX1_readOr 11 = .ok (.iconst 0, 1) := by decide +kernel
theorem dX1_readOr_12 : decode cX1_readOr 12 = .ok (.istore_n 3, 1) := by decide +kernel
theorem dX1_readOr_13 : decode cX1_readOr 13 = .ok (.iload_n 3, 1) := by decide +kernel
theorem dX1_readOr_14 : decode cX1_readOr 14 = .ok (.bipush 96, 2) := by decide +kernel
theorem dX1_readOr_16 : decode cX1_readOr 16 = .ok (.if_icmp .ge 42, 3) := by decide +kernel
theorem dX1_readOr_19 : decode cX1_readOr 19 = .ok (.aload_n 0, 1) := by decide +kernel
theorem dX1_readOr_20 : decode cX1_readOr 20 = .ok (.bipush 124, 2) := by decide +kernel
theorem dX1_readOr_22 : decode cX1_readOr 22 = .ok (.invokevirtual 89, 3) := by decide +kernel
theorem dX1_readOr_25 : decode cX1_readOr 25 = .ok (.ifCond .eq 33, 3) := by decide +kernel
theorem dX1_readOr_28 : decode cX1_readOr 28 = .ok (.aload_n 0, 1) := by decide +kernel
theorem dX1_readOr_29 : decode cX1_readOr 29 = .ok (.invokevirtual 35, 3) := by decide +kernel
theorem dX1_readOr_32 : decode cX1_readOr 32 = .ok (.aload_n 0, 1) := by decide +kernel
theorem dX1_readOr_33 : decode cX1_readOr 33 = .ok (.iload_n 1, 1) := by decide +kernel
theorem dX1_readOr_34 : decode cX1_readOr 34 = .ok (.iload_n 2, 1) := by decide +kernel
theorem dX1_readOr_35 : decode cX1_readOr 35 = .ok (.invokevirtual 86, 3) := by decide +kernel
theorem dX1_readOr_38 : decode cX1_readOr 38 = .ok (.ifCond .ne 5, 3) := by decide +kernel
theorem dX1_readOr_41 : decode cX1_readOr 41 = .ok (.iconst 0, 1) := by decide +kernel
theorem dX1_readOr_42 : decode cX1_readOr 42 = .ok (.ireturn, 1) := by decide +kernel
theorem dX1_readOr_43 : decode cX1_readOr 43 = .ok (.aload_n 0, 1) := by decide +kernel
theorem dX1_readOr_44 : decode cX1_readOr 44 = .ok (.getfield 15, 3) := by decide +kernel
theorem dX1_readOr_47 : decode cX1_readOr 47 = .ok (.bipush 124, 2) := by decide +kernel
theorem dX1_readOr_49 : decode cX1_readOr 49 = .ok (.invokevirtual 93, 3) := by decide +kernel
theorem dX1_readOr_52 : decode cX1_readOr 52 = .ok (.iinc 3 1, 3) := by decide +kernel
theorem dX1_readOr_55 : decode cX1_readOr 55 = .ok (.goto (-42), 3) := by decide +kernel
theorem dX1_readOr_58 : decode cX1_readOr 58 = .ok (.iconst 1, 1) := by decide +kernel
theorem dX1_readOr_59 : decode cX1_readOr 59 = .ok (.ireturn, 1) := by decide +kernel
theorem dX1_readAnd_0 : decode cX1_readAnd 0 = .ok (.aload_n 0, 1) := by decide +kernel
theorem dX1_readAnd_1 : decode cX1_readAnd 1 = .ok (.iload_n 1, 1) := by decide +kernel
theorem dX1_readAnd_2 : decode cX1_readAnd 2 = .ok (.iload_n 2, 1) := by decide +kernel
theorem dX1_readAnd_3 : decode cX1_readAnd 3 = .ok (.invokevirtual 96, 3) := by decide +kernel
theorem dX1_readAnd_6 : decode cX1_readAnd 6 = .ok (.ifCond .ne 5, 3) := by decide +kernel
theorem dX1_readAnd_9 : decode cX1_readAnd 9 = .ok (.iconst 0, 1) := by decide +kernel
theorem dX1_readAnd_10 : decode cX1_readAnd 10 = .ok (.ireturn, 1) := by decide +kernel
theorem dX1_readAnd_11 : decode cX1_readAnd 11 = .ok (.iconst 0, 1) := by decide +kernel
theorem dX1_readAnd_12 : decode cX1_readAnd 12 = .ok (.istore_n 3, 1) := by decide +kernel
theorem dX1_readAnd_13 : decode cX1_readAnd 13 = .ok (.iload_n 3, 1) := by decide +kernel
theorem dX1_readAnd_14 : decode cX1_readAnd 14 = .ok (.bipush 96, 2) := by decide +kernel
theorem dX1_readAnd_16 : decode cX1_readAnd 16 = .ok (.if_icmp .ge 42, 3) := by decide +kernel
theorem dX1_readAnd_19 : decode cX1_readAnd 19 = .ok (.aload_n 0, 1) := by decide +kernel
theorem dX1_readAnd_20 : decode cX1_readAnd 20 = .ok (.bipush 38, 2) := by decide +kernel
theorem dX1_readAnd_22 : decode cX1_readAnd 22 = .ok (.invokevirtual 89, 3) := by decide +kernel
theorem dX1_readAnd_25 : decode cX1_readAnd 25 = .ok (.ifCond .eq 33, 3) := by decide +kernel
theorem dX1_readAnd_28 : decode cX1_readAnd 28 = .ok (.aload_n 0, 1) := by decide +kernel
theorem dX1_readAnd_29 : decode cX1_readAnd 29 = .ok (.invokevirtual 35, 3) := by decide +kernel
theorem dX1_readAnd_32 : decode cX1_readAnd 32 = .ok (.aload_n 0, 1) := by decide +kernel
theorem dX1_readAnd_33 : decode cX1_readAnd 33 = .ok (.iload_n 1, 1) := by decide +kernel
theorem dX1_readAnd_34 : decode cX1_readAnd 34 = .ok (.iload_n 2, 1) := by decide +kernel
theorem dX1_readAnd_35 : decode cX1_readAnd 35 = .ok (.invokevirtual 96, 3) := by decide +kernel
theorem dX1_readAnd_38 : decode cX1_readAnd 38 = .ok (.ifCond .ne 5, 3) := by decide +kernel
theorem dX1_readAnd_41 : decode cX1_readAnd 41 = .ok (.iconst 0, 1) := by decide +kernel
theorem dX1_readAnd_42 : decode cX1_readAnd 42 = .ok (.ireturn, 1) := by decide +kernel
theorem dX1_readAnd_43 : decode cX1_readAnd 43 = .ok (.aload_n 0, 1) := by decide +kernel
theorem dX1_readAnd_44 : decode cX1_readAnd 44 = .ok (.getfield 15, 3) := by decide +kernel
theorem dX1_readAnd_47 : decode cX1_readAnd 47 = .ok (.bipush 38, 2) := by decide +kernel
theorem dX1_readAnd_49 : decode cX1_readAnd 49 = .ok (.invokevirtual 93, 3) := by decide +kernel
theorem dX1_readAnd_52 : decode cX1_readAnd 52 = .ok (.iinc 3 1, 3) := by decide +kernel
theorem dX1_readAnd_55 : decode cX1_readAnd 55 = .ok (.goto (-42), 3) := by decide +kernel
theorem dX1_readAnd_58 : decode cX1_readAnd 58 = .ok (.iconst 1, 1) := by decide +kernel
theorem dX1_readAnd_59 : decode cX1_readAnd 59 = .ok (.ireturn, 1) := by decide +kernel
theorem dX1_readTest_0 : decode cX1_readTest 0 = .ok (.aload_n 0, 1) := by decide +kernel
theorem dX1_readTest_1 : decode cX1_readTest 1 = .ok (.iload_n 1, 1) := by decide +kernel
theorem dX1_readTest_2 : decode cX1_readTest 2 = .ok (.iload_n 2, 1) := by decide +kernel
theorem dX1_readTest_3 : decode cX1_readTest 3 = .ok (.invokevirtual 99, 3) := by decide +kernel
theorem dX1_readTest_6 : decode cX1_readTest 6 = .ok (.ifCond .ne 5, 3) := by decide +kernel
theorem dX1_readTest_9 : decode cX1_readTest 9 = .ok (.iconst 0, 1) := by decide +kernel
theorem dX1_readTest_10 : decode cX1_readTest 10 = .ok (.ireturn, 1) := by decide +kernel
theorem dX1_readTest_11 : decode cX1_readTest 11 = .ok (.aload_n 0, 1) := by decide +kernel
theorem dX1_readTest_12 : decode cX1_readTest 12 = .ok (.bipush 60, 2) := by decide +kernel
theorem dX1_readTest_14 : decode cX1_readTest 14 = .ok (.invokevirtual 89, 3) := by decide +kernel
theorem dX1_readTest_17 : decode cX1_readTest 17 = .ok (.ifCond .ne 21, 3) := by decide +kernel
theorem dX1_readTest_20 : decode cX1_readTest 20 = .ok (.aload_n 0, 1) := by decide +kernel
theorem dX1_readTest_21 : decode cX1_readTest 21 = .ok (.bipush 61, 2) := by decide +kernel
theorem dX1_readTest_23 : decode cX1_readTest 23 = .ok (.invokevirtual 89, 3) := by decide +kernel
theorem dX1_readTest_26 : decode cX1_readTest 26 = .ok (.ifCond .ne 12, 3) := by decide +kernel
theorem dX1_readTest_29 : decode cX1_readTest 29 = .ok (.aload_n 0, 1) := by decide +kernel
theorem dX1_readTest_30 : decode cX1_readTest 30 = .ok (.bipush 62, 2) := by decide +kernel
theorem dX1_readTest_32 : decode cX1_readTest 32 = .ok (.invokevirtual 89, 3) := by decide +kernel
theorem dX1_readTest_35 : decode cX1_readTest 35 = .ok (.ifCond .eq 31, 3) := by decide +kernel
theorem dX1_readTest_38 : decode cX1_readTest 38 = .ok (.aload_n 0, 1) := by decide +kernel
theorem dX1_readTest_39 : decode cX1_readTest 39 = .ok (.invokevirtual 64, 3) := by decide +kernel
theorem dX1_readTest_42 : decode cX1_readTest 42 = .ok (.istore_n 3, 1) := by decide +kernel
theorem dX1_readTest_43 : decode cX1_readTest 43 = .ok (.aload_n 0, 1) := by decide +kernel
theorem dX1_readTest_44 : decode cX1_readTest 44 = .ok (.invokevirtual 35, 3) := by decide +kernel
theorem dX1_readTest_47 : decode cX1_readTest 47 = .ok (.aload_n 0, 1) := by decide +kernel
theorem dX1_readTest_48 : decode cX1_readTest 48 = .ok (.iload_n 1, 1) := by decide +kernel
theorem dX1_readTest_49 : decode cX1_readTest 49 = .ok (.iload_n 2, 1) := by decide +kernel
theorem dX1_readTest_50 : decode cX1_readTest 50 = .ok (.invokevirtual 99, 3) := by decide +kernel
theorem dX1_readTest_53 : decode cX1_readTest 53 = .ok (.ifCond .ne 5, 3) := by decide +kernel
theorem dX1_readTest_56 : decode cX1_readTest 56 = .ok (.iconst 0, 1) := by decide +kernel
theorem dX1_readTest_57 : decode cX1_readTest 57 = .ok (.ireturn, 1) := by decide +kernel
theorem dX1_readTest_58 : decode cX1_readTest 58 = .ok (.aload_n 0, 1) := by decide +kernel
theorem dX1_readTest_59 : decode cX1_readTest 59 = .ok (.getfield 15, 3) := by decide +kernel
theorem dX1_readTest_62 : decode cX1_readTest 62 = .ok (.iload_n 3, 1) := by decide +kernel
theorem dX1_readTest_63 : decode cX1_readTest 63 = .ok (.invokevirtual 93, 3) := by decide +kernel
theorem dX1_readTest_66 : decode cX1_readTest 66 = .ok (.iconst 1, 1) := by decide +kernel
theorem dX1_readTest_67 : decode cX1_readTest 67 = .ok (.ireturn, 1) := by decide +kernel
theorem dX1_readSum_0 : decode cX1_readSum 0 = .ok (.aload_n 0, 1) := by decide +kernel
theorem dX1_readSum_1 : decode cX1_readSum 1 = .ok (.iload_n 1, 1) := by decide +kernel
theorem dX1_readSum_2 : decode cX1_readSum 2 = .ok (.iload_n 2, 1) := by decide +kernel
theorem dX1_readSum_3 : decode cX1_readSum 3 = .ok (.invokevirtual 102, 3) := by decide +kernel
theorem dX1_readSum_6 : decode cX1_readSum 6 = .ok (.ifCond .ne 5, 3) := by decide +kernel
theorem dX1_readSum_9 : decode cX1_readSum 9 = .ok (.iconst 0, 1) := by decide +kernel
theorem dX1_readSum_10 : decode cX1_readSum 10 = .ok (.ireturn, 1) := by decide +kernel
theorem dX1_readSum_11 : decode cX1_readSum 11 = .ok (.iconst 0, 1) := by decide +kernel
theorem dX1_readSum_12 : decode cX1_readSum 12 = .ok (.istore_n 3, 1) := by decide +kernel
theorem dX1_readSum_13 : decode cX1_readSum 13 = .ok (.iload_n 3, 1) := by decide +kernel
theorem dX1_readSum_14 : decode cX1_readSum 14 = .ok (.bipush 96, 2) := by decide +kernel
theorem dX1_readSum_16 : decode cX1_readSum 16 = .ok (.if_icmp .ge 57, 3) := by decide +kernel
theorem dX1_readSum_19 : decode cX1_readSum 19 = .ok (.aload_n 0, 1) := by decide +kernel
theorem dX1_readSum_20 : decode cX1_readSum 20 = .ok (.bipush 43, 2) := by decide +kernel
theorem dX1_readSum_22 : decode cX1_readSum 22 = .ok (.invokevirtual 89, 3) := by decide +kernel
theorem dX1_readSum_25 : decode cX1_readSum 25 = .ok (.ifCond .ne 12, 3) := by decide +kernel
theorem dX1_readSum_28 : decode cX1_readSum 28 = .ok (.aload_n 0, 1) := by decide +kernel
theorem dX1_readSum_29 : decode cX1_readSum 29 = .ok (.bipush 45, 2) := by decide +kernel
theorem dX1_readSum_31 : decode cX1_readSum 31 = .ok (.invokevirtual 89, 3) := by decide +kernel
theorem dX1_readSum_34 : decode cX1_readSum 34 = .ok (.ifCond .eq 39, 3) := by decide +kernel
theorem dX1_readSum_37 : decode cX1_readSum 37 = .ok (.aload_n 0, 1) := by decide +kernel
theorem dX1_readSum_38 : decode cX1_readSum 38 = .ok (.invokevirtual 64, 3) := by decide +kernel
theorem dX1_readSum_41 : decode cX1_readSum 41 = .ok (.istore 4, 2) := by decide +kernel
theorem dX1_readSum_43 : decode cX1_readSum 43 = .ok (.aload_n 0, 1) := by decide +kernel
theorem dX1_readSum_44 : decode cX1_readSum 44 = .ok (.invokevirtual 35, 3) := by decide +kernel
theorem dX1_readSum_47 : decode cX1_readSum 47 = .ok (.aload_n 0, 1) := by decide +kernel
theorem dX1_readSum_48 : decode cX1_readSum 48 = .ok (.iload_n 1, 1) := by decide +kernel
theorem dX1_readSum_49 : decode cX1_readSum 49 = .ok (.iload_n 2, 1) := by decide +kernel
theorem dX1_readSum_50 : decode cX1_readSum 50 = .ok (.invokevirtual 102, 3) := by decide +kernel
theorem dX1_readSum_53 : decode cX1_readSum 53 = .ok (.ifCond .ne 5, 3) := by decide +kernel
theorem dX1_readSum_56 : decode cX1_readSum 56 = .ok (.iconst 0, 1) := by decide +kernel
theorem dX1_readSum_57 : decode cX1_readSum 57 = .ok (.ireturn, 1) := by decide +kernel
theorem dX1_readSum_58 : decode cX1_readSum 58 = .ok (.aload_n 0, 1) := by decide +kernel
theorem dX1_readSum_59 : decode cX1_readSum 59 = .ok (.getfield 15, 3) := by decide +kernel
theorem dX1_readSum_62 : decode cX1_readSum 62 = .ok (.iload 4, 2) := by decide +kernel
theorem dX1_readSum_64 : decode cX1_readSum 64 = .ok (.invokevirtual 93, 3) := by decide +kernel
theorem dX1_readSum_67 : decode cX1_readSum 67 = .ok (.iinc 3 1, 3) := by decide +kernel
theorem dX1_readSum_70 : decode cX1_readSum 70 = .ok (.goto (-57), 3) := by decide +kernel
theorem dX1_readSum_73 : decode cX1_readSum 73 = .ok (.iconst 1, 1) := by decide +kernel
theorem dX1_readSum_74 : decode cX1_readSum 74 = .ok (.ireturn, 1) := by decide +kernel
theorem dX1_readTerm_0 : decode cX1_readTerm 0 = .ok (.aload_n 0, 1) := by decide +kernel
theorem dX1_readTerm_1 : decode cX1_readTerm 1 = .ok (.iload_n 1, 1) := by decide +kernel
theorem dX1_readTerm_2 : decode cX1_readTerm 2 = .ok (.iload_n 2, 1) := by decide +kernel
theorem dX1_readTerm_3 : decode cX1_readTerm 3 = .ok (.invokevirtual 105, 3) := by decide +kernel
theorem dX1_readTerm_6 : decode cX1_readTerm 6 = .ok (.ifCond .ne 5, 3) := by decide +kernel
theorem dX1_readTerm_9 : decode cX1_readTerm 9 = .ok (.iconst 0, 1) := by decide +kernel
theorem dX1_readTerm_10 : decode cX1_readTerm 10 = .ok (.ireturn, 1) := by decide +kernel
theorem dX1_readTerm_11 : decode cX1_readTerm 11 = .ok (.iconst 0, 1) := by decide +kernel
theorem dX1_readTerm_12 : decode cX1_readTerm 12 = .ok (.istore_n 3, 1) := by decide +kernel
theorem dX1_readTerm_13 : decode cX1_readTerm 13 = .ok (.iload_n 3, 1) := by decide +kernel
theorem dX1_readTerm_14 : decode cX1_readTerm 14 = .ok (.bipush 96, 2) := by decide +kernel
theorem dX1_readTerm_16 : decode cX1_readTerm 16 = .ok (.if_icmp .ge 57, 3) := by decide +kernel
theorem dX1_readTerm_19 : decode cX1_readTerm 19 = .ok (.aload_n 0, 1) := by decide +kernel
theorem dX1_readTerm_20 : decode cX1_readTerm 20 = .ok (.bipush 42, 2) := by decide +kernel
theorem dX1_readTerm_22 : decode cX1_readTerm 22 = .ok (.invokevirtual 89, 3) := by decide +kernel
theorem dX1_readTerm_25 : decode cX1_readTerm 25 = .ok (.ifCond .ne 12, 3) := by decide +kernel
theorem dX1_readTerm_28 : decode cX1_readTerm 28 = .ok (.aload_n 0, 1) := by decide +kernel
theorem dX1_readTerm_29 : decode cX1_readTerm 29 = .ok (.bipush 47, 2) := by decide +kernel
theorem dX1_readTerm_31 : decode cX1_readTerm 31 = .ok (.invokevirtual 89, 3) := by decide +kernel
theorem dX1_readTerm_34 : decode cX1_readTerm 34 = .ok (.ifCond .eq 39, 3) := by decide +kernel
theorem dX1_readTerm_37 : decode cX1_readTerm 37 = .ok (.aload_n 0, 1) := by decide +kernel
theorem dX1_readTerm_38 : decode cX1_readTerm 38 = .ok (.invokevirtual 64, 3) := by decide +kernel
theorem dX1_readTerm_41 : decode cX1_readTerm 41 = .ok (.istore 4, 2) := by decide +kernel
theorem dX1_readTerm_43 : decode cX1_readTerm 43 = .ok (.aload_n 0, 1) := by decide +kernel
theorem dX1_readTerm_44 : decode cX1_readTerm 44 = .ok (.invokevirtual 35, 3) := by decide +kernel
theorem dX1_readTerm_47 : decode cX1_readTerm 47 = .ok (.aload_n 0, 1) := by decide +kernel
theorem dX1_readTerm_48 : decode cX1_readTerm 48 = .ok (.iload_n 1, 1) := by decide +kernel
theorem dX1_readTerm_49 : decode cX1_readTerm 49 = .ok (.iload_n 2, 1) := by decide +kernel
theorem dX1_readTerm_50 : decode cX1_readTerm 50 = .ok (.invokevirtual 105, 3) := by decide +kernel
theorem dX1_readTerm_53 : decode cX1_readTerm 53 = .ok (.ifCond .ne 5, 3) := by decide +kernel
theorem dX1_readTerm_56 : decode cX1_readTerm 56 = .ok (.iconst 0, 1) := by decide +kernel
theorem dX1_readTerm_57 : decode cX1_readTerm 57 = .ok (.ireturn, 1) := by decide +kernel
theorem dX1_readTerm_58 : decode cX1_readTerm 58 = .ok (.aload_n 0, 1) := by decide +kernel
theorem dX1_readTerm_59 : decode cX1_readTerm 59 = .ok (.getfield 15, 3) := by decide +kernel
theorem dX1_readTerm_62 : decode cX1_readTerm 62 = .ok (.iload 4, 2) := by decide +kernel
theorem dX1_readTerm_64 : decode cX1_readTerm 64 = .ok (.invokevirtual 93, 3) := by decide +kernel
theorem dX1_readTerm_67 : decode cX1_readTerm 67 = .ok (.iinc 3 1, 3) := by decide +kernel
theorem dX1_readTerm_70 : decode cX1_readTerm 70 = .ok (.goto (-57), 3) := by decide +kernel
theorem dX1_readTerm_73 : decode cX1_readTerm 73 = .ok (.iconst 1, 1) := by decide +kernel
theorem dX1_readTerm_74 : decode cX1_readTerm 74 = .ok (.ireturn, 1) := by decide +kernel
theorem dX1_readPiece_0 : decode cX1_readPiece 0 = .ok (.aload_n 0, 1) := by decide +kernel
theorem dX1_readPiece_1 : decode cX1_readPiece 1 = .ok (.getfield 29, 3) := by decide +kernel
theorem dX1_readPiece_4 : decode cX1_readPiece 4 = .ok (.iconst 2, 1) := by decide +kernel
theorem dX1_readPiece_5 : decode cX1_readPiece 5 = .ok (.if_icmp .ne 8, 3) := by decide +kernel
theorem dX1_readPiece_8 : decode cX1_readPiece 8 = .ok (.aload_n 0, 1) := by decide +kernel
theorem dX1_readPiece_9 : decode cX1_readPiece 9 = .ok (.invokevirtual 108, 3) := by decide +kernel
theorem dX1_readPiece_12 : decode cX1_readPiece 12 = .ok (.ireturn, 1) := by decide +kernel
theorem dX1_readPiece_13 : decode cX1_readPiece 13 = .ok (.aload_n 0, 1) := by decide +kernel
theorem dX1_readPiece_14 : decode cX1_readPiece 14 = .ok (.getfield 29, 3) := by decide +kernel
theorem dX1_readPiece_17 : decode cX1_readPiece 17 = .ok (.iconst 1, 1) := by decide +kernel
theorem dX1_readPiece_18 : decode cX1_readPiece 18 = .ok (.if_icmp .ne 8, 3) := by decide +kernel
theorem dX1_readPiece_21 : decode cX1_readPiece 21 = .ok (.aload_n 0, 1) := by decide +kernel
theorem dX1_readPiece_22 : decode cX1_readPiece 22 = .ok (.invokevirtual 112, 3) := by decide +kernel
theorem dX1_readPiece_25 : decode cX1_readPiece 25 = .ok (.ireturn, 1) := by decide +kernel
theorem dX1_readPiece_26 : decode cX1_readPiece 26 = .ok (.aload_n 0, 1) := by decide +kernel
theorem dX1_readPiece_27 : decode cX1_readPiece 27 = .ok (.bipush 33, 2) := by decide +kernel
theorem dX1_readPiece_29 : decode cX1_readPiece 29 = .ok (.invokevirtual 89, 3) := by decide +kernel
theorem dX1_readPiece_32 : decode cX1_readPiece 32 = .ok (.ifCond .eq 37, 3) := by decide +kernel
theorem dX1_readPiece_35 : decode cX1_readPiece 35 = .ok (.iload_n 2, 1) := by decide +kernel
theorem dX1_readPiece_36 : decode cX1_readPiece 36 = .ok (.bipush 8, 2) := by decide +kernel
theorem dX1_readPiece_38 : decode cX1_readPiece 38 = .ok (.if_icmp .ge 31, 3) := by decide +kernel
theorem dX1_readPiece_41 : decode cX1_readPiece 41 = .ok (.aload_n 0, 1) := by decide +kernel
theorem dX1_readPiece_42 : decode cX1_readPiece 42 = .ok (.invokevirtual 35, 3) := by decide +kernel
theorem dX1_readPiece_45 : decode cX1_readPiece 45 = .ok (.aload_n 0, 1) := by decide +kernel
theorem dX1_readPiece_46 : decode cX1_readPiece 46 = .ok (.iload_n 1, 1) := by decide +kernel
theorem dX1_readPiece_47 : decode cX1_readPiece 47 = .ok (.iload_n 2, 1) := by decide +kernel
theorem dX1_readPiece_48 : decode cX1_readPiece 48 = .ok (.iconst 1, 1) := by decide +kernel
theorem dX1_readPiece_49 : decode cX1_readPiece 49 = .ok (.iadd, 1) := by decide +kernel
theorem dX1_readPiece_50 : decode cX1_readPiece 50 = .ok (.invokevirtual 105, 3) := by decide +kernel
theorem dX1_readPiece_53 : decode cX1_readPiece 53 = .ok (.ifCond .ne 5, 3) := by decide +kernel
theorem dX1_readPiece_56 : decode cX1_readPiece 56 = .ok (.iconst 0, 1) := by decide +kernel
theorem dX1_readPiece_57 : decode cX1_readPiece 57 = .ok (.ireturn, 1) := by decide +kernel
theorem dX1_readPiece_58 : decode cX1_readPiece 58 = .ok (.aload_n 0, 1) := by decide +kernel
theorem dX1_readPiece_59 : decode cX1_readPiece 59 = .ok (.getfield 15, 3) := by decide +kernel
theorem dX1_readPiece_62 : decode cX1_readPiece 62 = .ok (.bipush 33, 2) := by decide +kernel
theorem dX1_readPiece_64 : decode cX1_readPiece 64 = .ok (.invokevirtual 93, 3) := by decide +kernel
theorem dX1_readPiece_67 : decode cX1_readPiece 67 = .ok (.iconst 1, 1) := by decide +kernel
theorem dX1_readPiece_68 : decode cX1_readPiece 68 = .ok (.ireturn, 1) := by decide +kernel
theorem dX1_readPiece_69 : decode cX1_readPiece 69 = .ok (.aload_n 0, 1) := by decide +kernel
theorem dX1_readPiece_70 : decode cX1_readPiece 70 = .ok (.bipush 40, 2) := by decide +kernel
theorem dX1_readPiece_72 : decode cX1_readPiece 72 = .ok (.invokevirtual 89, 3) := by decide +kernel
theorem dX1_readPiece_75 : decode cX1_readPiece 75 = .ok (.ifCond .eq 41, 3) := by decide +kernel
theorem dX1_readPiece_78 : decode cX1_readPiece 78 = .ok (.iload_n 1, 1) := by decide +kernel
theorem dX1_readPiece_79 : decode cX1_readPiece 79 = .ok (.bipush 8, 2) := by decide +kernel
theorem dX1_readPiece_81 : decode cX1_readPiece 81 = .ok (.if_icmp .ge 35, 3) := by decide +kernel
theorem dX1_readPiece_84 : decode cX1_readPiece 84 = .ok (.aload_n 0, 1) := by decide +kernel
theorem dX1_readPiece_85 : decode cX1_readPiece 85 = .ok (.invokevirtual 35, 3) := by decide +kernel
theorem dX1_readPiece_88 : decode cX1_readPiece 88 = .ok (.aload_n 0, 1) := by decide +kernel
theorem dX1_readPiece_89 : decode cX1_readPiece 89 = .ok (.iload_n 1, 1) := by decide +kernel
theorem dX1_readPiece_90 : decode cX1_readPiece 90 = .ok (.iconst 1, 1) := by decide +kernel
theorem dX1_readPiece_91 : decode cX1_readPiece 91 = .ok (.iadd, 1) := by decide +kernel
theorem dX1_readPiece_92 : decode cX1_readPiece 92 = .ok (.iload_n 2, 1) := by decide +kernel
theorem dX1_readPiece_93 : decode cX1_readPiece 93 = .ok (.invokevirtual 49, 3) := by decide +kernel
theorem dX1_readPiece_96 : decode cX1_readPiece 96 = .ok (.ifCond .eq 12, 3) := by decide +kernel
theorem dX1_readPiece_99 : decode cX1_readPiece 99 = .ok (.aload_n 0, 1) := by decide +kernel
theorem dX1_readPiece_100 : decode cX1_readPiece 100 = .ok (.bipush 41, 2) := by decide +kernel
theorem dX1_readPiece_102 : decode cX1_readPiece 102 = .ok (.invokevirtual 89, 3) := by decide +kernel
theorem dX1_readPiece_105 : decode cX1_readPiece 105 = .ok (.ifCond .ne 5, 3) := by decide +kernel
theorem dX1_readPiece_108 : decode cX1_readPiece 108 = .ok (.iconst 0, 1) := by decide +kernel
theorem dX1_readPiece_109 : decode cX1_readPiece 109 = .ok (.ireturn, 1) := by decide +kernel
theorem dX1_readPiece_110 : decode cX1_readPiece 110 = .ok (.aload_n 0, 1) := by decide +kernel
theorem dX1_readPiece_111 : decode cX1_readPiece 111 = .ok (.invokevirtual 35, 3) := by decide +kernel
theorem dX1_readPiece_114 : decode cX1_readPiece 114 = .ok (.iconst 1, 1) := by decide +kernel
theorem dX1_readPiece_115 : decode cX1_readPiece 115 = .ok (.ireturn, 1) := by decide +kernel
theorem dX1_readPiece_116 : decode cX1_readPiece 116 = .ok (.iconst 0, 1) := by decide +kernel
theorem dX1_readPiece_117 : decode cX1_readPiece 117 = .ok (.ireturn, 1) := by decide +kernel
theorem dX1_readNumber_0 : decode cX1_readNumber 0 = .ok (.aload_n 0, 1) := by decide +kernel
theorem dX1_readNumber_1 : decode cX1_readNumber 1 = .ok (.getfield 60, 3) := by decide +kernel
theorem dX1_readNumber_4 : decode cX1_readNumber 4 = .ok (.ifCond .ne 16, 3) := by decide +kernel
theorem dX1_readNumber_7 : decode cX1_readNumber 7 = .ok (.aload_n 0, 1) := by decide +kernel
theorem dX1_readNumber_8 : decode cX1_readNumber 8 = .ok (.getfield 32, 3) := by decide +kernel
theorem dX1_readNumber_11 : decode cX1_readNumber 11 = .ok (.aload_n 0, 1) := by decide +kernel
theorem dX1_readNumber_12 : decode cX1_readNumber 12 = .ok (.getfield 53, 3) := by decide +kernel
theorem dX1_readNumber_15 : decode cX1_readNumber 15 = .ok (.isub, 1) := by decide +kernel
theorem dX1_readNumber_16 : decode cX1_readNumber 16 = .ok (.iconst 4, 1) := by decide +kernel
theorem dX1_readNumber_17 : decode cX1_readNumber 17 = .ok (.if_icmp .le 5, 3) := by decide +kernel
theorem dX1_readNumber_20 : decode cX1_readNumber 20 = .ok (.iconst 0, 1) := by decide +kernel
theorem dX1_readNumber_21 : decode cX1_readNumber 21 = .ok (.ireturn, 1) := by decide +kernel
theorem dX1_readNumber_22 : decode cX1_readNumber 22 = .ok (.iconst 0, 1) := by decide +kernel
theorem dX1_readNumber_23 : decode cX1_readNumber 23 = .ok (.istore_n 1, 1) := by decide +kernel
theorem dX1_readNumber_24 : decode cX1_readNumber 24 = .ok (.aload_n 0, 1) := by decide +kernel
theorem dX1_readNumber_25 : decode cX1_readNumber 25 = .ok (.getfield 53, 3) := by decide +kernel
theorem dX1_readNumber_28 : decode cX1_readNumber 28 = .ok (.istore_n 2, 1) := by decide +kernel
theorem dX1_readNumber_29 : decode cX1_readNumber 29 = .ok (.iload_n 2, 1) := by decide +kernel
theorem dX1_readNumber_30 : decode cX1_readNumber 30 = .ok (.aload_n 0, 1) := by decide +kernel
theorem dX1_readNumber_31 : decode cX1_readNumber 31 = .ok (.getfield 32, 3) := by decide +kernel
theorem dX1_readNumber_34 : decode cX1_readNumber 34 = .ok (.if_icmp .ge 32, 3) := by decide +kernel
theorem dX1_readNumber_37 : decode cX1_readNumber 37 = .ok (.iload_n 2, 1) := by decide +kernel
theorem dX1_readNumber_38 : decode cX1_readNumber 38 = .ok (.aload_n 0, 1) := by decide +kernel
theorem dX1_readNumber_39 : decode cX1_readNumber 39 = .ok (.getfield 25, 3) := by decide +kernel
theorem dX1_readNumber_42 : decode cX1_readNumber 42 = .ok (.if_icmp .ge 24, 3) := by decide +kernel
theorem dX1_readNumber_45 : decode cX1_readNumber 45 = .ok (.iload_n 1, 1) := by decide +kernel
theorem dX1_readNumber_46 : decode cX1_readNumber 46 = .ok (.bipush 10, 2) := by decide +kernel
theorem dX1_readNumber_48 : decode cX1_readNumber 48 = .ok (.imul, 1) := by decide +kernel
theorem dX1_readNumber_49 : decode cX1_readNumber 49 = .ok (.aload_n 0, 1) := by decide +kernel
theorem dX1_readNumber_50 : decode cX1_readNumber 50 = .ok (.getfield 9, 3) := by decide +kernel
theorem dX1_readNumber_53 : decode cX1_readNumber 53 = .ok (.iload_n 2, 1) := by decide +kernel
theorem dX1_readNumber_54 : decode cX1_readNumber 54 = .ok (.baload, 1) := by decide +kernel
theorem dX1_readNumber_55 : decode cX1_readNumber 55 = .ok (.iadd, 1) := by decide +kernel
theorem dX1_readNumber_56 : decode cX1_readNumber 56 = .ok (.bipush 48, 2) := by decide +kernel
theorem dX1_readNumber_58 : decode cX1_readNumber 58 = .ok (.isub, 1) := by decide +kernel
theorem dX1_readNumber_59 : decode cX1_readNumber 59 = .ok (.istore_n 1, 1) := by decide +kernel
theorem dX1_readNumber_60 : decode cX1_readNumber 60 = .ok (.iinc 2 1, 3) := by decide +kernel
theorem dX1_readNumber_63 : decode cX1_readNumber 63 = .ok (.goto (-34), 3) := by decide +kernel
theorem dX1_readNumber_66 : decode cX1_readNumber 66 = .ok (.aload_n 0, 1) := by decide +kernel
theorem dX1_readNumber_67 : decode cX1_readNumber 67 = .ok (.getfield 15, 3) := by decide +kernel
theorem dX1_readNumber_70 : decode cX1_readNumber 70 = .ok (.iload_n 1, 1) := by decide +kernel
theorem dX1_readNumber_71 : decode cX1_readNumber 71 = .ok (.invokevirtual 115, 3) := by decide +kernel
theorem dX1_readNumber_74 : decode cX1_readNumber 74 = .ok (.aload_n 0, 1) := by decide +kernel
theorem dX1_readNumber_75 : decode cX1_readNumber 75 = .ok (.invokevirtual 35, 3) := by decide +kernel
theorem dX1_readNumber_78 : decode cX1_readNumber 78 = .ok (.iconst 1, 1) := by decide +kernel
theorem dX1_readNumber_79 : decode cX1_readNumber 79 = .ok (.ireturn, 1) := by decide +kernel
theorem dX1_readName_0 : decode cX1_readName 0 = .ok (.aload_n 0, 1) := by decide +kernel
theorem dX1_readName_1 : decode cX1_readName 1 = .ok (.getfield 15, 3) := by decide +kernel
theorem dX1_readName_4 : decode cX1_readName 4 = .ok (.getfield 118, 3) := by decide +kernel
theorem dX1_readName_7 : decode cX1_readName 7 = .ok (.ifCond .ne 8, 3) := by decide +kernel
theorem dX1_readName_10 : decode cX1_readName 10 = .ok (.ldc 121, 2) := by decide +kernel
theorem dX1_readName_12 : decode cX1_readName 12 = .ok (.goto 21, 3) := by decide +kernel
theorem dX1_readName_15 : decode cX1_readName 15 = .ok (.aload_n 0, 1) := by decide +kernel
theorem dX1_readName_16 : decode cX1_readName 16 = .ok (.getfield 15, 3) := by decide +kernel
theorem dX1_readName_19 : decode cX1_readName 19 = .ok (.getfield 118, 3) := by decide +kernel
theorem dX1_readName_22 : decode cX1_readName 22 = .ok (.iconst 1, 1) := by decide +kernel
theorem dX1_readName_23 : decode cX1_readName 23 = .ok (.if_icmp .ne 8, 3) := by decide +kernel
theorem dX1_readName_26 : decode cX1_readName 26 = .ok (.ldc 123, 2) := by decide +kernel
theorem dX1_readName_28 : decode cX1_readName 28 = .ok (.goto 5, 3) := by decide +kernel
theorem dX1_readName_31 : decode cX1_readName 31 = .ok (.ldc 125, 2) := by decide +kernel
theorem dX1_readName_33 : decode cX1_readName 33 = .ok (.astore_n 1, 1) := by decide +kernel
theorem dX1_readName_34 : decode cX1_readName 34 = .ok (.aload_n 0, 1) := by decide +kernel
theorem dX1_readName_35 : decode cX1_readName 35 = .ok (.getfield 32, 3) := by decide +kernel
theorem dX1_readName_38 : decode cX1_readName 38 = .ok (.aload_n 0, 1) := by decide +kernel
theorem dX1_readName_39 : decode cX1_readName 39 = .ok (.getfield 53, 3) := by decide +kernel
theorem dX1_readName_42 : decode cX1_readName 42 = .ok (.isub, 1) := by decide +kernel
theorem dX1_readName_43 : decode cX1_readName 43 = .ok (.iconst 1, 1) := by decide +kernel
theorem dX1_readName_44 : decode cX1_readName 44 = .ok (.if_icmp .ne 15, 3) := by decide +kernel
theorem dX1_readName_47 : decode cX1_readName 47 = .ok (.aload_n 1, 1) := by decide +kernel
theorem dX1_readName_48 : decode cX1_readName 48 = .ok (.aload_n 0, 1) := by decide +kernel
theorem dX1_readName_49 : decode cX1_readName 49 = .ok (.invokevirtual 64, 3) := by decide +kernel
theorem dX1_readName_52 : decode cX1_readName 52 = .ok (.i2c, 1) := by decide +kernel
theorem dX1_readName_53 : decode cX1_readName 53 = .ok (.invokevirtual 127, 3) := by decide +kernel
theorem dX1_readName_56 : decode cX1_readName 56 = .ok (.goto 4, 3) := by decide +kernel
theorem dX1_readName_59 : decode cX1_readName 59 = .ok (.iconst (-1), 1) := by decide +kernel
theorem dX1_readName_60 : decode cX1_readName 60 = .ok (.istore_n 2, 1) := by decide +kernel
theorem dX1_readName_61 : decode cX1_readName 61 = .ok (.aload_n 0, 1) := by decide +kernel
theorem dX1_readName_62 : decode cX1_readName 62 = .ok (.getfield 60, 3) := by decide +kernel
theorem dX1_readName_65 : decode cX1_readName 65 = .ok (.ifCond .ne 7, 3) := by decide +kernel
theorem dX1_readName_68 : decode cX1_readName 68 = .ok (.iload_n 2, 1) := by decide +kernel
theorem dX1_readName_69 : decode cX1_readName 69 = .ok (.ifCond .ge 5, 3) := by decide +kernel
theorem dX1_readName_72 : decode cX1_readName 72 = .ok (.iconst 0, 1) := by decide +kernel
theorem dX1_readName_73 : decode cX1_readName 73 = .ok (.ireturn, 1) := by decide +kernel
theorem dX1_readName_74 : decode cX1_readName 74 = .ok (.aload_n 0, 1) := by decide +kernel
theorem dX1_readName_75 : decode cX1_readName 75 = .ok (.getfield 15, 3) := by decide +kernel
theorem dX1_readName_78 : decode cX1_readName 78 = .ok (.sipush 10000, 3) := by decide +kernel
theorem dX1_readName_81 : decode cX1_readName 81 = .ok (.iload_n 2, 1) := by decide +kernel
theorem dX1_readName_82 : decode cX1_readName 82 = .ok (.iadd, 1) := by decide +kernel
theorem dX1_readName_83 : decode cX1_readName 83 = .ok (.invokevirtual 115, 3) := by decide +kernel
theorem dX1_readName_86 : decode cX1_readName 86 = .ok (.aload_n 0, 1) := by decide +kernel
theorem dX1_readName_87 : decode cX1_readName 87 = .ok (.invokevirtual 35, 3) := by decide +kernel
theorem dX1_readName_90 : decode cX1_readName 90 = .ok (.iconst 1, 1) := by decide +kernel
theorem dX1_readName_91 : decode cX1_readName 91 = .ok (.ireturn, 1) := by decide +kernel
theorem dX2_init_0 : decode cX2_init 0 = .ok (.aload_n 0, 1) := by decide +kernel
theorem dX2_init_1 : decode cX2_init 1 = .ok (.invokespecial 3, 3) := by decide +kernel
theorem dX2_init_4 : decode cX2_init 4 = .ok (.aload_n 0, 1) := by decide +kernel
theorem dX2_init_5 : decode cX2_init 5 = .ok (.bipush 24, 2) := by decide +kernel
theorem dX2_init_7 : decode cX2_init 7 = .ok (.newarray .int, 2) := by decide +kernel
theorem dX2_init_9 : decode cX2_init 9 = .ok (.putfield 9, 3) := by decide +kernel
theorem dX2_init_12 : decode cX2_init 12 = .ok (.aload_n 0, 1) := by decide +kernel
theorem dX2_init_13 : decode cX2_init 13 = .ok (.bipush 6, 2) := by decide +kernel
theorem dX2_init_15 : decode cX2_init 15 = .ok (.anewarray 15, 3) := by decide +kernel
theorem dX2_init_18 : decode cX2_init 18 = .ok (.putfield 17, 3) := by decide +kernel
theorem dX2_init_21 : decode cX2_init 21 = .ok (.aload_n 0, 1) := by decide +kernel
theorem dX2_init_22 : decode cX2_init 22 = .ok (.iconst 3, 1) := by decide +kernel
theorem dX2_init_23 : decode cX2_init 23 = .ok (.newarray .int, 2) := by decide +kernel
theorem dX2_init_25 : decode cX2_init 25 = .ok (.dup, 1) := by decide +kernel
theorem dX2_init_26 : decode cX2_init 26 = .ok (.iconst 0, 1) := by decide +kernel
theorem dX2_init_27 : decode cX2_init 27 = .ok (.ldc 21, 2) := by decide +kernel
theorem dX2_init_29 : decode cX2_init 29 = .ok (.iastore, 1) := by decide +kernel
theorem dX2_init_30 : decode cX2_init 30 = .ok (.dup, 1) := by decide +kernel
theorem dX2_init_31 : decode cX2_init 31 = .ok (.iconst 1, 1) := by decide +kernel
theorem dX2_init_32 : decode cX2_init 32 = .ok (.ldc 21, 2) := by decide +kernel
theorem dX2_init_34 : decode cX2_init 34 = .ok (.iastore, 1) := by decide +kernel
theorem dX2_init_35 : decode cX2_init 35 = .ok (.dup, 1) := by decide +kernel
theorem dX2_init_36 : decode cX2_init 36 = .ok (.iconst 2, 1) := by decide +kernel
theorem dX2_init_37 : decode cX2_init 37 = .ok (.ldc 21, 2) := by decide +kernel
theorem dX2_init_39 : decode cX2_init 39 = .ok (.iastore, 1) := by decide +kernel
theorem dX2_init_40 : decode cX2_init 40 = .ok (.putfield 22, 3) := by decide +kernel
theorem dX2_init_43 : decode cX2_init 43 = .ok (.aload_n 0, 1) := by decide +kernel
theorem dX2_init_44 : decode cX2_init 44 = .ok (.iconst 0, 1) := by decide +kernel
theorem dX2_init_45 : decode cX2_init 45 = .ok (.putfield 25, 3) := by decide +kernel
theorem dX2_init_48 : decode cX2_init 48 = .ok (.aload_n 0, 1) := by decide +kernel
theorem dX2_init_49 : decode cX2_init 49 = .ok (.iconst 0, 1) := by decide +kernel
theorem dX2_init_50 : decode cX2_init 50 = .ok (.putfield 29, 3) := by decide +kernel
theorem dX2_init_53 : decode cX2_init 53 = .ok (.aload_n 0, 1) := by decide +kernel
theorem dX2_init_54 : decode cX2_init 54 = .ok (.iconst 0, 1) := by decide +kernel
theorem dX2_init_55 : decode cX2_init 55 = .ok (.putfield 32, 3) := by decide +kernel
theorem dX2_init_58 : decode cX2_init 58 = .ok (.aload_n 0, 1) := by decide +kernel
theorem dX2_init_59 : decode cX2_init 59 = .ok (.bipush 50, 2) := by decide +kernel
theorem dX2_init_61 : decode cX2_init 61 = .ok (.putfield 35, 3) := by decide +kernel
theorem dX2_init_64 : decode cX2_init 64 = .ok (.aload_n 0, 1) := by decide +kernel
theorem dX2_init_65 : decode cX2_init 65 = .ok (.iconst 1, 1) := by decide +kernel
theorem dX2_init_66 : decode cX2_init 66 = .ok (.putfield 38, 3) := by decide +kernel
theorem dX2_init_69 : decode cX2_init 69 = .ok (.aload_n 0, 1) := by decide +kernel
theorem dX2_init_70 : decode cX2_init 70 = .ok (.aload_n 1, 1) := by decide +kernel
theorem dX2_init_71 : decode cX2_init 71 = .ok (.putfield 41, 3) := by decide +kernel
theorem dX2_init_74 : decode cX2_init 74 = .ok (.aload_n 0, 1) := by decide +kernel
theorem dX2_init_75 : decode cX2_init 75 = .ok (.aload_n 2, 1) := by decide +kernel
theorem dX2_init_76 : decode cX2_init 76 = .ok (.putfield 45, 3) := by decide +kernel
theorem dX2_init_79 : decode cX2_init 79 = .ok (.aload_n 0, 1) := by decide +kernel
theorem dX2_init_80 : decode cX2_init 80 = .ok (.getfield 9, 3) := by decide +kernel
theorem dX2_init_83 : decode cX2_init 83 = .ok (.bipush 10, 2) := by decide +kernel
theorem dX2_init_85 : decode cX2_init 85 = .ok (.invokestatic 48, 3) := by decide +kernel
theorem dX2_init_88 : decode cX2_init 88 = .ok (.iconst 0, 1) := by decide +kernel
theorem dX2_init_89 : decode cX2_init 89 = .ok (.istore_n 3, 1) := by decide +kernel
theorem dX2_init_90 : decode cX2_init 90 = .ok (.iload_n 3, 1) := by decide +kernel
theorem dX2_init_91 : decode cX2_init 91 = .ok (.bipush 6, 2) := by decide +kernel
theorem dX2_init_93 : decode cX2_init 93 = .ok (.if_icmp .ge 22, 3) := by decide +kernel
theorem dX2_init_96 : decode cX2_init 96 = .ok (.aload_n 0, 1) := by decide +kernel
theorem dX2_init_97 : decode cX2_init 97 = .ok (.getfield 17, 3) := by decide +kernel
theorem dX2_init_100 : decode cX2_init 100 = .ok (.iload_n 3, 1) := by decide +kernel
theorem dX2_init_101 : decode cX2_init 101 = .ok (.new 15, 3) := by decide +kernel
theorem dX2_init_104 : decode cX2_init 104 = .ok (.dup, 1) := by decide +kernel
theorem dX2_init_105 : decode cX2_init 105 = .ok (.invokespecial 54, 3) := by decide +kernel
theorem dX2_init_108 : decode cX2_init 108 = .ok (.aastore, 1) := by decide +kernel
theorem dX2_init_109 : decode cX2_init 109 = .ok (.iinc 3 1, 3) := by decide +kernel
theorem dX2_init_112 : decode cX2_init 112 = .ok (.goto (-22), 3) := by decide +kernel
theorem dX2_init_115 : decode cX2_init 115 = .ok (.return_, 1) := by decide +kernel
theorem dX2_become_0 : decode cX2_become 0 = .ok (.aload_n 1, 1) := by decide +kernel
theorem dX2_become_1 : decode cX2_become 1 = .ok (.getfield 9, 3) := by decide +kernel
theorem dX2_become_4 : decode cX2_become 4 = .ok (.iconst 0, 1) := by decide +kernel
theorem dX2_become_5 : decode cX2_become 5 = .ok (.aload_n 0, 1) := by decide +kernel
theorem dX2_become_6 : decode cX2_become 6 = .ok (.getfield 9, 3) := by decide +kernel
theorem dX2_become_9 : decode cX2_become 9 = .ok (.iconst 0, 1) := by decide +kernel
theorem dX2_become_10 : decode cX2_become 10 = .ok (.bipush 24, 2) := by decide +kernel
theorem dX2_become_12 : decode cX2_become 12 = .ok (.invokestatic 55, 3) := by decide +kernel
theorem dX2_become_15 : decode cX2_become 15 = .ok (.iconst 0, 1) := by decide +kernel
theorem dX2_become_16 : decode cX2_become 16 = .ok (.istore_n 2, 1) := by decide +kernel
theorem dX2_become_17 : decode cX2_become 17 = .ok (.iload_n 2, 1) := by decide +kernel
theorem dX2_become_18 : decode cX2_become 18 = .ok (.bipush 6, 2) := by decide +kernel
theorem dX2_become_20 : decode cX2_become 20 = .ok (.if_icmp .ge 24, 3) := by decide +kernel
theorem dX2_become_23 : decode cX2_become 23 = .ok (.aload_n 0, 1) := by decide +kernel
theorem dX2_become_24 : decode cX2_become 24 = .ok (.getfield 17, 3) := by decide +kernel
theorem dX2_become_27 : decode cX2_become 27 = .ok (.iload_n 2, 1) := by decide +kernel
theorem dX2_become_28 : decode cX2_become 28 = .ok (.aaload, 1) := by decide +kernel
theorem dX2_become_29 : decode cX2_become 29 = .ok (.aload_n 1, 1) := by decide +kernel
theorem dX2_become_30 : decode cX2_become 30 = .ok (.getfield 17, 3) := by decide +kernel
theorem dX2_become_33 : decode cX2_become 33 = .ok (.iload_n 2, 1) := by decide +kernel
theorem dX2_become_34 : decode cX2_become 34 = .ok (.aaload, 1) := by decide +kernel
theorem dX2_become_35 : decode cX2_become 35 = .ok (.invokevirtual 61, 3) := by decide +kernel
theorem dX2_become_38 : decode cX2_become 38 = .ok (.iinc 2 1, 3) := by decide +kernel
theorem dX2_become_41 : decode cX2_become 41 = .ok (.goto (-24), 3) := by decide +kernel
theorem dX2_become_44 : decode cX2_become 44 = .ok (.aload_n 1, 1) := by decide +kernel
theorem dX2_become_45 : decode cX2_become 45 = .ok (.getfield 22, 3) := by decide +kernel
theorem dX2_become_48 : decode cX2_become 48 = .ok (.iconst 0, 1) := by decide +kernel
theorem dX2_become_49 : decode cX2_become 49 = .ok (.aload_n 0, 1) := by decide +kernel
theorem dX2_become_50 : decode cX2_become 50 = .ok (.getfield 22, 3) := by decide +kernel
theorem dX2_become_53 : decode cX2_become 53 = .ok (.iconst 0, 1) := by decide +kernel
theorem dX2_become_54 : decode cX2_become 54 = .ok (.iconst 3, 1) := by decide +kernel
theorem dX2_become_55 : decode cX2_become 55 = .ok (.invokestatic 55, 3) := by decide +kernel
theorem dX2_become_58 : decode cX2_become 58 = .ok (.aload_n 0, 1) := by decide +kernel
theorem dX2_become_59 : decode cX2_become 59 = .ok (.aload_n 1, 1) := by decide +kernel
theorem dX2_become_60 : decode cX2_become 60 = .ok (.getfield 25, 3) := by decide +kernel
theorem dX2_become_63 : decode cX2_become 63 = .ok (.putfield 25, 3) := by decide +kernel
theorem dX2_become_66 : decode cX2_become 66 = .ok (.aload_n 0, 1) := by decide +kernel
theorem dX2_become_67 : decode cX2_become 67 = .ok (.aload_n 1, 1) := by decide +kernel
theorem dX2_become_68 : decode cX2_become 68 = .ok (.getfield 29, 3) := by decide +kernel
theorem dX2_become_71 : decode cX2_become 71 = .ok (.putfield 29, 3) := by decide +kernel
theorem dX2_become_74 : decode cX2_become 74 = .ok (.aload_n 0, 1) := by decide +kernel
theorem dX2_become_75 : decode cX2_become 75 = .ok (.aload_n 1, 1) := by decide +kernel
theorem dX2_become_76 : decode cX2_become 76 = .ok (.getfield 32, 3) := by decide +kernel
theorem dX2_become_79 : decode cX2_become 79 = .ok (.putfield 32, 3) := by decide +kernel
theorem dX2_become_82 : decode cX2_become 82 = .ok (.aload_n 0, 1) := by decide +kernel
theorem dX2_become_83 : decode cX2_become 83 = .ok (.aload_n 1, 1) := by decide +kernel
theorem dX2_become_84 : decode cX2_become 84 = .ok (.getfield 35, 3) := by decide +kernel
theorem dX2_become_87 : decode cX2_become 87 = .ok (.putfield 35, 3) := by decide +kernel
theorem dX2_become_90 : decode cX2_become 90 = .ok (.aload_n 0, 1) := by decide +kernel
theorem dX2_become_91 : decode cX2_become 91 = .ok (.aload_n 1, 1) := by decide +kernel
theorem dX2_become_92 : decode cX2_become 92 = .ok (.getfield 38, 3) := by decide +kernel
theorem dX2_become_95 : decode cX2_become 95 = .ok (.putfield 38, 3) := by decide +kernel
theorem dX2_become_98 : decode cX2_become 98 = .ok (.return_, 1) := by decide +kernel
theorem dX2_wireAt_0 : decode cX2_wireAt 0 = .ok (.iload_n 1, 1) := by decide +kernel
theorem dX2_wireAt_1 : decode cX2_wireAt 1 = .ok (.iconst 0, 1) := by decide +kernel
theorem dX2_wireAt_2 : decode cX2_wireAt 2 = .ok (.aload_n 0, 1) := by decide +kernel
theorem dX2_wireAt_3 : decode cX2_wireAt 3 = .ok (.getfield 29, 3) := by decide +kernel
theorem dX2_wireAt_6 : decode cX2_wireAt 6 = .ok (.iconst 1, 1) := by decide +kernel
theorem dX2_wireAt_7 : decode cX2_wireAt 7 = .ok (.isub, 1) := by decide +kernel
theorem dX2_wireAt_8 : decode cX2_wireAt 8 = .ok (.invokestatic 65, 3) := by decide +kernel
theorem dX2_wireAt_11 : decode cX2_wireAt 11 = .ok (.ifCond .eq 12, 3) := by decide +kernel
theorem dX2_wireAt_14 : decode cX2_wireAt 14 = .ok (.aload_n 0, 1) := by decide +kernel
theorem dX2_wireAt_15 : decode cX2_wireAt 15 = .ok (.getfield 17, 3) := by decide +kernel
theorem dX2_wireAt_18 : decode cX2_wireAt 18 = .ok (.iload_n 1, 1) := by decide +kernel
theorem dX2_wireAt_19 : decode cX2_wireAt 19 = .ok (.aaload, 1) := by decide +kernel
theorem dX2_wireAt_20 : decode cX2_wireAt 20 = .ok (.goto 4, 3) := by decide +kernel
theorem dX2_wireAt_23 : decode cX2_wireAt 23 = .ok (.aconst_null, 1) := by decide +kernel
theorem dX2_wireAt_24 : decode cX2_wireAt 24 = .ok (.areturn, 1) := by decide +kernel
theorem dX2_heldCount_0 : decode cX2_heldCount 0 = .ok (.iconst 0, 1) := by decide +kernel
theorem dX2_heldCount_1 : decode cX2_heldCount 1 = .ok (.istore_n 1, 1) := by decide +kernel
theorem dX2_heldCount_2 : decode cX2_heldCount 2 = .ok (.iconst 0, 1) := by decide +kernel
theorem dX2_heldCount_3 : decode cX2_heldCount 3 = .ok (.istore_n 2, 1) := by decide +kernel
theorem dX2_heldCount_4 : decode cX2_heldCount 4 = .ok (.iload_n 2, 1) := by decide +kernel
theorem dX2_heldCount_5 : decode cX2_heldCount 5 = .ok (.aload_n 0, 1) := by decide +kernel
theorem dX2_heldCount_6 : decode cX2_heldCount 6 = .ok (.getfield 29, 3) := by decide +kernel
theorem dX2_heldCount_9 : decode cX2_heldCount 9 = .ok (.if_icmp .ge 29, 3) := by decide +kernel
theorem dX2_heldCount_12 : decode cX2_heldCount 12 = .ok (.iload_n 1, 1) := by decide +kernel
theorem dX2_heldCount_13 : decode cX2_heldCount 13 = .ok (.aload_n 0, 1) := by decide +kernel
theorem dX2_heldCount_14 : decode cX2_heldCount 14 = .ok (.getfield 17, 3) := by decide +kernel
theorem dX2_heldCount_17 : decode cX2_heldCount 17 = .ok (.iload_n 2, 1) := by decide +kernel
theorem dX2_heldCount_18 : decode cX2_heldCount 18 = .ok (.aaload, 1) := by decide +kernel
theorem dX2_heldCount_19 : decode cX2_heldCount 19 = .ok (.getfield 69, 3) := by decide +kernel
theorem dX2_heldCount_22 : decode cX2_heldCount 22 = .ok (.ifCond .eq 7, 3) := by decide +kernel
theorem dX2_heldCount_25 : decode cX2_heldCount 25 = .ok (.iconst 1, 1) := by decide +kernel
theorem dX2_heldCount_26 : decode cX2_heldCount 26 = .ok (.goto 4, 3) := by decide +kernel
theorem dX2_heldCount_29 : decode cX2_heldCount 29 = .ok (.iconst 0, 1) := by decide +kernel
theorem dX2_heldCount_30 : decode cX2_heldCount 30 = .ok (.iadd, 1) := by decide +kernel
theorem dX2_heldCount_31 : decode cX2_heldCount 31 = .ok (.istore_n 1, 1) := by decide +kernel
theorem dX2_heldCount_32 : decode cX2_heldCount 32 = .ok (.iinc 2 1, 3) := by decide +kernel
theorem dX2_heldCount_35 : decode cX2_heldCount 35 = .ok (.goto (-31), 3) := by decide +kernel
theorem dX2_heldCount_38 : decode cX2_heldCount 38 = .ok (.iload_n 1, 1) := by decide +kernel
theorem dX2_heldCount_39 : decode cX2_heldCount 39 = .ok (.ireturn, 1) := by decide +kernel
theorem dX2_windIn_0 : decode cX2_windIn 0 = .ok (.aload_n 0, 1) := by decide +kernel
theorem dX2_windIn_1 : decode cX2_windIn 1 = .ok (.getfield 9, 3) := by decide +kernel
theorem dX2_windIn_4 : decode cX2_windIn 4 = .ok (.aload_n 0, 1) := by decide +kernel
theorem dX2_windIn_5 : decode cX2_windIn 5 = .ok (.getfield 32, 3) := by decide +kernel
theorem dX2_windIn_8 : decode cX2_windIn 8 = .ok (.iload_n 1, 1) := by decide +kernel
theorem dX2_windIn_9 : decode cX2_windIn 9 = .ok (.iadd, 1) := by decide +kernel
theorem dX2_windIn_10 : decode cX2_windIn 10 = .ok (.bipush 24, 2) := by decide +kernel
theorem dX2_windIn_12 : decode cX2_windIn 12 = .ok (.irem, 1) := by decide +kernel
theorem dX2_windIn_13 : decode cX2_windIn 13 = .ok (.iaload, 1) := by decide +kernel
theorem dX2_windIn_14 : decode cX2_windIn 14 = .ok (.ireturn, 1) := by decide +kernel
theorem dX2_drawWind_0 : decode cX2_drawWind 0 = .ok (.aload_n 0, 1) := by decide +kernel
theorem dX2_drawWind_1 : decode cX2_drawWind 1 = .ok (.aload_n 0, 1) := by decide +kernel
theorem dX2_drawWind_2 : decode cX2_drawWind 2 = .ok (.getfield 38, 3) := by decide +kernel
theorem dX2_drawWind_5 : decode cX2_drawWind 5 = .ok (.ldc 73, 2) := by decide +kernel
theorem dX2_drawWind_7 : decode cX2_drawWind 7 = .ok (.imul, 1) := by decide +kernel
theorem dX2_drawWind_8 : decode cX2_drawWind 8 = .ok (.sipush 12345, 3) := by decide +kernel
theorem dX2_drawWind_11 : decode cX2_drawWind 11 = .ok (.iadd, 1) := by decide +kernel
theorem dX2_drawWind_12 : decode cX2_drawWind 12 = .ok (.putfield 38, 3) := by decide +kernel
theorem dX2_drawWind_15 : decode cX2_drawWind 15 = .ok (.aload_n 0, 1) := by decide +kernel
theorem dX2_drawWind_16 : decode cX2_drawWind 16 = .ok (.getfield 9, 3) := by decide +kernel
theorem dX2_drawWind_19 : decode cX2_drawWind 19 = .ok (.iload_n 1, 1) := by decide +kernel
theorem dX2_drawWind_20 : decode cX2_drawWind 20 = .ok (.bipush 24, 2) := by decide +kernel
theorem dX2_drawWind_22 : decode cX2_drawWind 22 = .ok (.iadd, 1) := by decide +kernel
theorem dX2_drawWind_23 : decode cX2_drawWind 23 = .ok (.iconst 1, 1) := by decide +kernel
theorem dX2_drawWind_24 : decode cX2_drawWind 24 = .ok (.isub, 1) := by decide +kernel
theorem dX2_drawWind_25 : decode cX2_drawWind 25 = .ok (.bipush 24, 2) := by decide +kernel
theorem dX2_drawWind_27 : decode cX2_drawWind 27 = .ok (.irem, 1) := by decide +kernel
theorem dX2_drawWind_28 : decode cX2_drawWind 28 = .ok (.iaload, 1) := by decide +kernel
theorem dX2_drawWind_29 : decode cX2_drawWind 29 = .ok (.istore_n 2, 1) := by decide +kernel
theorem dX2_drawWind_30 : decode cX2_drawWind 30 = .ok (.aload_n 0, 1) := by decide +kernel
theorem dX2_drawWind_31 : decode cX2_drawWind 31 = .ok (.getfield 9, 3) := by decide +kernel
theorem dX2_drawWind_34 : decode cX2_drawWind 34 = .ok (.iload_n 1, 1) := by decide +kernel
theorem dX2_drawWind_35 : decode cX2_drawWind 35 = .ok (.iload_n 2, 1) := by decide +kernel
theorem dX2_drawWind_36 : decode cX2_drawWind 36 = .ok (.aload_n 0, 1) := by decide +kernel
theorem dX2_drawWind_37 : decode cX2_drawWind 37 = .ok (.getfield 38, 3) := by decide +kernel
theorem dX2_drawWind_40 : decode cX2_drawWind 40 = .ok (.bipush 8, 2) := by decide +kernel
theorem dX2_drawWind_42 : decode cX2_drawWind 42 = .ok (.iushr, 1) := by decide +kernel
theorem dX2_drawWind_43 : decode cX2_drawWind 43 = .ok (.bipush 11, 2) := by decide +kernel
theorem dX2_drawWind_45 : decode cX2_drawWind 45 = .ok (.irem, 1) := by decide +kernel
theorem dX2_drawWind_46 : decode cX2_drawWind 46 = .ok (.iadd, 1) := by decide +kernel
theorem dX2_drawWind_47 : decode cX2_drawWind 47 = .ok (.iconst 5, 1) := by decide +kernel
theorem dX2_drawWind_48 : decode cX2_drawWind 48 = .ok (.isub, 1) := by decide +kernel
theorem dX2_drawWind_49 : decode cX2_drawWind 49 = .ok (.iconst 0, 1) := by decide +kernel
theorem dX2_drawWind_50 : decode cX2_drawWind 50 = .ok (.bipush 99, 2) := by decide +kernel
theorem dX2_drawWind_52 : decode cX2_drawWind 52 = .ok (.invokestatic 74, 3) := by decide +kernel
theorem dX2_drawWind_55 : decode cX2_drawWind 55 = .ok (.iastore, 1) := by decide +kernel
theorem dX2_drawWind_56 : decode cX2_drawWind 56 = .ok (.aload_n 0, 1) := by decide +kernel
theorem dX2_drawWind_57 : decode cX2_drawWind 57 = .ok (.getfield 9, 3) := by decide +kernel
theorem dX2_drawWind_60 : decode cX2_drawWind 60 = .ok (.iload_n 1, 1) := by decide +kernel
theorem dX2_drawWind_61 : decode cX2_drawWind 61 = .ok (.iaload, 1) := by decide +kernel
theorem dX2_drawWind_62 : decode cX2_drawWind 62 = .ok (.ireturn, 1) := by decide +kernel
theorem dX2_passHour_0 : decode cX2_passHour 0 = .ok (.iconst 0, 1) := by decide +kernel
theorem dX2_passHour_1 : decode cX2_passHour 1 = .ok (.istore_n 1, 1) := by decide +kernel
theorem dX2_passHour_2 : decode cX2_passHour 2 = .ok (.iload_n 1, 1) := by decide +kernel
theorem dX2_passHour_3 : decode cX2_passHour 3 = .ok (.aload_n 0, 1) := by decide +kernel
theorem dX2_passHour_4 : decode cX2_passHour 4 = .ok (.getfield 29, 3) := by decide +kernel
theorem dX2_passHour_7 : decode cX2_passHour 7 = .ok (.if_icmp .ge 29, 3) := by decide +kernel
theorem dX2_passHour_10 : decode cX2_passHour 10 = .ok (.aload_n 0, 1) := by decide +kernel
theorem dX2_passHour_11 : decode cX2_passHour 11 = .ok (.aload_n 0, 1) := by decide +kernel
theorem dX2_passHour_12 : decode cX2_passHour 12 = .ok (.getfield 17, 3) := by decide +kernel
theorem dX2_passHour_15 : decode cX2_passHour 15 = .ok (.iload_n 1, 1) := by decide +kernel
theorem dX2_passHour_16 : decode cX2_passHour 16 = .ok (.aaload, 1) := by decide +kernel
theorem dX2_passHour_17 : decode cX2_passHour 17 = .ok (.aload_n 0, 1) := by decide +kernel
theorem dX2_passHour_18 : decode cX2_passHour 18 = .ok (.getfield 9, 3) := by decide +kernel
theorem dX2_passHour_21 : decode cX2_passHour 21 = .ok (.aload_n 0, 1) := by decide +kernel
theorem dX2_passHour_22 : decode cX2_passHour 22 = .ok (.getfield 32, 3) := by decide +kernel
theorem dX2_passHour_25 : decode cX2_passHour 25 = .ok (.iaload, 1) := by decide +kernel
theorem dX2_passHour_26 : decode cX2_passHour 26 = .ok (.invokevirtual 78, 3) := by decide +kernel
theorem dX2_passHour_29 : decode cX2_passHour 29 = .ok (.pop, 1) := by decide +kernel
theorem dX2_passHour_30 : decode cX2_passHour 30 = .ok (.iinc 1 1, 3) := by decide +kernel
theorem dX2_passHour_33 : decode cX2_passHour 33 = .ok (.goto (-31), 3) := by decide +kernel
theorem dX2_passHour_36 : decode cX2_passHour 36 = .ok (.aload_n 0, 1) := by decide +kernel
theorem dX2_passHour_37 : decode cX2_passHour 37 = .ok (.aload_n 0, 1) := by decide +kernel
theorem dX2_passHour_38 : decode cX2_passHour 38 = .ok (.getfield 32, 3) := by decide +kernel
theorem dX2_passHour_41 : decode cX2_passHour 41 = .ok (.iconst 1, 1) := by decide +kernel
theorem dX2_passHour_42 : decode cX2_passHour 42 = .ok (.iadd, 1) := by decide +kernel
theorem dX2_passHour_43 : decode cX2_passHour 43 = .ok (.bipush 24, 2) := by decide +kernel
theorem dX2_passHour_45 : decode cX2_passHour 45 = .ok (.irem, 1) := by decide +kernel
theorem dX2_passHour_46 : decode cX2_passHour 46 = .ok (.putfield 32, 3) := by decide +kernel
theorem dX2_passHour_49 : decode cX2_passHour 49 = .ok (.return_, 1) := by decide +kernel
theorem dX2_lawOf_0 : decode cX2_lawOf 0 = .ok (.aload_n 0, 1) := by decide +kernel
theorem dX2_lawOf_1 : decode cX2_lawOf 1 = .ok (.getfield 22, 3) := by decide +kernel
theorem dX2_lawOf_4 : decode cX2_lawOf 4 = .ok (.iload_n 1, 1) := by decide +kernel
theorem dX2_lawOf_5 : decode cX2_lawOf 5 = .ok (.iaload, 1) := by decide +kernel
theorem dX2_lawOf_6 : decode cX2_lawOf 6 = .ok (.istore_n 2, 1) := by decide +kernel
theorem dX2_lawOf_7 : decode cX2_lawOf 7 = .ok (.iload_n 2, 1) := by decide +kernel
theorem dX2_lawOf_8 : decode cX2_lawOf 8 = .ok (.iconst 0, 1) := by decide +kernel
theorem dX2_lawOf_9 : decode cX2_lawOf 9 = .ok (.aload_n 0, 1) := by decide +kernel
theorem dX2_lawOf_10 : decode cX2_lawOf 10 = .ok (.getfield 25, 3) := by decide +kernel
theorem dX2_lawOf_13 : decode cX2_lawOf 13 = .ok (.iconst 1, 1) := by decide +kernel
theorem dX2_lawOf_14 : decode cX2_lawOf 14 = .ok (.isub, 1) := by decide +kernel
theorem dX2_lawOf_15 : decode cX2_lawOf 15 = .ok (.invokestatic 65, 3) := by decide +kernel
theorem dX2_lawOf_18 : decode cX2_lawOf 18 = .ok (.ifCond .eq 12, 3) := by decide +kernel
theorem dX2_lawOf_21 : decode cX2_lawOf 21 = .ok (.aload_n 0, 1) := by decide +kernel
theorem dX2_lawOf_22 : decode cX2_lawOf 22 = .ok (.getfield 41, 3) := by decide +kernel
theorem dX2_lawOf_25 : decode cX2_lawOf 25 = .ok (.iload_n 2, 1) := by decide +kernel
theorem dX2_lawOf_26 : decode cX2_lawOf 26 = .ok (.aaload, 1) := by decide +kernel
theorem dX2_lawOf_27 : decode cX2_lawOf 27 = .ok (.goto 4, 3) := by decide +kernel
theorem dX2_lawOf_30 : decode cX2_lawOf 30 = .ok (.aconst_null, 1) := by decide +kernel
theorem dX2_lawOf_31 : decode cX2_lawOf 31 = .ok (.areturn, 1) := by decide +kernel
theorem dX2_bandOf_0 : decode cX2_bandOf 0 = .ok (.aload_n 0, 1) := by decide +kernel
theorem dX2_bandOf_1 : decode cX2_bandOf 1 = .ok (.iconst 0, 1) := by decide +kernel
theorem dX2_bandOf_2 : decode cX2_bandOf 2 = .ok (.invokevirtual 82, 3) := by decide +kernel
theorem dX2_bandOf_5 : decode cX2_bandOf 5 = .ok (.astore_n 3, 1) := by decide +kernel
theorem dX2_bandOf_6 : decode cX2_bandOf 6 = .ok (.aload_n 3, 1) := by decide +kernel
theorem dX2_bandOf_7 : decode cX2_bandOf 7 = .ok (.ifnonnull 17, 3) := by decide +kernel
theorem dX2_bandOf_10 : decode cX2_bandOf 10 = .ok (.aload_n 1, 1) := by decide +kernel
theorem dX2_bandOf_11 : decode cX2_bandOf 11 = .ok (.aload_n 1, 1) := by decide +kernel
theorem dX2_bandOf_12 : decode cX2_bandOf 12 = .ok (.getfield 86, 3) := by decide +kernel
theorem dX2_bandOf_15 : decode cX2_bandOf 15 = .ok (.bipush 20, 2) := by decide +kernel
theorem dX2_bandOf_17 : decode cX2_bandOf 17 = .ok (.idiv, 1) := by decide +kernel
theorem dX2_bandOf_18 : decode cX2_bandOf 18 = .ok (.iconst 4, 1) := by decide +kernel
theorem dX2_bandOf_19 : decode cX2_bandOf 19 = .ok (.iadd, 1) := by decide +kernel
theorem dX2_bandOf_20 : decode cX2_bandOf 20 = .ok (.invokevirtual 89, 3) := by decide +kernel
theorem dX2_bandOf_23 : decode cX2_bandOf 23 = .ok (.ireturn, 1) := by decide +kernel
theorem dX2_bandOf_24 : decode cX2_bandOf 24 = .ok (.aload_n 1, 1) := by decide +kernel
theorem dX2_bandOf_25 : decode cX2_bandOf 25 = .ok (.aload_n 3, 1) := by decide +kernel
theorem dX2_bandOf_26 : decode cX2_bandOf 26 = .ok (.aload_n 1, 1) := by decide +kernel
theorem dX2_bandOf_27 : decode cX2_bandOf 27 = .ok (.iload_n 2, 1) := by decide +kernel
theorem dX2_bandOf_28 : decode cX2_bandOf 28 = .ok (.invokevirtual 93, 3) := by decide +kernel
theorem dX2_bandOf_31 : decode cX2_bandOf 31 = .ok (.aload_n 1, 1) := by decide +kernel
theorem dX2_bandOf_32 : decode cX2_bandOf 32 = .ok (.getfield 96, 3) := by decide +kernel
theorem dX2_bandOf_35 : decode cX2_bandOf 35 = .ok (.aload_n 1, 1) := by decide +kernel
theorem dX2_bandOf_36 : decode cX2_bandOf 36 = .ok (.getfield 86, 3) := by decide +kernel
theorem dX2_bandOf_39 : decode cX2_bandOf 39 = .ok (.aload_n 0, 1) := by decide +kernel
theorem dX2_bandOf_40 : decode cX2_bandOf 40 = .ok (.getfield 45, 3) := by decide +kernel
theorem dX2_bandOf_43 : decode cX2_bandOf 43 = .ok (.invokevirtual 99, 3) := by decide +kernel
theorem dX2_bandOf_46 : decode cX2_bandOf 46 = .ok (.iconst 0, 1) := by decide +kernel
theorem dX2_bandOf_47 : decode cX2_bandOf 47 = .ok (.bipush 99, 2) := by decide +kernel
theorem dX2_bandOf_49 : decode cX2_bandOf 49 = .ok (.invokestatic 74, 3) := by decide +kernel
theorem dX2_bandOf_52 : decode cX2_bandOf 52 = .ok (.invokevirtual 89, 3) := by decide +kernel
theorem dX2_bandOf_55 : decode cX2_bandOf 55 = .ok (.ireturn, 1) := by decide +kernel
theorem dX2_growth_0 : decode cX2_growth 0 = .ok (.aload_n 0, 1) := by decide +kernel
theorem dX2_growth_1 : decode cX2_growth 1 = .ok (.iconst 1, 1) := by decide +kernel
theorem dX2_growth_2 : decode cX2_growth 2 = .ok (.invokevirtual 82, 3) := by decide +kernel
theorem dX2_growth_5 : decode cX2_growth 5 = .ok (.astore_n 3, 1) := by decide +kernel
theorem dX2_growth_6 : decode cX2_growth 6 = .ok (.aload_n 3, 1) := by decide +kernel
theorem dX2_growth_7 : decode cX2_growth 7 = .ok (.ifnonnull 9, 3) := by decide +kernel
theorem dX2_growth_10 : decode cX2_growth 10 = .ok (.aload_n 1, 1) := by decide +kernel
theorem dX2_growth_11 : decode cX2_growth 11 = .ok (.iload_n 2, 1) := by decide +kernel
theorem dX2_growth_12 : decode cX2_growth 12 = .ok (.invokevirtual 105, 3) := by decide +kernel
theorem dX2_growth_15 : decode cX2_growth 15 = .ok (.ireturn, 1) := by decide +kernel
theorem dX2_growth_16 : decode cX2_growth 16 = .ok (.aload_n 3, 1) := by decide +kernel
theorem dX2_growth_17 : decode cX2_growth 17 = .ok (.aload_n 1, 1) := by decide +kernel
theorem dX2_growth_18 : decode cX2_growth 18 = .ok (.iload_n 2, 1) := by decide +kernel
theorem dX2_growth_19 : decode cX2_growth 19 = .ok (.invokevirtual 105, 3) := by decide +kernel
theorem dX2_growth_22 : decode cX2_growth 22 = .ok (.aload_n 1, 1) := by decide +kernel
theorem dX2_growth_23 : decode cX2_growth 23 = .ok (.getfield 86, 3) := by decide +kernel
theorem dX2_growth_26 : decode cX2_growth 26 = .ok (.iconst 0, 1) := by decide +kernel
theorem dX2_growth_27 : decode cX2_growth 27 = .ok (.aload_n 0, 1) := by decide +kernel
theorem dX2_growth_28 : decode cX2_growth 28 = .ok (.getfield 45, 3) := by decide +kernel
theorem dX2_growth_31 : decode cX2_growth 31 = .ok (.invokevirtual 99, 3) := by decide +kernel
theorem dX2_growth_34 : decode cX2_growth 34 = .ok (.iconst 0, 1) := by decide +kernel
theorem dX2_growth_35 : decode cX2_growth 35 = .ok (.sipush 999, 3) := by decide +kernel
theorem dX2_growth_38 : decode cX2_growth 38 = .ok (.invokestatic 74, 3) := by decide +kernel
theorem dX2_growth_41 : decode cX2_growth 41 = .ok (.ireturn, 1) := by decide +kernel
theorem dX2_tiring_0 : decode cX2_tiring 0 = .ok (.aload_n 0, 1) := by decide +kernel
theorem dX2_tiring_1 : decode cX2_tiring 1 = .ok (.iconst 2, 1) := by decide +kernel
theorem dX2_tiring_2 : decode cX2_tiring 2 = .ok (.invokevirtual 82, 3) := by decide +kernel
theorem dX2_tiring_5 : decode cX2_tiring 5 = .ok (.astore_n 2, 1) := by decide +kernel
theorem dX2_tiring_6 : decode cX2_tiring 6 = .ok (.aload_n 2, 1) := by decide +kernel
theorem dX2_tiring_7 : decode cX2_tiring 7 = .ok (.ifnonnull 17, 3) := by decide +kernel
theorem dX2_tiring_10 : decode cX2_tiring 10 = .ok (.iconst 0, 1) := by decide +kernel
theorem dX2_tiring_11 : decode cX2_tiring 11 = .ok (.aload_n 1, 1) := by decide +kernel
theorem dX2_tiring_12 : decode cX2_tiring 12 = .ok (.getfield 86, 3) := by decide +kernel
theorem dX2_tiring_15 : decode cX2_tiring 15 = .ok (.aload_n 0, 1) := by decide +kernel
theorem dX2_tiring_16 : decode cX2_tiring 16 = .ok (.getfield 35, 3) := by decide +kernel
theorem dX2_tiring_19 : decode cX2_tiring 19 = .ok (.isub, 1) := by decide +kernel
theorem dX2_tiring_20 : decode cX2_tiring 20 = .ok (.invokestatic 108, 3) := by decide +kernel
theorem dX2_tiring_23 : decode cX2_tiring 23 = .ok (.ireturn, 1) := by decide +kernel
theorem dX2_tiring_24 : decode cX2_tiring 24 = .ok (.aload_n 2, 1) := by decide +kernel
theorem dX2_tiring_25 : decode cX2_tiring 25 = .ok (.aload_n 1, 1) := by decide +kernel
theorem dX2_tiring_26 : decode cX2_tiring 26 = .ok (.getfield 86, 3) := by decide +kernel
theorem dX2_tiring_29 : decode cX2_tiring 29 = .ok (.aload_n 0, 1) := by decide +kernel
theorem dX2_tiring_30 : decode cX2_tiring 30 = .ok (.getfield 35, 3) := by decide +kernel
theorem dX2_tiring_33 : decode cX2_tiring 33 = .ok (.aload_n 1, 1) := by decide +kernel
theorem dX2_tiring_34 : decode cX2_tiring 34 = .ok (.getfield 69, 3) := by decide +kernel
theorem dX2_tiring_37 : decode cX2_tiring 37 = .ok (.ifCond .eq 7, 3) := by decide +kernel
theorem dX2_tiring_40 : decode cX2_tiring 40 = .ok (.iconst 1, 1) := by decide +kernel
theorem dX2_tiring_41 : decode cX2_tiring 41 = .ok (.goto 4, 3) := by decide +kernel
theorem dX2_tiring_44 : decode cX2_tiring 44 = .ok (.iconst 0, 1) := by decide +kernel
theorem dX2_tiring_45 : decode cX2_tiring 45 = .ok (.aload_n 0, 1) := by decide +kernel
theorem dX2_tiring_46 : decode cX2_tiring 46 = .ok (.getfield 45, 3) := by decide +kernel
theorem dX2_tiring_49 : decode cX2_tiring 49 = .ok (.invokevirtual 99, 3) := by decide +kernel
theorem dX2_tiring_52 : decode cX2_tiring 52 = .ok (.iconst 0, 1) := by decide +kernel
theorem dX2_tiring_53 : decode cX2_tiring 53 = .ok (.sipush 999, 3) := by decide +kernel
theorem dX2_tiring_56 : decode cX2_tiring 56 = .ok (.invokestatic 74, 3) := by decide +kernel
theorem dX2_tiring_59 : decode cX2_tiring 59 = .ok (.ireturn, 1) := by decide +kernel
theorem dX2_holds_0 : decode cX2_holds 0 = .ok (.aload_n 0, 1) := by decide +kernel
theorem dX2_holds_1 : decode cX2_holds 1 = .ok (.aload_n 1, 1) := by decide +kernel
theorem dX2_holds_2 : decode cX2_holds 2 = .ok (.iload_n 2, 1) := by decide +kernel
theorem dX2_holds_3 : decode cX2_holds 3 = .ok (.invokevirtual 114, 3) := by decide +kernel
theorem dX2_holds_6 : decode cX2_holds 6 = .ok (.istore_n 3, 1) := by decide +kernel
theorem dX2_holds_7 : decode cX2_holds 7 = .ok (.aload_n 1, 1) := by decide +kernel
theorem dX2_holds_8 : decode cX2_holds 8 = .ok (.iload_n 2, 1) := by decide +kernel
theorem dX2_holds_9 : decode cX2_holds 9 = .ok (.invokevirtual 117, 3) := by decide +kernel
theorem dX2_holds_12 : decode cX2_holds 12 = .ok (.aload_n 1, 1) := by decide +kernel
theorem dX2_holds_13 : decode cX2_holds 13 = .ok (.getfield 69, 3) := by decide +kernel
theorem dX2_holds_16 : decode cX2_holds 16 = .ok (.ifCond .eq 9, 3) := by decide +kernel
theorem dX2_holds_19 : decode cX2_holds 19 = .ok (.iconst 2, 1) := by decide +kernel
theorem dX2_holds_20 : decode cX2_holds 20 = .ok (.iload_n 3, 1) := by decide +kernel
theorem dX2_holds_21 : decode cX2_holds 21 = .ok (.imul, 1) := by decide +kernel
theorem dX2_holds_22 : decode cX2_holds 22 = .ok (.goto 4, 3) := by decide +kernel
theorem dX2_holds_25 : decode cX2_holds 25 = .ok (.iload_n 3, 1) := by decide +kernel
theorem dX2_holds_26 : decode cX2_holds 26 = .ok (.if_icmp .gt 7, 3) := by decide +kernel
theorem dX2_holds_29 : decode cX2_holds 29 = .ok (.iconst 1, 1) := by decide +kernel
theorem dX2_holds_30 : decode cX2_holds 30 = .ok (.goto 4, 3) := by decide +kernel
theorem dX2_holds_33 : decode cX2_holds 33 = .ok (.iconst 0, 1) := by decide +kernel
theorem dX2_holds_34 : decode cX2_holds 34 = .ok (.ireturn, 1) := by decide +kernel
theorem dX2_blowOn_0 : decode cX2_blowOn 0 = .ok (.aload_n 1, 1) := by decide +kernel
theorem dX2_blowOn_1 : decode cX2_blowOn 1 = .ok (.aload_n 0, 1) := by decide +kernel
theorem dX2_blowOn_2 : decode cX2_blowOn 2 = .ok (.aload_n 1, 1) := by decide +kernel
theorem dX2_blowOn_3 : decode cX2_blowOn 3 = .ok (.iload_n 2, 1) := by decide +kernel
theorem dX2_blowOn_4 : decode cX2_blowOn 4 = .ok (.invokevirtual 120, 3) := by decide +kernel
theorem dX2_blowOn_7 : decode cX2_blowOn 7 = .ok (.putfield 69, 3) := by decide +kernel
theorem dX2_blowOn_10 : decode cX2_blowOn 10 = .ok (.aload_n 1, 1) := by decide +kernel
theorem dX2_blowOn_11 : decode cX2_blowOn 11 = .ok (.getfield 69, 3) := by decide +kernel
theorem dX2_blowOn_14 : decode cX2_blowOn 14 = .ok (.ifCond .eq 17, 3) := by decide +kernel
theorem dX2_blowOn_17 : decode cX2_blowOn 17 = .ok (.aload_n 1, 1) := by decide +kernel
theorem dX2_blowOn_18 : decode cX2_blowOn 18 = .ok (.getfield 86, 3) := by decide +kernel
theorem dX2_blowOn_21 : decode cX2_blowOn 21 = .ok (.aload_n 0, 1) := by decide +kernel
theorem dX2_blowOn_22 : decode cX2_blowOn 22 = .ok (.aload_n 1, 1) := by decide +kernel
theorem dX2_blowOn_23 : decode cX2_blowOn 23 = .ok (.iload_n 2, 1) := by decide +kernel
theorem dX2_blowOn_24 : decode cX2_blowOn 24 = .ok (.invokevirtual 124, 3) := by decide +kernel
theorem dX2_blowOn_27 : decode cX2_blowOn 27 = .ok (.iadd, 1) := by decide +kernel
theorem dX2_blowOn_28 : decode cX2_blowOn 28 = .ok (.goto 7, 3) := by decide +kernel
theorem dX2_blowOn_31 : decode cX2_blowOn 31 = .ok (.aload_n 1, 1) := by decide +kernel
theorem dX2_blowOn_32 : decode cX2_blowOn 32 = .ok (.getfield 86, 3) := by decide +kernel
theorem dX2_blowOn_35 : decode cX2_blowOn 35 = .ok (.istore_n 3, 1) := by decide +kernel
theorem dX2_blowOn_36 : decode cX2_blowOn 36 = .ok (.aload_n 1, 1) := by decide +kernel
theorem dX2_blowOn_37 : decode cX2_blowOn 37 = .ok (.iload_n 3, 1) := by decide +kernel
theorem dX2_blowOn_38 : decode cX2_blowOn 38 = .ok (.iload_n 3, 1) := by decide +kernel
theorem dX2_blowOn_39 : decode cX2_blowOn 39 = .ok (.aload_n 1, 1) := by decide +kernel
theorem dX2_blowOn_40 : decode cX2_blowOn 40 = .ok (.invokevirtual 127, 3) := by decide +kernel
theorem dX2_blowOn_43 : decode cX2_blowOn 43 = .ok (.imul, 1) := by decide +kernel
theorem dX2_blowOn_44 : decode cX2_blowOn 44 = .ok (.bipush 20, 2) := by decide +kernel
theorem dX2_blowOn_46 : decode cX2_blowOn 46 = .ok (.idiv, 1) := by decide +kernel
theorem dX2_blowOn_47 : decode cX2_blowOn 47 = .ok (.isub, 1) := by decide +kernel
theorem dX2_blowOn_48 : decode cX2_blowOn 48 = .ok (.iconst 0, 1) := by decide +kernel
theorem dX2_blowOn_49 : decode cX2_blowOn 49 = .ok (.sipush 9999, 3) := by decide +kernel
theorem dX2_blowOn_52 : decode cX2_blowOn 52 = .ok (.invokestatic 74, 3) := by decide +kernel
theorem dX2_blowOn_55 : decode cX2_blowOn 55 = .ok (.putfield 86, 3) := by decide +kernel
theorem dX2_blowOn_58 : decode cX2_blowOn 58 = .ok (.aload_n 1, 1) := by decide +kernel
theorem dX2_blowOn_59 : decode cX2_blowOn 59 = .ok (.dup, 1) := by decide +kernel
theorem dX2_blowOn_60 : decode cX2_blowOn 60 = .ok (.getfield 131, 3) := by decide +kernel
theorem dX2_blowOn_63 : decode cX2_blowOn 63 = .ok (.aload_n 0, 1) := by decide +kernel
theorem dX2_blowOn_64 : decode cX2_blowOn 64 = .ok (.aload_n 1, 1) := by decide +kernel
theorem dX2_blowOn_65 : decode cX2_blowOn 65 = .ok (.invokevirtual 134, 3) := by decide +kernel
theorem dX2_blowOn_68 : decode cX2_blowOn 68 = .ok (.iadd, 1) := by decide +kernel
theorem dX2_blowOn_69 : decode cX2_blowOn 69 = .ok (.putfield 131, 3) := by decide +kernel
theorem dX2_blowOn_72 : decode cX2_blowOn 72 = .ok (.aload_n 1, 1) := by decide +kernel
theorem dX2_blowOn_73 : decode cX2_blowOn 73 = .ok (.getfield 69, 3) := by decide +kernel
theorem dX2_blowOn_76 : decode cX2_blowOn 76 = .ok (.ifCond .eq 10, 3) := by decide +kernel
theorem dX2_blowOn_79 : decode cX2_blowOn 79 = .ok (.aload_n 1, 1) := by decide +kernel
theorem dX2_blowOn_80 : decode cX2_blowOn 80 = .ok (.getfield 96, 3) := by decide +kernel
theorem dX2_blowOn_83 : decode cX2_blowOn 83 = .ok (.goto 8, 3) := by decide +kernel
theorem dX2_blowOn_86 : decode cX2_blowOn 86 = .ok (.aload_n 1, 1) := by decide +kernel
theorem dX2_blowOn_87 : decode cX2_blowOn 87 = .ok (.iload_n 2, 1) := by decide +kernel
theorem dX2_blowOn_88 : decode cX2_blowOn 88 = .ok (.invokevirtual 93, 3) := by decide +kernel
theorem dX2_blowOn_91 : decode cX2_blowOn 91 = .ok (.ireturn, 1) := by decide +kernel
theorem dX3_init_0 : decode cX3_init 0 = .ok (.aload_n 0, 1) := by decide +kernel
theorem dX3_init_1 : decode cX3_init 1 = .ok (.invokespecial 3, 3) := by decide +kernel
theorem dX3_init_4 : decode cX3_init 4 = .ok (.aload_n 0, 1) := by decide +kernel
theorem dX3_init_5 : decode cX3_init 5 = .ok (.iconst (-1), 1) := by decide +kernel
theorem dX3_init_6 : decode cX3_init 6 = .ok (.putfield 9, 3) := by decide +kernel
theorem dX3_init_9 : decode cX3_init 9 = .ok (.aload_n 0, 1) := by decide +kernel
theorem dX3_init_10 : decode cX3_init 10 = .ok (.iconst 0, 1) := by decide +kernel
theorem dX3_init_11 : decode cX3_init 11 = .ok (.putfield 15, 3) := by decide +kernel
theorem dX3_init_14 : decode cX3_init 14 = .ok (.aload_n 0, 1) := by decide +kernel
theorem dX3_init_15 : decode cX3_init 15 = .ok (.bipush 24, 2) := by decide +kernel
theorem dX3_init_17 : decode cX3_init 17 = .ok (.newarray .int, 2) := by decide +kernel
theorem dX3_init_19 : decode cX3_init 19 = .ok (.putfield 18, 3) := by decide +kernel
theorem dX3_init_22 : decode cX3_init 22 = .ok (.return_, 1) := by decide +kernel
theorem dX3_begin_0 : decode cX3_begin 0 = .ok (.aload_n 0, 1) := by decide +kernel
theorem dX3_begin_1 : decode cX3_begin 1 = .ok (.iload_n 1, 1) := by decide +kernel
theorem dX3_begin_2 : decode cX3_begin 2 = .ok (.putfield 9, 3) := by decide +kernel
theorem dX3_begin_5 : decode cX3_begin 5 = .ok (.aload_n 0, 1) := by decide +kernel
theorem dX3_begin_6 : decode cX3_begin 6 = .ok (.iload_n 2, 1) := by decide +kernel
theorem dX3_begin_7 : decode cX3_begin 7 = .ok (.putfield 15, 3) := by decide +kernel
theorem dX3_begin_10 : decode cX3_begin 10 = .ok (.aload_n 0, 1) := by decide +kernel
theorem dX3_begin_11 : decode cX3_begin 11 = .ok (.getfield 18, 3) := by decide +kernel
theorem dX3_begin_14 : decode cX3_begin 14 = .ok (.iconst 0, 1) := by decide +kernel
theorem dX3_begin_15 : decode cX3_begin 15 = .ok (.invokestatic 22, 3) := by decide +kernel
theorem dX3_begin_18 : decode cX3_begin 18 = .ok (.return_, 1) := by decide +kernel
theorem dX3_become_0 : decode cX3_become 0 = .ok (.aload_n 0, 1) := by decide +kernel
theorem dX3_become_1 : decode cX3_become 1 = .ok (.aload_n 1, 1) := by decide +kernel
theorem dX3_become_2 : decode cX3_become 2 = .ok (.getfield 9, 3) := by decide +kernel
theorem dX3_become_5 : decode cX3_become 5 = .ok (.putfield 9, 3) := by decide +kernel
theorem dX3_become_8 : decode cX3_become 8 = .ok (.aload_n 0, 1) := by decide +kernel
theorem dX3_become_9 : decode cX3_become 9 = .ok (.aload_n 1, 1) := by decide +kernel
theorem dX3_become_10 : decode cX3_become 10 = .ok (.getfield 15, 3) := by decide +kernel
theorem dX3_become_13 : decode cX3_become 13 = .ok (.putfield 15, 3) := by decide +kernel
theorem dX3_become_16 : decode cX3_become 16 = .ok (.aload_n 1, 1) := by decide +kernel
theorem dX3_become_17 : decode cX3_become 17 = .ok (.getfield 18, 3) := by decide +kernel
theorem dX3_become_20 : decode cX3_become 20 = .ok (.iconst 0, 1) := by decide +kernel
theorem dX3_become_21 : decode cX3_become 21 = .ok (.aload_n 0, 1) := by decide +kernel
theorem dX3_become_22 : decode cX3_become 22 = .ok (.getfield 18, 3) := by decide +kernel
theorem dX3_become_25 : decode cX3_become 25 = .ok (.iconst 0, 1) := by decide +kernel
theorem dX3_become_26 : decode cX3_become 26 = .ok (.bipush 24, 2) := by decide +kernel
theorem dX3_become_28 : decode cX3_become 28 = .ok (.invokestatic 28, 3) := by decide +kernel
theorem dX3_become_31 : decode cX3_become 31 = .ok (.return_, 1) := by decide +kernel
theorem dX3_isMissing_0 : decode cX3_isMissing 0 = .ok (.aload_n 0, 1) := by decide +kernel
theorem dX3_isMissing_1 : decode cX3_isMissing 1 = .ok (.getfield 9, 3) := by decide +kernel
theorem dX3_isMissing_4 : decode cX3_isMissing 4 = .ok (.iconst (-1), 1) := by decide +kernel
theorem dX3_isMissing_5 : decode cX3_isMissing 5 = .ok (.if_icmp .ne 7, 3) := by decide +kernel
theorem dX3_isMissing_8 : decode cX3_isMissing 8 = .ok (.iconst 1, 1) := by decide +kernel
theorem dX3_isMissing_9 : decode cX3_isMissing 9 = .ok (.goto 4, 3) := by decide +kernel
theorem dX3_isMissing_12 : decode cX3_isMissing 12 = .ok (.iconst 0, 1) := by decide +kernel
theorem dX3_isMissing_13 : decode cX3_isMissing 13 = .ok (.ireturn, 1) := by decide +kernel
theorem dX3_hasPlace_0 : decode cX3_hasPlace 0 = .ok (.iload_n 1, 1) := by decide +kernel
theorem dX3_hasPlace_1 : decode cX3_hasPlace 1 = .ok (.iconst 0, 1) := by decide +kernel
theorem dX3_hasPlace_2 : decode cX3_hasPlace 2 = .ok (.aload_n 0, 1) := by decide +kernel
theorem dX3_hasPlace_3 : decode cX3_hasPlace 3 = .ok (.getfield 15, 3) := by decide +kernel
theorem dX3_hasPlace_6 : decode cX3_hasPlace 6 = .ok (.iconst 1, 1) := by decide +kernel
theorem dX3_hasPlace_7 : decode cX3_hasPlace 7 = .ok (.isub, 1) := by decide +kernel
theorem dX3_hasPlace_8 : decode cX3_hasPlace 8 = .ok (.invokestatic 34, 3) := by decide +kernel
theorem dX3_hasPlace_11 : decode cX3_hasPlace 11 = .ok (.ireturn, 1) := by decide +kernel
theorem dX3_hasPlaces_0 : decode cX3_hasPlaces 0 = .ok (.iload_n 1, 1) := by decide +kernel
theorem dX3_hasPlaces_1 : decode cX3_hasPlaces 1 = .ok (.ifCond .lt 29, 3) := by decide +kernel
theorem dX3_hasPlaces_4 : decode cX3_hasPlaces 4 = .ok (.iload_n 2, 1) := by decide +kernel
theorem dX3_hasPlaces_5 : decode cX3_hasPlaces 5 = .ok (.ifCond .lt 25, 3) := by decide +kernel
theorem dX3_hasPlaces_8 : decode cX3_hasPlaces 8 = .ok (.iload_n 1, 1) := by decide +kernel
theorem dX3_hasPlaces_9 : decode cX3_hasPlaces 9 = .ok (.aload_n 0, 1) := by decide +kernel
theorem dX3_hasPlaces_10 : decode cX3_hasPlaces 10 = .ok (.getfield 15, 3) := by decide +kernel
theorem dX3_hasPlaces_13 : decode cX3_hasPlaces 13 = .ok (.if_icmp .gt 17, 3) := by decide +kernel
theorem dX3_hasPlaces_16 : decode cX3_hasPlaces 16 = .ok (.iload_n 2, 1) := by decide +kernel
theorem dX3_hasPlaces_17 : decode cX3_hasPlaces 17 = .ok (.aload_n 0, 1) := by decide +kernel
theorem dX3_hasPlaces_18 : decode cX3_hasPlaces 18 = .ok (.getfield 15, 3) := by decide +kernel
theorem dX3_hasPlaces_21 : decode cX3_hasPlaces 21 = .ok (.iload_n 1, 1) := by decide +kernel
theorem dX3_hasPlaces_22 : decode cX3_hasPlaces 22 = .ok (.isub, 1) := by decide +kernel
theorem dX3_hasPlaces_23 : decode cX3_hasPlaces 23 = .ok (.if_icmp .gt 7, 3) := by decide +kernel
theorem dX3_hasPlaces_26 : decode cX3_hasPlaces 26 = .ok (.iconst 1, 1) := by decide +kernel
theorem dX3_hasPlaces_27 : decode cX3_hasPlaces 27 = .ok (.goto 4, 3) := by decide +kernel
theorem dX3_hasPlaces_30 : decode cX3_hasPlaces 30 = .ok (.iconst 0, 1) := by decide +kernel
theorem dX3_hasPlaces_31 : decode cX3_hasPlaces 31 = .ok (.ireturn, 1) := by decide +kernel
theorem dX3_hasNumber_0 : decode cX3_hasNumber 0 = .ok (.aload_n 0, 1) := by decide +kernel
theorem dX3_hasNumber_1 : decode cX3_hasNumber 1 = .ok (.iload_n 1, 1) := by decide +kernel
theorem dX3_hasNumber_2 : decode cX3_hasNumber 2 = .ok (.invokevirtual 38, 3) := by decide +kernel
theorem dX3_hasNumber_5 : decode cX3_hasNumber 5 = .ok (.ifCond .eq 18, 3) := by decide +kernel
theorem dX3_hasNumber_8 : decode cX3_hasNumber 8 = .ok (.aload_n 0, 1) := by decide +kernel
theorem dX3_hasNumber_9 : decode cX3_hasNumber 9 = .ok (.getfield 18, 3) := by decide +kernel
theorem dX3_hasNumber_12 : decode cX3_hasNumber 12 = .ok (.iload_n 1, 1) := by decide +kernel
theorem dX3_hasNumber_13 : decode cX3_hasNumber 13 = .ok (.iaload, 1) := by decide +kernel
theorem dX3_hasNumber_14 : decode cX3_hasNumber 14 = .ok (.ldc 42, 2) := by decide +kernel
theorem dX3_hasNumber_16 : decode cX3_hasNumber 16 = .ok (.if_icmp .eq 7, 3) := by decide +kernel
theorem dX3_hasNumber_19 : decode cX3_hasNumber 19 = .ok (.iconst 1, 1) := by decide +kernel
theorem dX3_hasNumber_20 : decode cX3_hasNumber 20 = .ok (.goto 4, 3) := by decide +kernel
theorem dX3_hasNumber_23 : decode cX3_hasNumber 23 = .ok (.iconst 0, 1) := by decide +kernel
theorem dX3_hasNumber_24 : decode cX3_hasNumber 24 = .ok (.ireturn, 1) := by decide +kernel
theorem dX4_init_0 : decode cX4_init 0 = .ok (.aload_n 0, 1) := by decide +kernel
theorem dX4_init_1 : decode cX4_init 1 = .ok (.invokespecial 3, 3) := by decide +kernel
theorem dX4_init_4 : decode cX4_init 4 = .ok (.aload_n 0, 1) := by decide +kernel
theorem dX4_init_5 : decode cX4_init 5 = .ok (.iconst 0, 1) := by decide +kernel
theorem dX4_init_6 : decode cX4_init 6 = .ok (.putfield 9, 3) := by decide +kernel
theorem dX4_init_9 : decode cX4_init 9 = .ok (.aload_n 0, 1) := by decide +kernel
theorem dX4_init_10 : decode cX4_init 10 = .ok (.iconst 0, 1) := by decide +kernel
theorem dX4_init_11 : decode cX4_init 11 = .ok (.putfield 15, 3) := by decide +kernel
theorem dX4_init_14 : decode cX4_init 14 = .ok (.aload_n 0, 1) := by decide +kernel
theorem dX4_init_15 : decode cX4_init 15 = .ok (.new 18, 3) := by decide +kernel
theorem dX4_init_18 : decode cX4_init 18 = .ok (.dup, 1) := by decide +kernel
theorem dX4_init_19 : decode cX4_init 19 = .ok (.invokespecial 20, 3) := by decide +kernel
theorem dX4_init_22 : decode cX4_init 22 = .ok (.putfield 21, 3) := by decide +kernel
theorem dX4_init_25 : decode cX4_init 25 = .ok (.aload_n 0, 1) := by decide +kernel
theorem dX4_init_26 : decode cX4_init 26 = .ok (.new 25, 3) := by decide +kernel
theorem dX4_init_29 : decode cX4_init 29 = .ok (.dup, 1) := by decide +kernel
theorem dX4_init_30 : decode cX4_init 30 = .ok (.invokespecial 27, 3) := by decide +kernel
theorem dX4_init_33 : decode cX4_init 33 = .ok (.putfield 28, 3) := by decide +kernel
theorem dX4_init_36 : decode cX4_init 36 = .ok (.return_, 1) := by decide +kernel
theorem dX4_findingFor_0 : decode cX4_findingFor 0 = .ok (.aload_n 0, 1) := by decide +kernel
theorem dX4_findingFor_1 : decode cX4_findingFor 1 = .ok (.getfield 9, 3) := by decide +kernel
theorem dX4_findingFor_4 : decode cX4_findingFor 4 = .ok (.ifCond .ne 6, 3) := by decide +kernel
theorem dX4_findingFor_7 : decode cX4_findingFor 7 = .ok (.ldc 32, 2) := by decide +kernel
theorem dX4_findingFor_9 : decode cX4_findingFor 9 = .ok (.ireturn, 1) := by decide +kernel
theorem dX4_findingFor_10 : decode cX4_findingFor 10 = .ok (.aload_n 0, 1) := by decide +kernel
theorem dX4_findingFor_11 : decode cX4_findingFor 11 = .ok (.getfield 9, 3) := by decide +kernel
theorem dX4_findingFor_14 : decode cX4_findingFor 14 = .ok (.iload_n 1, 1) := by decide +kernel
theorem dX4_findingFor_15 : decode cX4_findingFor 15 = .ok (.if_icmp .ne 7, 3) := by decide +kernel
theorem dX4_findingFor_18 : decode cX4_findingFor 18 = .ok (.iconst 0, 1) := by decide +kernel
theorem dX4_findingFor_19 : decode cX4_findingFor 19 = .ok (.goto 5, 3) := by decide +kernel
theorem dX4_findingFor_22 : decode cX4_findingFor 22 = .ok (.ldc 33, 2) := by decide +kernel
theorem dX4_findingFor_24 : decode cX4_findingFor 24 = .ok (.ireturn, 1) := by decide +kernel
theorem dX5_init_0 : decode cX5_init 0 = .ok (.aload_n 0, 1) := by decide +kernel
theorem dX5_init_1 : decode cX5_init 1 = .ok (.invokespecial 3, 3) := by decide +kernel
theorem dX5_init_4 : decode cX5_init 4 = .ok (.aload_n 0, 1) := by decide +kernel
theorem dX5_init_5 : decode cX5_init 5 = .ok (.iconst 1, 1) := by decide +kernel
theorem dX5_init_6 : decode cX5_init 6 = .ok (.putfield 9, 3) := by decide +kernel
theorem dX5_init_9 : decode cX5_init 9 = .ok (.aload_n 0, 1) := by decide +kernel
theorem dX5_init_10 : decode cX5_init 10 = .ok (.iconst 1, 1) := by decide +kernel
theorem dX5_init_11 : decode cX5_init 11 = .ok (.putfield 15, 3) := by decide +kernel
theorem dX5_init_14 : decode cX5_init 14 = .ok (.return_, 1) := by decide +kernel
theorem dX5_begin_0 : decode cX5_begin 0 = .ok (.aload_n 0, 1) := by decide +kernel
theorem dX5_begin_1 : decode cX5_begin 1 = .ok (.iload_n 1, 1) := by decide +kernel
theorem dX5_begin_2 : decode cX5_begin 2 = .ok (.putfield 18, 3) := by decide +kernel
theorem dX5_begin_5 : decode cX5_begin 5 = .ok (.aload_n 0, 1) := by decide +kernel
theorem dX5_begin_6 : decode cX5_begin 6 = .ok (.iload_n 2, 1) := by decide +kernel
theorem dX5_begin_7 : decode cX5_begin 7 = .ok (.putfield 9, 3) := by decide +kernel
theorem dX5_begin_10 : decode cX5_begin 10 = .ok (.aload_n 0, 1) := by decide +kernel
theorem dX5_begin_11 : decode cX5_begin 11 = .ok (.iload_n 3, 1) := by decide +kernel
theorem dX5_begin_12 : decode cX5_begin 12 = .ok (.putfield 15, 3) := by decide +kernel
theorem dX5_begin_15 : decode cX5_begin 15 = .ok (.aload_n 0, 1) := by decide +kernel
theorem dX5_begin_16 : decode cX5_begin 16 = .ok (.iconst 2, 1) := by decide +kernel
theorem dX5_begin_17 : decode cX5_begin 17 = .ok (.putfield 21, 3) := by decide +kernel
theorem dX5_begin_20 : decode cX5_begin 20 = .ok (.aload_n 0, 1) := by decide +kernel
theorem dX5_begin_21 : decode cX5_begin 21 = .ok (.iconst 0, 1) := by decide +kernel
theorem dX5_begin_22 : decode cX5_begin 22 = .ok (.putfield 24, 3) := by decide +kernel
theorem dX5_begin_25 : decode cX5_begin 25 = .ok (.aload_n 0, 1) := by decide +kernel
theorem dX5_begin_26 : decode cX5_begin 26 = .ok (.iconst 0, 1) := by decide +kernel
theorem dX5_begin_27 : decode cX5_begin 27 = .ok (.putfield 27, 3) := by decide +kernel
theorem dX5_begin_30 : decode cX5_begin 30 = .ok (.aload_n 0, 1) := by decide +kernel
theorem dX5_begin_31 : decode cX5_begin 31 = .ok (.iconst 0, 1) := by decide +kernel
theorem dX5_begin_32 : decode cX5_begin 32 = .ok (.putfield 31, 3) := by decide +kernel
theorem dX5_begin_35 : decode cX5_begin 35 = .ok (.return_, 1) := by decide +kernel
theorem dX5_become_0 : decode cX5_become 0 = .ok (.aload_n 0, 1) := by decide +kernel
theorem dX5_become_1 : decode cX5_become 1 = .ok (.aload_n 1, 1) := by decide +kernel
theorem dX5_become_2 : decode cX5_become 2 = .ok (.getfield 18, 3) := by decide +kernel
theorem dX5_become_5 : decode cX5_become 5 = .ok (.putfield 18, 3) := by decide +kernel
theorem dX5_become_8 : decode cX5_become 8 = .ok (.aload_n 0, 1) := by decide +kernel
theorem dX5_become_9 : decode cX5_become 9 = .ok (.aload_n 1, 1) := by decide +kernel
theorem dX5_become_10 : decode cX5_become 10 = .ok (.getfield 9, 3) := by decide +kernel
theorem dX5_become_13 : decode cX5_become 13 = .ok (.putfield 9, 3) := by decide +kernel
theorem dX5_become_16 : decode cX5_become 16 = .ok (.aload_n 0, 1) := by decide +kernel
theorem dX5_become_17 : decode cX5_become 17 = .ok (.aload_n 1, 1) := by decide +kernel
theorem dX5_become_18 : decode cX5_become 18 = .ok (.getfield 15, 3) := by decide +kernel
theorem dX5_become_21 : decode cX5_become 21 = .ok (.putfield 15, 3) := by decide +kernel
theorem dX5_become_24 : decode cX5_become 24 = .ok (.aload_n 0, 1) := by decide +kernel
theorem dX5_become_25 : decode cX5_become 25 = .ok (.aload_n 1, 1) := by decide +kernel
theorem dX5_become_26 : decode cX5_become 26 = .ok (.getfield 21, 3) := by decide +kernel
theorem dX5_become_29 : decode cX5_become 29 = .ok (.putfield 21, 3) := by decide +kernel
theorem dX5_become_32 : decode cX5_become 32 = .ok (.aload_n 0, 1) := by decide +kernel
theorem dX5_become_33 : decode cX5_become 33 = .ok (.aload_n 1, 1) := by decide +kernel
theorem dX5_become_34 : decode cX5_become 34 = .ok (.getfield 24, 3) := by decide +kernel
theorem dX5_become_37 : decode cX5_become 37 = .ok (.putfield 24, 3) := by decide +kernel
theorem dX5_become_40 : decode cX5_become 40 = .ok (.aload_n 0, 1) := by decide +kernel
theorem dX5_become_41 : decode cX5_become 41 = .ok (.aload_n 1, 1) := by decide +kernel
theorem dX5_become_42 : decode cX5_become 42 = .ok (.getfield 27, 3) := by decide +kernel
theorem dX5_become_45 : decode cX5_become 45 = .ok (.putfield 27, 3) := by decide +kernel
theorem dX5_become_48 : decode cX5_become 48 = .ok (.aload_n 0, 1) := by decide +kernel
theorem dX5_become_49 : decode cX5_become 49 = .ok (.aload_n 1, 1) := by decide +kernel
theorem dX5_become_50 : decode cX5_become 50 = .ok (.getfield 31, 3) := by decide +kernel
theorem dX5_become_53 : decode cX5_become 53 = .ok (.putfield 31, 3) := by decide +kernel
theorem dX5_become_56 : decode cX5_become 56 = .ok (.return_, 1) := by decide +kernel
theorem dX5_change_0 : decode cX5_change 0 = .ok (.iload_n 1, 1) := by decide +kernel
theorem dX5_change_1 : decode cX5_change 1 = .ok (.iconst 1, 1) := by decide +kernel
theorem dX5_change_2 : decode cX5_change 2 = .ok (.if_icmp .ne 10, 3) := by decide +kernel
theorem dX5_change_5 : decode cX5_change 5 = .ok (.aload_n 0, 1) := by decide +kernel
theorem dX5_change_6 : decode cX5_change 6 = .ok (.getfield 9, 3) := by decide +kernel
theorem dX5_change_9 : decode cX5_change 9 = .ok (.goto 31, 3) := by decide +kernel
theorem dX5_change_12 : decode cX5_change 12 = .ok (.iload_n 1, 1) := by decide +kernel
theorem dX5_change_13 : decode cX5_change 13 = .ok (.iconst 2, 1) := by decide +kernel
theorem dX5_change_14 : decode cX5_change 14 = .ok (.if_icmp .ne 10, 3) := by decide +kernel
theorem dX5_change_17 : decode cX5_change 17 = .ok (.aload_n 0, 1) := by decide +kernel
theorem dX5_change_18 : decode cX5_change 18 = .ok (.getfield 15, 3) := by decide +kernel
theorem dX5_change_21 : decode cX5_change 21 = .ok (.goto 19, 3) := by decide +kernel
theorem dX5_change_24 : decode cX5_change 24 = .ok (.iload_n 1, 1) := by decide +kernel
theorem dX5_change_25 : decode cX5_change 25 = .ok (.iconst 3, 1) := by decide +kernel
theorem dX5_change_26 : decode cX5_change 26 = .ok (.if_icmp .ne 10, 3) := by decide +kernel
theorem dX5_change_29 : decode cX5_change 29 = .ok (.aload_n 0, 1) := by decide +kernel
theorem dX5_change_30 : decode cX5_change 30 = .ok (.getfield 21, 3) := by decide +kernel
theorem dX5_change_33 : decode cX5_change 33 = .ok (.goto 7, 3) := by decide +kernel
theorem dX5_change_36 : decode cX5_change 36 = .ok (.aload_n 0, 1) := by decide +kernel
theorem dX5_change_37 : decode cX5_change 37 = .ok (.getfield 24, 3) := by decide +kernel
theorem dX5_change_40 : decode cX5_change 40 = .ok (.istore_n 3, 1) := by decide +kernel
theorem dX5_change_41 : decode cX5_change 41 = .ok (.iload_n 1, 1) := by decide +kernel
theorem dX5_change_42 : decode cX5_change 42 = .ok (.tableswitch 50 1 3 #[26, 34, 42], 26) := by decide +kernel
theorem dX5_change_68 : decode cX5_change 68 = .ok (.aload_n 0, 1) := by decide +kernel
theorem dX5_change_69 : decode cX5_change 69 = .ok (.iload_n 2, 1) := by decide +kernel
theorem dX5_change_70 : decode cX5_change 70 = .ok (.putfield 9, 3) := by decide +kernel
theorem dX5_change_73 : decode cX5_change 73 = .ok (.goto 24, 3) := by decide +kernel
theorem dX5_change_76 : decode cX5_change 76 = .ok (.aload_n 0, 1) := by decide +kernel
theorem dX5_change_77 : decode cX5_change 77 = .ok (.iload_n 2, 1) := by decide +kernel
theorem dX5_change_78 : decode cX5_change 78 = .ok (.putfield 15, 3) := by decide +kernel
theorem dX5_change_81 : decode cX5_change 81 = .ok (.goto 16, 3) := by decide +kernel
theorem dX5_change_84 : decode cX5_change 84 = .ok (.aload_n 0, 1) := by decide +kernel
theorem dX5_change_85 : decode cX5_change 85 = .ok (.iload_n 2, 1) := by decide +kernel
theorem dX5_change_86 : decode cX5_change 86 = .ok (.putfield 21, 3) := by decide +kernel
theorem dX5_change_89 : decode cX5_change 89 = .ok (.goto 8, 3) := by decide +kernel
theorem dX5_change_92 : decode cX5_change 92 = .ok (.aload_n 0, 1) := by decide +kernel
theorem dX5_change_93 : decode cX5_change 93 = .ok (.iload_n 2, 1) := by decide +kernel
theorem dX5_change_94 : decode cX5_change 94 = .ok (.putfield 24, 3) := by decide +kernel
theorem dX5_change_97 : decode cX5_change 97 = .ok (.iload_n 3, 1) := by decide +kernel
theorem dX5_change_98 : decode cX5_change 98 = .ok (.ireturn, 1) := by decide +kernel
theorem dX5_air_0 : decode cX5_air 0 = .ok (.aload_n 0, 1) := by decide +kernel
theorem dX5_air_1 : decode cX5_air 1 = .ok (.getfield 18, 3) := by decide +kernel
theorem dX5_air_4 : decode cX5_air 4 = .ok (.iconst 5, 1) := by decide +kernel
theorem dX5_air_5 : decode cX5_air 5 = .ok (.if_icmp .ne 9, 3) := by decide +kernel
theorem dX5_air_8 : decode cX5_air 8 = .ok (.iload_n 1, 1) := by decide +kernel
theorem dX5_air_9 : decode cX5_air 9 = .ok (.iconst 2, 1) := by decide +kernel
theorem dX5_air_10 : decode cX5_air 10 = .ok (.idiv, 1) := by decide +kernel
theorem dX5_air_11 : decode cX5_air 11 = .ok (.goto 4, 3) := by decide +kernel
theorem dX5_air_14 : decode cX5_air 14 = .ok (.iload_n 1, 1) := by decide +kernel
theorem dX5_air_15 : decode cX5_air 15 = .ok (.ireturn, 1) := by decide +kernel
theorem dX5_eddy_0 : decode cX5_eddy 0 = .ok (.aload_n 0, 1) := by decide +kernel
theorem dX5_eddy_1 : decode cX5_eddy 1 = .ok (.getfield 9, 3) := by decide +kernel
theorem dX5_eddy_4 : decode cX5_eddy 4 = .ok (.ifCond .le 19, 3) := by decide +kernel
theorem dX5_eddy_7 : decode cX5_eddy 7 = .ok (.bipush 20, 2) := by decide +kernel
theorem dX5_eddy_9 : decode cX5_eddy 9 = .ok (.aload_n 0, 1) := by decide +kernel
theorem dX5_eddy_10 : decode cX5_eddy 10 = .ok (.iload_n 1, 1) := by decide +kernel
theorem dX5_eddy_11 : decode cX5_eddy 11 = .ok (.invokevirtual 34, 3) := by decide +kernel
theorem dX5_eddy_14 : decode cX5_eddy 14 = .ok (.imul, 1) := by decide +kernel
theorem dX5_eddy_15 : decode cX5_eddy 15 = .ok (.aload_n 0, 1) := by decide +kernel
theorem dX5_eddy_16 : decode cX5_eddy 16 = .ok (.getfield 9, 3) := by decide +kernel
theorem dX5_eddy_19 : decode cX5_eddy 19 = .ok (.idiv, 1) := by decide +kernel
theorem dX5_eddy_20 : decode cX5_eddy 20 = .ok (.goto 4, 3) := by decide +kernel
theorem dX5_eddy_23 : decode cX5_eddy 23 = .ok (.iconst 0, 1) := by decide +kernel
theorem dX5_eddy_24 : decode cX5_eddy 24 = .ok (.ireturn, 1) := by decide +kernel
theorem dX5_off_0 : decode cX5_off 0 = .ok (.aload_n 0, 1) := by decide +kernel
theorem dX5_off_1 : decode cX5_off 1 = .ok (.iload_n 1, 1) := by decide +kernel
theorem dX5_off_2 : decode cX5_off 2 = .ok (.invokevirtual 38, 3) := by decide +kernel
theorem dX5_off_5 : decode cX5_off 5 = .ok (.aload_n 0, 1) := by decide +kernel
theorem dX5_off_6 : decode cX5_off 6 = .ok (.getfield 15, 3) := by decide +kernel
theorem dX5_off_9 : decode cX5_off 9 = .ok (.isub, 1) := by decide +kernel
theorem dX5_off_10 : decode cX5_off 10 = .ok (.invokestatic 41, 3) := by decide +kernel
theorem dX5_off_13 : decode cX5_off 13 = .ok (.ireturn, 1) := by decide +kernel
theorem dX5_bandOutOf_0 : decode cX5_bandOutOf 0 = .ok (.aload_n 0, 1) := by decide +kernel
theorem dX5_bandOutOf_1 : decode cX5_bandOutOf 1 = .ok (.getfield 18, 3) := by decide +kernel
theorem dX5_bandOutOf_4 : decode cX5_bandOutOf 4 = .ok (.lookupswitch 42 #[(2, 28), (4, 32)], 28) := by decide +kernel
theorem dX5_bandOutOf_32 : decode cX5_bandOutOf 32 = .ok (.iload_n 1, 1) := by decide +kernel
theorem dX5_bandOutOf_33 : decode cX5_bandOutOf 33 = .ok (.iconst 2, 1) := by decide +kernel
theorem dX5_bandOutOf_34 : decode cX5_bandOutOf 34 = .ok (.idiv, 1) := by decide +kernel
theorem dX5_bandOutOf_35 : decode cX5_bandOutOf 35 = .ok (.ireturn, 1) := by decide +kernel
theorem dX5_bandOutOf_36 : decode cX5_bandOutOf 36 = .ok (.iconst 0, 1) := by decide +kernel
theorem dX5_bandOutOf_37 : decode cX5_bandOutOf 37 = .ok (.iload_n 1, 1) := by decide +kernel
theorem dX5_bandOutOf_38 : decode cX5_bandOutOf 38 = .ok (.iconst 2, 1) := by decide +kernel
theorem dX5_bandOutOf_39 : decode cX5_bandOutOf 39 = .ok (.idiv, 1) := by decide +kernel
theorem dX5_bandOutOf_40 : decode cX5_bandOutOf 40 = .ok (.iconst 2, 1) := by decide +kernel
theorem dX5_bandOutOf_41 : decode cX5_bandOutOf 41 = .ok (.isub, 1) := by decide +kernel
theorem dX5_bandOutOf_42 : decode cX5_bandOutOf 42 = .ok (.invokestatic 46, 3) := by decide +kernel
theorem dX5_bandOutOf_45 : decode cX5_bandOutOf 45 = .ok (.ireturn, 1) := by decide +kernel
theorem dX5_bandOutOf_46 : decode cX5_bandOutOf 46 = .ok (.iload_n 1, 1) := by decide +kernel
theorem dX5_bandOutOf_47 : decode cX5_bandOutOf 47 = .ok (.ireturn, 1) := by decide +kernel
theorem dX5_loses_0 : decode cX5_loses 0 = .ok (.aload_n 0, 1) := by decide +kernel
theorem dX5_loses_1 : decode cX5_loses 1 = .ok (.getfield 21, 3) := by decide +kernel
theorem dX5_loses_4 : decode cX5_loses 4 = .ok (.iconst 1, 1) := by decide +kernel
theorem dX5_loses_5 : decode cX5_loses 5 = .ok (.iadd, 1) := by decide +kernel
theorem dX5_loses_6 : decode cX5_loses 6 = .ok (.istore_n 1, 1) := by decide +kernel
theorem dX5_loses_7 : decode cX5_loses 7 = .ok (.aload_n 0, 1) := by decide +kernel
theorem dX5_loses_8 : decode cX5_loses 8 = .ok (.getfield 18, 3) := by decide +kernel
theorem dX5_loses_11 : decode cX5_loses 11 = .ok (.lookupswitch 35 #[(1, 25), (3, 29)], 25) := by decide +kernel
theorem dX5_loses_36 : decode cX5_loses 36 = .ok (.iload_n 1, 1) := by decide +kernel
theorem dX5_loses_37 : decode cX5_loses 37 = .ok (.iconst 3, 1) := by decide +kernel
theorem dX5_loses_38 : decode cX5_loses 38 = .ok (.iadd, 1) := by decide +kernel
theorem dX5_loses_39 : decode cX5_loses 39 = .ok (.ireturn, 1) := by decide +kernel
theorem dX5_loses_40 : decode cX5_loses 40 = .ok (.iconst 2, 1) := by decide +kernel
theorem dX5_loses_41 : decode cX5_loses 41 = .ok (.iload_n 1, 1) := by decide +kernel
theorem dX5_loses_42 : decode cX5_loses 42 = .ok (.iconst 3, 1) := by decide +kernel
theorem dX5_loses_43 : decode cX5_loses 43 = .ok (.iadd, 1) := by decide +kernel
theorem dX5_loses_44 : decode cX5_loses 44 = .ok (.imul, 1) := by decide +kernel
theorem dX5_loses_45 : decode cX5_loses 45 = .ok (.ireturn, 1) := by decide +kernel
theorem dX5_loses_46 : decode cX5_loses 46 = .ok (.iload_n 1, 1) := by decide +kernel
theorem dX5_loses_47 : decode cX5_loses 47 = .ok (.ireturn, 1) := by decide +kernel
theorem dX5_worth_0 : decode cX5_worth 0 = .ok (.aload_n 0, 1) := by decide +kernel
theorem dX5_worth_1 : decode cX5_worth 1 = .ok (.getfield 9, 3) := by decide +kernel
theorem dX5_worth_4 : decode cX5_worth 4 = .ok (.ifCond .le 15, 3) := by decide +kernel
theorem dX5_worth_7 : decode cX5_worth 7 = .ok (.aload_n 0, 1) := by decide +kernel
theorem dX5_worth_8 : decode cX5_worth 8 = .ok (.getfield 15, 3) := by decide +kernel
theorem dX5_worth_11 : decode cX5_worth 11 = .ok (.aload_n 0, 1) := by decide +kernel
theorem dX5_worth_12 : decode cX5_worth 12 = .ok (.getfield 9, 3) := by decide +kernel
theorem dX5_worth_15 : decode cX5_worth 15 = .ok (.idiv, 1) := by decide +kernel
theorem dX5_worth_16 : decode cX5_worth 16 = .ok (.goto 4, 3) := by decide +kernel
theorem dX5_worth_19 : decode cX5_worth 19 = .ok (.iconst 0, 1) := by decide +kernel
theorem dX5_worth_20 : decode cX5_worth 20 = .ok (.istore_n 1, 1) := by decide +kernel
theorem dX5_worth_21 : decode cX5_worth 21 = .ok (.aload_n 0, 1) := by decide +kernel
theorem dX5_worth_22 : decode cX5_worth 22 = .ok (.getfield 18, 3) := by decide +kernel
theorem dX5_worth_25 : decode cX5_worth 25 = .ok (.tableswitch 65 1 5 #[35, 52, 42, 56, 61], 35) := by decide +kernel
theorem dX5_worth_60 : decode cX5_worth 60 = .ok (.iload_n 1, 1) := by decide +kernel
theorem dX5_worth_61 : decode cX5_worth 61 = .ok (.aload_n 0, 1) := by decide +kernel
theorem dX5_worth_62 : decode cX5_worth 62 = .ok (.getfield 21, 3) := by decide +kernel
theorem dX5_worth_65 : decode cX5_worth 65 = .ok (.iadd, 1) := by decide +kernel
theorem dX5_worth_66 : decode cX5_worth 66 = .ok (.ireturn, 1) := by decide +kernel
theorem dX5_worth_67 : decode cX5_worth 67 = .ok (.iload_n 1, 1) := by decide +kernel
theorem dX5_worth_68 : decode cX5_worth 68 = .ok (.aload_n 0, 1) := by decide +kernel
theorem dX5_worth_69 : decode cX5_worth 69 = .ok (.getfield 21, 3) := by decide +kernel
theorem dX5_worth_72 : decode cX5_worth 72 = .ok (.iadd, 1) := by decide +kernel
theorem dX5_worth_73 : decode cX5_worth 73 = .ok (.bipush 100, 2) := by decide +kernel
theorem dX5_worth_75 : decode cX5_worth 75 = .ok (.iadd, 1) := by decide +kernel
theorem dX5_worth_76 : decode cX5_worth 76 = .ok (.ireturn, 1) := by decide +kernel
theorem dX5_worth_77 : decode cX5_worth 77 = .ok (.iload_n 1, 1) := by decide +kernel
theorem dX5_worth_78 : decode cX5_worth 78 = .ok (.iconst 2, 1) := by decide +kernel
theorem dX5_worth_79 : decode cX5_worth 79 = .ok (.idiv, 1) := by decide +kernel
theorem dX5_worth_80 : decode cX5_worth 80 = .ok (.ireturn, 1) := by decide +kernel
theorem dX5_worth_81 : decode cX5_worth 81 = .ok (.aload_n 0, 1) := by decide +kernel
theorem dX5_worth_82 : decode cX5_worth 82 = .ok (.getfield 15, 3) := by decide +kernel
theorem dX5_worth_85 : decode cX5_worth 85 = .ok (.ireturn, 1) := by decide +kernel
theorem dX5_worth_86 : decode cX5_worth 86 = .ok (.iload_n 1, 1) := by decide +kernel
theorem dX5_worth_87 : decode cX5_worth 87 = .ok (.iconst 5, 1) := by decide +kernel
theorem dX5_worth_88 : decode cX5_worth 88 = .ok (.isub, 1) := by decide +kernel
theorem dX5_worth_89 : decode cX5_worth 89 = .ok (.ireturn, 1) := by decide +kernel
theorem dX5_worth_90 : decode cX5_worth 90 = .ok (.iload_n 1, 1) := by decide +kernel
theorem dX5_worth_91 : decode cX5_worth 91 = .ok (.ireturn, 1) := by decide +kernel
theorem dX6_init_0 : decode cX6_init 0 = .ok (.aload_n 0, 1) := by decide +kernel
theorem dX6_init_1 : decode cX6_init 1 = .ok (.invokespecial 1, 3) := by decide +kernel
theorem dX6_init_4 : decode cX6_init 4 = .ok (.aload_n 0, 1) := by decide +kernel
theorem dX6_init_5 : decode cX6_init 5 = .ok (.iconst 0, 1) := by decide +kernel
theorem dX6_init_6 : decode cX6_init 6 = .ok (.putfield 7, 3) := by decide +kernel
theorem dX6_init_9 : decode cX6_init 9 = .ok (.aload_n 0, 1) := by decide +kernel
theorem dX6_init_10 : decode cX6_init 10 = .ok (.new 13, 3) := by decide +kernel
theorem dX6_init_13 : decode cX6_init 13 = .ok (.dup, 1) := by decide +kernel
theorem dX6_init_14 : decode cX6_init 14 = .ok (.invokespecial 15, 3) := by decide +kernel
theorem dX6_init_17 : decode cX6_init 17 = .ok (.putfield 16, 3) := by decide +kernel
theorem dX6_init_20 : decode cX6_init 20 = .ok (.aload_n 0, 1) := by decide +kernel
theorem dX6_init_21 : decode cX6_init 21 = .ok (.bipush 96, 2) := by decide +kernel
theorem dX6_init_23 : decode cX6_init 23 = .ok (.newarray .byte, 2) := by decide +kernel
theorem dX6_init_25 : decode cX6_init 25 = .ok (.putfield 20, 3) := by decide +kernel
theorem dX6_init_28 : decode cX6_init 28 = .ok (.aload_n 0, 1) := by decide +kernel
theorem dX6_init_29 : decode cX6_init 29 = .ok (.iconst 0, 1) := by decide +kernel
theorem dX6_init_30 : decode cX6_init 30 = .ok (.putfield 24, 3) := by decide +kernel
theorem dX6_init_33 : decode cX6_init 33 = .ok (.aload_n 0, 1) := by decide +kernel
theorem dX6_init_34 : decode cX6_init 34 = .ok (.iconst 4, 1) := by decide +kernel
theorem dX6_init_35 : decode cX6_init 35 = .ok (.anewarray 28, 3) := by decide +kernel
theorem dX6_init_38 : decode cX6_init 38 = .ok (.putfield 30, 3) := by decide +kernel
theorem dX6_init_41 : decode cX6_init 41 = .ok (.aload_n 0, 1) := by decide +kernel
theorem dX6_init_42 : decode cX6_init 42 = .ok (.iconst 5, 1) := by decide +kernel
theorem dX6_init_43 : decode cX6_init 43 = .ok (.anewarray 34, 3) := by decide +kernel
theorem dX6_init_46 : decode cX6_init 46 = .ok (.putfield 36, 3) := by decide +kernel
theorem dX6_init_49 : decode cX6_init 49 = .ok (.aload_n 0, 1) := by decide +kernel
theorem dX6_init_50 : decode cX6_init 50 = .ok (.bipush 60, 2) := by decide +kernel
theorem dX6_init_52 : decode cX6_init 52 = .ok (.newarray .int, 2) := by decide +kernel
theorem dX6_init_54 : decode cX6_init 54 = .ok (.putfield 40, 3) := by decide +kernel
theorem dX6_init_57 : decode cX6_init 57 = .ok (.aload_n 0, 1) := by decide +kernel
theorem dX6_init_58 : decode cX6_init 58 = .ok (.iconst 0, 1) := by decide +kernel
theorem dX6_init_59 : decode cX6_init 59 = .ok (.putfield 44, 3) := by decide +kernel
theorem dX6_init_62 : decode cX6_init 62 = .ok (.bipush 15, 2) := by decide +kernel
theorem dX6_init_64 : decode cX6_init 64 = .ok (.anewarray 47, 3) := by decide +kernel
theorem dX6_init_67 : decode cX6_init 67 = .ok (.astore_n 1, 1) := by decide +kernel
theorem dX6_init_68 : decode cX6_init 68 = .ok (.iconst 0, 1) := by decide +kernel
theorem dX6_init_69 : decode cX6_init 69 = .ok (.istore_n 2, 1) := by decide +kernel
theorem dX6_init_70 : decode cX6_init 70 = .ok (.iload_n 2, 1) := by decide +kernel
theorem dX6_init_71 : decode cX6_init 71 = .ok (.aload_n 1, 1) := by decide +kernel
theorem dX6_init_72 : decode cX6_init 72 = .ok (.arraylength, 1) := by decide +kernel
theorem dX6_init_73 : decode cX6_init 73 = .ok (.if_icmp .ge 19, 3) := by decide +kernel
theorem dX6_init_76 : decode cX6_init 76 = .ok (.aload_n 1, 1) := by decide +kernel
theorem dX6_init_77 : decode cX6_init 77 = .ok (.iload_n 2, 1) := by decide +kernel
theorem dX6_init_78 : decode cX6_init 78 = .ok (.new 47, 3) := by decide +kernel
theorem dX6_init_81 : decode cX6_init 81 = .ok (.dup, 1) := by decide +kernel
theorem dX6_init_82 : decode cX6_init 82 = .ok (.invokespecial 49, 3) := by decide +kernel
theorem dX6_init_85 : decode cX6_init 85 = .ok (.aastore, 1) := by decide +kernel
theorem dX6_init_86 : decode cX6_init 86 = .ok (.iinc 2 1, 3) := by decide +kernel
theorem dX6_init_89 : decode cX6_init 89 = .ok (.goto (-19), 3) := by decide +kernel
theorem dX6_init_92 : decode cX6_init 92 = .ok (.bipush 96, 2) := by decide +kernel
theorem dX6_init_94 : decode cX6_init 94 = .ok (.newarray .int, 2) := by decide +kernel
theorem dX6_init_96 : decode cX6_init 96 = .ok (.astore_n 2, 1) := by decide +kernel
theorem dX6_init_97 : decode cX6_init 97 = .ok (.aload_n 0, 1) := by decide +kernel
theorem dX6_init_98 : decode cX6_init 98 = .ok (.aload_n 1, 1) := by decide +kernel
theorem dX6_init_99 : decode cX6_init 99 = .ok (.putfield 50, 3) := by decide +kernel
theorem dX6_init_102 : decode cX6_init 102 = .ok (.aload_n 0, 1) := by decide +kernel
theorem dX6_init_103 : decode cX6_init 103 = .ok (.new 54, 3) := by decide +kernel
theorem dX6_init_106 : decode cX6_init 106 = .ok (.dup, 1) := by decide +kernel
theorem dX6_init_107 : decode cX6_init 107 = .ok (.aload_n 1, 1) := by decide +kernel
theorem dX6_init_108 : decode cX6_init 108 = .ok (.aload_n 2, 1) := by decide +kernel
theorem dX6_init_109 : decode cX6_init 109 = .ok (.invokespecial 56, 3) := by decide +kernel
theorem dX6_init_112 : decode cX6_init 112 = .ok (.putfield 59, 3) := by decide +kernel
theorem dX6_init_115 : decode cX6_init 115 = .ok (.aload_n 0, 1) := by decide +kernel
theorem dX6_init_116 : decode cX6_init 116 = .ok (.new 54, 3) := by decide +kernel
theorem dX6_init_119 : decode cX6_init 119 = .ok (.dup, 1) := by decide +kernel
theorem dX6_init_120 : decode cX6_init 120 = .ok (.aload_n 1, 1) := by decide +kernel
theorem dX6_init_121 : decode cX6_init 121 = .ok (.aload_n 2, 1) := by decide +kernel
theorem dX6_init_122 : decode cX6_init 122 = .ok (.invokespecial 56, 3) := by decide +kernel
theorem dX6_init_125 : decode cX6_init 125 = .ok (.putfield 63, 3) := by decide +kernel
theorem dX6_init_128 : decode cX6_init 128 = .ok (.aload_n 0, 1) := by decide +kernel
theorem dX6_init_129 : decode cX6_init 129 = .ok (.new 66, 3) := by decide +kernel
theorem dX6_init_132 : decode cX6_init 132 = .ok (.dup, 1) := by decide +kernel
theorem dX6_init_133 : decode cX6_init 133 = .ok (.aload_n 1, 1) := by decide +kernel
theorem dX6_init_134 : decode cX6_init 134 = .ok (.iconst 0, 1) := by decide +kernel
theorem dX6_init_135 : decode cX6_init 135 = .ok (.aaload, 1) := by decide +kernel
theorem dX6_init_136 : decode cX6_init 136 = .ok (.invokespecial 68, 3) := by decide +kernel
theorem dX6_init_139 : decode cX6_init 139 = .ok (.putfield 71, 3) := by decide +kernel
theorem dX6_init_142 : decode cX6_init 142 = .ok (.iconst 0, 1) := by decide +kernel
theorem dX6_init_143 : decode cX6_init 143 = .ok (.istore_n 3, 1) := by decide +kernel
theorem dX6_init_144 : decode cX6_init 144 = .ok (.iload_n 3, 1) := by decide +kernel
theorem dX6_init_145 : decode cX6_init 145 = .ok (.iconst 4, 1) := by decide +kernel
theorem dX6_init_146 : decode cX6_init 146 = .ok (.if_icmp .ge 22, 3) := by decide +kernel
theorem dX6_init_149 : decode cX6_init 149 = .ok (.aload_n 0, 1) := by decide +kernel
theorem dX6_init_150 : decode cX6_init 150 = .ok (.getfield 30, 3) := by decide +kernel
theorem dX6_init_153 : decode cX6_init 153 = .ok (.iload_n 3, 1) := by decide +kernel
theorem dX6_init_154 : decode cX6_init 154 = .ok (.new 28, 3) := by decide +kernel
theorem dX6_init_157 : decode cX6_init 157 = .ok (.dup, 1) := by decide +kernel
theorem dX6_init_158 : decode cX6_init 158 = .ok (.invokespecial 75, 3) := by decide +kernel
theorem dX6_init_161 : decode cX6_init 161 = .ok (.aastore, 1) := by decide +kernel
theorem dX6_init_162 : decode cX6_init 162 = .ok (.iinc 3 1, 3) := by decide +kernel
theorem dX6_init_165 : decode cX6_init 165 = .ok (.goto (-21), 3) := by decide +kernel
theorem dX6_init_168 : decode cX6_init 168 = .ok (.iconst 0, 1) := by decide +kernel
theorem dX6_init_169 : decode cX6_init 169 = .ok (.istore_n 3, 1) := by decide +kernel
theorem dX6_init_170 : decode cX6_init 170 = .ok (.iload_n 3, 1) := by decide +kernel
theorem dX6_init_171 : decode cX6_init 171 = .ok (.iconst 5, 1) := by decide +kernel
theorem dX6_init_172 : decode cX6_init 172 = .ok (.if_icmp .ge 22, 3) := by decide +kernel
theorem dX6_init_175 : decode cX6_init 175 = .ok (.aload_n 0, 1) := by decide +kernel
theorem dX6_init_176 : decode cX6_init 176 = .ok (.getfield 36, 3) := by decide +kernel
theorem dX6_init_179 : decode cX6_init 179 = .ok (.iload_n 3, 1) := by decide +kernel
theorem dX6_init_180 : decode cX6_init 180 = .ok (.new 34, 3) := by decide +kernel
theorem dX6_init_183 : decode cX6_init 183 = .ok (.dup, 1) := by decide +kernel
theorem dX6_init_184 : decode cX6_init 184 = .ok (.invokespecial 76, 3) := by decide +kernel
theorem dX6_init_187 : decode cX6_init 187 = .ok (.aastore, 1) := by decide +kernel
theorem dX6_init_188 : decode cX6_init 188 = .ok (.iinc 3 1, 3) := by decide +kernel
theorem dX6_init_191 : decode cX6_init 191 = .ok (.goto (-21), 3) := by decide +kernel
theorem dX6_init_194 : decode cX6_init 194 = .ok (.return_, 1) := by decide +kernel
theorem dX6_wire_0 : decode cX6_wire 0 = .ok (.iload_n 1, 1) := by decide +kernel
theorem dX6_wire_1 : decode cX6_wire 1 = .ok (.invokestatic 77, 3) := by decide +kernel
theorem dX6_wire_4 : decode cX6_wire 4 = .ok (.ifCond .eq 17, 3) := by decide +kernel
theorem dX6_wire_7 : decode cX6_wire 7 = .ok (.iload_n 2, 1) := by decide +kernel
theorem dX6_wire_8 : decode cX6_wire 8 = .ok (.invokestatic 81, 3) := by decide +kernel
theorem dX6_wire_11 : decode cX6_wire 11 = .ok (.ifCond .eq 10, 3) := by decide +kernel
theorem dX6_wire_14 : decode cX6_wire 14 = .ok (.iload_n 3, 1) := by decide +kernel
theorem dX6_wire_15 : decode cX6_wire 15 = .ok (.invokestatic 84, 3) := by decide +kernel
theorem dX6_wire_18 : decode cX6_wire 18 = .ok (.ifCond .ne 6, 3) := by decide +kernel
theorem dX6_wire_21 : decode cX6_wire 21 = .ok (.ldc 87, 2) := by decide +kernel
theorem dX6_wire_23 : decode cX6_wire 23 = .ok (.ireturn, 1) := by decide +kernel
theorem dX6_wire_24 : decode cX6_wire 24 = .ok (.aload_n 0, 1) := by decide +kernel
theorem dX6_wire_25 : decode cX6_wire 25 = .ok (.getfield 59, 3) := by decide +kernel
theorem dX6_wire_28 : decode cX6_wire 28 = .ok (.getfield 88, 3) := by decide +kernel
theorem dX6_wire_31 : decode cX6_wire 31 = .ok (.bipush 6, 2) := by decide +kernel
theorem dX6_wire_33 : decode cX6_wire 33 = .ok (.if_icmp .lt 6, 3) := by decide +kernel
theorem dX6_wire_36 : decode cX6_wire 36 = .ok (.ldc 91, 2) := by decide +kernel
theorem dX6_wire_38 : decode cX6_wire 38 = .ok (.ireturn, 1) := by decide +kernel
theorem dX6_wire_39 : decode cX6_wire 39 = .ok (.aload_n 0, 1) := by decide +kernel
theorem dX6_wire_40 : decode cX6_wire 40 = .ok (.getfield 59, 3) := by decide +kernel
theorem dX6_wire_43 : decode cX6_wire 43 = .ok (.getfield 92, 3) := by decide +kernel
theorem dX6_wire_46 : decode cX6_wire 46 = .ok (.aload_n 0, 1) := by decide +kernel
theorem dX6_wire_47 : decode cX6_wire 47 = .ok (.getfield 59, 3) := by decide +kernel
theorem dX6_wire_50 : decode cX6_wire 50 = .ok (.getfield 88, 3) := by decide +kernel
theorem dX6_wire_53 : decode cX6_wire 53 = .ok (.aaload, 1) := by decide +kernel
theorem dX6_wire_54 : decode cX6_wire 54 = .ok (.iload_n 1, 1) := by decide +kernel
theorem dX6_wire_55 : decode cX6_wire 55 = .ok (.iload_n 2, 1) := by decide +kernel
theorem dX6_wire_56 : decode cX6_wire 56 = .ok (.iload_n 3, 1) := by decide +kernel
theorem dX6_wire_57 : decode cX6_wire 57 = .ok (.invokevirtual 96, 3) := by decide +kernel
theorem dX6_wire_60 : decode cX6_wire 60 = .ok (.aload_n 0, 1) := by decide +kernel
theorem dX6_wire_61 : decode cX6_wire 61 = .ok (.getfield 59, 3) := by decide +kernel
theorem dX6_wire_64 : decode cX6_wire 64 = .ok (.dup, 1) := by decide +kernel
theorem dX6_wire_65 : decode cX6_wire 65 = .ok (.getfield 88, 3) := by decide +kernel
theorem dX6_wire_68 : decode cX6_wire 68 = .ok (.iconst 1, 1) := by decide +kernel
theorem dX6_wire_69 : decode cX6_wire 69 = .ok (.iadd, 1) := by decide +kernel
theorem dX6_wire_70 : decode cX6_wire 70 = .ok (.putfield 88, 3) := by decide +kernel
theorem dX6_wire_73 : decode cX6_wire 73 = .ok (.aload_n 0, 1) := by decide +kernel
theorem dX6_wire_74 : decode cX6_wire 74 = .ok (.getfield 59, 3) := by decide +kernel
theorem dX6_wire_77 : decode cX6_wire 77 = .ok (.getfield 88, 3) := by decide +kernel
theorem dX6_wire_80 : decode cX6_wire 80 = .ok (.iconst 1, 1) := by decide +kernel
theorem dX6_wire_81 : decode cX6_wire 81 = .ok (.isub, 1) := by decide +kernel
theorem dX6_wire_82 : decode cX6_wire 82 = .ok (.ireturn, 1) := by decide +kernel
theorem dX6_told_0 : decode cX6_told 0 = .ok (.aload_n 0, 1) := by decide +kernel
theorem dX6_told_1 : decode cX6_told 1 = .ok (.getfield 59, 3) := by decide +kernel
theorem dX6_told_4 : decode cX6_told 4 = .ok (.iload_n 1, 1) := by decide +kernel
theorem dX6_told_5 : decode cX6_told 5 = .ok (.invokevirtual 100, 3) := by decide +kernel
theorem dX6_told_8 : decode cX6_told 8 = .ok (.astore_n 3, 1) := by decide +kernel
theorem dX6_told_9 : decode cX6_told 9 = .ok (.aload_n 3, 1) := by decide +kernel
theorem dX6_told_10 : decode cX6_told 10 = .ok (.ifnonnull 6, 3) := by decide +kernel
theorem dX6_told_13 : decode cX6_told 13 = .ok (.ldc 87, 2) := by decide +kernel
theorem dX6_told_15 : decode cX6_told 15 = .ok (.ireturn, 1) := by decide +kernel
theorem dX6_told_16 : decode cX6_told 16 = .ok (.iload_n 2, 1) := by decide +kernel
theorem dX6_told_17 : decode cX6_told 17 = .ok (.tableswitch 104 0 8 #[51, 56, 61, 66, 71, 76, 89, 94, 99], 51) := by decide +kernel
theorem dX6_told_68 : decode cX6_told 68 = .ok (.aload_n 3, 1) := by decide +kernel
theorem dX6_told_69 : decode cX6_told 69 = .ok (.getfield 104, 3) := by decide +kernel
theorem dX6_told_72 : decode cX6_told 72 = .ok (.ireturn, 1) := by decide +kernel
theorem dX6_told_73 : decode cX6_told 73 = .ok (.aload_n 3, 1) := by decide +kernel
theorem dX6_told_74 : decode cX6_told 74 = .ok (.getfield 107, 3) := by decide +kernel
theorem dX6_told_77 : decode cX6_told 77 = .ok (.ireturn, 1) := by decide +kernel
theorem dX6_told_78 : decode cX6_told 78 = .ok (.aload_n 3, 1) := by decide +kernel
theorem dX6_told_79 : decode cX6_told 79 = .ok (.getfield 110, 3) := by decide +kernel
theorem dX6_told_82 : decode cX6_told 82 = .ok (.ireturn, 1) := by decide +kernel
theorem dX6_told_83 : decode cX6_told 83 = .ok (.aload_n 3, 1) := by decide +kernel
theorem dX6_told_84 : decode cX6_told 84 = .ok (.getfield 113, 3) := by decide +kernel
theorem dX6_told_87 : decode cX6_told 87 = .ok (.ireturn, 1) := by decide +kernel
theorem dX6_told_88 : decode cX6_told 88 = .ok (.aload_n 3, 1) := by decide +kernel
theorem dX6_told_89 : decode cX6_told 89 = .ok (.getfield 116, 3) := by decide +kernel
theorem dX6_told_92 : decode cX6_told 92 = .ok (.ireturn, 1) := by decide +kernel
theorem dX6_told_93 : decode cX6_told 93 = .ok (.aload_n 3, 1) := by decide +kernel
theorem dX6_told_94 : decode cX6_told 94 = .ok (.getfield 119, 3) := by decide +kernel
theorem dX6_told_97 : decode cX6_told 97 = .ok (.ifCond .eq 7, 3) := by decide +kernel
theorem dX6_told_100 : decode cX6_told 100 = .ok (.iconst 1, 1) := by decide +kernel
theorem dX6_told_101 : decode cX6_told 101 = .ok (.goto 4, 3) := by decide +kernel
theorem dX6_told_104 : decode cX6_told 104 = .ok (.iconst 0, 1) := by decide +kernel
theorem dX6_told_105 : decode cX6_told 105 = .ok (.ireturn, 1) := by decide +kernel
theorem dX6_told_106 : decode cX6_told 106 = .ok (.aload_n 3, 1) := by decide +kernel
theorem dX6_told_107 : decode cX6_told 107 = .ok (.getfield 122, 3) := by decide +kernel
theorem dX6_told_110 : decode cX6_told 110 = .ok (.ireturn, 1) := by decide +kernel
theorem dX6_told_111 : decode cX6_told 111 = .ok (.aload_n 3, 1) := by decide +kernel
theorem dX6_told_112 : decode cX6_told 112 = .ok (.invokevirtual 125, 3) := by decide +kernel
theorem dX6_told_115 : decode cX6_told 115 = .ok (.ireturn, 1) := by decide +kernel
theorem dX6_told_116 : decode cX6_told 116 = .ok (.aload_n 3, 1) := by decide +kernel
theorem dX6_told_117 : decode cX6_told 117 = .ok (.invokevirtual 129, 3) := by decide +kernel
theorem dX6_told_120 : decode cX6_told 120 = .ok (.ireturn, 1) := by decide +kernel
theorem dX6_told_121 : decode cX6_told 121 = .ok (.ldc 87, 2) := by decide +kernel
theorem dX6_told_123 : decode cX6_told 123 = .ok (.ireturn, 1) := by decide +kernel
theorem dX6_as_0 : decode cX6_as 0 = .ok (.aload_n 0, 1) := by decide +kernel
theorem dX6_as_1 : decode cX6_as 1 = .ok (.getfield 59, 3) := by decide +kernel
theorem dX6_as_4 : decode cX6_as 4 = .ok (.iload_n 1, 1) := by decide +kernel
theorem dX6_as_5 : decode cX6_as 5 = .ok (.invokevirtual 100, 3) := by decide +kernel
theorem dX6_as_8 : decode cX6_as 8 = .ok (.astore_n 3, 1) := by decide +kernel
theorem dX6_as_9 : decode cX6_as 9 = .ok (.aload_n 3, 1) := by decide +kernel
theorem dX6_as_10 : decode cX6_as 10 = .ok (.ifnull 10, 3) := by decide +kernel
theorem dX6_as_13 : decode cX6_as 13 = .ok (.iload_n 2, 1) := by decide +kernel
theorem dX6_as_14 : decode cX6_as 14 = .ok (.invokestatic 77, 3) := by decide +kernel
theorem dX6_as_17 : decode cX6_as 17 = .ok (.ifCond .ne 6, 3) := by decide +kernel
theorem dX6_as_20 : decode cX6_as 20 = .ok (.ldc 87, 2) := by decide +kernel
theorem dX6_as_22 : decode cX6_as 22 = .ok (.ireturn, 1) := by decide +kernel
theorem dX6_as_23 : decode cX6_as 23 = .ok (.aload_n 3, 1) := by decide +kernel
theorem dX6_as_24 : decode cX6_as 24 = .ok (.getfield 104, 3) := by decide +kernel
theorem dX6_as_27 : decode cX6_as 27 = .ok (.iload_n 2, 1) := by decide +kernel
theorem dX6_as_28 : decode cX6_as 28 = .ok (.invokestatic 132, 3) := by decide +kernel
theorem dX6_as_31 : decode cX6_as 31 = .ok (.ifCond .eq 10, 3) := by decide +kernel
theorem dX6_as_34 : decode cX6_as 34 = .ok (.aload_n 3, 1) := by decide +kernel
theorem dX6_as_35 : decode cX6_as 35 = .ok (.getfield 110, 3) := by decide +kernel
theorem dX6_as_38 : decode cX6_as 38 = .ok (.goto 5, 3) := by decide +kernel
theorem dX6_as_41 : decode cX6_as 41 = .ok (.ldc 136, 2) := by decide +kernel
theorem dX6_as_43 : decode cX6_as 43 = .ok (.ireturn, 1) := by decide +kernel
theorem dX6_turns_0 : decode cX6_turns 0 = .ok (.aload_n 0, 1) := by decide +kernel
theorem dX6_turns_1 : decode cX6_turns 1 = .ok (.getfield 59, 3) := by decide +kernel
theorem dX6_turns_4 : decode cX6_turns 4 = .ok (.iload_n 1, 1) := by decide +kernel
theorem dX6_turns_5 : decode cX6_turns 5 = .ok (.invokevirtual 100, 3) := by decide +kernel
theorem dX6_turns_8 : decode cX6_turns 8 = .ok (.astore_n 3, 1) := by decide +kernel
theorem dX6_turns_9 : decode cX6_turns 9 = .ok (.aload_n 3, 1) := by decide +kernel
theorem dX6_turns_10 : decode cX6_turns 10 = .ok (.ifnull 10, 3) := by decide +kernel
theorem dX6_turns_13 : decode cX6_turns 13 = .ok (.iload_n 2, 1) := by decide +kernel
theorem dX6_turns_14 : decode cX6_turns 14 = .ok (.invokestatic 77, 3) := by decide +kernel
theorem dX6_turns_17 : decode cX6_turns 17 = .ok (.ifCond .ne 6, 3) := by decide +kernel
theorem dX6_turns_20 : decode cX6_turns 20 = .ok (.ldc 87, 2) := by decide +kernel
theorem dX6_turns_22 : decode cX6_turns 22 = .ok (.ireturn, 1) := by decide +kernel
theorem dX6_turns_23 : decode cX6_turns 23 = .ok (.aload_n 3, 1) := by decide +kernel
theorem dX6_turns_24 : decode cX6_turns 24 = .ok (.getfield 104, 3) := by decide +kernel
theorem dX6_turns_27 : decode cX6_turns 27 = .ok (.istore 4, 2) := by decide +kernel
theorem dX6_turns_29 : decode cX6_turns 29 = .ok (.aload_n 3, 1) := by decide +kernel
theorem dX6_turns_30 : decode cX6_turns 30 = .ok (.iload_n 2, 1) := by decide +kernel
theorem dX6_turns_31 : decode cX6_turns 31 = .ok (.putfield 104, 3) := by decide +kernel
theorem dX6_turns_34 : decode cX6_turns 34 = .ok (.iload 4, 2) := by decide +kernel
theorem dX6_turns_36 : decode cX6_turns 36 = .ok (.ireturn, 1) := by decide +kernel
theorem dX6_set_0 : decode cX6_set 0 = .ok (.aload_n 0, 1) := by decide +kernel
theorem dX6_set_1 : decode cX6_set 1 = .ok (.getfield 59, 3) := by decide +kernel
theorem dX6_set_4 : decode cX6_set 4 = .ok (.iload_n 1, 1) := by decide +kernel
theorem dX6_set_5 : decode cX6_set 5 = .ok (.invokevirtual 100, 3) := by decide +kernel
theorem dX6_set_8 : decode cX6_set 8 = .ok (.astore 4, 2) := by decide +kernel
theorem dX6_set_10 : decode cX6_set 10 = .ok (.aload 4, 2) := by decide +kernel
theorem dX6_set_12 : decode cX6_set 12 = .ok (.ifnull 11, 3) := by decide +kernel
theorem dX6_set_15 : decode cX6_set 15 = .ok (.iload_n 2, 1) := by decide +kernel
theorem dX6_set_16 : decode cX6_set 16 = .ok (.iload_n 3, 1) := by decide +kernel
theorem dX6_set_17 : decode cX6_set 17 = .ok (.invokestatic 137, 3) := by decide +kernel
theorem dX6_set_20 : decode cX6_set 20 = .ok (.ifCond .ne 6, 3) := by decide +kernel
theorem dX6_set_23 : decode cX6_set 23 = .ok (.ldc 87, 2) := by decide +kernel
theorem dX6_set_25 : decode cX6_set 25 = .ok (.ireturn, 1) := by decide +kernel
theorem dX6_set_26 : decode cX6_set 26 = .ok (.aload 4, 2) := by decide +kernel
theorem dX6_set_28 : decode cX6_set 28 = .ok (.iload_n 2, 1) := by decide +kernel
theorem dX6_set_29 : decode cX6_set 29 = .ok (.iload_n 3, 1) := by decide +kernel
theorem dX6_set_30 : decode cX6_set 30 = .ok (.invokevirtual 140, 3) := by decide +kernel
theorem dX6_set_33 : decode cX6_set 33 = .ok (.ireturn, 1) := by decide +kernel
theorem dX6_wind_0 : decode cX6_wind 0 = .ok (.iload_n 1, 1) := by decide +kernel
theorem dX6_wind_1 : decode cX6_wind 1 = .ok (.invokestatic 144, 3) := by decide +kernel
theorem dX6_wind_4 : decode cX6_wind 4 = .ok (.ifCond .eq 10, 3) := by decide +kernel
theorem dX6_wind_7 : decode cX6_wind 7 = .ok (.iload_n 2, 1) := by decide +kernel
theorem dX6_wind_8 : decode cX6_wind 8 = .ok (.invokestatic 147, 3) := by decide +kernel
theorem dX6_wind_11 : decode cX6_wind 11 = .ok (.ifCond .ne 6, 3) := by decide +kernel
theorem dX6_wind_14 : decode cX6_wind 14 = .ok (.ldc 87, 2) := by decide +kernel
theorem dX6_wind_16 : decode cX6_wind 16 = .ok (.ireturn, 1) := by decide +kernel
theorem dX6_wind_17 : decode cX6_wind 17 = .ok (.aload_n 0, 1) := by decide +kernel
theorem dX6_wind_18 : decode cX6_wind 18 = .ok (.getfield 59, 3) := by decide +kernel
theorem dX6_wind_21 : decode cX6_wind 21 = .ok (.getfield 150, 3) := by decide +kernel
theorem dX6_wind_24 : decode cX6_wind 24 = .ok (.iload_n 1, 1) := by decide +kernel
theorem dX6_wind_25 : decode cX6_wind 25 = .ok (.iaload, 1) := by decide +kernel
theorem dX6_wind_26 : decode cX6_wind 26 = .ok (.istore_n 3, 1) := by decide +kernel
theorem dX6_wind_27 : decode cX6_wind 27 = .ok (.aload_n 0, 1) := by decide +kernel
theorem dX6_wind_28 : decode cX6_wind 28 = .ok (.getfield 59, 3) := by decide +kernel
theorem dX6_wind_31 : decode cX6_wind 31 = .ok (.getfield 150, 3) := by decide +kernel
theorem dX6_wind_34 : decode cX6_wind 34 = .ok (.iload_n 1, 1) := by decide +kernel
theorem dX6_wind_35 : decode cX6_wind 35 = .ok (.iload_n 2, 1) := by decide +kernel
theorem dX6_wind_36 : decode cX6_wind 36 = .ok (.iastore, 1) := by decide +kernel
theorem dX6_wind_37 : decode cX6_wind 37 = .ok (.iload_n 3, 1) := by decide +kernel
theorem dX6_wind_38 : decode cX6_wind 38 = .ok (.ireturn, 1) := by decide +kernel
theorem dX6_windAt_0 : decode cX6_windAt 0 = .ok (.iload_n 1, 1) := by decide +kernel
theorem dX6_windAt_1 : decode cX6_windAt 1 = .ok (.invokestatic 144, 3) := by decide +kernel
theorem dX6_windAt_4 : decode cX6_windAt 4 = .ok (.ifCond .eq 15, 3) := by decide +kernel
theorem dX6_windAt_7 : decode cX6_windAt 7 = .ok (.aload_n 0, 1) := by decide +kernel
theorem dX6_windAt_8 : decode cX6_windAt 8 = .ok (.getfield 59, 3) := by decide +kernel
theorem dX6_windAt_11 : decode cX6_windAt 11 = .ok (.getfield 150, 3) := by decide +kernel
theorem dX6_windAt_14 : decode cX6_windAt 14 = .ok (.iload_n 1, 1) := by decide +kernel
theorem dX6_windAt_15 : decode cX6_windAt 15 = .ok (.iaload, 1) := by decide +kernel
theorem dX6_windAt_16 : decode cX6_windAt 16 = .ok (.goto 5, 3) := by decide +kernel
theorem dX6_windAt_19 : decode cX6_windAt 19 = .ok (.ldc 87, 2) := by decide +kernel
theorem dX6_windAt_21 : decode cX6_windAt 21 = .ok (.ireturn, 1) := by decide +kernel
theorem dX6_limit_0 : decode cX6_limit 0 = .ok (.iload_n 1, 1) := by decide +kernel
theorem dX6_limit_1 : decode cX6_limit 1 = .ok (.iconst 0, 1) := by decide +kernel
theorem dX6_limit_2 : decode cX6_limit 2 = .ok (.sipush 9999, 3) := by decide +kernel
theorem dX6_limit_5 : decode cX6_limit 5 = .ok (.invokestatic 153, 3) := by decide +kernel
theorem dX6_limit_8 : decode cX6_limit 8 = .ok (.ifCond .ne 6, 3) := by decide +kernel
theorem dX6_limit_11 : decode cX6_limit 11 = .ok (.ldc 87, 2) := by decide +kernel
theorem dX6_limit_13 : decode cX6_limit 13 = .ok (.ireturn, 1) := by decide +kernel
theorem dX6_limit_14 : decode cX6_limit 14 = .ok (.aload_n 0, 1) := by decide +kernel
theorem dX6_limit_15 : decode cX6_limit 15 = .ok (.getfield 59, 3) := by decide +kernel
theorem dX6_limit_18 : decode cX6_limit 18 = .ok (.getfield 157, 3) := by decide +kernel
theorem dX6_limit_21 : decode cX6_limit 21 = .ok (.istore_n 2, 1) := by decide +kernel
theorem dX6_limit_22 : decode cX6_limit 22 = .ok (.aload_n 0, 1) := by decide +kernel
theorem dX6_limit_23 : decode cX6_limit 23 = .ok (.getfield 59, 3) := by decide +kernel
theorem dX6_limit_26 : decode cX6_limit 26 = .ok (.iload_n 1, 1) := by decide +kernel
theorem dX6_limit_27 : decode cX6_limit 27 = .ok (.putfield 157, 3) := by decide +kernel
theorem dX6_limit_30 : decode cX6_limit 30 = .ok (.iload_n 2, 1) := by decide +kernel
theorem dX6_limit_31 : decode cX6_limit 31 = .ok (.ireturn, 1) := by decide +kernel
theorem dX6_deal_0 : decode cX6_deal 0 = .ok (.iload_n 1, 1) := by decide +kernel
theorem dX6_deal_1 : decode cX6_deal 1 = .ok (.invokestatic 144, 3) := by decide +kernel
theorem dX6_deal_4 : decode cX6_deal 4 = .ok (.ifCond .eq 13, 3) := by decide +kernel
theorem dX6_deal_7 : decode cX6_deal 7 = .ok (.iload_n 2, 1) := by decide +kernel
theorem dX6_deal_8 : decode cX6_deal 8 = .ok (.iconst 1, 1) := by decide +kernel
theorem dX6_deal_9 : decode cX6_deal 9 = .ok (.bipush 24, 2) := by decide +kernel
theorem dX6_deal_11 : decode cX6_deal 11 = .ok (.invokestatic 153, 3) := by decide +kernel
theorem dX6_deal_14 : decode cX6_deal 14 = .ok (.ifCond .ne 6, 3) := by decide +kernel
theorem dX6_deal_17 : decode cX6_deal 17 = .ok (.ldc 87, 2) := by decide +kernel
theorem dX6_deal_19 : decode cX6_deal 19 = .ok (.ireturn, 1) := by decide +kernel
theorem dX6_deal_20 : decode cX6_deal 20 = .ok (.iconst 0, 1) := by decide +kernel
theorem dX6_deal_21 : decode cX6_deal 21 = .ok (.istore_n 3, 1) := by decide +kernel
theorem dX6_deal_22 : decode cX6_deal 22 = .ok (.iconst 0, 1) := by decide +kernel
theorem dX6_deal_23 : decode cX6_deal 23 = .ok (.istore 4, 2) := by decide +kernel
theorem dX6_deal_25 : decode cX6_deal 25 = .ok (.iload 4, 2) := by decide +kernel
theorem dX6_deal_27 : decode cX6_deal 27 = .ok (.iload_n 2, 1) := by decide +kernel
theorem dX6_deal_28 : decode cX6_deal 28 = .ok (.if_icmp .ge 24, 3) := by decide +kernel
theorem dX6_deal_31 : decode cX6_deal 31 = .ok (.aload_n 0, 1) := by decide +kernel
theorem dX6_deal_32 : decode cX6_deal 32 = .ok (.getfield 59, 3) := by decide +kernel
theorem dX6_deal_35 : decode cX6_deal 35 = .ok (.iload_n 1, 1) := by decide +kernel
theorem dX6_deal_36 : decode cX6_deal 36 = .ok (.iload 4, 2) := by decide +kernel
theorem dX6_deal_38 : decode cX6_deal 38 = .ok (.iadd, 1) := by decide +kernel
theorem dX6_deal_39 : decode cX6_deal 39 = .ok (.bipush 24, 2) := by decide +kernel
theorem dX6_deal_41 : decode cX6_deal 41 = .ok (.irem, 1) := by decide +kernel
theorem dX6_deal_42 : decode cX6_deal 42 = .ok (.invokevirtual 160, 3) := by decide +kernel
theorem dX6_deal_45 : decode cX6_deal 45 = .ok (.istore_n 3, 1) := by decide +kernel
theorem dX6_deal_46 : decode cX6_deal 46 = .ok (.iinc 4 1, 3) := by decide +kernel
theorem dX6_deal_49 : decode cX6_deal 49 = .ok (.goto (-24), 3) := by decide +kernel
theorem dX6_deal_52 : decode cX6_deal 52 = .ok (.iload_n 3, 1) := by decide +kernel
theorem dX6_deal_53 : decode cX6_deal 53 = .ok (.ireturn, 1) := by decide +kernel
theorem dX6_seed_0 : decode cX6_seed 0 = .ok (.aload_n 0, 1) := by decide +kernel
theorem dX6_seed_1 : decode cX6_seed 1 = .ok (.getfield 59, 3) := by decide +kernel
theorem dX6_seed_4 : decode cX6_seed 4 = .ok (.getfield 164, 3) := by decide +kernel
theorem dX6_seed_7 : decode cX6_seed 7 = .ok (.istore_n 2, 1) := by decide +kernel
theorem dX6_seed_8 : decode cX6_seed 8 = .ok (.aload_n 0, 1) := by decide +kernel
theorem dX6_seed_9 : decode cX6_seed 9 = .ok (.getfield 59, 3) := by decide +kernel
theorem dX6_seed_12 : decode cX6_seed 12 = .ok (.iload_n 1, 1) := by decide +kernel
theorem dX6_seed_13 : decode cX6_seed 13 = .ok (.putfield 164, 3) := by decide +kernel
theorem dX6_seed_16 : decode cX6_seed 16 = .ok (.iload_n 2, 1) := by decide +kernel
theorem dX6_seed_17 : decode cX6_seed 17 = .ok (.ireturn, 1) := by decide +kernel
theorem dX6_by_0 : decode cX6_by 0 = .ok (.aload_n 0, 1) := by decide +kernel
theorem dX6_by_1 : decode cX6_by 1 = .ok (.getfield 59, 3) := by decide +kernel
theorem dX6_by_4 : decode cX6_by 4 = .ok (.iload_n 1, 1) := by decide +kernel
theorem dX6_by_5 : decode cX6_by 5 = .ok (.invokevirtual 100, 3) := by decide +kernel
theorem dX6_by_8 : decode cX6_by 8 = .ok (.astore 4, 2) := by decide +kernel
theorem dX6_by_10 : decode cX6_by 10 = .ok (.aload 4, 2) := by decide +kernel
theorem dX6_by_12 : decode cX6_by 12 = .ok (.ifnull 10, 3) := by decide +kernel
theorem dX6_by_15 : decode cX6_by 15 = .ok (.iload_n 2, 1) := by decide +kernel
theorem dX6_by_16 : decode cX6_by 16 = .ok (.invokestatic 147, 3) := by decide +kernel
theorem dX6_by_19 : decode cX6_by 19 = .ok (.ifCond .ne 6, 3) := by decide +kernel
theorem dX6_by_22 : decode cX6_by 22 = .ok (.ldc 87, 2) := by decide +kernel
theorem dX6_by_24 : decode cX6_by 24 = .ok (.ireturn, 1) := by decide +kernel
theorem dX6_by_25 : decode cX6_by 25 = .ok (.iload_n 3, 1) := by decide +kernel
theorem dX6_by_26 : decode cX6_by 26 = .ok (.tableswitch 109 0 5 #[38, 45, 52, 59, 70, 81], 38) := by decide +kernel
theorem dX6_by_64 : decode cX6_by 64 = .ok (.aload 4, 2) := by decide +kernel
theorem dX6_by_66 : decode cX6_by 66 = .ok (.iload_n 2, 1) := by decide +kernel
theorem dX6_by_67 : decode cX6_by 67 = .ok (.invokevirtual 167, 3) := by decide +kernel
theorem dX6_by_70 : decode cX6_by 70 = .ok (.ireturn, 1) := by decide +kernel
theorem dX6_by_71 : decode cX6_by 71 = .ok (.aload 4, 2) := by decide +kernel
theorem dX6_by_73 : decode cX6_by 73 = .ok (.iload_n 2, 1) := by decide +kernel
theorem dX6_by_74 : decode cX6_by 74 = .ok (.invokevirtual 170, 3) := by decide +kernel
theorem dX6_by_77 : decode cX6_by 77 = .ok (.ireturn, 1) := by decide +kernel
theorem dX6_by_78 : decode cX6_by 78 = .ok (.aload 4, 2) := by decide +kernel
theorem dX6_by_80 : decode cX6_by 80 = .ok (.iload_n 2, 1) := by decide +kernel
theorem dX6_by_81 : decode cX6_by 81 = .ok (.invokevirtual 173, 3) := by decide +kernel
theorem dX6_by_84 : decode cX6_by 84 = .ok (.ireturn, 1) := by decide +kernel
theorem dX6_by_85 : decode cX6_by 85 = .ok (.aload_n 0, 1) := by decide +kernel
theorem dX6_by_86 : decode cX6_by 86 = .ok (.getfield 59, 3) := by decide +kernel
theorem dX6_by_89 : decode cX6_by 89 = .ok (.aload 4, 2) := by decide +kernel
theorem dX6_by_91 : decode cX6_by 91 = .ok (.iload_n 2, 1) := by decide +kernel
theorem dX6_by_92 : decode cX6_by 92 = .ok (.invokevirtual 176, 3) := by decide +kernel
theorem dX6_by_95 : decode cX6_by 95 = .ok (.ireturn, 1) := by decide +kernel
theorem dX6_by_96 : decode cX6_by 96 = .ok (.aload_n 0, 1) := by decide +kernel
theorem dX6_by_97 : decode cX6_by 97 = .ok (.getfield 59, 3) := by decide +kernel
theorem dX6_by_100 : decode cX6_by 100 = .ok (.aload 4, 2) := by decide +kernel
theorem dX6_by_102 : decode cX6_by 102 = .ok (.iload_n 2, 1) := by decide +kernel
theorem dX6_by_103 : decode cX6_by 103 = .ok (.invokevirtual 180, 3) := by decide +kernel
theorem dX6_by_106 : decode cX6_by 106 = .ok (.ireturn, 1) := by decide +kernel
theorem dX6_by_107 : decode cX6_by 107 = .ok (.aload_n 0, 1) := by decide +kernel
theorem dX6_by_108 : decode cX6_by 108 = .ok (.getfield 59, 3) := by decide +kernel
theorem dX6_by_111 : decode cX6_by 111 = .ok (.aload 4, 2) := by decide +kernel
theorem dX6_by_113 : decode cX6_by 113 = .ok (.iload_n 2, 1) := by decide +kernel
theorem dX6_by_114 : decode cX6_by 114 = .ok (.invokevirtual 183, 3) := by decide +kernel
theorem dX6_by_117 : decode cX6_by 117 = .ok (.ifCond .eq 11, 3) := by decide +kernel
theorem dX6_by_120 : decode cX6_by 120 = .ok (.aload 4, 2) := by decide +kernel
theorem dX6_by_122 : decode cX6_by 122 = .ok (.getfield 110, 3) := by decide +kernel
theorem dX6_by_125 : decode cX6_by 125 = .ok (.goto 9, 3) := by decide +kernel
theorem dX6_by_128 : decode cX6_by 128 = .ok (.aload 4, 2) := by decide +kernel
theorem dX6_by_130 : decode cX6_by 130 = .ok (.iload_n 2, 1) := by decide +kernel
theorem dX6_by_131 : decode cX6_by 131 = .ok (.invokevirtual 170, 3) := by decide +kernel
theorem dX6_by_134 : decode cX6_by 134 = .ok (.ireturn, 1) := by decide +kernel
theorem dX6_by_135 : decode cX6_by 135 = .ok (.ldc 87, 2) := by decide +kernel
theorem dX6_by_137 : decode cX6_by 137 = .ok (.ireturn, 1) := by decide +kernel
theorem dX6_tick_0 : decode cX6_tick 0 = .ok (.aload_n 0, 1) := by decide +kernel
theorem dX6_tick_1 : decode cX6_tick 1 = .ok (.getfield 59, 3) := by decide +kernel
theorem dX6_tick_4 : decode cX6_tick 4 = .ok (.iload_n 1, 1) := by decide +kernel
theorem dX6_tick_5 : decode cX6_tick 5 = .ok (.invokevirtual 100, 3) := by decide +kernel
theorem dX6_tick_8 : decode cX6_tick 8 = .ok (.astore_n 3, 1) := by decide +kernel
theorem dX6_tick_9 : decode cX6_tick 9 = .ok (.aload_n 3, 1) := by decide +kernel
theorem dX6_tick_10 : decode cX6_tick 10 = .ok (.ifnull 10, 3) := by decide +kernel
theorem dX6_tick_13 : decode cX6_tick 13 = .ok (.iload_n 2, 1) := by decide +kernel
theorem dX6_tick_14 : decode cX6_tick 14 = .ok (.invokestatic 147, 3) := by decide +kernel
theorem dX6_tick_17 : decode cX6_tick 17 = .ok (.ifCond .ne 6, 3) := by decide +kernel
theorem dX6_tick_20 : decode cX6_tick 20 = .ok (.ldc 87, 2) := by decide +kernel
theorem dX6_tick_22 : decode cX6_tick 22 = .ok (.ireturn, 1) := by decide +kernel
theorem dX6_tick_23 : decode cX6_tick 23 = .ok (.aload_n 0, 1) := by decide +kernel
theorem dX6_tick_24 : decode cX6_tick 24 = .ok (.getfield 59, 3) := by decide +kernel
theorem dX6_tick_27 : decode cX6_tick 27 = .ok (.aload_n 3, 1) := by decide +kernel
theorem dX6_tick_28 : decode cX6_tick 28 = .ok (.iload_n 2, 1) := by decide +kernel
theorem dX6_tick_29 : decode cX6_tick 29 = .ok (.invokevirtual 187, 3) := by decide +kernel
theorem dX6_tick_32 : decode cX6_tick 32 = .ok (.ireturn, 1) := by decide +kernel
theorem dX6_run_0 : decode cX6_run 0 = .ok (.iload_n 1, 1) := by decide +kernel
theorem dX6_run_1 : decode cX6_run 1 = .ok (.iconst 1, 1) := by decide +kernel
theorem dX6_run_2 : decode cX6_run 2 = .ok (.bipush 60, 2) := by decide +kernel
theorem dX6_run_4 : decode cX6_run 4 = .ok (.invokestatic 153, 3) := by decide +kernel
theorem dX6_run_7 : decode cX6_run 7 = .ok (.ifCond .ne 6, 3) := by decide +kernel
theorem dX6_run_10 : decode cX6_run 10 = .ok (.ldc 87, 2) := by decide +kernel
theorem dX6_run_12 : decode cX6_run 12 = .ok (.ireturn, 1) := by decide +kernel
theorem dX6_run_13 : decode cX6_run 13 = .ok (.iconst 0, 1) := by decide +kernel
theorem dX6_run_14 : decode cX6_run 14 = .ok (.istore_n 2, 1) := by decide +kernel
theorem dX6_run_15 : decode cX6_run 15 = .ok (.iload_n 2, 1) := by decide +kernel
theorem dX6_run_16 : decode cX6_run 16 = .ok (.iload_n 1, 1) := by decide +kernel
theorem dX6_run_17 : decode cX6_run 17 = .ok (.if_icmp .ge 16, 3) := by decide +kernel
theorem dX6_run_20 : decode cX6_run 20 = .ok (.aload_n 0, 1) := by decide +kernel
theorem dX6_run_21 : decode cX6_run 21 = .ok (.getfield 59, 3) := by decide +kernel
theorem dX6_run_24 : decode cX6_run 24 = .ok (.invokevirtual 190, 3) := by decide +kernel
theorem dX6_run_27 : decode cX6_run 27 = .ok (.iinc 2 1, 3) := by decide +kernel
theorem dX6_run_30 : decode cX6_run 30 = .ok (.goto (-15), 3) := by decide +kernel
theorem dX6_run_33 : decode cX6_run 33 = .ok (.aload_n 0, 1) := by decide +kernel
theorem dX6_run_34 : decode cX6_run 34 = .ok (.getfield 59, 3) := by decide +kernel
theorem dX6_run_37 : decode cX6_run 37 = .ok (.getfield 193, 3) := by decide +kernel
theorem dX6_run_40 : decode cX6_run 40 = .ok (.ireturn, 1) := by decide +kernel
theorem dX6_line_0 : decode cX6_line 0 = .ok (.aload_n 0, 1) := by decide +kernel
theorem dX6_line_1 : decode cX6_line 1 = .ok (.getfield 59, 3) := by decide +kernel
theorem dX6_line_4 : decode cX6_line 4 = .ok (.iload_n 1, 1) := by decide +kernel
theorem dX6_line_5 : decode cX6_line 5 = .ok (.invokevirtual 100, 3) := by decide +kernel
theorem dX6_line_8 : decode cX6_line 8 = .ok (.astore_n 3, 1) := by decide +kernel
theorem dX6_line_9 : decode cX6_line 9 = .ok (.aload_n 3, 1) := by decide +kernel
theorem dX6_line_10 : decode cX6_line 10 = .ok (.ifnull 12, 3) := by decide +kernel
theorem dX6_line_13 : decode cX6_line 13 = .ok (.iload_n 2, 1) := by decide +kernel
theorem dX6_line_14 : decode cX6_line 14 = .ok (.iconst 0, 1) := by decide +kernel
theorem dX6_line_15 : decode cX6_line 15 = .ok (.iconst 3, 1) := by decide +kernel
theorem dX6_line_16 : decode cX6_line 16 = .ok (.invokestatic 153, 3) := by decide +kernel
theorem dX6_line_19 : decode cX6_line 19 = .ok (.ifCond .ne 6, 3) := by decide +kernel
theorem dX6_line_22 : decode cX6_line 22 = .ok (.ldc 87, 2) := by decide +kernel
theorem dX6_line_24 : decode cX6_line 24 = .ok (.ireturn, 1) := by decide +kernel
theorem dX6_line_25 : decode cX6_line 25 = .ok (.aload_n 0, 1) := by decide +kernel
theorem dX6_line_26 : decode cX6_line 26 = .ok (.getfield 16, 3) := by decide +kernel
theorem dX6_line_29 : decode cX6_line 29 = .ok (.aload_n 3, 1) := by decide +kernel
theorem dX6_line_30 : decode cX6_line 30 = .ok (.invokevirtual 196, 3) := by decide +kernel
theorem dX6_line_33 : decode cX6_line 33 = .ok (.aload_n 0, 1) := by decide +kernel
theorem dX6_line_34 : decode cX6_line 34 = .ok (.getfield 16, 3) := by decide +kernel
theorem dX6_line_37 : decode cX6_line 37 = .ok (.iconst 0, 1) := by decide +kernel
theorem dX6_line_38 : decode cX6_line 38 = .ok (.putfield 119, 3) := by decide +kernel
theorem dX6_line_41 : decode cX6_line 41 = .ok (.aload_n 0, 1) := by decide +kernel
theorem dX6_line_42 : decode cX6_line 42 = .ok (.iload_n 2, 1) := by decide +kernel
theorem dX6_line_43 : decode cX6_line 43 = .ok (.iconst 2, 1) := by decide +kernel
theorem dX6_line_44 : decode cX6_line 44 = .ok (.if_icmp .lt 7, 3) := by decide +kernel
theorem dX6_line_47 : decode cX6_line 47 = .ok (.iconst 1, 1) := by decide +kernel
theorem dX6_line_48 : decode cX6_line 48 = .ok (.goto 4, 3) := by decide +kernel
theorem dX6_line_51 : decode cX6_line 51 = .ok (.iconst 0, 1) := by decide +kernel
theorem dX6_line_52 : decode cX6_line 52 = .ok (.iload_n 2, 1) := by decide +kernel
theorem dX6_line_53 : decode cX6_line 53 = .ok (.iconst 2, 1) := by decide +kernel
theorem dX6_line_54 : decode cX6_line 54 = .ok (.irem, 1) := by decide +kernel
theorem dX6_line_55 : decode cX6_line 55 = .ok (.iconst 1, 1) := by decide +kernel
theorem dX6_line_56 : decode cX6_line 56 = .ok (.if_icmp .ne 7, 3) := by decide +kernel
theorem dX6_line_59 : decode cX6_line 59 = .ok (.iconst 1, 1) := by decide +kernel
theorem dX6_line_60 : decode cX6_line 60 = .ok (.goto 4, 3) := by decide +kernel
theorem dX6_line_63 : decode cX6_line 63 = .ok (.iconst 0, 1) := by decide +kernel
theorem dX6_line_64 : decode cX6_line 64 = .ok (.invokevirtual 200, 3) := by decide +kernel
theorem dX6_line_67 : decode cX6_line 67 = .ok (.ireturn, 1) := by decide +kernel
theorem dX6_day_0 : decode cX6_day 0 = .ok (.aload_n 0, 1) := by decide +kernel
theorem dX6_day_1 : decode cX6_day 1 = .ok (.getfield 59, 3) := by decide +kernel
theorem dX6_day_4 : decode cX6_day 4 = .ok (.iload_n 1, 1) := by decide +kernel
theorem dX6_day_5 : decode cX6_day 5 = .ok (.invokevirtual 100, 3) := by decide +kernel
theorem dX6_day_8 : decode cX6_day 8 = .ok (.astore_n 3, 1) := by decide +kernel
theorem dX6_day_9 : decode cX6_day 9 = .ok (.aload_n 3, 1) := by decide +kernel
theorem dX6_day_10 : decode cX6_day 10 = .ok (.ifnull 12, 3) := by decide +kernel
theorem dX6_day_13 : decode cX6_day 13 = .ok (.iload_n 2, 1) := by decide +kernel
theorem dX6_day_14 : decode cX6_day 14 = .ok (.iconst 0, 1) := by decide +kernel
theorem dX6_day_15 : decode cX6_day 15 = .ok (.iconst 2, 1) := by decide +kernel
theorem dX6_day_16 : decode cX6_day 16 = .ok (.invokestatic 153, 3) := by decide +kernel
theorem dX6_day_19 : decode cX6_day 19 = .ok (.ifCond .ne 6, 3) := by decide +kernel
theorem dX6_day_22 : decode cX6_day 22 = .ok (.ldc 87, 2) := by decide +kernel
theorem dX6_day_24 : decode cX6_day 24 = .ok (.ireturn, 1) := by decide +kernel
theorem dX6_day_25 : decode cX6_day 25 = .ok (.aload_n 0, 1) := by decide +kernel
theorem dX6_day_26 : decode cX6_day 26 = .ok (.getfield 16, 3) := by decide +kernel
theorem dX6_day_29 : decode cX6_day 29 = .ok (.aload_n 3, 1) := by decide +kernel
theorem dX6_day_30 : decode cX6_day 30 = .ok (.invokevirtual 196, 3) := by decide +kernel
theorem dX6_day_33 : decode cX6_day 33 = .ok (.aload_n 0, 1) := by decide +kernel
theorem dX6_day_34 : decode cX6_day 34 = .ok (.iload_n 2, 1) := by decide +kernel
theorem dX6_day_35 : decode cX6_day 35 = .ok (.invokevirtual 204, 3) := by decide +kernel
theorem dX6_day_38 : decode cX6_day 38 = .ok (.ireturn, 1) := by decide +kernel
theorem dX6_life_0 : decode cX6_life 0 = .ok (.aload_n 0, 1) := by decide +kernel
theorem dX6_life_1 : decode cX6_life 1 = .ok (.getfield 59, 3) := by decide +kernel
theorem dX6_life_4 : decode cX6_life 4 = .ok (.iload_n 1, 1) := by decide +kernel
theorem dX6_life_5 : decode cX6_life 5 = .ok (.invokevirtual 100, 3) := by decide +kernel
theorem dX6_life_8 : decode cX6_life 8 = .ok (.astore_n 3, 1) := by decide +kernel
theorem dX6_life_9 : decode cX6_life 9 = .ok (.aload_n 3, 1) := by decide +kernel
theorem dX6_life_10 : decode cX6_life 10 = .ok (.ifnull 13, 3) := by decide +kernel
theorem dX6_life_13 : decode cX6_life 13 = .ok (.iload_n 2, 1) := by decide +kernel
theorem dX6_life_14 : decode cX6_life 14 = .ok (.iconst 0, 1) := by decide +kernel
theorem dX6_life_15 : decode cX6_life 15 = .ok (.ldc 207, 2) := by decide +kernel
theorem dX6_life_17 : decode cX6_life 17 = .ok (.invokestatic 153, 3) := by decide +kernel
theorem dX6_life_20 : decode cX6_life 20 = .ok (.ifCond .ne 6, 3) := by decide +kernel
theorem dX6_life_23 : decode cX6_life 23 = .ok (.ldc 87, 2) := by decide +kernel
theorem dX6_life_25 : decode cX6_life 25 = .ok (.ireturn, 1) := by decide +kernel
theorem dX6_life_26 : decode cX6_life 26 = .ok (.aload_n 0, 1) := by decide +kernel
theorem dX6_life_27 : decode cX6_life 27 = .ok (.getfield 16, 3) := by decide +kernel
theorem dX6_life_30 : decode cX6_life 30 = .ok (.aload_n 3, 1) := by decide +kernel
theorem dX6_life_31 : decode cX6_life 31 = .ok (.invokevirtual 196, 3) := by decide +kernel
theorem dX6_life_34 : decode cX6_life 34 = .ok (.iconst 0, 1) := by decide +kernel
theorem dX6_life_35 : decode cX6_life 35 = .ok (.istore 4, 2) := by decide +kernel
theorem dX6_life_37 : decode cX6_life 37 = .ok (.iload 4, 2) := by decide +kernel
theorem dX6_life_39 : decode cX6_life 39 = .ok (.sipush 500, 3) := by decide +kernel
theorem dX6_life_42 : decode cX6_life 42 = .ok (.if_icmp .ge 44, 3) := by decide +kernel
theorem dX6_life_45 : decode cX6_life 45 = .ok (.aload_n 0, 1) := by decide +kernel
theorem dX6_life_46 : decode cX6_life 46 = .ok (.getfield 16, 3) := by decide +kernel
theorem dX6_life_49 : decode cX6_life 49 = .ok (.getfield 122, 3) := by decide +kernel
theorem dX6_life_52 : decode cX6_life 52 = .ok (.iload_n 2, 1) := by decide +kernel
theorem dX6_life_53 : decode cX6_life 53 = .ok (.if_icmp .lt 6, 3) := by decide +kernel
theorem dX6_life_56 : decode cX6_life 56 = .ok (.iload 4, 2) := by decide +kernel
theorem dX6_life_58 : decode cX6_life 58 = .ok (.ireturn, 1) := by decide +kernel
theorem dX6_life_59 : decode cX6_life 59 = .ok (.aload_n 0, 1) := by decide +kernel
theorem dX6_life_60 : decode cX6_life 60 = .ok (.getfield 59, 3) := by decide +kernel
theorem dX6_life_63 : decode cX6_life 63 = .ok (.aload_n 0, 1) := by decide +kernel
theorem dX6_life_64 : decode cX6_life 64 = .ok (.getfield 16, 3) := by decide +kernel
theorem dX6_life_67 : decode cX6_life 67 = .ok (.aload_n 0, 1) := by decide +kernel
theorem dX6_life_68 : decode cX6_life 68 = .ok (.getfield 59, 3) := by decide +kernel
theorem dX6_life_71 : decode cX6_life 71 = .ok (.iload 4, 2) := by decide +kernel
theorem dX6_life_73 : decode cX6_life 73 = .ok (.invokevirtual 208, 3) := by decide +kernel
theorem dX6_life_76 : decode cX6_life 76 = .ok (.invokevirtual 187, 3) := by decide +kernel
theorem dX6_life_79 : decode cX6_life 79 = .ok (.pop, 1) := by decide +kernel
theorem dX6_life_80 : decode cX6_life 80 = .ok (.iinc 4 1, 3) := by decide +kernel
theorem dX6_life_83 : decode cX6_life 83 = .ok (.goto (-46), 3) := by decide +kernel
theorem dX6_life_86 : decode cX6_life 86 = .ok (.aload_n 0, 1) := by decide +kernel
theorem dX6_life_87 : decode cX6_life 87 = .ok (.getfield 16, 3) := by decide +kernel
theorem dX6_life_90 : decode cX6_life 90 = .ok (.getfield 122, 3) := by decide +kernel
theorem dX6_life_93 : decode cX6_life 93 = .ok (.iload_n 2, 1) := by decide +kernel
theorem dX6_life_94 : decode cX6_life 94 = .ok (.if_icmp .lt 9, 3) := by decide +kernel
theorem dX6_life_97 : decode cX6_life 97 = .ok (.sipush 500, 3) := by decide +kernel
theorem dX6_life_100 : decode cX6_life 100 = .ok (.goto 5, 3) := by decide +kernel
theorem dX6_life_103 : decode cX6_life 103 = .ok (.ldc 211, 2) := by decide +kernel
theorem dX6_life_105 : decode cX6_life 105 = .ok (.ireturn, 1) := by decide +kernel
theorem dX6_harp_0 : decode cX6_harp 0 = .ok (.aload_n 0, 1) := by decide +kernel
theorem dX6_harp_1 : decode cX6_harp 1 = .ok (.getfield 59, 3) := by decide +kernel
theorem dX6_harp_4 : decode cX6_harp 4 = .ok (.iload_n 1, 1) := by decide +kernel
theorem dX6_harp_5 : decode cX6_harp 5 = .ok (.invokevirtual 100, 3) := by decide +kernel
theorem dX6_harp_8 : decode cX6_harp 8 = .ok (.astore_n 3, 1) := by decide +kernel
theorem dX6_harp_9 : decode cX6_harp 9 = .ok (.aload_n 3, 1) := by decide +kernel
theorem dX6_harp_10 : decode cX6_harp 10 = .ok (.ifnull 12, 3) := by decide +kernel
theorem dX6_harp_13 : decode cX6_harp 13 = .ok (.iload_n 2, 1) := by decide +kernel
theorem dX6_harp_14 : decode cX6_harp 14 = .ok (.iconst 0, 1) := by decide +kernel
theorem dX6_harp_15 : decode cX6_harp 15 = .ok (.iconst 1, 1) := by decide +kernel
theorem dX6_harp_16 : decode cX6_harp 16 = .ok (.invokestatic 153, 3) := by decide +kernel
theorem dX6_harp_19 : decode cX6_harp 19 = .ok (.ifCond .ne 6, 3) := by decide +kernel
theorem dX6_harp_22 : decode cX6_harp 22 = .ok (.ldc 87, 2) := by decide +kernel
theorem dX6_harp_24 : decode cX6_harp 24 = .ok (.ireturn, 1) := by decide +kernel
theorem dX6_harp_25 : decode cX6_harp 25 = .ok (.iconst 0, 1) := by decide +kernel
theorem dX6_harp_26 : decode cX6_harp 26 = .ok (.istore 4, 2) := by decide +kernel
theorem dX6_harp_28 : decode cX6_harp 28 = .ok (.iconst (-1), 1) := by decide +kernel
theorem dX6_harp_29 : decode cX6_harp 29 = .ok (.istore 5, 2) := by decide +kernel
theorem dX6_harp_31 : decode cX6_harp 31 = .ok (.iconst 5, 1) := by decide +kernel
theorem dX6_harp_32 : decode cX6_harp 32 = .ok (.istore 6, 2) := by decide +kernel
theorem dX6_harp_34 : decode cX6_harp 34 = .ok (.iload 6, 2) := by decide +kernel
theorem dX6_harp_36 : decode cX6_harp 36 = .ok (.sipush 500, 3) := by decide +kernel
theorem dX6_harp_39 : decode cX6_harp 39 = .ok (.if_icmp .gt 55, 3) := by decide +kernel
theorem dX6_harp_42 : decode cX6_harp 42 = .ok (.iload 5, 2) := by decide +kernel
theorem dX6_harp_44 : decode cX6_harp 44 = .ok (.bipush 24, 2) := by decide +kernel
theorem dX6_harp_46 : decode cX6_harp 46 = .ok (.if_icmp .ge 48, 3) := by decide +kernel
theorem dX6_harp_49 : decode cX6_harp 49 = .ok (.aload_n 0, 1) := by decide +kernel
theorem dX6_harp_50 : decode cX6_harp 50 = .ok (.getfield 16, 3) := by decide +kernel
theorem dX6_harp_53 : decode cX6_harp 53 = .ok (.aload_n 3, 1) := by decide +kernel
theorem dX6_harp_54 : decode cX6_harp 54 = .ok (.invokevirtual 196, 3) := by decide +kernel
theorem dX6_harp_57 : decode cX6_harp 57 = .ok (.aload_n 0, 1) := by decide +kernel
theorem dX6_harp_58 : decode cX6_harp 58 = .ok (.getfield 16, 3) := by decide +kernel
theorem dX6_harp_61 : decode cX6_harp 61 = .ok (.iload 6, 2) := by decide +kernel
theorem dX6_harp_63 : decode cX6_harp 63 = .ok (.putfield 110, 3) := by decide +kernel
theorem dX6_harp_66 : decode cX6_harp 66 = .ok (.aload_n 0, 1) := by decide +kernel
theorem dX6_harp_67 : decode cX6_harp 67 = .ok (.iconst 0, 1) := by decide +kernel
theorem dX6_harp_68 : decode cX6_harp 68 = .ok (.invokevirtual 204, 3) := by decide +kernel
theorem dX6_harp_71 : decode cX6_harp 71 = .ok (.istore 7, 2) := by decide +kernel
theorem dX6_harp_73 : decode cX6_harp 73 = .ok (.iload 7, 2) := by decide +kernel
theorem dX6_harp_75 : decode cX6_harp 75 = .ok (.iload 5, 2) := by decide +kernel
theorem dX6_harp_77 : decode cX6_harp 77 = .ok (.if_icmp .le 11, 3) := by decide +kernel
theorem dX6_harp_80 : decode cX6_harp 80 = .ok (.iload 7, 2) := by decide +kernel
theorem dX6_harp_82 : decode cX6_harp 82 = .ok (.istore 5, 2) := by decide +kernel
theorem dX6_harp_84 : decode cX6_harp 84 = .ok (.iload 6, 2) := by decide +kernel
theorem dX6_harp_86 : decode cX6_harp 86 = .ok (.istore 4, 2) := by decide +kernel
theorem dX6_harp_88 : decode cX6_harp 88 = .ok (.iinc 6 5, 3) := by decide +kernel
theorem dX6_harp_91 : decode cX6_harp 91 = .ok (.goto (-57), 3) := by decide +kernel
theorem dX6_harp_94 : decode cX6_harp 94 = .ok (.iload_n 2, 1) := by decide +kernel
theorem dX6_harp_95 : decode cX6_harp 95 = .ok (.ifCond .ne 8, 3) := by decide +kernel
theorem dX6_harp_98 : decode cX6_harp 98 = .ok (.iload 4, 2) := by decide +kernel
theorem dX6_harp_100 : decode cX6_harp 100 = .ok (.goto 5, 3) := by decide +kernel
theorem dX6_harp_103 : decode cX6_harp 103 = .ok (.iload 5, 2) := by decide +kernel
theorem dX6_harp_105 : decode cX6_harp 105 = .ok (.ireturn, 1) := by decide +kernel
theorem dX6_lumps_0 : decode cX6_lumps 0 = .ok (.aload_n 0, 1) := by decide +kernel
theorem dX6_lumps_1 : decode cX6_lumps 1 = .ok (.getfield 59, 3) := by decide +kernel
theorem dX6_lumps_4 : decode cX6_lumps 4 = .ok (.iload_n 1, 1) := by decide +kernel
theorem dX6_lumps_5 : decode cX6_lumps 5 = .ok (.invokevirtual 100, 3) := by decide +kernel
theorem dX6_lumps_8 : decode cX6_lumps 8 = .ok (.astore_n 3, 1) := by decide +kernel
theorem dX6_lumps_9 : decode cX6_lumps 9 = .ok (.aload_n 3, 1) := by decide +kernel
theorem dX6_lumps_10 : decode cX6_lumps 10 = .ok (.ifnull 13, 3) := by decide +kernel
theorem dX6_lumps_13 : decode cX6_lumps 13 = .ok (.iload_n 2, 1) := by decide +kernel
theorem dX6_lumps_14 : decode cX6_lumps 14 = .ok (.iconst 0, 1) := by decide +kernel
theorem dX6_lumps_15 : decode cX6_lumps 15 = .ok (.ldc 207, 2) := by decide +kernel
theorem dX6_lumps_17 : decode cX6_lumps 17 = .ok (.invokestatic 153, 3) := by decide +kernel
theorem dX6_lumps_20 : decode cX6_lumps 20 = .ok (.ifCond .ne 6, 3) := by decide +kernel
theorem dX6_lumps_23 : decode cX6_lumps 23 = .ok (.ldc 87, 2) := by decide +kernel
theorem dX6_lumps_25 : decode cX6_lumps 25 = .ok (.ireturn, 1) := by decide +kernel
theorem dX6_lumps_26 : decode cX6_lumps 26 = .ok (.iconst 0, 1) := by decide +kernel
theorem dX6_lumps_27 : decode cX6_lumps 27 = .ok (.istore 4, 2) := by decide +kernel
theorem dX6_lumps_29 : decode cX6_lumps 29 = .ok (.iload 4, 2) := by decide +kernel
theorem dX6_lumps_31 : decode cX6_lumps 31 = .ok (.bipush 9, 2) := by decide +kernel
theorem dX6_lumps_33 : decode cX6_lumps 33 = .ok (.if_icmp .gt 38, 3) := by decide +kernel
theorem dX6_lumps_36 : decode cX6_lumps 36 = .ok (.aload_n 0, 1) := by decide +kernel
theorem dX6_lumps_37 : decode cX6_lumps 37 = .ok (.getfield 16, 3) := by decide +kernel
theorem dX6_lumps_40 : decode cX6_lumps 40 = .ok (.aload_n 3, 1) := by decide +kernel
theorem dX6_lumps_41 : decode cX6_lumps 41 = .ok (.invokevirtual 196, 3) := by decide +kernel
theorem dX6_lumps_44 : decode cX6_lumps 44 = .ok (.aload_n 0, 1) := by decide +kernel
theorem dX6_lumps_45 : decode cX6_lumps 45 = .ok (.getfield 16, 3) := by decide +kernel
theorem dX6_lumps_48 : decode cX6_lumps 48 = .ok (.iload 4, 2) := by decide +kernel
theorem dX6_lumps_50 : decode cX6_lumps 50 = .ok (.putfield 113, 3) := by decide +kernel
theorem dX6_lumps_53 : decode cX6_lumps 53 = .ok (.aload_n 0, 1) := by decide +kernel
theorem dX6_lumps_54 : decode cX6_lumps 54 = .ok (.iconst 1, 1) := by decide +kernel
theorem dX6_lumps_55 : decode cX6_lumps 55 = .ok (.invokevirtual 204, 3) := by decide +kernel
theorem dX6_lumps_58 : decode cX6_lumps 58 = .ok (.iload_n 2, 1) := by decide +kernel
theorem dX6_lumps_59 : decode cX6_lumps 59 = .ok (.if_icmp .gt 6, 3) := by decide +kernel
theorem dX6_lumps_62 : decode cX6_lumps 62 = .ok (.iload 4, 2) := by decide +kernel
theorem dX6_lumps_64 : decode cX6_lumps 64 = .ok (.ireturn, 1) := by decide +kernel
theorem dX6_lumps_65 : decode cX6_lumps 65 = .ok (.iinc 4 1, 3) := by decide +kernel
theorem dX6_lumps_68 : decode cX6_lumps 68 = .ok (.goto (-39), 3) := by decide +kernel
theorem dX6_lumps_71 : decode cX6_lumps 71 = .ok (.ldc 211, 2) := by decide +kernel
theorem dX6_lumps_73 : decode cX6_lumps 73 = .ok (.ireturn, 1) := by decide +kernel
theorem dX6_blown_0 : decode cX6_blown 0 = .ok (.aload_n 0, 1) := by decide +kernel
theorem dX6_blown_1 : decode cX6_blown 1 = .ok (.getfield 59, 3) := by decide +kernel
theorem dX6_blown_4 : decode cX6_blown 4 = .ok (.iload_n 1, 1) := by decide +kernel
theorem dX6_blown_5 : decode cX6_blown 5 = .ok (.invokevirtual 100, 3) := by decide +kernel
theorem dX6_blown_8 : decode cX6_blown 8 = .ok (.astore 4, 2) := by decide +kernel
theorem dX6_blown_10 : decode cX6_blown 10 = .ok (.aload 4, 2) := by decide +kernel
theorem dX6_blown_12 : decode cX6_blown 12 = .ok (.ifnull 12, 3) := by decide +kernel
theorem dX6_blown_15 : decode cX6_blown 15 = .ok (.iload_n 3, 1) := by decide +kernel
theorem dX6_blown_16 : decode cX6_blown 16 = .ok (.iconst 0, 1) := by decide +kernel
theorem dX6_blown_17 : decode cX6_blown 17 = .ok (.iconst 2, 1) := by decide +kernel
theorem dX6_blown_18 : decode cX6_blown 18 = .ok (.invokestatic 153, 3) := by decide +kernel
theorem dX6_blown_21 : decode cX6_blown 21 = .ok (.ifCond .ne 6, 3) := by decide +kernel
theorem dX6_blown_24 : decode cX6_blown 24 = .ok (.ldc 87, 2) := by decide +kernel
theorem dX6_blown_26 : decode cX6_blown 26 = .ok (.ireturn, 1) := by decide +kernel
theorem dX6_blown_27 : decode cX6_blown 27 = .ok (.ldc 211, 2) := by decide +kernel
theorem dX6_blown_29 : decode cX6_blown 29 = .ok (.istore 5, 2) := by decide +kernel
theorem dX6_blown_31 : decode cX6_blown 31 = .ok (.ldc 211, 2) := by decide +kernel
theorem dX6_blown_33 : decode cX6_blown 33 = .ok (.istore 6, 2) := by decide +kernel
theorem dX6_blown_35 : decode cX6_blown 35 = .ok (.iconst 0, 1) := by decide +kernel
theorem dX6_blown_36 : decode cX6_blown 36 = .ok (.istore 7, 2) := by decide +kernel
theorem dX6_blown_38 : decode cX6_blown 38 = .ok (.iconst 0, 1) := by decide +kernel
theorem dX6_blown_39 : decode cX6_blown 39 = .ok (.istore 8, 2) := by decide +kernel
theorem dX6_blown_41 : decode cX6_blown 41 = .ok (.iload 8, 2) := by decide +kernel
theorem dX6_blown_43 : decode cX6_blown 43 = .ok (.bipush 99, 2) := by decide +kernel
theorem dX6_blown_45 : decode cX6_blown 45 = .ok (.if_icmp .gt 41, 3) := by decide +kernel
theorem dX6_blown_48 : decode cX6_blown 48 = .ok (.aload 4, 2) := by decide +kernel
theorem dX6_blown_50 : decode cX6_blown 50 = .ok (.iload 8, 2) := by decide +kernel
theorem dX6_blown_52 : decode cX6_blown 52 = .ok (.invokevirtual 170, 3) := by decide +kernel
theorem dX6_blown_55 : decode cX6_blown 55 = .ok (.iload_n 2, 1) := by decide +kernel
theorem dX6_blown_56 : decode cX6_blown 56 = .ok (.if_icmp .ne 24, 3) := by decide +kernel
theorem dX6_blown_59 : decode cX6_blown 59 = .ok (.iload 7, 2) := by decide +kernel
theorem dX6_blown_61 : decode cX6_blown 61 = .ok (.ifCond .ne 8, 3) := by decide +kernel
theorem dX6_blown_64 : decode cX6_blown 64 = .ok (.iload 8, 2) := by decide +kernel
theorem dX6_blown_66 : decode cX6_blown 66 = .ok (.goto 5, 3) := by decide +kernel
theorem dX6_blown_69 : decode cX6_blown 69 = .ok (.iload 5, 2) := by decide +kernel
theorem dX6_blown_71 : decode cX6_blown 71 = .ok (.istore 5, 2) := by decide +kernel
theorem dX6_blown_73 : decode cX6_blown 73 = .ok (.iload 8, 2) := by decide +kernel
theorem dX6_blown_75 : decode cX6_blown 75 = .ok (.istore 6, 2) := by decide +kernel
theorem dX6_blown_77 : decode cX6_blown 77 = .ok (.iinc 7 1, 3) := by decide +kernel
theorem dX6_blown_80 : decode cX6_blown 80 = .ok (.iinc 8 1, 3) := by decide +kernel
theorem dX6_blown_83 : decode cX6_blown 83 = .ok (.goto (-42), 3) := by decide +kernel
theorem dX6_blown_86 : decode cX6_blown 86 = .ok (.iload_n 3, 1) := by decide +kernel
theorem dX6_blown_87 : decode cX6_blown 87 = .ok (.ifCond .ne 8, 3) := by decide +kernel
theorem dX6_blown_90 : decode cX6_blown 90 = .ok (.iload 5, 2) := by decide +kernel
theorem dX6_blown_92 : decode cX6_blown 92 = .ok (.goto 15, 3) := by decide +kernel
theorem dX6_blown_95 : decode cX6_blown 95 = .ok (.iload_n 3, 1) := by decide +kernel
theorem dX6_blown_96 : decode cX6_blown 96 = .ok (.iconst 1, 1) := by decide +kernel
theorem dX6_blown_97 : decode cX6_blown 97 = .ok (.if_icmp .ne 8, 3) := by decide +kernel
theorem dX6_blown_100 : decode cX6_blown 100 = .ok (.iload 6, 2) := by decide +kernel
theorem dX6_blown_102 : decode cX6_blown 102 = .ok (.goto 5, 3) := by decide +kernel
theorem dX6_blown_105 : decode cX6_blown 105 = .ok (.iload 7, 2) := by decide +kernel
theorem dX6_blown_107 : decode cX6_blown 107 = .ok (.ireturn, 1) := by decide +kernel
theorem dX6_heard_0 : decode cX6_heard 0 = .ok (.iload_n 1, 1) := by decide +kernel
theorem dX6_heard_1 : decode cX6_heard 1 = .ok (.invokestatic 212, 3) := by decide +kernel
theorem dX6_heard_4 : decode cX6_heard 4 = .ok (.ifCond .ne 6, 3) := by decide +kernel
theorem dX6_heard_7 : decode cX6_heard 7 = .ok (.ldc 87, 2) := by decide +kernel
theorem dX6_heard_9 : decode cX6_heard 9 = .ok (.ireturn, 1) := by decide +kernel
theorem dX6_heard_10 : decode cX6_heard 10 = .ok (.aload_n 0, 1) := by decide +kernel
theorem dX6_heard_11 : decode cX6_heard 11 = .ok (.getfield 30, 3) := by decide +kernel
theorem dX6_heard_14 : decode cX6_heard 14 = .ok (.iload_n 1, 1) := by decide +kernel
theorem dX6_heard_15 : decode cX6_heard 15 = .ok (.aaload, 1) := by decide +kernel
theorem dX6_heard_16 : decode cX6_heard 16 = .ok (.invokevirtual 215, 3) := by decide +kernel
theorem dX6_heard_19 : decode cX6_heard 19 = .ok (.ifCond .eq 6, 3) := by decide +kernel
theorem dX6_heard_22 : decode cX6_heard 22 = .ok (.ldc 219, 2) := by decide +kernel
theorem dX6_heard_24 : decode cX6_heard 24 = .ok (.ireturn, 1) := by decide +kernel
theorem dX6_heard_25 : decode cX6_heard 25 = .ok (.ldc 211, 2) := by decide +kernel
theorem dX6_heard_27 : decode cX6_heard 27 = .ok (.istore_n 2, 1) := by decide +kernel
theorem dX6_heard_28 : decode cX6_heard 28 = .ok (.iconst (-1), 1) := by decide +kernel
theorem dX6_heard_29 : decode cX6_heard 29 = .ok (.istore_n 3, 1) := by decide +kernel
theorem dX6_heard_30 : decode cX6_heard 30 = .ok (.iconst 0, 1) := by decide +kernel
theorem dX6_heard_31 : decode cX6_heard 31 = .ok (.istore 4, 2) := by decide +kernel
theorem dX6_heard_33 : decode cX6_heard 33 = .ok (.iload 4, 2) := by decide +kernel
theorem dX6_heard_35 : decode cX6_heard 35 = .ok (.aload_n 0, 1) := by decide +kernel
theorem dX6_heard_36 : decode cX6_heard 36 = .ok (.getfield 59, 3) := by decide +kernel
theorem dX6_heard_39 : decode cX6_heard 39 = .ok (.getfield 88, 3) := by decide +kernel
theorem dX6_heard_42 : decode cX6_heard 42 = .ok (.if_icmp .ge 35, 3) := by decide +kernel
theorem dX6_heard_45 : decode cX6_heard 45 = .ok (.aload_n 0, 1) := by decide +kernel
theorem dX6_heard_46 : decode cX6_heard 46 = .ok (.aload_n 0, 1) := by decide +kernel
theorem dX6_heard_47 : decode cX6_heard 47 = .ok (.getfield 30, 3) := by decide +kernel
theorem dX6_heard_50 : decode cX6_heard 50 = .ok (.iload_n 1, 1) := by decide +kernel
theorem dX6_heard_51 : decode cX6_heard 51 = .ok (.aaload, 1) := by decide +kernel
theorem dX6_heard_52 : decode cX6_heard 52 = .ok (.iload 4, 2) := by decide +kernel
theorem dX6_heard_54 : decode cX6_heard 54 = .ok (.invokevirtual 220, 3) := by decide +kernel
theorem dX6_heard_57 : decode cX6_heard 57 = .ok (.istore 5, 2) := by decide +kernel
theorem dX6_heard_59 : decode cX6_heard 59 = .ok (.iload 5, 2) := by decide +kernel
theorem dX6_heard_61 : decode cX6_heard 61 = .ok (.iload_n 3, 1) := by decide +kernel
theorem dX6_heard_62 : decode cX6_heard 62 = .ok (.if_icmp .le 9, 3) := by decide +kernel
theorem dX6_heard_65 : decode cX6_heard 65 = .ok (.iload 5, 2) := by decide +kernel
theorem dX6_heard_67 : decode cX6_heard 67 = .ok (.istore_n 3, 1) := by decide +kernel
theorem dX6_heard_68 : decode cX6_heard 68 = .ok (.iload 4, 2) := by decide +kernel
theorem dX6_heard_70 : decode cX6_heard 70 = .ok (.istore_n 2, 1) := by decide +kernel
theorem dX6_heard_71 : decode cX6_heard 71 = .ok (.iinc 4 1, 3) := by decide +kernel
theorem dX6_heard_74 : decode cX6_heard 74 = .ok (.goto (-41), 3) := by decide +kernel
theorem dX6_heard_77 : decode cX6_heard 77 = .ok (.iload_n 2, 1) := by decide +kernel
theorem dX6_heard_78 : decode cX6_heard 78 = .ok (.ireturn, 1) := by decide +kernel
theorem dX6_feed_0 : decode cX6_feed 0 = .ok (.aload_n 0, 1) := by decide +kernel
theorem dX6_feed_1 : decode cX6_feed 1 = .ok (.getfield 24, 3) := by decide +kernel
theorem dX6_feed_4 : decode cX6_feed 4 = .ok (.bipush 12, 2) := by decide +kernel
theorem dX6_feed_6 : decode cX6_feed 6 = .ok (.iadd, 1) := by decide +kernel
theorem dX6_feed_7 : decode cX6_feed 7 = .ok (.bipush 96, 2) := by decide +kernel
theorem dX6_feed_9 : decode cX6_feed 9 = .ok (.if_icmp .le 6, 3) := by decide +kernel
theorem dX6_feed_12 : decode cX6_feed 12 = .ok (.ldc 91, 2) := by decide +kernel
theorem dX6_feed_14 : decode cX6_feed 14 = .ok (.ireturn, 1) := by decide +kernel
theorem dX6_feed_15 : decode cX6_feed 15 = .ok (.aload_n 0, 1) := by decide +kernel
theorem dX6_feed_16 : decode cX6_feed 16 = .ok (.iload_n 1, 1) := by decide +kernel
theorem dX6_feed_17 : decode cX6_feed 17 = .ok (.invokevirtual 224, 3) := by decide +kernel
theorem dX6_feed_20 : decode cX6_feed 20 = .ok (.aload_n 0, 1) := by decide +kernel
theorem dX6_feed_21 : decode cX6_feed 21 = .ok (.iload_n 2, 1) := by decide +kernel
theorem dX6_feed_22 : decode cX6_feed 22 = .ok (.invokevirtual 224, 3) := by decide +kernel
theorem dX6_feed_25 : decode cX6_feed 25 = .ok (.aload_n 0, 1) := by decide +kernel
theorem dX6_feed_26 : decode cX6_feed 26 = .ok (.iload_n 3, 1) := by decide +kernel
theorem dX6_feed_27 : decode cX6_feed 27 = .ok (.invokevirtual 224, 3) := by decide +kernel
theorem dX6_feed_30 : decode cX6_feed 30 = .ok (.aload_n 0, 1) := by decide +kernel
theorem dX6_feed_31 : decode cX6_feed 31 = .ok (.getfield 24, 3) := by decide +kernel
theorem dX6_feed_34 : decode cX6_feed 34 = .ok (.ireturn, 1) := by decide +kernel
theorem dX6_trim_0 : decode cX6_trim 0 = .ok (.iload_n 1, 1) := by decide +kernel
theorem dX6_trim_1 : decode cX6_trim 1 = .ok (.iconst 0, 1) := by decide +kernel
theorem dX6_trim_2 : decode cX6_trim 2 = .ok (.aload_n 0, 1) := by decide +kernel
theorem dX6_trim_3 : decode cX6_trim 3 = .ok (.getfield 24, 3) := by decide +kernel
theorem dX6_trim_6 : decode cX6_trim 6 = .ok (.invokestatic 153, 3) := by decide +kernel
theorem dX6_trim_9 : decode cX6_trim 9 = .ok (.ifCond .ne 6, 3) := by decide +kernel
theorem dX6_trim_12 : decode cX6_trim 12 = .ok (.ldc 87, 2) := by decide +kernel
theorem dX6_trim_14 : decode cX6_trim 14 = .ok (.ireturn, 1) := by decide +kernel
theorem dX6_trim_15 : decode cX6_trim 15 = .ok (.aload_n 0, 1) := by decide +kernel
theorem dX6_trim_16 : decode cX6_trim 16 = .ok (.iload_n 1, 1) := by decide +kernel
theorem dX6_trim_17 : decode cX6_trim 17 = .ok (.putfield 24, 3) := by decide +kernel
theorem dX6_trim_20 : decode cX6_trim 20 = .ok (.iload_n 1, 1) := by decide +kernel
theorem dX6_trim_21 : decode cX6_trim 21 = .ok (.ireturn, 1) := by decide +kernel
theorem dX6_text_0 : decode cX6_text 0 = .ok (.aload_n 0, 1) := by decide +kernel
theorem dX6_text_1 : decode cX6_text 1 = .ok (.getfield 50, 3) := by decide +kernel
theorem dX6_text_4 : decode cX6_text 4 = .ok (.aload_n 0, 1) := by decide +kernel
theorem dX6_text_5 : decode cX6_text 5 = .ok (.getfield 59, 3) := by decide +kernel
theorem dX6_text_8 : decode cX6_text 8 = .ok (.getfield 228, 3) := by decide +kernel
theorem dX6_text_11 : decode cX6_text 11 = .ok (.iconst 0, 1) := by decide +kernel
theorem dX6_text_12 : decode cX6_text 12 = .ok (.bipush 14, 2) := by decide +kernel
theorem dX6_text_14 : decode cX6_text 14 = .ok (.invokestatic 153, 3) := by decide +kernel
theorem dX6_text_17 : decode cX6_text 17 = .ok (.ifCond .eq 13, 3) := by decide +kernel
theorem dX6_text_20 : decode cX6_text 20 = .ok (.aload_n 0, 1) := by decide +kernel
theorem dX6_text_21 : decode cX6_text 21 = .ok (.getfield 59, 3) := by decide +kernel
theorem dX6_text_24 : decode cX6_text 24 = .ok (.getfield 228, 3) := by decide +kernel
theorem dX6_text_27 : decode cX6_text 27 = .ok (.goto 5, 3) := by decide +kernel
theorem dX6_text_30 : decode cX6_text 30 = .ok (.bipush 14, 2) := by decide +kernel
theorem dX6_text_32 : decode cX6_text 32 = .ok (.aaload, 1) := by decide +kernel
theorem dX6_text_33 : decode cX6_text 33 = .ok (.astore_n 1, 1) := by decide +kernel
theorem dX6_text_34 : decode cX6_text 34 = .ok (.aload_n 0, 1) := by decide +kernel
theorem dX6_text_35 : decode cX6_text 35 = .ok (.getfield 71, 3) := by decide +kernel
theorem dX6_text_38 : decode cX6_text 38 = .ok (.aload_n 0, 1) := by decide +kernel
theorem dX6_text_39 : decode cX6_text 39 = .ok (.getfield 20, 3) := by decide +kernel
theorem dX6_text_42 : decode cX6_text 42 = .ok (.aload_n 0, 1) := by decide +kernel
theorem dX6_text_43 : decode cX6_text 43 = .ok (.getfield 24, 3) := by decide +kernel
theorem dX6_text_46 : decode cX6_text 46 = .ok (.aload_n 1, 1) := by decide +kernel
theorem dX6_text_47 : decode cX6_text 47 = .ok (.invokevirtual 231, 3) := by decide +kernel
theorem dX6_text_50 : decode cX6_text 50 = .ok (.istore_n 2, 1) := by decide +kernel
theorem dX6_text_51 : decode cX6_text 51 = .ok (.aload_n 0, 1) := by decide +kernel
theorem dX6_text_52 : decode cX6_text 52 = .ok (.iconst 0, 1) := by decide +kernel
theorem dX6_text_53 : decode cX6_text 53 = .ok (.putfield 24, 3) := by decide +kernel
theorem dX6_text_56 : decode cX6_text 56 = .ok (.iload_n 2, 1) := by decide +kernel
theorem dX6_text_57 : decode cX6_text 57 = .ok (.ifCond .ne 14, 3) := by decide +kernel
theorem dX6_text_60 : decode cX6_text 60 = .ok (.bipush (-100), 2) := by decide +kernel
theorem dX6_text_62 : decode cX6_text 62 = .ok (.aload_n 0, 1) := by decide +kernel
theorem dX6_text_63 : decode cX6_text 63 = .ok (.getfield 71, 3) := by decide +kernel
theorem dX6_text_66 : decode cX6_text 66 = .ok (.getfield 235, 3) := by decide +kernel
theorem dX6_text_69 : decode cX6_text 69 = .ok (.isub, 1) := by decide +kernel
theorem dX6_text_70 : decode cX6_text 70 = .ok (.ireturn, 1) := by decide +kernel
theorem dX6_text_71 : decode cX6_text 71 = .ok (.aload_n 0, 1) := by decide +kernel
theorem dX6_text_72 : decode cX6_text 72 = .ok (.getfield 59, 3) := by decide +kernel
theorem dX6_text_75 : decode cX6_text 75 = .ok (.getfield 228, 3) := by decide +kernel
theorem dX6_text_78 : decode cX6_text 78 = .ok (.bipush 14, 2) := by decide +kernel
theorem dX6_text_80 : decode cX6_text 80 = .ok (.if_icmp .lt 6, 3) := by decide +kernel
theorem dX6_text_83 : decode cX6_text 83 = .ok (.ldc 91, 2) := by decide +kernel
theorem dX6_text_85 : decode cX6_text 85 = .ok (.ireturn, 1) := by decide +kernel
theorem dX6_text_86 : decode cX6_text 86 = .ok (.aload_n 0, 1) := by decide +kernel
theorem dX6_text_87 : decode cX6_text 87 = .ok (.getfield 59, 3) := by decide +kernel
theorem dX6_text_90 : decode cX6_text 90 = .ok (.getfield 238, 3) := by decide +kernel
theorem dX6_text_93 : decode cX6_text 93 = .ok (.aload_n 1, 1) := by decide +kernel
theorem dX6_text_94 : decode cX6_text 94 = .ok (.getfield 241, 3) := by decide +kernel
theorem dX6_text_97 : decode cX6_text 97 = .ok (.aload_n 0, 1) := by decide +kernel
theorem dX6_text_98 : decode cX6_text 98 = .ok (.getfield 59, 3) := by decide +kernel
theorem dX6_text_101 : decode cX6_text 101 = .ok (.getfield 228, 3) := by decide +kernel
theorem dX6_text_104 : decode cX6_text 104 = .ok (.iastore, 1) := by decide +kernel
theorem dX6_text_105 : decode cX6_text 105 = .ok (.aload_n 0, 1) := by decide +kernel
theorem dX6_text_106 : decode cX6_text 106 = .ok (.getfield 59, 3) := by decide +kernel
theorem dX6_text_109 : decode cX6_text 109 = .ok (.dup, 1) := by decide +kernel
theorem dX6_text_110 : decode cX6_text 110 = .ok (.getfield 228, 3) := by decide +kernel
theorem dX6_text_113 : decode cX6_text 113 = .ok (.iconst 1, 1) := by decide +kernel
theorem dX6_text_114 : decode cX6_text 114 = .ok (.iadd, 1) := by decide +kernel
theorem dX6_text_115 : decode cX6_text 115 = .ok (.putfield 228, 3) := by decide +kernel
theorem dX6_text_118 : decode cX6_text 118 = .ok (.aload_n 0, 1) := by decide +kernel
theorem dX6_text_119 : decode cX6_text 119 = .ok (.getfield 59, 3) := by decide +kernel
theorem dX6_text_122 : decode cX6_text 122 = .ok (.getfield 228, 3) := by decide +kernel
theorem dX6_text_125 : decode cX6_text 125 = .ok (.iconst 1, 1) := by decide +kernel
theorem dX6_text_126 : decode cX6_text 126 = .ok (.isub, 1) := by decide +kernel
theorem dX6_text_127 : decode cX6_text 127 = .ok (.ireturn, 1) := by decide +kernel
theorem dX6_textTold_0 : decode cX6_textTold 0 = .ok (.iload_n 1, 1) := by decide +kernel
theorem dX6_textTold_1 : decode cX6_textTold 1 = .ok (.iconst 0, 1) := by decide +kernel
theorem dX6_textTold_2 : decode cX6_textTold 2 = .ok (.aload_n 0, 1) := by decide +kernel
theorem dX6_textTold_3 : decode cX6_textTold 3 = .ok (.getfield 59, 3) := by decide +kernel
theorem dX6_textTold_6 : decode cX6_textTold 6 = .ok (.getfield 228, 3) := by decide +kernel
theorem dX6_textTold_9 : decode cX6_textTold 9 = .ok (.iconst 1, 1) := by decide +kernel
theorem dX6_textTold_10 : decode cX6_textTold 10 = .ok (.isub, 1) := by decide +kernel
theorem dX6_textTold_11 : decode cX6_textTold 11 = .ok (.invokestatic 153, 3) := by decide +kernel
theorem dX6_textTold_14 : decode cX6_textTold 14 = .ok (.ifCond .eq 12, 3) := by decide +kernel
theorem dX6_textTold_17 : decode cX6_textTold 17 = .ok (.iload_n 2, 1) := by decide +kernel
theorem dX6_textTold_18 : decode cX6_textTold 18 = .ok (.iconst 0, 1) := by decide +kernel
theorem dX6_textTold_19 : decode cX6_textTold 19 = .ok (.iconst 1, 1) := by decide +kernel
theorem dX6_textTold_20 : decode cX6_textTold 20 = .ok (.invokestatic 153, 3) := by decide +kernel
theorem dX6_textTold_23 : decode cX6_textTold 23 = .ok (.ifCond .ne 6, 3) := by decide +kernel
theorem dX6_textTold_26 : decode cX6_textTold 26 = .ok (.ldc 87, 2) := by decide +kernel
theorem dX6_textTold_28 : decode cX6_textTold 28 = .ok (.ireturn, 1) := by decide +kernel
theorem dX6_textTold_29 : decode cX6_textTold 29 = .ok (.iload_n 2, 1) := by decide +kernel
theorem dX6_textTold_30 : decode cX6_textTold 30 = .ok (.ifCond .ne 15, 3) := by decide +kernel
theorem dX6_textTold_33 : decode cX6_textTold 33 = .ok (.aload_n 0, 1) := by decide +kernel
theorem dX6_textTold_34 : decode cX6_textTold 34 = .ok (.getfield 50, 3) := by decide +kernel
theorem dX6_textTold_37 : decode cX6_textTold 37 = .ok (.iload_n 1, 1) := by decide +kernel
theorem dX6_textTold_38 : decode cX6_textTold 38 = .ok (.aaload, 1) := by decide +kernel
theorem dX6_textTold_39 : decode cX6_textTold 39 = .ok (.getfield 241, 3) := by decide +kernel
theorem dX6_textTold_42 : decode cX6_textTold 42 = .ok (.goto 12, 3) := by decide +kernel
theorem dX6_textTold_45 : decode cX6_textTold 45 = .ok (.aload_n 0, 1) := by decide +kernel
theorem dX6_textTold_46 : decode cX6_textTold 46 = .ok (.getfield 50, 3) := by decide +kernel
theorem dX6_textTold_49 : decode cX6_textTold 49 = .ok (.iload_n 1, 1) := by decide +kernel
theorem dX6_textTold_50 : decode cX6_textTold 50 = .ok (.aaload, 1) := by decide +kernel
theorem dX6_textTold_51 : decode cX6_textTold 51 = .ok (.getfield 244, 3) := by decide +kernel
theorem dX6_textTold_54 : decode cX6_textTold 54 = .ok (.ireturn, 1) := by decide +kernel
theorem dX6_why_0 : decode cX6_why 0 = .ok (.iload_n 1, 1) := by decide +kernel
theorem dX6_why_1 : decode cX6_why 1 = .ok (.iconst 0, 1) := by decide +kernel
theorem dX6_why_2 : decode cX6_why 2 = .ok (.iconst 2, 1) := by decide +kernel
theorem dX6_why_3 : decode cX6_why 3 = .ok (.invokestatic 153, 3) := by decide +kernel
theorem dX6_why_6 : decode cX6_why 6 = .ok (.ifCond .eq 15, 3) := by decide +kernel
theorem dX6_why_9 : decode cX6_why 9 = .ok (.aload_n 0, 1) := by decide +kernel
theorem dX6_why_10 : decode cX6_why 10 = .ok (.getfield 59, 3) := by decide +kernel
theorem dX6_why_13 : decode cX6_why 13 = .ok (.getfield 238, 3) := by decide +kernel
theorem dX6_why_16 : decode cX6_why 16 = .ok (.iload_n 1, 1) := by decide +kernel
theorem dX6_why_17 : decode cX6_why 17 = .ok (.iaload, 1) := by decide +kernel
theorem dX6_why_18 : decode cX6_why 18 = .ok (.goto 5, 3) := by decide +kernel
theorem dX6_why_21 : decode cX6_why 21 = .ok (.ldc 87, 2) := by decide +kernel
theorem dX6_why_23 : decode cX6_why 23 = .ok (.ireturn, 1) := by decide +kernel
theorem dX6_sheet_0 : decode cX6_sheet 0 = .ok (.iload_n 1, 1) := by decide +kernel
theorem dX6_sheet_1 : decode cX6_sheet 1 = .ok (.invokestatic 212, 3) := by decide +kernel
theorem dX6_sheet_4 : decode cX6_sheet 4 = .ok (.ifCond .eq 12, 3) := by decide +kernel
theorem dX6_sheet_7 : decode cX6_sheet 7 = .ok (.iload_n 2, 1) := by decide +kernel
theorem dX6_sheet_8 : decode cX6_sheet 8 = .ok (.iconst (-1), 1) := by decide +kernel
theorem dX6_sheet_9 : decode cX6_sheet 9 = .ok (.iconst 1, 1) := by decide +kernel
theorem dX6_sheet_10 : decode cX6_sheet 10 = .ok (.invokestatic 153, 3) := by decide +kernel
theorem dX6_sheet_13 : decode cX6_sheet 13 = .ok (.ifCond .ne 6, 3) := by decide +kernel
theorem dX6_sheet_16 : decode cX6_sheet 16 = .ok (.ldc 87, 2) := by decide +kernel
theorem dX6_sheet_18 : decode cX6_sheet 18 = .ok (.ireturn, 1) := by decide +kernel
theorem dX6_sheet_19 : decode cX6_sheet 19 = .ok (.iload_n 2, 1) := by decide +kernel
theorem dX6_sheet_20 : decode cX6_sheet 20 = .ok (.iconst (-1), 1) := by decide +kernel
theorem dX6_sheet_21 : decode cX6_sheet 21 = .ok (.if_icmp .ne 16, 3) := by decide +kernel
theorem dX6_sheet_24 : decode cX6_sheet 24 = .ok (.aload_n 0, 1) := by decide +kernel
theorem dX6_sheet_25 : decode cX6_sheet 25 = .ok (.getfield 30, 3) := by decide +kernel
theorem dX6_sheet_28 : decode cX6_sheet 28 = .ok (.iload_n 1, 1) := by decide +kernel
theorem dX6_sheet_29 : decode cX6_sheet 29 = .ok (.aaload, 1) := by decide +kernel
theorem dX6_sheet_30 : decode cX6_sheet 30 = .ok (.iconst (-1), 1) := by decide +kernel
theorem dX6_sheet_31 : decode cX6_sheet 31 = .ok (.iconst 0, 1) := by decide +kernel
theorem dX6_sheet_32 : decode cX6_sheet 32 = .ok (.invokevirtual 247, 3) := by decide +kernel
theorem dX6_sheet_35 : decode cX6_sheet 35 = .ok (.iconst 0, 1) := by decide +kernel
theorem dX6_sheet_36 : decode cX6_sheet 36 = .ok (.ireturn, 1) := by decide +kernel
theorem dX6_sheet_37 : decode cX6_sheet 37 = .ok (.iload_n 3, 1) := by decide +kernel
theorem dX6_sheet_38 : decode cX6_sheet 38 = .ok (.bipush 24, 2) := by decide +kernel
theorem dX6_sheet_40 : decode cX6_sheet 40 = .ok (.if_icmp .le 6, 3) := by decide +kernel
theorem dX6_sheet_43 : decode cX6_sheet 43 = .ok (.ldc 87, 2) := by decide +kernel
theorem dX6_sheet_45 : decode cX6_sheet 45 = .ok (.ireturn, 1) := by decide +kernel
theorem dX6_sheet_46 : decode cX6_sheet 46 = .ok (.iload_n 3, 1) := by decide +kernel
theorem dX6_sheet_47 : decode cX6_sheet 47 = .ok (.ifCond .ge 6, 3) := by decide +kernel
theorem dX6_sheet_50 : decode cX6_sheet 50 = .ok (.ldc 250, 2) := by decide +kernel
theorem dX6_sheet_52 : decode cX6_sheet 52 = .ok (.ireturn, 1) := by decide +kernel
theorem dX6_sheet_53 : decode cX6_sheet 53 = .ok (.aload_n 0, 1) := by decide +kernel
theorem dX6_sheet_54 : decode cX6_sheet 54 = .ok (.getfield 30, 3) := by decide +kernel
theorem dX6_sheet_57 : decode cX6_sheet 57 = .ok (.iload_n 1, 1) := by decide +kernel
theorem dX6_sheet_58 : decode cX6_sheet 58 = .ok (.aaload, 1) := by decide +kernel
theorem dX6_sheet_59 : decode cX6_sheet 59 = .ok (.iload_n 2, 1) := by decide +kernel
theorem dX6_sheet_60 : decode cX6_sheet 60 = .ok (.iload_n 3, 1) := by decide +kernel
theorem dX6_sheet_61 : decode cX6_sheet 61 = .ok (.invokevirtual 247, 3) := by decide +kernel
theorem dX6_sheet_64 : decode cX6_sheet 64 = .ok (.iload_n 3, 1) := by decide +kernel
theorem dX6_sheet_65 : decode cX6_sheet 65 = .ok (.ireturn, 1) := by decide +kernel
theorem dX6_mark_0 : decode cX6_mark 0 = .ok (.iload_n 1, 1) := by decide +kernel
theorem dX6_mark_1 : decode cX6_mark 1 = .ok (.invokestatic 212, 3) := by decide +kernel
theorem dX6_mark_4 : decode cX6_mark 4 = .ok (.ifCond .ne 6, 3) := by decide +kernel
theorem dX6_mark_7 : decode cX6_mark 7 = .ok (.ldc 87, 2) := by decide +kernel
theorem dX6_mark_9 : decode cX6_mark 9 = .ok (.ireturn, 1) := by decide +kernel
theorem dX6_mark_10 : decode cX6_mark 10 = .ok (.aload_n 0, 1) := by decide +kernel
theorem dX6_mark_11 : decode cX6_mark 11 = .ok (.getfield 30, 3) := by decide +kernel
theorem dX6_mark_14 : decode cX6_mark 14 = .ok (.iload_n 1, 1) := by decide +kernel
theorem dX6_mark_15 : decode cX6_mark 15 = .ok (.aaload, 1) := by decide +kernel
theorem dX6_mark_16 : decode cX6_mark 16 = .ok (.astore 4, 2) := by decide +kernel
theorem dX6_mark_18 : decode cX6_mark 18 = .ok (.aload 4, 2) := by decide +kernel
theorem dX6_mark_20 : decode cX6_mark 20 = .ok (.invokevirtual 215, 3) := by decide +kernel
theorem dX6_mark_23 : decode cX6_mark 23 = .ok (.ifCond .eq 6, 3) := by decide +kernel
theorem dX6_mark_26 : decode cX6_mark 26 = .ok (.ldc 219, 2) := by decide +kernel
theorem dX6_mark_28 : decode cX6_mark 28 = .ok (.ireturn, 1) := by decide +kernel
theorem dX6_mark_29 : decode cX6_mark 29 = .ok (.aload 4, 2) := by decide +kernel
theorem dX6_mark_31 : decode cX6_mark 31 = .ok (.iload_n 2, 1) := by decide +kernel
theorem dX6_mark_32 : decode cX6_mark 32 = .ok (.invokevirtual 251, 3) := by decide +kernel
theorem dX6_mark_35 : decode cX6_mark 35 = .ok (.ifCond .ne 6, 3) := by decide +kernel
theorem dX6_mark_38 : decode cX6_mark 38 = .ok (.ldc 254, 2) := by decide +kernel
theorem dX6_mark_40 : decode cX6_mark 40 = .ok (.ireturn, 1) := by decide +kernel
theorem dX6_mark_41 : decode cX6_mark 41 = .ok (.aload 4, 2) := by decide +kernel
theorem dX6_mark_43 : decode cX6_mark 43 = .ok (.getfield 255, 3) := by decide +kernel
theorem dX6_mark_46 : decode cX6_mark 46 = .ok (.ifCond .ne 23, 3) := by decide +kernel
theorem dX6_mark_49 : decode cX6_mark 49 = .ok (.iload_n 3, 1) := by decide +kernel
theorem dX6_mark_50 : decode cX6_mark 50 = .ok (.ldc 211, 2) := by decide +kernel
theorem dX6_mark_52 : decode cX6_mark 52 = .ok (.if_icmp .ne 6, 3) := by decide +kernel
theorem dX6_mark_55 : decode cX6_mark 55 = .ok (.ldc 136, 2) := by decide +kernel
theorem dX6_mark_57 : decode cX6_mark 57 = .ok (.ireturn, 1) := by decide +kernel
theorem dX6_mark_58 : decode cX6_mark 58 = .ok (.aload 4, 2) := by decide +kernel
theorem dX6_mark_60 : decode cX6_mark 60 = .ok (.getfield 258, 3) := by decide +kernel
theorem dX6_mark_63 : decode cX6_mark 63 = .ok (.iload_n 2, 1) := by decide +kernel
theorem dX6_mark_64 : decode cX6_mark 64 = .ok (.iload_n 3, 1) := by decide +kernel
theorem dX6_mark_65 : decode cX6_mark 65 = .ok (.i2s, 1) := by decide +kernel
theorem dX6_mark_66 : decode cX6_mark 66 = .ok (.iastore, 1) := by decide +kernel
theorem dX6_mark_67 : decode cX6_mark 67 = .ok (.iconst 1, 1) := by decide +kernel
theorem dX6_mark_68 : decode cX6_mark 68 = .ok (.ireturn, 1) := by decide +kernel
theorem dX6_mark_69 : decode cX6_mark 69 = .ok (.iload_n 3, 1) := by decide +kernel
theorem dX6_mark_70 : decode cX6_mark 70 = .ok (.ldc 211, 2) := by decide +kernel
theorem dX6_mark_72 : decode cX6_mark 72 = .ok (.if_icmp .eq 18, 3) := by decide +kernel
theorem dX6_mark_75 : decode cX6_mark 75 = .ok (.iload_n 3, 1) := by decide +kernel
theorem dX6_mark_76 : decode cX6_mark 76 = .ok (.ldc_w 261, 3) := by decide +kernel
theorem dX6_mark_79 : decode cX6_mark 79 = .ok (.ldc 207, 2) := by decide +kernel
theorem dX6_mark_81 : decode cX6_mark 81 = .ok (.invokestatic 153, 3) := by decide +kernel
theorem dX6_mark_84 : decode cX6_mark 84 = .ok (.ifCond .ne 6, 3) := by decide +kernel
theorem dX6_mark_87 : decode cX6_mark 87 = .ok (.ldc 87, 2) := by decide +kernel
theorem dX6_mark_89 : decode cX6_mark 89 = .ok (.ireturn, 1) := by decide +kernel
theorem dX6_mark_90 : decode cX6_mark 90 = .ok (.aload 4, 2) := by decide +kernel
theorem dX6_mark_92 : decode cX6_mark 92 = .ok (.getfield 258, 3) := by decide +kernel
theorem dX6_mark_95 : decode cX6_mark 95 = .ok (.iload_n 2, 1) := by decide +kernel
theorem dX6_mark_96 : decode cX6_mark 96 = .ok (.iload_n 3, 1) := by decide +kernel
theorem dX6_mark_97 : decode cX6_mark 97 = .ok (.iastore, 1) := by decide +kernel
theorem dX6_mark_98 : decode cX6_mark 98 = .ok (.iconst 1, 1) := by decide +kernel
theorem dX6_mark_99 : decode cX6_mark 99 = .ok (.ireturn, 1) := by decide +kernel
theorem dX6_pour_0 : decode cX6_pour 0 = .ok (.iload_n 1, 1) := by decide +kernel
theorem dX6_pour_1 : decode cX6_pour 1 = .ok (.invokestatic 212, 3) := by decide +kernel
theorem dX6_pour_4 : decode cX6_pour 4 = .ok (.ifCond .ne 6, 3) := by decide +kernel
theorem dX6_pour_7 : decode cX6_pour 7 = .ok (.ldc 87, 2) := by decide +kernel
theorem dX6_pour_9 : decode cX6_pour 9 = .ok (.ireturn, 1) := by decide +kernel
theorem dX6_pour_10 : decode cX6_pour 10 = .ok (.aload_n 0, 1) := by decide +kernel
theorem dX6_pour_11 : decode cX6_pour 11 = .ok (.getfield 30, 3) := by decide +kernel
theorem dX6_pour_14 : decode cX6_pour 14 = .ok (.iload_n 1, 1) := by decide +kernel
theorem dX6_pour_15 : decode cX6_pour 15 = .ok (.aaload, 1) := by decide +kernel
theorem dX6_pour_16 : decode cX6_pour 16 = .ok (.astore_n 2, 1) := by decide +kernel
theorem dX6_pour_17 : decode cX6_pour 17 = .ok (.aload_n 2, 1) := by decide +kernel
theorem dX6_pour_18 : decode cX6_pour 18 = .ok (.invokevirtual 215, 3) := by decide +kernel
theorem dX6_pour_21 : decode cX6_pour 21 = .ok (.ifCond .eq 6, 3) := by decide +kernel
theorem dX6_pour_24 : decode cX6_pour 24 = .ok (.ldc 219, 2) := by decide +kernel
theorem dX6_pour_26 : decode cX6_pour 26 = .ok (.ireturn, 1) := by decide +kernel
theorem dX6_pour_27 : decode cX6_pour 27 = .ok (.iconst 0, 1) := by decide +kernel
theorem dX6_pour_28 : decode cX6_pour 28 = .ok (.istore_n 3, 1) := by decide +kernel
theorem dX6_pour_29 : decode cX6_pour 29 = .ok (.iconst 0, 1) := by decide +kernel
theorem dX6_pour_30 : decode cX6_pour 30 = .ok (.istore 4, 2) := by decide +kernel
theorem dX6_pour_32 : decode cX6_pour 32 = .ok (.iload 4, 2) := by decide +kernel
theorem dX6_pour_34 : decode cX6_pour 34 = .ok (.bipush 24, 2) := by decide +kernel
theorem dX6_pour_36 : decode cX6_pour 36 = .ok (.if_icmp .ge 76, 3) := by decide +kernel
theorem dX6_pour_39 : decode cX6_pour 39 = .ok (.aload_n 2, 1) := by decide +kernel
theorem dX6_pour_40 : decode cX6_pour 40 = .ok (.iload 4, 2) := by decide +kernel
theorem dX6_pour_42 : decode cX6_pour 42 = .ok (.invokevirtual 262, 3) := by decide +kernel
theorem dX6_pour_45 : decode cX6_pour 45 = .ok (.ifCond .eq 61, 3) := by decide +kernel
theorem dX6_pour_48 : decode cX6_pour 48 = .ok (.aload_n 0, 1) := by decide +kernel
theorem dX6_pour_49 : decode cX6_pour 49 = .ok (.getfield 59, 3) := by decide +kernel
theorem dX6_pour_52 : decode cX6_pour 52 = .ok (.getfield 150, 3) := by decide +kernel
theorem dX6_pour_55 : decode cX6_pour 55 = .ok (.iload 4, 2) := by decide +kernel
theorem dX6_pour_57 : decode cX6_pour 57 = .ok (.iaload, 1) := by decide +kernel
theorem dX6_pour_58 : decode cX6_pour 58 = .ok (.istore 5, 2) := by decide +kernel
theorem dX6_pour_60 : decode cX6_pour 60 = .ok (.aload_n 0, 1) := by decide +kernel
theorem dX6_pour_61 : decode cX6_pour 61 = .ok (.getfield 59, 3) := by decide +kernel
theorem dX6_pour_64 : decode cX6_pour 64 = .ok (.getfield 150, 3) := by decide +kernel
theorem dX6_pour_67 : decode cX6_pour 67 = .ok (.iload 4, 2) := by decide +kernel
theorem dX6_pour_69 : decode cX6_pour 69 = .ok (.aload_n 2, 1) := by decide +kernel
theorem dX6_pour_70 : decode cX6_pour 70 = .ok (.getfield 258, 3) := by decide +kernel
theorem dX6_pour_73 : decode cX6_pour 73 = .ok (.iload 4, 2) := by decide +kernel
theorem dX6_pour_75 : decode cX6_pour 75 = .ok (.iaload, 1) := by decide +kernel
theorem dX6_pour_76 : decode cX6_pour 76 = .ok (.iconst 0, 1) := by decide +kernel
theorem dX6_pour_77 : decode cX6_pour 77 = .ok (.bipush 99, 2) := by decide +kernel
theorem dX6_pour_79 : decode cX6_pour 79 = .ok (.invokestatic 265, 3) := by decide +kernel
theorem dX6_pour_82 : decode cX6_pour 82 = .ok (.iastore, 1) := by decide +kernel
theorem dX6_pour_83 : decode cX6_pour 83 = .ok (.iload_n 3, 1) := by decide +kernel
theorem dX6_pour_84 : decode cX6_pour 84 = .ok (.aload_n 0, 1) := by decide +kernel
theorem dX6_pour_85 : decode cX6_pour 85 = .ok (.getfield 59, 3) := by decide +kernel
theorem dX6_pour_88 : decode cX6_pour 88 = .ok (.getfield 150, 3) := by decide +kernel
theorem dX6_pour_91 : decode cX6_pour 91 = .ok (.iload 4, 2) := by decide +kernel
theorem dX6_pour_93 : decode cX6_pour 93 = .ok (.iaload, 1) := by decide +kernel
theorem dX6_pour_94 : decode cX6_pour 94 = .ok (.iload 5, 2) := by decide +kernel
theorem dX6_pour_96 : decode cX6_pour 96 = .ok (.if_icmp .ne 7, 3) := by decide +kernel
theorem dX6_pour_99 : decode cX6_pour 99 = .ok (.iconst 0, 1) := by decide +kernel
theorem dX6_pour_100 : decode cX6_pour 100 = .ok (.goto 4, 3) := by decide +kernel
theorem dX6_pour_103 : decode cX6_pour 103 = .ok (.iconst 1, 1) := by decide +kernel
theorem dX6_pour_104 : decode cX6_pour 104 = .ok (.iadd, 1) := by decide +kernel
theorem dX6_pour_105 : decode cX6_pour 105 = .ok (.istore_n 3, 1) := by decide +kernel
theorem dX6_pour_106 : decode cX6_pour 106 = .ok (.iinc 4 1, 3) := by decide +kernel
theorem dX6_pour_109 : decode cX6_pour 109 = .ok (.goto (-77), 3) := by decide +kernel
theorem dX6_pour_112 : decode cX6_pour 112 = .ok (.iload_n 3, 1) := by decide +kernel
theorem dX6_pour_113 : decode cX6_pour 113 = .ok (.ireturn, 1) := by decide +kernel
theorem dX6_reads_0 : decode cX6_reads 0 = .ok (.aload_n 0, 1) := by decide +kernel
theorem dX6_reads_1 : decode cX6_reads 1 = .ok (.getfield 59, 3) := by decide +kernel
theorem dX6_reads_4 : decode cX6_reads 4 = .ok (.iload_n 2, 1) := by decide +kernel
theorem dX6_reads_5 : decode cX6_reads 5 = .ok (.invokevirtual 100, 3) := by decide +kernel
theorem dX6_reads_8 : decode cX6_reads 8 = .ok (.astore_n 3, 1) := by decide +kernel
theorem dX6_reads_9 : decode cX6_reads 9 = .ok (.iload_n 1, 1) := by decide +kernel
theorem dX6_reads_10 : decode cX6_reads 10 = .ok (.invokestatic 212, 3) := by decide +kernel
theorem dX6_reads_13 : decode cX6_reads 13 = .ok (.ifCond .eq 7, 3) := by decide +kernel
theorem dX6_reads_16 : decode cX6_reads 16 = .ok (.aload_n 3, 1) := by decide +kernel
theorem dX6_reads_17 : decode cX6_reads 17 = .ok (.ifnonnull 6, 3) := by decide +kernel
theorem dX6_reads_20 : decode cX6_reads 20 = .ok (.ldc 87, 2) := by decide +kernel
theorem dX6_reads_22 : decode cX6_reads 22 = .ok (.ireturn, 1) := by decide +kernel
theorem dX6_reads_23 : decode cX6_reads 23 = .ok (.aload_n 0, 1) := by decide +kernel
theorem dX6_reads_24 : decode cX6_reads 24 = .ok (.getfield 30, 3) := by decide +kernel
theorem dX6_reads_27 : decode cX6_reads 27 = .ok (.iload_n 1, 1) := by decide +kernel
theorem dX6_reads_28 : decode cX6_reads 28 = .ok (.aaload, 1) := by decide +kernel
theorem dX6_reads_29 : decode cX6_reads 29 = .ok (.astore 4, 2) := by decide +kernel
theorem dX6_reads_31 : decode cX6_reads 31 = .ok (.aload 4, 2) := by decide +kernel
theorem dX6_reads_33 : decode cX6_reads 33 = .ok (.invokevirtual 215, 3) := by decide +kernel
theorem dX6_reads_36 : decode cX6_reads 36 = .ok (.ifCond .eq 6, 3) := by decide +kernel
theorem dX6_reads_39 : decode cX6_reads 39 = .ok (.ldc 219, 2) := by decide +kernel
theorem dX6_reads_41 : decode cX6_reads 41 = .ok (.ireturn, 1) := by decide +kernel
theorem dX6_reads_42 : decode cX6_reads 42 = .ok (.iconst 0, 1) := by decide +kernel
theorem dX6_reads_43 : decode cX6_reads 43 = .ok (.istore 5, 2) := by decide +kernel
theorem dX6_reads_45 : decode cX6_reads 45 = .ok (.iload 5, 2) := by decide +kernel
theorem dX6_reads_47 : decode cX6_reads 47 = .ok (.bipush 24, 2) := by decide +kernel
theorem dX6_reads_49 : decode cX6_reads 49 = .ok (.if_icmp .ge 47, 3) := by decide +kernel
theorem dX6_reads_52 : decode cX6_reads 52 = .ok (.aload 4, 2) := by decide +kernel
theorem dX6_reads_54 : decode cX6_reads 54 = .ok (.iload 5, 2) := by decide +kernel
theorem dX6_reads_56 : decode cX6_reads 56 = .ok (.invokevirtual 262, 3) := by decide +kernel
theorem dX6_reads_59 : decode cX6_reads 59 = .ok (.ifCond .eq 31, 3) := by decide +kernel
theorem dX6_reads_62 : decode cX6_reads 62 = .ok (.aload 4, 2) := by decide +kernel
theorem dX6_reads_64 : decode cX6_reads 64 = .ok (.getfield 258, 3) := by decide +kernel
theorem dX6_reads_67 : decode cX6_reads 67 = .ok (.iload 5, 2) := by decide +kernel
theorem dX6_reads_69 : decode cX6_reads 69 = .ok (.iaload, 1) := by decide +kernel
theorem dX6_reads_70 : decode cX6_reads 70 = .ok (.aload_n 3, 1) := by decide +kernel
theorem dX6_reads_71 : decode cX6_reads 71 = .ok (.aload_n 0, 1) := by decide +kernel
theorem dX6_reads_72 : decode cX6_reads 72 = .ok (.getfield 59, 3) := by decide +kernel
theorem dX6_reads_75 : decode cX6_reads 75 = .ok (.getfield 150, 3) := by decide +kernel
theorem dX6_reads_78 : decode cX6_reads 78 = .ok (.iload 5, 2) := by decide +kernel
theorem dX6_reads_80 : decode cX6_reads 80 = .ok (.iaload, 1) := by decide +kernel
theorem dX6_reads_81 : decode cX6_reads 81 = .ok (.invokevirtual 170, 3) := by decide +kernel
theorem dX6_reads_84 : decode cX6_reads 84 = .ok (.if_icmp .eq 6, 3) := by decide +kernel
theorem dX6_reads_87 : decode cX6_reads 87 = .ok (.iload 5, 2) := by decide +kernel
theorem dX6_reads_89 : decode cX6_reads 89 = .ok (.ireturn, 1) := by decide +kernel
theorem dX6_reads_90 : decode cX6_reads 90 = .ok (.iinc 5 1, 3) := by decide +kernel
theorem dX6_reads_93 : decode cX6_reads 93 = .ok (.goto (-48), 3) := by decide +kernel
theorem dX6_reads_96 : decode cX6_reads 96 = .ok (.ldc 211, 2) := by decide +kernel
theorem dX6_reads_98 : decode cX6_reads 98 = .ok (.ireturn, 1) := by decide +kernel
theorem dX6_copy_0 : decode cX6_copy 0 = .ok (.iload_n 1, 1) := by decide +kernel
theorem dX6_copy_1 : decode cX6_copy 1 = .ok (.invokestatic 212, 3) := by decide +kernel
theorem dX6_copy_4 : decode cX6_copy 4 = .ok (.ifCond .eq 10, 3) := by decide +kernel
theorem dX6_copy_7 : decode cX6_copy 7 = .ok (.iload_n 3, 1) := by decide +kernel
theorem dX6_copy_8 : decode cX6_copy 8 = .ok (.invokestatic 212, 3) := by decide +kernel
theorem dX6_copy_11 : decode cX6_copy 11 = .ok (.ifCond .ne 6, 3) := by decide +kernel
theorem dX6_copy_14 : decode cX6_copy 14 = .ok (.ldc 87, 2) := by decide +kernel
theorem dX6_copy_16 : decode cX6_copy 16 = .ok (.ireturn, 1) := by decide +kernel
theorem dX6_copy_17 : decode cX6_copy 17 = .ok (.aload_n 0, 1) := by decide +kernel
theorem dX6_copy_18 : decode cX6_copy 18 = .ok (.getfield 30, 3) := by decide +kernel
theorem dX6_copy_21 : decode cX6_copy 21 = .ok (.iload_n 1, 1) := by decide +kernel
theorem dX6_copy_22 : decode cX6_copy 22 = .ok (.aaload, 1) := by decide +kernel
theorem dX6_copy_23 : decode cX6_copy 23 = .ok (.astore 6, 2) := by decide +kernel
theorem dX6_copy_25 : decode cX6_copy 25 = .ok (.aload_n 0, 1) := by decide +kernel
theorem dX6_copy_26 : decode cX6_copy 26 = .ok (.getfield 30, 3) := by decide +kernel
theorem dX6_copy_29 : decode cX6_copy 29 = .ok (.iload_n 3, 1) := by decide +kernel
theorem dX6_copy_30 : decode cX6_copy 30 = .ok (.aaload, 1) := by decide +kernel
theorem dX6_copy_31 : decode cX6_copy 31 = .ok (.astore 7, 2) := by decide +kernel
theorem dX6_copy_33 : decode cX6_copy 33 = .ok (.aload 6, 2) := by decide +kernel
theorem dX6_copy_35 : decode cX6_copy 35 = .ok (.invokevirtual 215, 3) := by decide +kernel
theorem dX6_copy_38 : decode cX6_copy 38 = .ok (.ifCond .ne 11, 3) := by decide +kernel
theorem dX6_copy_41 : decode cX6_copy 41 = .ok (.aload 7, 2) := by decide +kernel
theorem dX6_copy_43 : decode cX6_copy 43 = .ok (.invokevirtual 215, 3) := by decide +kernel
theorem dX6_copy_46 : decode cX6_copy 46 = .ok (.ifCond .eq 6, 3) := by decide +kernel
theorem dX6_copy_49 : decode cX6_copy 49 = .ok (.ldc 219, 2) := by decide +kernel
theorem dX6_copy_51 : decode cX6_copy 51 = .ok (.ireturn, 1) := by decide +kernel
theorem dX6_copy_52 : decode cX6_copy 52 = .ok (.aload 6, 2) := by decide +kernel
theorem dX6_copy_54 : decode cX6_copy 54 = .ok (.getfield 255, 3) := by decide +kernel
theorem dX6_copy_57 : decode cX6_copy 57 = .ok (.aload 7, 2) := by decide +kernel
theorem dX6_copy_59 : decode cX6_copy 59 = .ok (.getfield 255, 3) := by decide +kernel
theorem dX6_copy_62 : decode cX6_copy 62 = .ok (.if_icmp .eq 6, 3) := by decide +kernel
theorem dX6_copy_65 : decode cX6_copy 65 = .ok (.ldc 136, 2) := by decide +kernel
theorem dX6_copy_67 : decode cX6_copy 67 = .ok (.ireturn, 1) := by decide +kernel
theorem dX6_copy_68 : decode cX6_copy 68 = .ok (.aload 6, 2) := by decide +kernel
theorem dX6_copy_70 : decode cX6_copy 70 = .ok (.iload_n 2, 1) := by decide +kernel
theorem dX6_copy_71 : decode cX6_copy 71 = .ok (.iload 5, 2) := by decide +kernel
theorem dX6_copy_73 : decode cX6_copy 73 = .ok (.invokevirtual 269, 3) := by decide +kernel
theorem dX6_copy_76 : decode cX6_copy 76 = .ok (.ifCond .eq 15, 3) := by decide +kernel
theorem dX6_copy_79 : decode cX6_copy 79 = .ok (.aload 7, 2) := by decide +kernel
theorem dX6_copy_81 : decode cX6_copy 81 = .ok (.iload 4, 2) := by decide +kernel
theorem dX6_copy_83 : decode cX6_copy 83 = .ok (.iload 5, 2) := by decide +kernel
theorem dX6_copy_85 : decode cX6_copy 85 = .ok (.invokevirtual 269, 3) := by decide +kernel
theorem dX6_copy_88 : decode cX6_copy 88 = .ok (.ifCond .ne 6, 3) := by decide +kernel
theorem dX6_copy_91 : decode cX6_copy 91 = .ok (.ldc 254, 2) := by decide +kernel
theorem dX6_copy_93 : decode cX6_copy 93 = .ok (.ireturn, 1) := by decide +kernel
theorem dX6_copy_94 : decode cX6_copy 94 = .ok (.aload 6, 2) := by decide +kernel
theorem dX6_copy_96 : decode cX6_copy 96 = .ok (.getfield 258, 3) := by decide +kernel
theorem dX6_copy_99 : decode cX6_copy 99 = .ok (.iload_n 2, 1) := by decide +kernel
theorem dX6_copy_100 : decode cX6_copy 100 = .ok (.aload 7, 2) := by decide +kernel
theorem dX6_copy_102 : decode cX6_copy 102 = .ok (.getfield 258, 3) := by decide +kernel
theorem dX6_copy_105 : decode cX6_copy 105 = .ok (.iload 4, 2) := by decide +kernel
theorem dX6_copy_107 : decode cX6_copy 107 = .ok (.iload 5, 2) := by decide +kernel
theorem dX6_copy_109 : decode cX6_copy 109 = .ok (.invokestatic 272, 3) := by decide +kernel
theorem dX6_copy_112 : decode cX6_copy 112 = .ok (.iload 5, 2) := by decide +kernel
theorem dX6_copy_114 : decode cX6_copy 114 = .ok (.ireturn, 1) := by decide +kernel
theorem dX6_lay_0 : decode cX6_lay 0 = .ok (.iload_n 1, 1) := by decide +kernel
theorem dX6_lay_1 : decode cX6_lay 1 = .ok (.invokestatic 278, 3) := by decide +kernel
theorem dX6_lay_4 : decode cX6_lay 4 = .ok (.ifCond .eq 12, 3) := by decide +kernel
theorem dX6_lay_7 : decode cX6_lay 7 = .ok (.iload_n 2, 1) := by decide +kernel
theorem dX6_lay_8 : decode cX6_lay 8 = .ok (.iconst 0, 1) := by decide +kernel
theorem dX6_lay_9 : decode cX6_lay 9 = .ok (.iconst 3, 1) := by decide +kernel
theorem dX6_lay_10 : decode cX6_lay 10 = .ok (.invokestatic 153, 3) := by decide +kernel
theorem dX6_lay_13 : decode cX6_lay 13 = .ok (.ifCond .ne 6, 3) := by decide +kernel
theorem dX6_lay_16 : decode cX6_lay 16 = .ok (.ldc 87, 2) := by decide +kernel
theorem dX6_lay_18 : decode cX6_lay 18 = .ok (.ireturn, 1) := by decide +kernel
theorem dX6_lay_19 : decode cX6_lay 19 = .ok (.iload_n 2, 1) := by decide +kernel
theorem dX6_lay_20 : decode cX6_lay 20 = .ok (.iconst 1, 1) := by decide +kernel
theorem dX6_lay_21 : decode cX6_lay 21 = .ok (.if_icmp .ne 14, 3) := by decide +kernel
theorem dX6_lay_24 : decode cX6_lay 24 = .ok (.aload_n 0, 1) := by decide +kernel
theorem dX6_lay_25 : decode cX6_lay 25 = .ok (.getfield 59, 3) := by decide +kernel
theorem dX6_lay_28 : decode cX6_lay 28 = .ok (.iload_n 3, 1) := by decide +kernel
theorem dX6_lay_29 : decode cX6_lay 29 = .ok (.invokevirtual 100, 3) := by decide +kernel
theorem dX6_lay_32 : decode cX6_lay 32 = .ok (.ifnull 15, 3) := by decide +kernel
theorem dX6_lay_35 : decode cX6_lay 35 = .ok (.iload_n 2, 1) := by decide +kernel
theorem dX6_lay_36 : decode cX6_lay 36 = .ok (.iconst 2, 1) := by decide +kernel
theorem dX6_lay_37 : decode cX6_lay 37 = .ok (.if_icmp .ne 13, 3) := by decide +kernel
theorem dX6_lay_40 : decode cX6_lay 40 = .ok (.iload_n 3, 1) := by decide +kernel
theorem dX6_lay_41 : decode cX6_lay 41 = .ok (.invokestatic 212, 3) := by decide +kernel
theorem dX6_lay_44 : decode cX6_lay 44 = .ok (.ifCond .ne 6, 3) := by decide +kernel
theorem dX6_lay_47 : decode cX6_lay 47 = .ok (.ldc 87, 2) := by decide +kernel
theorem dX6_lay_49 : decode cX6_lay 49 = .ok (.ireturn, 1) := by decide +kernel
theorem dX6_lay_50 : decode cX6_lay 50 = .ok (.iload_n 2, 1) := by decide +kernel
theorem dX6_lay_51 : decode cX6_lay 51 = .ok (.iconst 2, 1) := by decide +kernel
theorem dX6_lay_52 : decode cX6_lay 52 = .ok (.if_icmp .ne 18, 3) := by decide +kernel
theorem dX6_lay_55 : decode cX6_lay 55 = .ok (.aload_n 0, 1) := by decide +kernel
theorem dX6_lay_56 : decode cX6_lay 56 = .ok (.getfield 30, 3) := by decide +kernel
theorem dX6_lay_59 : decode cX6_lay 59 = .ok (.iload_n 3, 1) := by decide +kernel
theorem dX6_lay_60 : decode cX6_lay 60 = .ok (.aaload, 1) := by decide +kernel
theorem dX6_lay_61 : decode cX6_lay 61 = .ok (.invokevirtual 215, 3) := by decide +kernel
theorem dX6_lay_64 : decode cX6_lay 64 = .ok (.ifCond .eq 6, 3) := by decide +kernel
theorem dX6_lay_67 : decode cX6_lay 67 = .ok (.ldc 219, 2) := by decide +kernel
theorem dX6_lay_69 : decode cX6_lay 69 = .ok (.ireturn, 1) := by decide +kernel
theorem dX6_lay_70 : decode cX6_lay 70 = .ok (.aload_n 0, 1) := by decide +kernel
theorem dX6_lay_71 : decode cX6_lay 71 = .ok (.getfield 36, 3) := by decide +kernel
theorem dX6_lay_74 : decode cX6_lay 74 = .ok (.iload_n 1, 1) := by decide +kernel
theorem dX6_lay_75 : decode cX6_lay 75 = .ok (.aaload, 1) := by decide +kernel
theorem dX6_lay_76 : decode cX6_lay 76 = .ok (.astore 4, 2) := by decide +kernel
theorem dX6_lay_78 : decode cX6_lay 78 = .ok (.aload 4, 2) := by decide +kernel
theorem dX6_lay_80 : decode cX6_lay 80 = .ok (.getfield 281, 3) := by decide +kernel
theorem dX6_lay_83 : decode cX6_lay 83 = .ok (.istore 5, 2) := by decide +kernel
theorem dX6_lay_85 : decode cX6_lay 85 = .ok (.aload 4, 2) := by decide +kernel
theorem dX6_lay_87 : decode cX6_lay 87 = .ok (.iload_n 2, 1) := by decide +kernel
theorem dX6_lay_88 : decode cX6_lay 88 = .ok (.putfield 281, 3) := by decide +kernel
theorem dX6_lay_91 : decode cX6_lay 91 = .ok (.iload_n 2, 1) := by decide +kernel
theorem dX6_lay_92 : decode cX6_lay 92 = .ok (.iconst 1, 1) := by decide +kernel
theorem dX6_lay_93 : decode cX6_lay 93 = .ok (.if_icmp .ne 23, 3) := by decide +kernel
theorem dX6_lay_96 : decode cX6_lay 96 = .ok (.aload 4, 2) := by decide +kernel
theorem dX6_lay_98 : decode cX6_lay 98 = .ok (.getfield 284, 3) := by decide +kernel
theorem dX6_lay_101 : decode cX6_lay 101 = .ok (.aload_n 0, 1) := by decide +kernel
theorem dX6_lay_102 : decode cX6_lay 102 = .ok (.getfield 59, 3) := by decide +kernel
theorem dX6_lay_105 : decode cX6_lay 105 = .ok (.getfield 92, 3) := by decide +kernel
theorem dX6_lay_108 : decode cX6_lay 108 = .ok (.iload_n 3, 1) := by decide +kernel
theorem dX6_lay_109 : decode cX6_lay 109 = .ok (.aaload, 1) := by decide +kernel
theorem dX6_lay_110 : decode cX6_lay 110 = .ok (.invokevirtual 196, 3) := by decide +kernel
theorem dX6_lay_113 : decode cX6_lay 113 = .ok (.goto 36, 3) := by decide +kernel
theorem dX6_lay_116 : decode cX6_lay 116 = .ok (.iload_n 2, 1) := by decide +kernel
theorem dX6_lay_117 : decode cX6_lay 117 = .ok (.iconst 2, 1) := by decide +kernel
theorem dX6_lay_118 : decode cX6_lay 118 = .ok (.if_icmp .ne 20, 3) := by decide +kernel
theorem dX6_lay_121 : decode cX6_lay 121 = .ok (.aload 4, 2) := by decide +kernel
theorem dX6_lay_123 : decode cX6_lay 123 = .ok (.getfield 287, 3) := by decide +kernel
theorem dX6_lay_126 : decode cX6_lay 126 = .ok (.aload_n 0, 1) := by decide +kernel
theorem dX6_lay_127 : decode cX6_lay 127 = .ok (.getfield 30, 3) := by decide +kernel
theorem dX6_lay_130 : decode cX6_lay 130 = .ok (.iload_n 3, 1) := by decide +kernel
theorem dX6_lay_131 : decode cX6_lay 131 = .ok (.aaload, 1) := by decide +kernel
theorem dX6_lay_132 : decode cX6_lay 132 = .ok (.invokevirtual 291, 3) := by decide +kernel
theorem dX6_lay_135 : decode cX6_lay 135 = .ok (.goto 14, 3) := by decide +kernel
theorem dX6_lay_138 : decode cX6_lay 138 = .ok (.iload_n 2, 1) := by decide +kernel
theorem dX6_lay_139 : decode cX6_lay 139 = .ok (.iconst 3, 1) := by decide +kernel
theorem dX6_lay_140 : decode cX6_lay 140 = .ok (.if_icmp .ne 9, 3) := by decide +kernel
theorem dX6_lay_143 : decode cX6_lay 143 = .ok (.aload 4, 2) := by decide +kernel
theorem dX6_lay_145 : decode cX6_lay 145 = .ok (.iload_n 3, 1) := by decide +kernel
theorem dX6_lay_146 : decode cX6_lay 146 = .ok (.putfield 294, 3) := by decide +kernel
theorem dX6_lay_149 : decode cX6_lay 149 = .ok (.iload 5, 2) := by decide +kernel
theorem dX6_lay_151 : decode cX6_lay 151 = .ok (.ireturn, 1) := by decide +kernel
theorem dX6_ask_0 : decode cX6_ask 0 = .ok (.iload_n 1, 1) := by decide +kernel
theorem dX6_ask_1 : decode cX6_ask 1 = .ok (.invokestatic 278, 3) := by decide +kernel
theorem dX6_ask_4 : decode cX6_ask 4 = .ok (.ifCond .eq 10, 3) := by decide +kernel
theorem dX6_ask_7 : decode cX6_ask 7 = .ok (.iload_n 2, 1) := by decide +kernel
theorem dX6_ask_8 : decode cX6_ask 8 = .ok (.invokestatic 77, 3) := by decide +kernel
theorem dX6_ask_11 : decode cX6_ask 11 = .ok (.ifCond .ne 6, 3) := by decide +kernel
theorem dX6_ask_14 : decode cX6_ask 14 = .ok (.ldc 87, 2) := by decide +kernel
theorem dX6_ask_16 : decode cX6_ask 16 = .ok (.ireturn, 1) := by decide +kernel
theorem dX6_ask_17 : decode cX6_ask 17 = .ok (.aload_n 0, 1) := by decide +kernel
theorem dX6_ask_18 : decode cX6_ask 18 = .ok (.getfield 36, 3) := by decide +kernel
theorem dX6_ask_21 : decode cX6_ask 21 = .ok (.iload_n 1, 1) := by decide +kernel
theorem dX6_ask_22 : decode cX6_ask 22 = .ok (.aaload, 1) := by decide +kernel
theorem dX6_ask_23 : decode cX6_ask 23 = .ok (.astore_n 3, 1) := by decide +kernel
theorem dX6_ask_24 : decode cX6_ask 24 = .ok (.aload_n 3, 1) := by decide +kernel
theorem dX6_ask_25 : decode cX6_ask 25 = .ok (.iconst 1, 1) := by decide +kernel
theorem dX6_ask_26 : decode cX6_ask 26 = .ok (.invokevirtual 297, 3) := by decide +kernel
theorem dX6_ask_29 : decode cX6_ask 29 = .ok (.istore 4, 2) := by decide +kernel
theorem dX6_ask_31 : decode cX6_ask 31 = .ok (.iload 4, 2) := by decide +kernel
theorem dX6_ask_33 : decode cX6_ask 33 = .ok (.ifCond .eq 6, 3) := by decide +kernel
theorem dX6_ask_36 : decode cX6_ask 36 = .ok (.iload 4, 2) := by decide +kernel
theorem dX6_ask_38 : decode cX6_ask 38 = .ok (.ireturn, 1) := by decide +kernel
theorem dX6_ask_39 : decode cX6_ask 39 = .ok (.aload_n 3, 1) := by decide +kernel
theorem dX6_ask_40 : decode cX6_ask 40 = .ok (.getfield 284, 3) := by decide +kernel
theorem dX6_ask_43 : decode cX6_ask 43 = .ok (.getfield 104, 3) := by decide +kernel
theorem dX6_ask_46 : decode cX6_ask 46 = .ok (.iload_n 2, 1) := by decide +kernel
theorem dX6_ask_47 : decode cX6_ask 47 = .ok (.invokestatic 132, 3) := by decide +kernel
theorem dX6_ask_50 : decode cX6_ask 50 = .ok (.ifCond .eq 13, 3) := by decide +kernel
theorem dX6_ask_53 : decode cX6_ask 53 = .ok (.aload_n 3, 1) := by decide +kernel
theorem dX6_ask_54 : decode cX6_ask 54 = .ok (.getfield 284, 3) := by decide +kernel
theorem dX6_ask_57 : decode cX6_ask 57 = .ok (.invokevirtual 129, 3) := by decide +kernel
theorem dX6_ask_60 : decode cX6_ask 60 = .ok (.goto 5, 3) := by decide +kernel
theorem dX6_ask_63 : decode cX6_ask 63 = .ok (.ldc 136, 2) := by decide +kernel
theorem dX6_ask_65 : decode cX6_ask 65 = .ok (.ireturn, 1) := by decide +kernel
theorem dX6_item_0 : decode cX6_item 0 = .ok (.iload_n 1, 1) := by decide +kernel
theorem dX6_item_1 : decode cX6_item 1 = .ok (.invokestatic 278, 3) := by decide +kernel
theorem dX6_item_4 : decode cX6_item 4 = .ok (.ifCond .ne 6, 3) := by decide +kernel
theorem dX6_item_7 : decode cX6_item 7 = .ok (.ldc 87, 2) := by decide +kernel
theorem dX6_item_9 : decode cX6_item 9 = .ok (.ireturn, 1) := by decide +kernel
theorem dX6_item_10 : decode cX6_item 10 = .ok (.aload_n 0, 1) := by decide +kernel
theorem dX6_item_11 : decode cX6_item 11 = .ok (.getfield 36, 3) := by decide +kernel
theorem dX6_item_14 : decode cX6_item 14 = .ok (.iload_n 1, 1) := by decide +kernel
theorem dX6_item_15 : decode cX6_item 15 = .ok (.aaload, 1) := by decide +kernel
theorem dX6_item_16 : decode cX6_item 16 = .ok (.astore_n 3, 1) := by decide +kernel
theorem dX6_item_17 : decode cX6_item 17 = .ok (.aload_n 3, 1) := by decide +kernel
theorem dX6_item_18 : decode cX6_item 18 = .ok (.iconst 2, 1) := by decide +kernel
theorem dX6_item_19 : decode cX6_item 19 = .ok (.invokevirtual 297, 3) := by decide +kernel
theorem dX6_item_22 : decode cX6_item 22 = .ok (.istore 4, 2) := by decide +kernel
theorem dX6_item_24 : decode cX6_item 24 = .ok (.iload 4, 2) := by decide +kernel
theorem dX6_item_26 : decode cX6_item 26 = .ok (.ifCond .eq 6, 3) := by decide +kernel
theorem dX6_item_29 : decode cX6_item 29 = .ok (.iload 4, 2) := by decide +kernel
theorem dX6_item_31 : decode cX6_item 31 = .ok (.ireturn, 1) := by decide +kernel
theorem dX6_item_32 : decode cX6_item 32 = .ok (.aload_n 3, 1) := by decide +kernel
theorem dX6_item_33 : decode cX6_item 33 = .ok (.getfield 287, 3) := by decide +kernel
theorem dX6_item_36 : decode cX6_item 36 = .ok (.iload_n 2, 1) := by decide +kernel
theorem dX6_item_37 : decode cX6_item 37 = .ok (.invokevirtual 251, 3) := by decide +kernel
theorem dX6_item_40 : decode cX6_item 40 = .ok (.ifCond .ne 6, 3) := by decide +kernel
theorem dX6_item_43 : decode cX6_item 43 = .ok (.ldc 254, 2) := by decide +kernel
theorem dX6_item_45 : decode cX6_item 45 = .ok (.ireturn, 1) := by decide +kernel
theorem dX6_item_46 : decode cX6_item 46 = .ok (.aload_n 3, 1) := by decide +kernel
theorem dX6_item_47 : decode cX6_item 47 = .ok (.getfield 287, 3) := by decide +kernel
theorem dX6_item_50 : decode cX6_item 50 = .ok (.iload_n 2, 1) := by decide +kernel
theorem dX6_item_51 : decode cX6_item 51 = .ok (.invokevirtual 262, 3) := by decide +kernel
theorem dX6_item_54 : decode cX6_item 54 = .ok (.ifCond .eq 15, 3) := by decide +kernel
theorem dX6_item_57 : decode cX6_item 57 = .ok (.aload_n 3, 1) := by decide +kernel
theorem dX6_item_58 : decode cX6_item 58 = .ok (.getfield 287, 3) := by decide +kernel
theorem dX6_item_61 : decode cX6_item 61 = .ok (.getfield 258, 3) := by decide +kernel
theorem dX6_item_64 : decode cX6_item 64 = .ok (.iload_n 2, 1) := by decide +kernel
theorem dX6_item_65 : decode cX6_item 65 = .ok (.iaload, 1) := by decide +kernel
theorem dX6_item_66 : decode cX6_item 66 = .ok (.goto 5, 3) := by decide +kernel
theorem dX6_item_69 : decode cX6_item 69 = .ok (.ldc 136, 2) := by decide +kernel
theorem dX6_item_71 : decode cX6_item 71 = .ok (.ireturn, 1) := by decide +kernel
theorem dX6_rest_0 : decode cX6_rest 0 = .ok (.iload_n 1, 1) := by decide +kernel
theorem dX6_rest_1 : decode cX6_rest 1 = .ok (.invokestatic 278, 3) := by decide +kernel
theorem dX6_rest_4 : decode cX6_rest 4 = .ok (.ifCond .ne 6, 3) := by decide +kernel
theorem dX6_rest_7 : decode cX6_rest 7 = .ok (.ldc 87, 2) := by decide +kernel
theorem dX6_rest_9 : decode cX6_rest 9 = .ok (.ireturn, 1) := by decide +kernel
theorem dX6_rest_10 : decode cX6_rest 10 = .ok (.aload_n 0, 1) := by decide +kernel
theorem dX6_rest_11 : decode cX6_rest 11 = .ok (.getfield 36, 3) := by decide +kernel
theorem dX6_rest_14 : decode cX6_rest 14 = .ok (.iload_n 1, 1) := by decide +kernel
theorem dX6_rest_15 : decode cX6_rest 15 = .ok (.aaload, 1) := by decide +kernel
theorem dX6_rest_16 : decode cX6_rest 16 = .ok (.astore_n 3, 1) := by decide +kernel
theorem dX6_rest_17 : decode cX6_rest 17 = .ok (.aload_n 3, 1) := by decide +kernel
theorem dX6_rest_18 : decode cX6_rest 18 = .ok (.iconst 3, 1) := by decide +kernel
theorem dX6_rest_19 : decode cX6_rest 19 = .ok (.invokevirtual 297, 3) := by decide +kernel
theorem dX6_rest_22 : decode cX6_rest 22 = .ok (.istore 4, 2) := by decide +kernel
theorem dX6_rest_24 : decode cX6_rest 24 = .ok (.iload 4, 2) := by decide +kernel
theorem dX6_rest_26 : decode cX6_rest 26 = .ok (.ifCond .eq 6, 3) := by decide +kernel
theorem dX6_rest_29 : decode cX6_rest 29 = .ok (.iload 4, 2) := by decide +kernel
theorem dX6_rest_31 : decode cX6_rest 31 = .ok (.ireturn, 1) := by decide +kernel
theorem dX6_rest_32 : decode cX6_rest 32 = .ok (.iload_n 2, 1) := by decide +kernel
theorem dX6_rest_33 : decode cX6_rest 33 = .ok (.ifCond .ne 9, 3) := by decide +kernel
theorem dX6_rest_36 : decode cX6_rest 36 = .ok (.ldc_w 300, 3) := by decide +kernel
theorem dX6_rest_39 : decode cX6_rest 39 = .ok (.goto 9, 3) := by decide +kernel
theorem dX6_rest_42 : decode cX6_rest 42 = .ok (.aload_n 3, 1) := by decide +kernel
theorem dX6_rest_43 : decode cX6_rest 43 = .ok (.getfield 294, 3) := by decide +kernel
theorem dX6_rest_46 : decode cX6_rest 46 = .ok (.iload_n 2, 1) := by decide +kernel
theorem dX6_rest_47 : decode cX6_rest 47 = .ok (.irem, 1) := by decide +kernel
theorem dX6_rest_48 : decode cX6_rest 48 = .ok (.ireturn, 1) := by decide +kernel
theorem dX6_tell_0 : decode cX6_tell 0 = .ok (.aload_n 0, 1) := by decide +kernel
theorem dX6_tell_1 : decode cX6_tell 1 = .ok (.getfield 44, 3) := by decide +kernel
theorem dX6_tell_4 : decode cX6_tell 4 = .ok (.bipush 60, 2) := by decide +kernel
theorem dX6_tell_6 : decode cX6_tell 6 = .ok (.if_icmp .lt 6, 3) := by decide +kernel
theorem dX6_tell_9 : decode cX6_tell 9 = .ok (.ldc 91, 2) := by decide +kernel
theorem dX6_tell_11 : decode cX6_tell 11 = .ok (.ireturn, 1) := by decide +kernel
theorem dX6_tell_12 : decode cX6_tell 12 = .ok (.aload_n 0, 1) := by decide +kernel
theorem dX6_tell_13 : decode cX6_tell 13 = .ok (.getfield 40, 3) := by decide +kernel
theorem dX6_tell_16 : decode cX6_tell 16 = .ok (.aload_n 0, 1) := by decide +kernel
theorem dX6_tell_17 : decode cX6_tell 17 = .ok (.getfield 44, 3) := by decide +kernel
theorem dX6_tell_20 : decode cX6_tell 20 = .ok (.iload_n 1, 1) := by decide +kernel
theorem dX6_tell_21 : decode cX6_tell 21 = .ok (.iastore, 1) := by decide +kernel
theorem dX6_tell_22 : decode cX6_tell 22 = .ok (.aload_n 0, 1) := by decide +kernel
theorem dX6_tell_23 : decode cX6_tell 23 = .ok (.dup, 1) := by decide +kernel
theorem dX6_tell_24 : decode cX6_tell 24 = .ok (.getfield 44, 3) := by decide +kernel
theorem dX6_tell_27 : decode cX6_tell 27 = .ok (.iconst 1, 1) := by decide +kernel
theorem dX6_tell_28 : decode cX6_tell 28 = .ok (.iadd, 1) := by decide +kernel
theorem dX6_tell_29 : decode cX6_tell 29 = .ok (.putfield 44, 3) := by decide +kernel
theorem dX6_tell_32 : decode cX6_tell 32 = .ok (.aload_n 0, 1) := by decide +kernel
theorem dX6_tell_33 : decode cX6_tell 33 = .ok (.getfield 44, 3) := by decide +kernel
theorem dX6_tell_36 : decode cX6_tell 36 = .ok (.ireturn, 1) := by decide +kernel
theorem dX6_check_0 : decode cX6_check 0 = .ok (.aload_n 0, 1) := by decide +kernel
theorem dX6_check_1 : decode cX6_check 1 = .ok (.getfield 44, 3) := by decide +kernel
theorem dX6_check_4 : decode cX6_check 4 = .ok (.istore_n 3, 1) := by decide +kernel
theorem dX6_check_5 : decode cX6_check 5 = .ok (.aload_n 0, 1) := by decide +kernel
theorem dX6_check_6 : decode cX6_check 6 = .ok (.iconst 0, 1) := by decide +kernel
theorem dX6_check_7 : decode cX6_check 7 = .ok (.putfield 44, 3) := by decide +kernel
theorem dX6_check_10 : decode cX6_check 10 = .ok (.iload_n 2, 1) := by decide +kernel
theorem dX6_check_11 : decode cX6_check 11 = .ok (.iconst 1, 1) := by decide +kernel
theorem dX6_check_12 : decode cX6_check 12 = .ok (.bipush 30, 2) := by decide +kernel
theorem dX6_check_14 : decode cX6_check 14 = .ok (.invokestatic 153, 3) := by decide +kernel
theorem dX6_check_17 : decode cX6_check 17 = .ok (.ifCond .ne 6, 3) := by decide +kernel
theorem dX6_check_20 : decode cX6_check 20 = .ok (.ldc 87, 2) := by decide +kernel
theorem dX6_check_22 : decode cX6_check 22 = .ok (.ireturn, 1) := by decide +kernel
theorem dX6_check_23 : decode cX6_check 23 = .ok (.aload_n 0, 1) := by decide +kernel
theorem dX6_check_24 : decode cX6_check 24 = .ok (.getfield 7, 3) := by decide +kernel
theorem dX6_check_27 : decode cX6_check 27 = .ok (.ifCond .ne 7, 3) := by decide +kernel
theorem dX6_check_30 : decode cX6_check 30 = .ok (.ldc_w 300, 3) := by decide +kernel
theorem dX6_check_33 : decode cX6_check 33 = .ok (.ireturn, 1) := by decide +kernel
theorem dX6_check_34 : decode cX6_check 34 = .ok (.aload_n 0, 1) := by decide +kernel
theorem dX6_check_35 : decode cX6_check 35 = .ok (.getfield 63, 3) := by decide +kernel
theorem dX6_check_38 : decode cX6_check 38 = .ok (.iload_n 1, 1) := by decide +kernel
theorem dX6_check_39 : decode cX6_check 39 = .ok (.invokevirtual 100, 3) := by decide +kernel
theorem dX6_check_42 : decode cX6_check 42 = .ok (.astore 4, 2) := by decide +kernel
theorem dX6_check_44 : decode cX6_check 44 = .ok (.aload 4, 2) := by decide +kernel
theorem dX6_check_46 : decode cX6_check 46 = .ok (.ifnonnull 6, 3) := by decide +kernel
theorem dX6_check_49 : decode cX6_check 49 = .ok (.ldc 87, 2) := by decide +kernel
theorem dX6_check_51 : decode cX6_check 51 = .ok (.ireturn, 1) := by decide +kernel
theorem dX6_check_52 : decode cX6_check 52 = .ok (.aload_n 0, 1) := by decide +kernel
theorem dX6_check_53 : decode cX6_check 53 = .ok (.getfield 16, 3) := by decide +kernel
theorem dX6_check_56 : decode cX6_check 56 = .ok (.aload 4, 2) := by decide +kernel
theorem dX6_check_58 : decode cX6_check 58 = .ok (.invokevirtual 196, 3) := by decide +kernel
theorem dX6_check_61 : decode cX6_check 61 = .ok (.aload_n 0, 1) := by decide +kernel
theorem dX6_check_62 : decode cX6_check 62 = .ok (.iload_n 2, 1) := by decide +kernel
theorem dX6_check_63 : decode cX6_check 63 = .ok (.iload_n 3, 1) := by decide +kernel
theorem dX6_check_64 : decode cX6_check 64 = .ok (.invokevirtual 301, 3) := by decide +kernel
theorem dX6_check_67 : decode cX6_check 67 = .ok (.istore 5, 2) := by decide +kernel
theorem dX6_check_69 : decode cX6_check 69 = .ok (.iload 5, 2) := by decide +kernel
theorem dX6_check_71 : decode cX6_check 71 = .ok (.iload_n 3, 1) := by decide +kernel
theorem dX6_check_72 : decode cX6_check 72 = .ok (.if_icmp .ne 15, 3) := by decide +kernel
theorem dX6_check_75 : decode cX6_check 75 = .ok (.iload 5, 2) := by decide +kernel
theorem dX6_check_77 : decode cX6_check 77 = .ok (.iconst 2, 1) := by decide +kernel
theorem dX6_check_78 : decode cX6_check 78 = .ok (.iload_n 2, 1) := by decide +kernel
theorem dX6_check_79 : decode cX6_check 79 = .ok (.imul, 1) := by decide +kernel
theorem dX6_check_80 : decode cX6_check 80 = .ok (.if_icmp .ne 7, 3) := by decide +kernel
theorem dX6_check_83 : decode cX6_check 83 = .ok (.iconst 0, 1) := by decide +kernel
theorem dX6_check_84 : decode cX6_check 84 = .ok (.goto 7, 3) := by decide +kernel
theorem dX6_check_87 : decode cX6_check 87 = .ok (.iconst 1, 1) := by decide +kernel
theorem dX6_check_88 : decode cX6_check 88 = .ok (.iload 5, 2) := by decide +kernel
theorem dX6_check_90 : decode cX6_check 90 = .ok (.iadd, 1) := by decide +kernel
theorem dX6_check_91 : decode cX6_check 91 = .ok (.ireturn, 1) := by decide +kernel
theorem dX6_keep_0 : decode cX6_keep 0 = .ok (.aload_n 0, 1) := by decide +kernel
theorem dX6_keep_1 : decode cX6_keep 1 = .ok (.getfield 63, 3) := by decide +kernel
theorem dX6_keep_4 : decode cX6_keep 4 = .ok (.aload_n 0, 1) := by decide +kernel
theorem dX6_keep_5 : decode cX6_keep 5 = .ok (.getfield 59, 3) := by decide +kernel
theorem dX6_keep_8 : decode cX6_keep 8 = .ok (.invokevirtual 304, 3) := by decide +kernel
theorem dX6_keep_11 : decode cX6_keep 11 = .ok (.aload_n 0, 1) := by decide +kernel
theorem dX6_keep_12 : decode cX6_keep 12 = .ok (.iconst 1, 1) := by decide +kernel
theorem dX6_keep_13 : decode cX6_keep 13 = .ok (.putfield 7, 3) := by decide +kernel
theorem dX6_keep_16 : decode cX6_keep 16 = .ok (.aload_n 0, 1) := by decide +kernel
theorem dX6_keep_17 : decode cX6_keep 17 = .ok (.getfield 63, 3) := by decide +kernel
theorem dX6_keep_20 : decode cX6_keep 20 = .ok (.getfield 88, 3) := by decide +kernel
theorem dX6_keep_23 : decode cX6_keep 23 = .ok (.ireturn, 1) := by decide +kernel
theorem dX6_back_0 : decode cX6_back 0 = .ok (.aload_n 0, 1) := by decide +kernel
theorem dX6_back_1 : decode cX6_back 1 = .ok (.getfield 7, 3) := by decide +kernel
theorem dX6_back_4 : decode cX6_back 4 = .ok (.ifCond .ne 7, 3) := by decide +kernel
theorem dX6_back_7 : decode cX6_back 7 = .ok (.ldc_w 300, 3) := by decide +kernel
theorem dX6_back_10 : decode cX6_back 10 = .ok (.ireturn, 1) := by decide +kernel
theorem dX6_back_11 : decode cX6_back 11 = .ok (.aload_n 0, 1) := by decide +kernel
theorem dX6_back_12 : decode cX6_back 12 = .ok (.getfield 59, 3) := by decide +kernel
theorem dX6_back_15 : decode cX6_back 15 = .ok (.aload_n 0, 1) := by decide +kernel
theorem dX6_back_16 : decode cX6_back 16 = .ok (.getfield 63, 3) := by decide +kernel
theorem dX6_back_19 : decode cX6_back 19 = .ok (.invokevirtual 304, 3) := by decide +kernel
theorem dX6_back_22 : decode cX6_back 22 = .ok (.aload_n 0, 1) := by decide +kernel
theorem dX6_back_23 : decode cX6_back 23 = .ok (.getfield 59, 3) := by decide +kernel
theorem dX6_back_26 : decode cX6_back 26 = .ok (.getfield 88, 3) := by decide +kernel
theorem dX6_back_29 : decode cX6_back 29 = .ok (.ireturn, 1) := by decide +kernel
theorem dX6_count_0 : decode cX6_count 0 = .ok (.iload_n 1, 1) := by decide +kernel
theorem dX6_count_1 : decode cX6_count 1 = .ok (.tableswitch 105 0 7 #[47, 55, 63, 71, 79, 87, 92, 97], 47) := by decide +kernel
theorem dX6_count_48 : decode cX6_count 48 = .ok (.aload_n 0, 1) := by decide +kernel
theorem dX6_count_49 : decode cX6_count 49 = .ok (.getfield 59, 3) := by decide +kernel
theorem dX6_count_52 : decode cX6_count 52 = .ok (.getfield 88, 3) := by decide +kernel
theorem dX6_count_55 : decode cX6_count 55 = .ok (.ireturn, 1) := by decide +kernel
theorem dX6_count_56 : decode cX6_count 56 = .ok (.aload_n 0, 1) := by decide +kernel
theorem dX6_count_57 : decode cX6_count 57 = .ok (.getfield 59, 3) := by decide +kernel
theorem dX6_count_60 : decode cX6_count 60 = .ok (.invokevirtual 307, 3) := by decide +kernel
theorem dX6_count_63 : decode cX6_count 63 = .ok (.ireturn, 1) := by decide +kernel
theorem dX6_count_64 : decode cX6_count 64 = .ok (.aload_n 0, 1) := by decide +kernel
theorem dX6_count_65 : decode cX6_count 65 = .ok (.getfield 59, 3) := by decide +kernel
theorem dX6_count_68 : decode cX6_count 68 = .ok (.getfield 193, 3) := by decide +kernel
theorem dX6_count_71 : decode cX6_count 71 = .ok (.ireturn, 1) := by decide +kernel
theorem dX6_count_72 : decode cX6_count 72 = .ok (.aload_n 0, 1) := by decide +kernel
theorem dX6_count_73 : decode cX6_count 73 = .ok (.getfield 59, 3) := by decide +kernel
theorem dX6_count_76 : decode cX6_count 76 = .ok (.getfield 157, 3) := by decide +kernel
theorem dX6_count_79 : decode cX6_count 79 = .ok (.ireturn, 1) := by decide +kernel
theorem dX6_count_80 : decode cX6_count 80 = .ok (.aload_n 0, 1) := by decide +kernel
theorem dX6_count_81 : decode cX6_count 81 = .ok (.getfield 59, 3) := by decide +kernel
theorem dX6_count_84 : decode cX6_count 84 = .ok (.getfield 228, 3) := by decide +kernel
theorem dX6_count_87 : decode cX6_count 87 = .ok (.ireturn, 1) := by decide +kernel
theorem dX6_count_88 : decode cX6_count 88 = .ok (.aload_n 0, 1) := by decide +kernel
theorem dX6_count_89 : decode cX6_count 89 = .ok (.getfield 44, 3) := by decide +kernel
theorem dX6_count_92 : decode cX6_count 92 = .ok (.ireturn, 1) := by decide +kernel
theorem dX6_count_93 : decode cX6_count 93 = .ok (.aload_n 0, 1) := by decide +kernel
theorem dX6_count_94 : decode cX6_count 94 = .ok (.getfield 24, 3) := by decide +kernel
theorem dX6_count_97 : decode cX6_count 97 = .ok (.ireturn, 1) := by decide +kernel
theorem dX6_count_98 : decode cX6_count 98 = .ok (.aload_n 0, 1) := by decide +kernel
theorem dX6_count_99 : decode cX6_count 99 = .ok (.getfield 59, 3) := by decide +kernel
theorem dX6_count_102 : decode cX6_count 102 = .ok (.getfield 164, 3) := by decide +kernel
theorem dX6_count_105 : decode cX6_count 105 = .ok (.ireturn, 1) := by decide +kernel
theorem dX6_count_106 : decode cX6_count 106 = .ok (.ldc 87, 2) := by decide +kernel
theorem dX6_count_108 : decode cX6_count 108 = .ok (.ireturn, 1) := by decide +kernel
theorem dX6_isWithin_0 : decode cX6_isWithin 0 = .ok (.iload_n 0, 1) := by decide +kernel
theorem dX6_isWithin_1 : decode cX6_isWithin 1 = .ok (.iload_n 1, 1) := by decide +kernel
theorem dX6_isWithin_2 : decode cX6_isWithin 2 = .ok (.if_icmp .lt 12, 3) := by decide +kernel
theorem dX6_isWithin_5 : decode cX6_isWithin 5 = .ok (.iload_n 0, 1) := by decide +kernel
theorem dX6_isWithin_6 : decode cX6_isWithin 6 = .ok (.iload_n 2, 1) := by decide +kernel
theorem dX6_isWithin_7 : decode cX6_isWithin 7 = .ok (.if_icmp .gt 7, 3) := by decide +kernel
theorem dX6_isWithin_10 : decode cX6_isWithin 10 = .ok (.iconst 1, 1) := by decide +kernel
theorem dX6_isWithin_11 : decode cX6_isWithin 11 = .ok (.goto 4, 3) := by decide +kernel
theorem dX6_isWithin_14 : decode cX6_isWithin 14 = .ok (.iconst 0, 1) := by decide +kernel
theorem dX6_isWithin_15 : decode cX6_isWithin 15 = .ok (.ireturn, 1) := by decide +kernel
theorem dX6_within_0 : decode cX6_within 0 = .ok (.iload_n 1, 1) := by decide +kernel
theorem dX6_within_1 : decode cX6_within 1 = .ok (.iload_n 2, 1) := by decide +kernel
theorem dX6_within_2 : decode cX6_within 2 = .ok (.iload_n 0, 1) := by decide +kernel
theorem dX6_within_3 : decode cX6_within 3 = .ok (.invokestatic 310, 3) := by decide +kernel
theorem dX6_within_6 : decode cX6_within 6 = .ok (.invokestatic 315, 3) := by decide +kernel
theorem dX6_within_9 : decode cX6_within 9 = .ok (.ireturn, 1) := by decide +kernel
theorem dX6_isKind_0 : decode cX6_isKind 0 = .ok (.iload_n 0, 1) := by decide +kernel
theorem dX6_isKind_1 : decode cX6_isKind 1 = .ok (.iconst 0, 1) := by decide +kernel
theorem dX6_isKind_2 : decode cX6_isKind 2 = .ok (.iconst 5, 1) := by decide +kernel
theorem dX6_isKind_3 : decode cX6_isKind 3 = .ok (.invokestatic 153, 3) := by decide +kernel
theorem dX6_isKind_6 : decode cX6_isKind 6 = .ok (.ireturn, 1) := by decide +kernel
theorem dX6_isThick_0 : decode cX6_isThick 0 = .ok (.iload_n 0, 1) := by decide +kernel
theorem dX6_isThick_1 : decode cX6_isThick 1 = .ok (.iconst 1, 1) := by decide +kernel
theorem dX6_isThick_2 : decode cX6_isThick 2 = .ok (.bipush 9, 2) := by decide +kernel
theorem dX6_isThick_4 : decode cX6_isThick 4 = .ok (.invokestatic 153, 3) := by decide +kernel
theorem dX6_isThick_7 : decode cX6_isThick 7 = .ok (.ireturn, 1) := by decide +kernel
theorem dX6_isOwn_0 : decode cX6_isOwn 0 = .ok (.iload_n 0, 1) := by decide +kernel
theorem dX6_isOwn_1 : decode cX6_isOwn 1 = .ok (.iconst 1, 1) := by decide +kernel
theorem dX6_isOwn_2 : decode cX6_isOwn 2 = .ok (.sipush 999, 3) := by decide +kernel
theorem dX6_isOwn_5 : decode cX6_isOwn 5 = .ok (.invokestatic 153, 3) := by decide +kernel
theorem dX6_isOwn_8 : decode cX6_isOwn 8 = .ok (.ireturn, 1) := by decide +kernel
theorem dX6_isHour_0 : decode cX6_isHour 0 = .ok (.iload_n 0, 1) := by decide +kernel
theorem dX6_isHour_1 : decode cX6_isHour 1 = .ok (.iconst 0, 1) := by decide +kernel
theorem dX6_isHour_2 : decode cX6_isHour 2 = .ok (.bipush 23, 2) := by decide +kernel
theorem dX6_isHour_4 : decode cX6_isHour 4 = .ok (.invokestatic 153, 3) := by decide +kernel
theorem dX6_isHour_7 : decode cX6_isHour 7 = .ok (.ireturn, 1) := by decide +kernel
theorem dX6_isWind_0 : decode cX6_isWind 0 = .ok (.iload_n 0, 1) := by decide +kernel
theorem dX6_isWind_1 : decode cX6_isWind 1 = .ok (.iconst 0, 1) := by decide +kernel
theorem dX6_isWind_2 : decode cX6_isWind 2 = .ok (.bipush 99, 2) := by decide +kernel
theorem dX6_isWind_4 : decode cX6_isWind 4 = .ok (.invokestatic 153, 3) := by decide +kernel
theorem dX6_isWind_7 : decode cX6_isWind 7 = .ok (.ireturn, 1) := by decide +kernel
theorem dX6_isSheet_0 : decode cX6_isSheet 0 = .ok (.iload_n 0, 1) := by decide +kernel
theorem dX6_isSheet_1 : decode cX6_isSheet 1 = .ok (.iconst 0, 1) := by decide +kernel
theorem dX6_isSheet_2 : decode cX6_isSheet 2 = .ok (.iconst 3, 1) := by decide +kernel
theorem dX6_isSheet_3 : decode cX6_isSheet 3 = .ok (.invokestatic 153, 3) := by decide +kernel
theorem dX6_isSheet_6 : decode cX6_isSheet 6 = .ok (.ireturn, 1) := by decide +kernel
theorem dX6_isSlot_0 : decode cX6_isSlot 0 = .ok (.iload_n 0, 1) := by decide +kernel
theorem dX6_isSlot_1 : decode cX6_isSlot 1 = .ok (.iconst 0, 1) := by decide +kernel
theorem dX6_isSlot_2 : decode cX6_isSlot 2 = .ok (.iconst 4, 1) := by decide +kernel
theorem dX6_isSlot_3 : decode cX6_isSlot 3 = .ok (.invokestatic 153, 3) := by decide +kernel
theorem dX6_isSlot_6 : decode cX6_isSlot 6 = .ok (.ireturn, 1) := by decide +kernel
theorem dX6_canBeSet_0 : decode cX6_canBeSet 0 = .ok (.iload_n 0, 1) := by decide +kernel
theorem dX6_canBeSet_1 : decode cX6_canBeSet 1 = .ok (.tableswitch 58 1 4 #[31, 36, 41, 49], 31) := by decide +kernel
theorem dX6_canBeSet_32 : decode cX6_canBeSet 32 = .ok (.iload_n 1, 1) := by decide +kernel
theorem dX6_canBeSet_33 : decode cX6_canBeSet 33 = .ok (.invokestatic 81, 3) := by decide +kernel
theorem dX6_canBeSet_36 : decode cX6_canBeSet 36 = .ok (.ireturn, 1) := by decide +kernel
theorem dX6_canBeSet_37 : decode cX6_canBeSet 37 = .ok (.iload_n 1, 1) := by decide +kernel
theorem dX6_canBeSet_38 : decode cX6_canBeSet 38 = .ok (.invokestatic 84, 3) := by decide +kernel
theorem dX6_canBeSet_41 : decode cX6_canBeSet 41 = .ok (.ireturn, 1) := by decide +kernel
theorem dX6_canBeSet_42 : decode cX6_canBeSet 42 = .ok (.iload_n 1, 1) := by decide +kernel
theorem dX6_canBeSet_43 : decode cX6_canBeSet 43 = .ok (.iconst 0, 1) := by decide +kernel
theorem dX6_canBeSet_44 : decode cX6_canBeSet 44 = .ok (.bipush 9, 2) := by decide +kernel
theorem dX6_canBeSet_46 : decode cX6_canBeSet 46 = .ok (.invokestatic 153, 3) := by decide +kernel
theorem dX6_canBeSet_49 : decode cX6_canBeSet 49 = .ok (.ireturn, 1) := by decide +kernel
theorem dX6_canBeSet_50 : decode cX6_canBeSet 50 = .ok (.iload_n 1, 1) := by decide +kernel
theorem dX6_canBeSet_51 : decode cX6_canBeSet 51 = .ok (.iconst 0, 1) := by decide +kernel
theorem dX6_canBeSet_52 : decode cX6_canBeSet 52 = .ok (.sipush 9999, 3) := by decide +kernel
theorem dX6_canBeSet_55 : decode cX6_canBeSet 55 = .ok (.invokestatic 153, 3) := by decide +kernel
theorem dX6_canBeSet_58 : decode cX6_canBeSet 58 = .ok (.ireturn, 1) := by decide +kernel
theorem dX6_canBeSet_59 : decode cX6_canBeSet 59 = .ok (.iconst 0, 1) := by decide +kernel
theorem dX6_canBeSet_60 : decode cX6_canBeSet 60 = .ok (.ireturn, 1) := by decide +kernel
theorem dX6_isOfKind_0 : decode cX6_isOfKind 0 = .ok (.iload_n 0, 1) := by decide +kernel
theorem dX6_isOfKind_1 : decode cX6_isOfKind 1 = .ok (.istore_n 2, 1) := by decide +kernel
theorem dX6_isOfKind_2 : decode cX6_isOfKind 2 = .ok (.iconst 0, 1) := by decide +kernel
theorem dX6_isOfKind_3 : decode cX6_isOfKind 3 = .ok (.istore_n 3, 1) := by decide +kernel
theorem dX6_isOfKind_4 : decode cX6_isOfKind 4 = .ok (.iload_n 3, 1) := by decide +kernel
theorem dX6_isOfKind_5 : decode cX6_isOfKind 5 = .ok (.bipush 6, 2) := by decide +kernel
theorem dX6_isOfKind_7 : decode cX6_isOfKind 7 = .ok (.if_icmp .ge 29, 3) := by decide +kernel
theorem dX6_isOfKind_10 : decode cX6_isOfKind 10 = .ok (.iload_n 2, 1) := by decide +kernel
theorem dX6_isOfKind_11 : decode cX6_isOfKind 11 = .ok (.invokestatic 77, 3) := by decide +kernel
theorem dX6_isOfKind_14 : decode cX6_isOfKind 14 = .ok (.ifCond .eq 22, 3) := by decide +kernel
theorem dX6_isOfKind_17 : decode cX6_isOfKind 17 = .ok (.iload_n 2, 1) := by decide +kernel
theorem dX6_isOfKind_18 : decode cX6_isOfKind 18 = .ok (.iload_n 1, 1) := by decide +kernel
theorem dX6_isOfKind_19 : decode cX6_isOfKind 19 = .ok (.if_icmp .ne 5, 3) := by decide +kernel
theorem dX6_isOfKind_22 : decode cX6_isOfKind 22 = .ok (.iconst 1, 1) := by decide +kernel
theorem dX6_isOfKind_23 : decode cX6_isOfKind 23 = .ok (.ireturn, 1) := by decide +kernel
theorem dX6_isOfKind_24 : decode cX6_isOfKind 24 = .ok (.getstatic 318, 3) := by decide +kernel
theorem dX6_isOfKind_27 : decode cX6_isOfKind 27 = .ok (.iload_n 2, 1) := by decide +kernel
theorem dX6_isOfKind_28 : decode cX6_isOfKind 28 = .ok (.iaload, 1) := by decide +kernel
theorem dX6_isOfKind_29 : decode cX6_isOfKind 29 = .ok (.istore_n 2, 1) := by decide +kernel
theorem dX6_isOfKind_30 : decode cX6_isOfKind 30 = .ok (.iinc 3 1, 3) := by decide +kernel
theorem dX6_isOfKind_33 : decode cX6_isOfKind 33 = .ok (.goto (-29), 3) := by decide +kernel
theorem dX6_isOfKind_36 : decode cX6_isOfKind 36 = .ok (.iconst 0, 1) := by decide +kernel
theorem dX6_isOfKind_37 : decode cX6_isOfKind 37 = .ok (.ireturn, 1) := by decide +kernel
theorem dX6_thinkLine_0 : decode cX6_thinkLine 0 = .ok (.iconst 0, 1) := by decide +kernel
theorem dX6_thinkLine_1 : decode cX6_thinkLine 1 = .ok (.istore_n 3, 1) := by decide +kernel
theorem dX6_thinkLine_2 : decode cX6_thinkLine 2 = .ok (.iconst 0, 1) := by decide +kernel
theorem dX6_thinkLine_3 : decode cX6_thinkLine 3 = .ok (.istore 4, 2) := by decide +kernel
theorem dX6_thinkLine_5 : decode cX6_thinkLine 5 = .ok (.iload 4, 2) := by decide +kernel
theorem dX6_thinkLine_7 : decode cX6_thinkLine 7 = .ok (.bipush 99, 2) := by decide +kernel
theorem dX6_thinkLine_9 : decode cX6_thinkLine 9 = .ok (.if_icmp .gt 79, 3) := by decide +kernel
theorem dX6_thinkLine_12 : decode cX6_thinkLine 12 = .ok (.iload_n 1, 1) := by decide +kernel
theorem dX6_thinkLine_13 : decode cX6_thinkLine 13 = .ok (.ifCond .eq 11, 3) := by decide +kernel
theorem dX6_thinkLine_16 : decode cX6_thinkLine 16 = .ok (.bipush 99, 2) := by decide +kernel
theorem dX6_thinkLine_18 : decode cX6_thinkLine 18 = .ok (.iload 4, 2) := by decide +kernel
theorem dX6_thinkLine_20 : decode cX6_thinkLine 20 = .ok (.isub, 1) := by decide +kernel
theorem dX6_thinkLine_21 : decode cX6_thinkLine 21 = .ok (.goto 5, 3) := by decide +kernel
theorem dX6_thinkLine_24 : decode cX6_thinkLine 24 = .ok (.iload 4, 2) := by decide +kernel
theorem dX6_thinkLine_26 : decode cX6_thinkLine 26 = .ok (.istore 5, 2) := by decide +kernel
theorem dX6_thinkLine_28 : decode cX6_thinkLine 28 = .ok (.aload_n 0, 1) := by decide +kernel
theorem dX6_thinkLine_29 : decode cX6_thinkLine 29 = .ok (.getfield 59, 3) := by decide +kernel
theorem dX6_thinkLine_32 : decode cX6_thinkLine 32 = .ok (.aload_n 0, 1) := by decide +kernel
theorem dX6_thinkLine_33 : decode cX6_thinkLine 33 = .ok (.getfield 16, 3) := by decide +kernel
theorem dX6_thinkLine_36 : decode cX6_thinkLine 36 = .ok (.iload 5, 2) := by decide +kernel
theorem dX6_thinkLine_38 : decode cX6_thinkLine 38 = .ok (.invokevirtual 187, 3) := by decide +kernel
theorem dX6_thinkLine_41 : decode cX6_thinkLine 41 = .ok (.pop, 1) := by decide +kernel
theorem dX6_thinkLine_42 : decode cX6_thinkLine 42 = .ok (.iload_n 3, 1) := by decide +kernel
theorem dX6_thinkLine_43 : decode cX6_thinkLine 43 = .ok (.ifCond .eq 16, 3) := by decide +kernel
theorem dX6_thinkLine_46 : decode cX6_thinkLine 46 = .ok (.aload_n 0, 1) := by decide +kernel
theorem dX6_thinkLine_47 : decode cX6_thinkLine 47 = .ok (.getfield 16, 3) := by decide +kernel
theorem dX6_thinkLine_50 : decode cX6_thinkLine 50 = .ok (.getfield 119, 3) := by decide +kernel
theorem dX6_thinkLine_53 : decode cX6_thinkLine 53 = .ok (.ifCond .ne 6, 3) := by decide +kernel
theorem dX6_thinkLine_56 : decode cX6_thinkLine 56 = .ok (.iload 5, 2) := by decide +kernel
theorem dX6_thinkLine_58 : decode cX6_thinkLine 58 = .ok (.ireturn, 1) := by decide +kernel
theorem dX6_thinkLine_59 : decode cX6_thinkLine 59 = .ok (.iload_n 3, 1) := by decide +kernel
theorem dX6_thinkLine_60 : decode cX6_thinkLine 60 = .ok (.ifCond .ne 22, 3) := by decide +kernel
theorem dX6_thinkLine_63 : decode cX6_thinkLine 63 = .ok (.aload_n 0, 1) := by decide +kernel
theorem dX6_thinkLine_64 : decode cX6_thinkLine 64 = .ok (.getfield 16, 3) := by decide +kernel
theorem dX6_thinkLine_67 : decode cX6_thinkLine 67 = .ok (.getfield 119, 3) := by decide +kernel
theorem dX6_thinkLine_70 : decode cX6_thinkLine 70 = .ok (.ifCond .eq 12, 3) := by decide +kernel
theorem dX6_thinkLine_73 : decode cX6_thinkLine 73 = .ok (.iload_n 2, 1) := by decide +kernel
theorem dX6_thinkLine_74 : decode cX6_thinkLine 74 = .ok (.ifCond .ne 6, 3) := by decide +kernel
theorem dX6_thinkLine_77 : decode cX6_thinkLine 77 = .ok (.iload 5, 2) := by decide +kernel
theorem dX6_thinkLine_79 : decode cX6_thinkLine 79 = .ok (.ireturn, 1) := by decide +kernel
theorem dX6_thinkLine_80 : decode cX6_thinkLine 80 = .ok (.iconst 1, 1) := by decide +kernel
theorem dX6_thinkLine_81 : decode cX6_thinkLine 81 = .ok (.istore_n 3, 1) := by decide +kernel
theorem dX6_thinkLine_82 : decode cX6_thinkLine 82 = .ok (.iinc 4 1, 3) := by decide +kernel
theorem dX6_thinkLine_85 : decode cX6_thinkLine 85 = .ok (.goto (-80), 3) := by decide +kernel
theorem dX6_thinkLine_88 : decode cX6_thinkLine 88 = .ok (.ldc 211, 2) := by decide +kernel
theorem dX6_thinkLine_90 : decode cX6_thinkLine 90 = .ok (.ireturn, 1) := by decide +kernel
theorem dX6_thinkDay_0 : decode cX6_thinkDay 0 = .ok (.iconst 0, 1) := by decide +kernel
theorem dX6_thinkDay_1 : decode cX6_thinkDay 1 = .ok (.istore_n 2, 1) := by decide +kernel
theorem dX6_thinkDay_2 : decode cX6_thinkDay 2 = .ok (.iconst 0, 1) := by decide +kernel
theorem dX6_thinkDay_3 : decode cX6_thinkDay 3 = .ok (.istore_n 3, 1) := by decide +kernel
theorem dX6_thinkDay_4 : decode cX6_thinkDay 4 = .ok (.iconst 0, 1) := by decide +kernel
theorem dX6_thinkDay_5 : decode cX6_thinkDay 5 = .ok (.istore 4, 2) := by decide +kernel
theorem dX6_thinkDay_7 : decode cX6_thinkDay 7 = .ok (.iload 4, 2) := by decide +kernel
theorem dX6_thinkDay_9 : decode cX6_thinkDay 9 = .ok (.bipush 24, 2) := by decide +kernel
theorem dX6_thinkDay_11 : decode cX6_thinkDay 11 = .ok (.if_icmp .ge 60, 3) := by decide +kernel
theorem dX6_thinkDay_14 : decode cX6_thinkDay 14 = .ok (.aload_n 0, 1) := by decide +kernel
theorem dX6_thinkDay_15 : decode cX6_thinkDay 15 = .ok (.getfield 59, 3) := by decide +kernel
theorem dX6_thinkDay_18 : decode cX6_thinkDay 18 = .ok (.aload_n 0, 1) := by decide +kernel
theorem dX6_thinkDay_19 : decode cX6_thinkDay 19 = .ok (.getfield 16, 3) := by decide +kernel
theorem dX6_thinkDay_22 : decode cX6_thinkDay 22 = .ok (.aload_n 0, 1) := by decide +kernel
theorem dX6_thinkDay_23 : decode cX6_thinkDay 23 = .ok (.getfield 59, 3) := by decide +kernel
theorem dX6_thinkDay_26 : decode cX6_thinkDay 26 = .ok (.iload 4, 2) := by decide +kernel
theorem dX6_thinkDay_28 : decode cX6_thinkDay 28 = .ok (.invokevirtual 208, 3) := by decide +kernel
theorem dX6_thinkDay_31 : decode cX6_thinkDay 31 = .ok (.invokevirtual 187, 3) := by decide +kernel
theorem dX6_thinkDay_34 : decode cX6_thinkDay 34 = .ok (.pop, 1) := by decide +kernel
theorem dX6_thinkDay_35 : decode cX6_thinkDay 35 = .ok (.iload_n 2, 1) := by decide +kernel
theorem dX6_thinkDay_36 : decode cX6_thinkDay 36 = .ok (.aload_n 0, 1) := by decide +kernel
theorem dX6_thinkDay_37 : decode cX6_thinkDay 37 = .ok (.getfield 16, 3) := by decide +kernel
theorem dX6_thinkDay_40 : decode cX6_thinkDay 40 = .ok (.getfield 119, 3) := by decide +kernel
theorem dX6_thinkDay_43 : decode cX6_thinkDay 43 = .ok (.ifCond .eq 7, 3) := by decide +kernel
theorem dX6_thinkDay_46 : decode cX6_thinkDay 46 = .ok (.iconst 1, 1) := by decide +kernel
theorem dX6_thinkDay_47 : decode cX6_thinkDay 47 = .ok (.goto 4, 3) := by decide +kernel
theorem dX6_thinkDay_50 : decode cX6_thinkDay 50 = .ok (.iconst 0, 1) := by decide +kernel
theorem dX6_thinkDay_51 : decode cX6_thinkDay 51 = .ok (.iadd, 1) := by decide +kernel
theorem dX6_thinkDay_52 : decode cX6_thinkDay 52 = .ok (.istore_n 2, 1) := by decide +kernel
theorem dX6_thinkDay_53 : decode cX6_thinkDay 53 = .ok (.iload_n 3, 1) := by decide +kernel
theorem dX6_thinkDay_54 : decode cX6_thinkDay 54 = .ok (.aload_n 0, 1) := by decide +kernel
theorem dX6_thinkDay_55 : decode cX6_thinkDay 55 = .ok (.getfield 16, 3) := by decide +kernel
theorem dX6_thinkDay_58 : decode cX6_thinkDay 58 = .ok (.getfield 116, 3) := by decide +kernel
theorem dX6_thinkDay_61 : decode cX6_thinkDay 61 = .ok (.invokestatic 315, 3) := by decide +kernel
theorem dX6_thinkDay_64 : decode cX6_thinkDay 64 = .ok (.istore_n 3, 1) := by decide +kernel
theorem dX6_thinkDay_65 : decode cX6_thinkDay 65 = .ok (.iinc 4 1, 3) := by decide +kernel
theorem dX6_thinkDay_68 : decode cX6_thinkDay 68 = .ok (.goto (-61), 3) := by decide +kernel
theorem dX6_thinkDay_71 : decode cX6_thinkDay 71 = .ok (.iload_n 1, 1) := by decide +kernel
theorem dX6_thinkDay_72 : decode cX6_thinkDay 72 = .ok (.ifCond .ne 7, 3) := by decide +kernel
theorem dX6_thinkDay_75 : decode cX6_thinkDay 75 = .ok (.iload_n 2, 1) := by decide +kernel
theorem dX6_thinkDay_76 : decode cX6_thinkDay 76 = .ok (.goto 19, 3) := by decide +kernel
theorem dX6_thinkDay_79 : decode cX6_thinkDay 79 = .ok (.iload_n 1, 1) := by decide +kernel
theorem dX6_thinkDay_80 : decode cX6_thinkDay 80 = .ok (.iconst 1, 1) := by decide +kernel
theorem dX6_thinkDay_81 : decode cX6_thinkDay 81 = .ok (.if_icmp .ne 13, 3) := by decide +kernel
theorem dX6_thinkDay_84 : decode cX6_thinkDay 84 = .ok (.aload_n 0, 1) := by decide +kernel
theorem dX6_thinkDay_85 : decode cX6_thinkDay 85 = .ok (.getfield 16, 3) := by decide +kernel
theorem dX6_thinkDay_88 : decode cX6_thinkDay 88 = .ok (.getfield 122, 3) := by decide +kernel
theorem dX6_thinkDay_91 : decode cX6_thinkDay 91 = .ok (.goto 4, 3) := by decide +kernel
theorem dX6_thinkDay_94 : decode cX6_thinkDay 94 = .ok (.iload_n 3, 1) := by decide +kernel
theorem dX6_thinkDay_95 : decode cX6_thinkDay 95 = .ok (.ireturn, 1) := by decide +kernel
theorem dX6_tonesOn_0 : decode cX6_tonesOn 0 = .ok (.aload_n 0, 1) := by decide +kernel
theorem dX6_tonesOn_1 : decode cX6_tonesOn 1 = .ok (.getfield 16, 3) := by decide +kernel
theorem dX6_tonesOn_4 : decode cX6_tonesOn 4 = .ok (.aload_n 0, 1) := by decide +kernel
theorem dX6_tonesOn_5 : decode cX6_tonesOn 5 = .ok (.getfield 59, 3) := by decide +kernel
theorem dX6_tonesOn_8 : decode cX6_tonesOn 8 = .ok (.getfield 92, 3) := by decide +kernel
theorem dX6_tonesOn_11 : decode cX6_tonesOn 11 = .ok (.iload_n 2, 1) := by decide +kernel
theorem dX6_tonesOn_12 : decode cX6_tonesOn 12 = .ok (.aaload, 1) := by decide +kernel
theorem dX6_tonesOn_13 : decode cX6_tonesOn 13 = .ok (.invokevirtual 196, 3) := by decide +kernel
theorem dX6_tonesOn_16 : decode cX6_tonesOn 16 = .ok (.iconst 0, 1) := by decide +kernel
theorem dX6_tonesOn_17 : decode cX6_tonesOn 17 = .ok (.istore_n 3, 1) := by decide +kernel
theorem dX6_tonesOn_18 : decode cX6_tonesOn 18 = .ok (.iconst 0, 1) := by decide +kernel
theorem dX6_tonesOn_19 : decode cX6_tonesOn 19 = .ok (.istore 4, 2) := by decide +kernel
theorem dX6_tonesOn_21 : decode cX6_tonesOn 21 = .ok (.iload 4, 2) := by decide +kernel
theorem dX6_tonesOn_23 : decode cX6_tonesOn 23 = .ok (.bipush 24, 2) := by decide +kernel
theorem dX6_tonesOn_25 : decode cX6_tonesOn 25 = .ok (.if_icmp .ge 55, 3) := by decide +kernel
theorem dX6_tonesOn_28 : decode cX6_tonesOn 28 = .ok (.aload_n 0, 1) := by decide +kernel
theorem dX6_tonesOn_29 : decode cX6_tonesOn 29 = .ok (.getfield 59, 3) := by decide +kernel
theorem dX6_tonesOn_32 : decode cX6_tonesOn 32 = .ok (.aload_n 0, 1) := by decide +kernel
theorem dX6_tonesOn_33 : decode cX6_tonesOn 33 = .ok (.getfield 16, 3) := by decide +kernel
theorem dX6_tonesOn_36 : decode cX6_tonesOn 36 = .ok (.aload_n 0, 1) := by decide +kernel
theorem dX6_tonesOn_37 : decode cX6_tonesOn 37 = .ok (.getfield 59, 3) := by decide +kernel
theorem dX6_tonesOn_40 : decode cX6_tonesOn 40 = .ok (.iload 4, 2) := by decide +kernel
theorem dX6_tonesOn_42 : decode cX6_tonesOn 42 = .ok (.invokevirtual 208, 3) := by decide +kernel
theorem dX6_tonesOn_45 : decode cX6_tonesOn 45 = .ok (.invokevirtual 187, 3) := by decide +kernel
theorem dX6_tonesOn_48 : decode cX6_tonesOn 48 = .ok (.istore 5, 2) := by decide +kernel
theorem dX6_tonesOn_50 : decode cX6_tonesOn 50 = .ok (.aload_n 1, 1) := by decide +kernel
theorem dX6_tonesOn_51 : decode cX6_tonesOn 51 = .ok (.iload 4, 2) := by decide +kernel
theorem dX6_tonesOn_53 : decode cX6_tonesOn 53 = .ok (.invokevirtual 262, 3) := by decide +kernel
theorem dX6_tonesOn_56 : decode cX6_tonesOn 56 = .ok (.ifCond .eq 18, 3) := by decide +kernel
theorem dX6_tonesOn_59 : decode cX6_tonesOn 59 = .ok (.aload_n 1, 1) := by decide +kernel
theorem dX6_tonesOn_60 : decode cX6_tonesOn 60 = .ok (.getfield 258, 3) := by decide +kernel
theorem dX6_tonesOn_63 : decode cX6_tonesOn 63 = .ok (.iload 4, 2) := by decide +kernel
theorem dX6_tonesOn_65 : decode cX6_tonesOn 65 = .ok (.iaload, 1) := by decide +kernel
theorem dX6_tonesOn_66 : decode cX6_tonesOn 66 = .ok (.iload 5, 2) := by decide +kernel
theorem dX6_tonesOn_68 : decode cX6_tonesOn 68 = .ok (.if_icmp .ne 6, 3) := by decide +kernel
theorem dX6_tonesOn_71 : decode cX6_tonesOn 71 = .ok (.iinc 3 1, 3) := by decide +kernel
theorem dX6_tonesOn_74 : decode cX6_tonesOn 74 = .ok (.iinc 4 1, 3) := by decide +kernel
theorem dX6_tonesOn_77 : decode cX6_tonesOn 77 = .ok (.goto (-56), 3) := by decide +kernel
theorem dX6_tonesOn_80 : decode cX6_tonesOn 80 = .ok (.iload_n 3, 1) := by decide +kernel
theorem dX6_tonesOn_81 : decode cX6_tonesOn 81 = .ok (.ireturn, 1) := by decide +kernel
theorem dX6_hoursToldRight_0 : decode cX6_hoursToldRight 0 = .ok (.iconst 0, 1) := by decide +kernel
theorem dX6_hoursToldRight_1 : decode cX6_hoursToldRight 1 = .ok (.istore_n 3, 1) := by decide +kernel
theorem dX6_hoursToldRight_2 : decode cX6_hoursToldRight 2 = .ok (.iload_n 3, 1) := by decide +kernel
theorem dX6_hoursToldRight_3 : decode cX6_hoursToldRight 3 = .ok (.iload_n 1, 1) := by decide +kernel
theorem dX6_hoursToldRight_4 : decode cX6_hoursToldRight 4 = .ok (.if_icmp .ge 89, 3) := by decide +kernel
theorem dX6_hoursToldRight_7 : decode cX6_hoursToldRight 7 = .ok (.aload_n 0, 1) := by decide +kernel
theorem dX6_hoursToldRight_8 : decode cX6_hoursToldRight 8 = .ok (.getfield 63, 3) := by decide +kernel
theorem dX6_hoursToldRight_11 : decode cX6_hoursToldRight 11 = .ok (.aload_n 0, 1) := by decide +kernel
theorem dX6_hoursToldRight_12 : decode cX6_hoursToldRight 12 = .ok (.getfield 16, 3) := by decide +kernel
theorem dX6_hoursToldRight_15 : decode cX6_hoursToldRight 15 = .ok (.aload_n 0, 1) := by decide +kernel
theorem dX6_hoursToldRight_16 : decode cX6_hoursToldRight 16 = .ok (.getfield 63, 3) := by decide +kernel
theorem dX6_hoursToldRight_19 : decode cX6_hoursToldRight 19 = .ok (.iload_n 3, 1) := by decide +kernel
theorem dX6_hoursToldRight_20 : decode cX6_hoursToldRight 20 = .ok (.invokevirtual 208, 3) := by decide +kernel
theorem dX6_hoursToldRight_23 : decode cX6_hoursToldRight 23 = .ok (.invokevirtual 187, 3) := by decide +kernel
theorem dX6_hoursToldRight_26 : decode cX6_hoursToldRight 26 = .ok (.istore 4, 2) := by decide +kernel
theorem dX6_hoursToldRight_28 : decode cX6_hoursToldRight 28 = .ok (.iconst 2, 1) := by decide +kernel
theorem dX6_hoursToldRight_29 : decode cX6_hoursToldRight 29 = .ok (.iload_n 3, 1) := by decide +kernel
theorem dX6_hoursToldRight_30 : decode cX6_hoursToldRight 30 = .ok (.imul, 1) := by decide +kernel
theorem dX6_hoursToldRight_31 : decode cX6_hoursToldRight 31 = .ok (.iload_n 2, 1) := by decide +kernel
theorem dX6_hoursToldRight_32 : decode cX6_hoursToldRight 32 = .ok (.if_icmp .ge 16, 3) := by decide +kernel
theorem dX6_hoursToldRight_35 : decode cX6_hoursToldRight 35 = .ok (.aload_n 0, 1) := by decide +kernel
theorem dX6_hoursToldRight_36 : decode cX6_hoursToldRight 36 = .ok (.getfield 40, 3) := by decide +kernel
theorem dX6_hoursToldRight_39 : decode cX6_hoursToldRight 39 = .ok (.iconst 2, 1) := by decide +kernel
theorem dX6_hoursToldRight_40 : decode cX6_hoursToldRight 40 = .ok (.iload_n 3, 1) := by decide +kernel
theorem dX6_hoursToldRight_41 : decode cX6_hoursToldRight 41 = .ok (.imul, 1) := by decide +kernel
theorem dX6_hoursToldRight_42 : decode cX6_hoursToldRight 42 = .ok (.iaload, 1) := by decide +kernel
theorem dX6_hoursToldRight_43 : decode cX6_hoursToldRight 43 = .ok (.iload 4, 2) := by decide +kernel
theorem dX6_hoursToldRight_45 : decode cX6_hoursToldRight 45 = .ok (.if_icmp .eq 7, 3) := by decide +kernel
theorem dX6_hoursToldRight_48 : decode cX6_hoursToldRight 48 = .ok (.iconst 2, 1) := by decide +kernel
theorem dX6_hoursToldRight_49 : decode cX6_hoursToldRight 49 = .ok (.iload_n 3, 1) := by decide +kernel
theorem dX6_hoursToldRight_50 : decode cX6_hoursToldRight 50 = .ok (.imul, 1) := by decide +kernel
theorem dX6_hoursToldRight_51 : decode cX6_hoursToldRight 51 = .ok (.ireturn, 1) := by decide +kernel
theorem dX6_hoursToldRight_52 : decode cX6_hoursToldRight 52 = .ok (.iconst 2, 1) := by decide +kernel
theorem dX6_hoursToldRight_53 : decode cX6_hoursToldRight 53 = .ok (.iload_n 3, 1) := by decide +kernel
theorem dX6_hoursToldRight_54 : decode cX6_hoursToldRight 54 = .ok (.imul, 1) := by decide +kernel
theorem dX6_hoursToldRight_55 : decode cX6_hoursToldRight 55 = .ok (.iconst 1, 1) := by decide +kernel
theorem dX6_hoursToldRight_56 : decode cX6_hoursToldRight 56 = .ok (.iadd, 1) := by decide +kernel
theorem dX6_hoursToldRight_57 : decode cX6_hoursToldRight 57 = .ok (.iload_n 2, 1) := by decide +kernel
theorem dX6_hoursToldRight_58 : decode cX6_hoursToldRight 58 = .ok (.if_icmp .ge 23, 3) := by decide +kernel
theorem dX6_hoursToldRight_61 : decode cX6_hoursToldRight 61 = .ok (.aload_n 0, 1) := by decide +kernel
theorem dX6_hoursToldRight_62 : decode cX6_hoursToldRight 62 = .ok (.getfield 40, 3) := by decide +kernel
theorem dX6_hoursToldRight_65 : decode cX6_hoursToldRight 65 = .ok (.iconst 2, 1) := by decide +kernel
theorem dX6_hoursToldRight_66 : decode cX6_hoursToldRight 66 = .ok (.iload_n 3, 1) := by decide +kernel
theorem dX6_hoursToldRight_67 : decode cX6_hoursToldRight 67 = .ok (.imul, 1) := by decide +kernel
theorem dX6_hoursToldRight_68 : decode cX6_hoursToldRight 68 = .ok (.iconst 1, 1) := by decide +kernel
theorem dX6_hoursToldRight_69 : decode cX6_hoursToldRight 69 = .ok (.iadd, 1) := by decide +kernel
theorem dX6_hoursToldRight_70 : decode cX6_hoursToldRight 70 = .ok (.iaload, 1) := by decide +kernel
theorem dX6_hoursToldRight_71 : decode cX6_hoursToldRight 71 = .ok (.aload_n 0, 1) := by decide +kernel
theorem dX6_hoursToldRight_72 : decode cX6_hoursToldRight 72 = .ok (.getfield 16, 3) := by decide +kernel
theorem dX6_hoursToldRight_75 : decode cX6_hoursToldRight 75 = .ok (.getfield 116, 3) := by decide +kernel
theorem dX6_hoursToldRight_78 : decode cX6_hoursToldRight 78 = .ok (.if_icmp .eq 9, 3) := by decide +kernel
theorem dX6_hoursToldRight_81 : decode cX6_hoursToldRight 81 = .ok (.iconst 2, 1) := by decide +kernel
theorem dX6_hoursToldRight_82 : decode cX6_hoursToldRight 82 = .ok (.iload_n 3, 1) := by decide +kernel
theorem dX6_hoursToldRight_83 : decode cX6_hoursToldRight 83 = .ok (.imul, 1) := by decide +kernel
theorem dX6_hoursToldRight_84 : decode cX6_hoursToldRight 84 = .ok (.iconst 1, 1) := by decide +kernel
theorem dX6_hoursToldRight_85 : decode cX6_hoursToldRight 85 = .ok (.iadd, 1) := by decide +kernel
theorem dX6_hoursToldRight_86 : decode cX6_hoursToldRight 86 = .ok (.ireturn, 1) := by decide +kernel
theorem dX6_hoursToldRight_87 : decode cX6_hoursToldRight 87 = .ok (.iinc 3 1, 3) := by decide +kernel
theorem dX6_hoursToldRight_90 : decode cX6_hoursToldRight 90 = .ok (.goto (-88), 3) := by decide +kernel
theorem dX6_hoursToldRight_93 : decode cX6_hoursToldRight 93 = .ok (.iconst 2, 1) := by decide +kernel
theorem dX6_hoursToldRight_94 : decode cX6_hoursToldRight 94 = .ok (.iload_n 1, 1) := by decide +kernel
theorem dX6_hoursToldRight_95 : decode cX6_hoursToldRight 95 = .ok (.imul, 1) := by decide +kernel
theorem dX6_hoursToldRight_96 : decode cX6_hoursToldRight 96 = .ok (.ireturn, 1) := by decide +kernel
theorem dX6_putBytes_0 : decode cX6_putBytes 0 = .ok (.bipush 24, 2) := by decide +kernel
theorem dX6_putBytes_2 : decode cX6_putBytes 2 = .ok (.istore_n 2, 1) := by decide +kernel
theorem dX6_putBytes_3 : decode cX6_putBytes 3 = .ok (.iload_n 2, 1) := by decide +kernel
theorem dX6_putBytes_4 : decode cX6_putBytes 4 = .ok (.ifCond .lt 41, 3) := by decide +kernel
theorem dX6_putBytes_7 : decode cX6_putBytes 7 = .ok (.aload_n 0, 1) := by decide +kernel
theorem dX6_putBytes_8 : decode cX6_putBytes 8 = .ok (.getfield 24, 3) := by decide +kernel
theorem dX6_putBytes_11 : decode cX6_putBytes 11 = .ok (.bipush 96, 2) := by decide +kernel
theorem dX6_putBytes_13 : decode cX6_putBytes 13 = .ok (.if_icmp .ge 32, 3) := by decide +kernel
theorem dX6_putBytes_16 : decode cX6_putBytes 16 = .ok (.aload_n 0, 1) := by decide +kernel
theorem dX6_putBytes_17 : decode cX6_putBytes 17 = .ok (.getfield 20, 3) := by decide +kernel
theorem dX6_putBytes_20 : decode cX6_putBytes 20 = .ok (.aload_n 0, 1) := by decide +kernel
theorem dX6_putBytes_21 : decode cX6_putBytes 21 = .ok (.getfield 24, 3) := by decide +kernel
theorem dX6_putBytes_24 : decode cX6_putBytes 24 = .ok (.iload_n 1, 1) := by decide +kernel
theorem dX6_putBytes_25 : decode cX6_putBytes 25 = .ok (.iload_n 2, 1) := by decide +kernel
theorem dX6_putBytes_26 : decode cX6_putBytes 26 = .ok (.iushr, 1) := by decide +kernel
theorem dX6_putBytes_27 : decode cX6_putBytes 27 = .ok (.i2b, 1) := by decide +kernel
theorem dX6_putBytes_28 : decode cX6_putBytes 28 = .ok (.bastore, 1) := by decide +kernel
theorem dX6_putBytes_29 : decode cX6_putBytes 29 = .ok (.aload_n 0, 1) := by decide +kernel
theorem dX6_putBytes_30 : decode cX6_putBytes 30 = .ok (.dup, 1) := by decide +kernel
theorem dX6_putBytes_31 : decode cX6_putBytes 31 = .ok (.getfield 24, 3) := by decide +kernel
theorem dX6_putBytes_34 : decode cX6_putBytes 34 = .ok (.iconst 1, 1) := by decide +kernel
theorem dX6_putBytes_35 : decode cX6_putBytes 35 = .ok (.iadd, 1) := by decide +kernel
theorem dX6_putBytes_36 : decode cX6_putBytes 36 = .ok (.putfield 24, 3) := by decide +kernel
theorem dX6_putBytes_39 : decode cX6_putBytes 39 = .ok (.iinc 2 (-8), 3) := by decide +kernel
theorem dX6_putBytes_42 : decode cX6_putBytes 42 = .ok (.goto (-39), 3) := by decide +kernel
theorem dX6_putBytes_45 : decode cX6_putBytes 45 = .ok (.return_, 1) := by decide +kernel
