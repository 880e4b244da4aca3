/-- HeardBarrelsModel.<init>()V -/
def M_163 : am_MT := (9, ⟨"HeardBarrelsModel", "<init>", "()V"⟩, prog_10_method_3_code, 1, none, true, 0, (22, 300000))
theorem hM_163 : am_ms[163]? = some M_163 := rfl
theorem d_163_0 : decode M_163.2.2.1 0 = .ok (.aload_n 0, 1) := by decide +kernel
theorem d_163_1 : decode M_163.2.2.1 1 = .ok (.invokespecial 7, 3) := by decide +kernel
theorem d_163_4 : decode M_163.2.2.1 4 = .ok (.aload_n 0, 1) := by decide +kernel
theorem d_163_5 : decode M_163.2.2.1 5 = .ok (.sipush 168, 3) := by decide +kernel
theorem d_163_8 : decode M_163.2.2.1 8 = .ok (.newarray .int, 2) := by decide +kernel
theorem d_163_10 : decode M_163.2.2.1 10 = .ok (.putfield 13, 3) := by decide +kernel
theorem d_163_13 : decode M_163.2.2.1 13 = .ok (.aload_n 0, 1) := by decide +kernel
theorem d_163_14 : decode M_163.2.2.1 14 = .ok (.iconst 2, 1) := by decide +kernel
theorem d_163_15 : decode M_163.2.2.1 15 = .ok (.newarray .boolean, 2) := by decide +kernel
theorem d_163_17 : decode M_163.2.2.1 17 = .ok (.putfield 17, 3) := by decide +kernel
theorem d_163_20 : decode M_163.2.2.1 20 = .ok (.aload_n 0, 1) := by decide +kernel
theorem d_163_21 : decode M_163.2.2.1 21 = .ok (.sipush 900, 3) := by decide +kernel
theorem d_163_24 : decode M_163.2.2.1 24 = .ok (.newarray .int, 2) := by decide +kernel
theorem d_163_26 : decode M_163.2.2.1 26 = .ok (.putfield 21, 3) := by decide +kernel
theorem d_163_29 : decode M_163.2.2.1 29 = .ok (.aload_n 0, 1) := by decide +kernel
theorem d_163_30 : decode M_163.2.2.1 30 = .ok (.bipush 56, 2) := by decide +kernel
theorem d_163_32 : decode M_163.2.2.1 32 = .ok (.newarray .int, 2) := by decide +kernel
theorem d_163_34 : decode M_163.2.2.1 34 = .ok (.putfield 24, 3) := by decide +kernel
theorem d_163_37 : decode M_163.2.2.1 37 = .ok (.aload_n 0, 1) := by decide +kernel
theorem d_163_38 : decode M_163.2.2.1 38 = .ok (.iconst (-1), 1) := by decide +kernel
theorem d_163_39 : decode M_163.2.2.1 39 = .ok (.putfield 27, 3) := by decide +kernel
theorem d_163_42 : decode M_163.2.2.1 42 = .ok (.aload_n 0, 1) := by decide +kernel
theorem d_163_43 : decode M_163.2.2.1 43 = .ok (.bipush 56, 2) := by decide +kernel
theorem d_163_45 : decode M_163.2.2.1 45 = .ok (.newarray .int, 2) := by decide +kernel
theorem d_163_47 : decode M_163.2.2.1 47 = .ok (.putfield 30, 3) := by decide +kernel
theorem d_163_50 : decode M_163.2.2.1 50 = .ok (.aload_n 0, 1) := by decide +kernel
theorem d_163_51 : decode M_163.2.2.1 51 = .ok (.sipush 4096, 3) := by decide +kernel
theorem d_163_54 : decode M_163.2.2.1 54 = .ok (.newarray .int, 2) := by decide +kernel
theorem d_163_56 : decode M_163.2.2.1 56 = .ok (.putfield 33, 3) := by decide +kernel
theorem d_163_59 : decode M_163.2.2.1 59 = .ok (.aload_n 0, 1) := by decide +kernel
theorem d_163_60 : decode M_163.2.2.1 60 = .ok (.sipush 256, 3) := by decide +kernel
theorem d_163_63 : decode M_163.2.2.1 63 = .ok (.newarray .int, 2) := by decide +kernel
theorem d_163_65 : decode M_163.2.2.1 65 = .ok (.putfield 36, 3) := by decide +kernel
theorem d_163_68 : decode M_163.2.2.1 68 = .ok (.aload_n 0, 1) := by decide +kernel
theorem d_163_69 : decode M_163.2.2.1 69 = .ok (.sipush 4096, 3) := by decide +kernel
theorem d_163_72 : decode M_163.2.2.1 72 = .ok (.newarray .boolean, 2) := by decide +kernel
theorem d_163_74 : decode M_163.2.2.1 74 = .ok (.putfield 39, 3) := by decide +kernel
theorem d_163_77 : decode M_163.2.2.1 77 = .ok (.aload_n 0, 1) := by decide +kernel
theorem d_163_78 : decode M_163.2.2.1 78 = .ok (.sipush 1024, 3) := by decide +kernel
theorem d_163_81 : decode M_163.2.2.1 81 = .ok (.newarray .int, 2) := by decide +kernel
theorem d_163_83 : decode M_163.2.2.1 83 = .ok (.putfield 42, 3) := by decide +kernel
theorem d_163_86 : decode M_163.2.2.1 86 = .ok (.aload_n 0, 1) := by decide +kernel
theorem d_163_87 : decode M_163.2.2.1 87 = .ok (.iconst 5, 1) := by decide +kernel
theorem d_163_88 : decode M_163.2.2.1 88 = .ok (.newarray .int, 2) := by decide +kernel
theorem d_163_90 : decode M_163.2.2.1 90 = .ok (.putfield 45, 3) := by decide +kernel
theorem d_163_93 : decode M_163.2.2.1 93 = .ok (.aload_n 0, 1) := by decide +kernel
theorem d_163_94 : decode M_163.2.2.1 94 = .ok (.iconst 5, 1) := by decide +kernel
theorem d_163_95 : decode M_163.2.2.1 95 = .ok (.newarray .int, 2) := by decide +kernel
theorem d_163_97 : decode M_163.2.2.1 97 = .ok (.putfield 48, 3) := by decide +kernel
theorem d_163_100 : decode M_163.2.2.1 100 = .ok (.aload_n 0, 1) := by decide +kernel
theorem d_163_101 : decode M_163.2.2.1 101 = .ok (.iconst 5, 1) := by decide +kernel
theorem d_163_102 : decode M_163.2.2.1 102 = .ok (.newarray .int, 2) := by decide +kernel
theorem d_163_104 : decode M_163.2.2.1 104 = .ok (.putfield 51, 3) := by decide +kernel
theorem d_163_107 : decode M_163.2.2.1 107 = .ok (.aload_n 0, 1) := by decide +kernel
theorem d_163_108 : decode M_163.2.2.1 108 = .ok (.ldc 54, 2) := by decide +kernel
theorem d_163_110 : decode M_163.2.2.1 110 = .ok (.newarray .byte, 2) := by decide +kernel
theorem d_163_112 : decode M_163.2.2.1 112 = .ok (.putfield 55, 3) := by decide +kernel
theorem d_163_115 : decode M_163.2.2.1 115 = .ok (.aload_n 0, 1) := by decide +kernel
theorem d_163_116 : decode M_163.2.2.1 116 = .ok (.sipush 16807, 3) := by decide +kernel
theorem d_163_119 : decode M_163.2.2.1 119 = .ok (.newarray .boolean, 2) := by decide +kernel
theorem d_163_121 : decode M_163.2.2.1 121 = .ok (.putfield 59, 3) := by decide +kernel
theorem d_163_124 : decode M_163.2.2.1 124 = .ok (.aload_n 0, 1) := by decide +kernel
theorem d_163_125 : decode M_163.2.2.1 125 = .ok (.sipush 16807, 3) := by decide +kernel
theorem d_163_128 : decode M_163.2.2.1 128 = .ok (.newarray .boolean, 2) := by decide +kernel
theorem d_163_130 : decode M_163.2.2.1 130 = .ok (.putfield 62, 3) := by decide +kernel
theorem d_163_133 : decode M_163.2.2.1 133 = .ok (.aload_n 0, 1) := by decide +kernel
theorem d_163_134 : decode M_163.2.2.1 134 = .ok (.bipush 12, 2) := by decide +kernel
theorem d_163_136 : decode M_163.2.2.1 136 = .ok (.newarray .int, 2) := by decide +kernel
theorem d_163_138 : decode M_163.2.2.1 138 = .ok (.putfield 65, 3) := by decide +kernel
theorem d_163_141 : decode M_163.2.2.1 141 = .ok (.aload_n 0, 1) := by decide +kernel
theorem d_163_142 : decode M_163.2.2.1 142 = .ok (.ldc 68, 2) := by decide +kernel
theorem d_163_144 : decode M_163.2.2.1 144 = .ok (.newarray .int, 2) := by decide +kernel
theorem d_163_146 : decode M_163.2.2.1 146 = .ok (.putfield 69, 3) := by decide +kernel
theorem d_163_149 : decode M_163.2.2.1 149 = .ok (.aload_n 0, 1) := by decide +kernel
theorem d_163_150 : decode M_163.2.2.1 150 = .ok (.bipush 12, 2) := by decide +kernel
theorem d_163_152 : decode M_163.2.2.1 152 = .ok (.newarray .int, 2) := by decide +kernel
theorem d_163_154 : decode M_163.2.2.1 154 = .ok (.putfield 72, 3) := by decide +kernel
theorem d_163_157 : decode M_163.2.2.1 157 = .ok (.aload_n 0, 1) := by decide +kernel
theorem d_163_158 : decode M_163.2.2.1 158 = .ok (.bipush 12, 2) := by decide +kernel
theorem d_163_160 : decode M_163.2.2.1 160 = .ok (.newarray .int, 2) := by decide +kernel
theorem d_163_162 : decode M_163.2.2.1 162 = .ok (.putfield 75, 3) := by decide +kernel
theorem d_163_165 : decode M_163.2.2.1 165 = .ok (.aload_n 0, 1) := by decide +kernel
theorem d_163_166 : decode M_163.2.2.1 166 = .ok (.iconst 4, 1) := by decide +kernel
theorem d_163_167 : decode M_163.2.2.1 167 = .ok (.newarray .int, 2) := by decide +kernel
theorem d_163_169 : decode M_163.2.2.1 169 = .ok (.dup, 1) := by decide +kernel
theorem d_163_170 : decode M_163.2.2.1 170 = .ok (.iconst 0, 1) := by decide +kernel
theorem d_163_171 : decode M_163.2.2.1 171 = .ok (.iconst (-1), 1) := by decide +kernel
theorem d_163_172 : decode M_163.2.2.1 172 = .ok (.iastore, 1) := by decide +kernel
theorem d_163_173 : decode M_163.2.2.1 173 = .ok (.dup, 1) := by decide +kernel
theorem d_163_174 : decode M_163.2.2.1 174 = .ok (.iconst 1, 1) := by decide +kernel
theorem d_163_175 : decode M_163.2.2.1 175 = .ok (.iconst (-1), 1) := by decide +kernel
theorem d_163_176 : decode M_163.2.2.1 176 = .ok (.iastore, 1) := by decide +kernel
theorem d_163_177 : decode M_163.2.2.1 177 = .ok (.dup, 1) := by decide +kernel
theorem d_163_178 : decode M_163.2.2.1 178 = .ok (.iconst 2, 1) := by decide +kernel
theorem d_163_179 : decode M_163.2.2.1 179 = .ok (.iconst (-1), 1) := by decide +kernel
theorem d_163_180 : decode M_163.2.2.1 180 = .ok (.iastore, 1) := by decide +kernel
theorem d_163_181 : decode M_163.2.2.1 181 = .ok (.dup, 1) := by decide +kernel
theorem d_163_182 : decode M_163.2.2.1 182 = .ok (.iconst 3, 1) := by decide +kernel
theorem d_163_183 : decode M_163.2.2.1 183 = .ok (.iconst (-1), 1) := by decide +kernel
theorem d_163_184 : decode M_163.2.2.1 184 = .ok (.iastore, 1) := by decide +kernel
theorem d_163_185 : decode M_163.2.2.1 185 = .ok (.putfield 78, 3) := by decide +kernel
theorem d_163_188 : decode M_163.2.2.1 188 = .ok (.aload_n 0, 1) := by decide +kernel
theorem d_163_189 : decode M_163.2.2.1 189 = .ok (.iconst 4, 1) := by decide +kernel
theorem d_163_190 : decode M_163.2.2.1 190 = .ok (.newarray .int, 2) := by decide +kernel
theorem d_163_192 : decode M_163.2.2.1 192 = .ok (.putfield 81, 3) := by decide +kernel
theorem d_163_195 : decode M_163.2.2.1 195 = .ok (.aload_n 0, 1) := by decide +kernel
theorem d_163_196 : decode M_163.2.2.1 196 = .ok (.sipush 160, 3) := by decide +kernel
theorem d_163_199 : decode M_163.2.2.1 199 = .ok (.newarray .long, 2) := by decide +kernel
theorem d_163_201 : decode M_163.2.2.1 201 = .ok (.putfield 84, 3) := by decide +kernel
theorem d_163_204 : decode M_163.2.2.1 204 = .ok (.aload_n 0, 1) := by decide +kernel
theorem d_163_205 : decode M_163.2.2.1 205 = .ok (.getfield 13, 3) := by decide +kernel
theorem d_163_208 : decode M_163.2.2.1 208 = .ok (.invokestatic 88, 3) := by decide +kernel
theorem d_163_211 : decode M_163.2.2.1 211 = .ok (.return_, 1) := by decide +kernel
/-- HeardBarrelsModel.plain([I)V -/
def M_164 : am_MT := (9, ⟨"HeardBarrelsModel", "plain", "([I)V"⟩, prog_10_method_4_code, 2, none, false, 1, (0, 0))
theorem hM_164 : am_ms[164]? = some M_164 := rfl
theorem d_164_0 : decode M_164.2.2.1 0 = .ok (.iconst 0, 1) := by decide +kernel
theorem d_164_1 : decode M_164.2.2.1 1 = .ok (.istore_n 1, 1) := by decide +kernel
theorem d_164_2 : decode M_164.2.2.1 2 = .ok (.iload_n 1, 1) := by decide +kernel
theorem d_164_3 : decode M_164.2.2.1 3 = .ok (.bipush 56, 2) := by decide +kernel
theorem d_164_5 : decode M_164.2.2.1 5 = .ok (.if_icmp .ge 13, 3) := by decide +kernel
theorem d_164_8 : decode M_164.2.2.1 8 = .ok (.aload_n 0, 1) := by decide +kernel
theorem d_164_9 : decode M_164.2.2.1 9 = .ok (.iload_n 1, 1) := by decide +kernel
theorem d_164_10 : decode M_164.2.2.1 10 = .ok (.iconst 0, 1) := by decide +kernel
theorem d_164_11 : decode M_164.2.2.1 11 = .ok (.iastore, 1) := by decide +kernel
theorem d_164_12 : decode M_164.2.2.1 12 = .ok (.iinc 1 1, 3) := by decide +kernel
theorem d_164_15 : decode M_164.2.2.1 15 = .ok (.goto (-13), 3) := by decide +kernel
theorem d_164_18 : decode M_164.2.2.1 18 = .ok (.aload_n 0, 1) := by decide +kernel
theorem d_164_19 : decode M_164.2.2.1 19 = .ok (.iconst 2, 1) := by decide +kernel
theorem d_164_20 : decode M_164.2.2.1 20 = .ok (.bipush 15, 2) := by decide +kernel
theorem d_164_22 : decode M_164.2.2.1 22 = .ok (.iastore, 1) := by decide +kernel
theorem d_164_23 : decode M_164.2.2.1 23 = .ok (.aload_n 0, 1) := by decide +kernel
theorem d_164_24 : decode M_164.2.2.1 24 = .ok (.iconst 3, 1) := by decide +kernel
theorem d_164_25 : decode M_164.2.2.1 25 = .ok (.iconst 4, 1) := by decide +kernel
theorem d_164_26 : decode M_164.2.2.1 26 = .ok (.iastore, 1) := by decide +kernel
theorem d_164_27 : decode M_164.2.2.1 27 = .ok (.aload_n 0, 1) := by decide +kernel
theorem d_164_28 : decode M_164.2.2.1 28 = .ok (.iconst 4, 1) := by decide +kernel
theorem d_164_29 : decode M_164.2.2.1 29 = .ok (.bipush 12, 2) := by decide +kernel
theorem d_164_31 : decode M_164.2.2.1 31 = .ok (.iastore, 1) := by decide +kernel
theorem d_164_32 : decode M_164.2.2.1 32 = .ok (.aload_n 0, 1) := by decide +kernel
theorem d_164_33 : decode M_164.2.2.1 33 = .ok (.iconst 5, 1) := by decide +kernel
theorem d_164_34 : decode M_164.2.2.1 34 = .ok (.iconst 3, 1) := by decide +kernel
theorem d_164_35 : decode M_164.2.2.1 35 = .ok (.iastore, 1) := by decide +kernel
theorem d_164_36 : decode M_164.2.2.1 36 = .ok (.return_, 1) := by decide +kernel
/-- HeardBarrelsModel.feed(IIIII)I -/
def M_165 : am_MT := (9, ⟨"HeardBarrelsModel", "feed", "(IIIII)I"⟩, prog_10_method_5_code, 8, some .int, false, 5, (0, 0))
theorem hM_165 : am_ms[165]? = some M_165 := rfl
theorem d_165_0 : decode M_165.2.2.1 0 = .ok (.aload_n 0, 1) := by decide +kernel
theorem d_165_1 : decode M_165.2.2.1 1 = .ok (.iconst 0, 1) := by decide +kernel
theorem d_165_2 : decode M_165.2.2.1 2 = .ok (.putfield 1, 3) := by decide +kernel
theorem d_165_5 : decode M_165.2.2.1 5 = .ok (.aload_n 0, 1) := by decide +kernel
theorem d_165_6 : decode M_165.2.2.1 6 = .ok (.getfield 92, 3) := by decide +kernel
theorem d_165_9 : decode M_165.2.2.1 9 = .ok (.bipush 20, 2) := by decide +kernel
theorem d_165_11 : decode M_165.2.2.1 11 = .ok (.iadd, 1) := by decide +kernel
theorem d_165_12 : decode M_165.2.2.1 12 = .ok (.sipush 900, 3) := by decide +kernel
theorem d_165_15 : decode M_165.2.2.1 15 = .ok (.if_icmp .le 6, 3) := by decide +kernel
theorem d_165_18 : decode M_165.2.2.1 18 = .ok (.bipush (-5), 2) := by decide +kernel
theorem d_165_20 : decode M_165.2.2.1 20 = .ok (.ireturn, 1) := by decide +kernel
theorem d_165_21 : decode M_165.2.2.1 21 = .ok (.iconst 0, 1) := by decide +kernel
theorem d_165_22 : decode M_165.2.2.1 22 = .ok (.istore 6, 2) := by decide +kernel
theorem d_165_24 : decode M_165.2.2.1 24 = .ok (.iload 6, 2) := by decide +kernel
theorem d_165_26 : decode M_165.2.2.1 26 = .ok (.bipush 20, 2) := by decide +kernel
theorem d_165_28 : decode M_165.2.2.1 28 = .ok (.if_icmp .ge 93, 3) := by decide +kernel
theorem d_165_31 : decode M_165.2.2.1 31 = .ok (.iload 6, 2) := by decide +kernel
theorem d_165_33 : decode M_165.2.2.1 33 = .ok (.iconst 4, 1) := by decide +kernel
theorem d_165_34 : decode M_165.2.2.1 34 = .ok (.if_icmp .ge 7, 3) := by decide +kernel
theorem d_165_37 : decode M_165.2.2.1 37 = .ok (.iload_n 1, 1) := by decide +kernel
theorem d_165_38 : decode M_165.2.2.1 38 = .ok (.goto 39, 3) := by decide +kernel
theorem d_165_41 : decode M_165.2.2.1 41 = .ok (.iload 6, 2) := by decide +kernel
theorem d_165_43 : decode M_165.2.2.1 43 = .ok (.bipush 8, 2) := by decide +kernel
theorem d_165_45 : decode M_165.2.2.1 45 = .ok (.if_icmp .ge 7, 3) := by decide +kernel
theorem d_165_48 : decode M_165.2.2.1 48 = .ok (.iload_n 2, 1) := by decide +kernel
theorem d_165_49 : decode M_165.2.2.1 49 = .ok (.goto 28, 3) := by decide +kernel
theorem d_165_52 : decode M_165.2.2.1 52 = .ok (.iload 6, 2) := by decide +kernel
theorem d_165_54 : decode M_165.2.2.1 54 = .ok (.bipush 12, 2) := by decide +kernel
theorem d_165_56 : decode M_165.2.2.1 56 = .ok (.if_icmp .ge 7, 3) := by decide +kernel
theorem d_165_59 : decode M_165.2.2.1 59 = .ok (.iload_n 3, 1) := by decide +kernel
theorem d_165_60 : decode M_165.2.2.1 60 = .ok (.goto 17, 3) := by decide +kernel
theorem d_165_63 : decode M_165.2.2.1 63 = .ok (.iload 6, 2) := by decide +kernel
theorem d_165_65 : decode M_165.2.2.1 65 = .ok (.bipush 16, 2) := by decide +kernel
theorem d_165_67 : decode M_165.2.2.1 67 = .ok (.if_icmp .ge 8, 3) := by decide +kernel
theorem d_165_70 : decode M_165.2.2.1 70 = .ok (.iload 4, 2) := by decide +kernel
theorem d_165_72 : decode M_165.2.2.1 72 = .ok (.goto 5, 3) := by decide +kernel
theorem d_165_75 : decode M_165.2.2.1 75 = .ok (.iload 5, 2) := by decide +kernel
theorem d_165_77 : decode M_165.2.2.1 77 = .ok (.istore 7, 2) := by decide +kernel
theorem d_165_79 : decode M_165.2.2.1 79 = .ok (.aload_n 0, 1) := by decide +kernel
theorem d_165_80 : decode M_165.2.2.1 80 = .ok (.getfield 21, 3) := by decide +kernel
theorem d_165_83 : decode M_165.2.2.1 83 = .ok (.aload_n 0, 1) := by decide +kernel
theorem d_165_84 : decode M_165.2.2.1 84 = .ok (.getfield 92, 3) := by decide +kernel
theorem d_165_87 : decode M_165.2.2.1 87 = .ok (.iload 7, 2) := by decide +kernel
theorem d_165_89 : decode M_165.2.2.1 89 = .ok (.bipush 24, 2) := by decide +kernel
theorem d_165_91 : decode M_165.2.2.1 91 = .ok (.bipush 8, 2) := by decide +kernel
theorem d_165_93 : decode M_165.2.2.1 93 = .ok (.iload 6, 2) := by decide +kernel
theorem d_165_95 : decode M_165.2.2.1 95 = .ok (.iconst 4, 1) := by decide +kernel
theorem d_165_96 : decode M_165.2.2.1 96 = .ok (.irem, 1) := by decide +kernel
theorem d_165_97 : decode M_165.2.2.1 97 = .ok (.imul, 1) := by decide +kernel
theorem d_165_98 : decode M_165.2.2.1 98 = .ok (.isub, 1) := by decide +kernel
theorem d_165_99 : decode M_165.2.2.1 99 = .ok (.ishr, 1) := by decide +kernel
theorem d_165_100 : decode M_165.2.2.1 100 = .ok (.sipush 255, 3) := by decide +kernel
theorem d_165_103 : decode M_165.2.2.1 103 = .ok (.iand, 1) := by decide +kernel
theorem d_165_104 : decode M_165.2.2.1 104 = .ok (.iastore, 1) := by decide +kernel
theorem d_165_105 : decode M_165.2.2.1 105 = .ok (.aload_n 0, 1) := by decide +kernel
theorem d_165_106 : decode M_165.2.2.1 106 = .ok (.dup, 1) := by decide +kernel
theorem d_165_107 : decode M_165.2.2.1 107 = .ok (.getfield 92, 3) := by decide +kernel
theorem d_165_110 : decode M_165.2.2.1 110 = .ok (.iconst 1, 1) := by decide +kernel
theorem d_165_111 : decode M_165.2.2.1 111 = .ok (.iadd, 1) := by decide +kernel
theorem d_165_112 : decode M_165.2.2.1 112 = .ok (.putfield 92, 3) := by decide +kernel
theorem d_165_115 : decode M_165.2.2.1 115 = .ok (.iinc 6 1, 3) := by decide +kernel
theorem d_165_118 : decode M_165.2.2.1 118 = .ok (.goto (-94), 3) := by decide +kernel
theorem d_165_121 : decode M_165.2.2.1 121 = .ok (.aload_n 0, 1) := by decide +kernel
theorem d_165_122 : decode M_165.2.2.1 122 = .ok (.getfield 92, 3) := by decide +kernel
theorem d_165_125 : decode M_165.2.2.1 125 = .ok (.ireturn, 1) := by decide +kernel
/-- HeardBarrelsModel.house(I)I -/
def M_166 : am_MT := (9, ⟨"HeardBarrelsModel", "house", "(I)I"⟩, prog_10_method_19_code, 3, some .int, false, 1, (0, 0))
theorem hM_166 : am_ms[166]? = some M_166 := rfl
theorem d_166_0 : decode M_166.2.2.1 0 = .ok (.aload_n 0, 1) := by decide +kernel
theorem d_166_1 : decode M_166.2.2.1 1 = .ok (.iconst 0, 1) := by decide +kernel
theorem d_166_2 : decode M_166.2.2.1 2 = .ok (.putfield 1, 3) := by decide +kernel
theorem d_166_5 : decode M_166.2.2.1 5 = .ok (.iload_n 1, 1) := by decide +kernel
theorem d_166_6 : decode M_166.2.2.1 6 = .ok (.i2l, 1) := by decide +kernel
theorem d_166_7 : decode M_166.2.2.1 7 = .ok (.lconst 0, 1) := by decide +kernel
theorem d_166_8 : decode M_166.2.2.1 8 = .ok (.aload_n 0, 1) := by decide +kernel
theorem d_166_9 : decode M_166.2.2.1 9 = .ok (.getfield 92, 3) := by decide +kernel
theorem d_166_12 : decode M_166.2.2.1 12 = .ok (.i2l, 1) := by decide +kernel
theorem d_166_13 : decode M_166.2.2.1 13 = .ok (.invokestatic 152, 3) := by decide +kernel
theorem d_166_16 : decode M_166.2.2.1 16 = .ok (.ifCond .ne 6, 3) := by decide +kernel
theorem d_166_19 : decode M_166.2.2.1 19 = .ok (.bipush (-3), 2) := by decide +kernel
theorem d_166_21 : decode M_166.2.2.1 21 = .ok (.ireturn, 1) := by decide +kernel
theorem d_166_22 : decode M_166.2.2.1 22 = .ok (.aload_n 0, 1) := by decide +kernel
theorem d_166_23 : decode M_166.2.2.1 23 = .ok (.iload_n 1, 1) := by decide +kernel
theorem d_166_24 : decode M_166.2.2.1 24 = .ok (.putfield 95, 3) := by decide +kernel
theorem d_166_27 : decode M_166.2.2.1 27 = .ok (.aload_n 0, 1) := by decide +kernel
theorem d_166_28 : decode M_166.2.2.1 28 = .ok (.iconst 0, 1) := by decide +kernel
theorem d_166_29 : decode M_166.2.2.1 29 = .ok (.putfield 92, 3) := by decide +kernel
theorem d_166_32 : decode M_166.2.2.1 32 = .ok (.aload_n 0, 1) := by decide +kernel
theorem d_166_33 : decode M_166.2.2.1 33 = .ok (.iconst 0, 1) := by decide +kernel
theorem d_166_34 : decode M_166.2.2.1 34 = .ok (.putfield 113, 3) := by decide +kernel
theorem d_166_37 : decode M_166.2.2.1 37 = .ok (.aload_n 0, 1) := by decide +kernel
theorem d_166_38 : decode M_166.2.2.1 38 = .ok (.iconst 0, 1) := by decide +kernel
theorem d_166_39 : decode M_166.2.2.1 39 = .ok (.putfield 136, 3) := by decide +kernel
theorem d_166_42 : decode M_166.2.2.1 42 = .ok (.aload_n 0, 1) := by decide +kernel
theorem d_166_43 : decode M_166.2.2.1 43 = .ok (.getfield 24, 3) := by decide +kernel
theorem d_166_46 : decode M_166.2.2.1 46 = .ok (.invokestatic 88, 3) := by decide +kernel
theorem d_166_49 : decode M_166.2.2.1 49 = .ok (.aload_n 0, 1) := by decide +kernel
theorem d_166_50 : decode M_166.2.2.1 50 = .ok (.invokevirtual 145, 3) := by decide +kernel
theorem d_166_53 : decode M_166.2.2.1 53 = .ok (.aload_n 0, 1) := by decide +kernel
theorem d_166_54 : decode M_166.2.2.1 54 = .ok (.getfield 136, 3) := by decide +kernel
theorem d_166_57 : decode M_166.2.2.1 57 = .ok (.ifCond .ne 19, 3) := by decide +kernel
theorem d_166_60 : decode M_166.2.2.1 60 = .ok (.aload_n 0, 1) := by decide +kernel
theorem d_166_61 : decode M_166.2.2.1 61 = .ok (.getfield 120, 3) := by decide +kernel
theorem d_166_64 : decode M_166.2.2.1 64 = .ok (.bipush 14, 2) := by decide +kernel
theorem d_166_66 : decode M_166.2.2.1 66 = .ok (.if_icmp .eq 10, 3) := by decide +kernel
theorem d_166_69 : decode M_166.2.2.1 69 = .ok (.aload_n 0, 1) := by decide +kernel
theorem d_166_70 : decode M_166.2.2.1 70 = .ok (.invokevirtual 173, 3) := by decide +kernel
theorem d_166_73 : decode M_166.2.2.1 73 = .ok (.goto (-20), 3) := by decide +kernel
theorem d_166_76 : decode M_166.2.2.1 76 = .ok (.aload_n 0, 1) := by decide +kernel
theorem d_166_77 : decode M_166.2.2.1 77 = .ok (.aload_n 0, 1) := by decide +kernel
theorem d_166_78 : decode M_166.2.2.1 78 = .ok (.getfield 136, 3) := by decide +kernel
theorem d_166_81 : decode M_166.2.2.1 81 = .ok (.putfield 176, 3) := by decide +kernel
theorem d_166_84 : decode M_166.2.2.1 84 = .ok (.aload_n 0, 1) := by decide +kernel
theorem d_166_85 : decode M_166.2.2.1 85 = .ok (.aload_n 0, 1) := by decide +kernel
theorem d_166_86 : decode M_166.2.2.1 86 = .ok (.getfield 136, 3) := by decide +kernel
theorem d_166_89 : decode M_166.2.2.1 89 = .ok (.ifCond .ne 7, 3) := by decide +kernel
theorem d_166_92 : decode M_166.2.2.1 92 = .ok (.iconst (-1), 1) := by decide +kernel
theorem d_166_93 : decode M_166.2.2.1 93 = .ok (.goto 7, 3) := by decide +kernel
theorem d_166_96 : decode M_166.2.2.1 96 = .ok (.aload_n 0, 1) := by decide +kernel
theorem d_166_97 : decode M_166.2.2.1 97 = .ok (.getfield 139, 3) := by decide +kernel
theorem d_166_100 : decode M_166.2.2.1 100 = .ok (.putfield 27, 3) := by decide +kernel
theorem d_166_103 : decode M_166.2.2.1 103 = .ok (.aload_n 0, 1) := by decide +kernel
theorem d_166_104 : decode M_166.2.2.1 104 = .ok (.getfield 136, 3) := by decide +kernel
theorem d_166_107 : decode M_166.2.2.1 107 = .ok (.ifCond .eq 11, 3) := by decide +kernel
theorem d_166_110 : decode M_166.2.2.1 110 = .ok (.bipush (-30), 2) := by decide +kernel
theorem d_166_112 : decode M_166.2.2.1 112 = .ok (.aload_n 0, 1) := by decide +kernel
theorem d_166_113 : decode M_166.2.2.1 113 = .ok (.getfield 136, 3) := by decide +kernel
theorem d_166_116 : decode M_166.2.2.1 116 = .ok (.isub, 1) := by decide +kernel
theorem d_166_117 : decode M_166.2.2.1 117 = .ok (.ireturn, 1) := by decide +kernel
theorem d_166_118 : decode M_166.2.2.1 118 = .ok (.iconst 0, 1) := by decide +kernel
theorem d_166_119 : decode M_166.2.2.1 119 = .ok (.istore_n 2, 1) := by decide +kernel
theorem d_166_120 : decode M_166.2.2.1 120 = .ok (.iload_n 2, 1) := by decide +kernel
theorem d_166_121 : decode M_166.2.2.1 121 = .ok (.bipush 56, 2) := by decide +kernel
theorem d_166_123 : decode M_166.2.2.1 123 = .ok (.if_icmp .ge 21, 3) := by decide +kernel
theorem d_166_126 : decode M_166.2.2.1 126 = .ok (.aload_n 0, 1) := by decide +kernel
theorem d_166_127 : decode M_166.2.2.1 127 = .ok (.getfield 13, 3) := by decide +kernel
theorem d_166_130 : decode M_166.2.2.1 130 = .ok (.iload_n 2, 1) := by decide +kernel
theorem d_166_131 : decode M_166.2.2.1 131 = .ok (.aload_n 0, 1) := by decide +kernel
theorem d_166_132 : decode M_166.2.2.1 132 = .ok (.getfield 24, 3) := by decide +kernel
theorem d_166_135 : decode M_166.2.2.1 135 = .ok (.iload_n 2, 1) := by decide +kernel
theorem d_166_136 : decode M_166.2.2.1 136 = .ok (.iaload, 1) := by decide +kernel
theorem d_166_137 : decode M_166.2.2.1 137 = .ok (.iastore, 1) := by decide +kernel
theorem d_166_138 : decode M_166.2.2.1 138 = .ok (.iinc 2 1, 3) := by decide +kernel
theorem d_166_141 : decode M_166.2.2.1 141 = .ok (.goto (-21), 3) := by decide +kernel
theorem d_166_144 : decode M_166.2.2.1 144 = .ok (.aload_n 0, 1) := by decide +kernel
theorem d_166_145 : decode M_166.2.2.1 145 = .ok (.getfield 13, 3) := by decide +kernel
theorem d_166_148 : decode M_166.2.2.1 148 = .ok (.bipush 7, 2) := by decide +kernel
theorem d_166_150 : decode M_166.2.2.1 150 = .ok (.iaload, 1) := by decide +kernel
theorem d_166_151 : decode M_166.2.2.1 151 = .ok (.ireturn, 1) := by decide +kernel
/-- HeardBarrelsModel.within(JJJ)Z -/
def M_167 : am_MT := (9, ⟨"HeardBarrelsModel", "within", "(JJJ)Z"⟩, prog_10_method_2_code, 6, some .boolean, false, 3, (0, 0))
theorem hM_167 : am_ms[167]? = some M_167 := rfl
theorem d_167_0 : decode M_167.2.2.1 0 = .ok (.lload_n 0, 1) := by decide +kernel
theorem d_167_1 : decode M_167.2.2.1 1 = .ok (.lload_n 2, 1) := by decide +kernel
theorem d_167_2 : decode M_167.2.2.1 2 = .ok (.lcmp, 1) := by decide +kernel
theorem d_167_3 : decode M_167.2.2.1 3 = .ok (.ifCond .lt 14, 3) := by decide +kernel
theorem d_167_6 : decode M_167.2.2.1 6 = .ok (.lload_n 0, 1) := by decide +kernel
theorem d_167_7 : decode M_167.2.2.1 7 = .ok (.lload 4, 2) := by decide +kernel
theorem d_167_9 : decode M_167.2.2.1 9 = .ok (.lcmp, 1) := by decide +kernel
theorem d_167_10 : decode M_167.2.2.1 10 = .ok (.ifCond .gt 7, 3) := by decide +kernel
theorem d_167_13 : decode M_167.2.2.1 13 = .ok (.iconst 1, 1) := by decide +kernel
theorem d_167_14 : decode M_167.2.2.1 14 = .ok (.goto 4, 3) := by decide +kernel
theorem d_167_17 : decode M_167.2.2.1 17 = .ok (.iconst 0, 1) := by decide +kernel
theorem d_167_18 : decode M_167.2.2.1 18 = .ok (.ireturn, 1) := by decide +kernel
/-- HeardBarrelsModel.nextToken()V -/
def M_168 : am_MT := (9, ⟨"HeardBarrelsModel", "nextToken", "()V"⟩, prog_10_method_10_code, 1, none, false, 0, (0, 0))
theorem hM_168 : am_ms[168]? = some M_168 := rfl
theorem d_168_0 : decode M_168.2.2.1 0 = .ok (.aload_n 0, 1) := by decide +kernel
theorem d_168_1 : decode M_168.2.2.1 1 = .ok (.aload_n 0, 1) := by decide +kernel
theorem d_168_2 : decode M_168.2.2.1 2 = .ok (.getfield 113, 3) := by decide +kernel
theorem d_168_5 : decode M_168.2.2.1 5 = .ok (.putfield 110, 3) := by decide +kernel
theorem d_168_8 : decode M_168.2.2.1 8 = .ok (.aload_n 0, 1) := by decide +kernel
theorem d_168_9 : decode M_168.2.2.1 9 = .ok (.aload_n 0, 1) := by decide +kernel
theorem d_168_10 : decode M_168.2.2.1 10 = .ok (.getfield 110, 3) := by decide +kernel
theorem d_168_13 : decode M_168.2.2.1 13 = .ok (.invokevirtual 116, 3) := by decide +kernel
theorem d_168_16 : decode M_168.2.2.1 16 = .ok (.bipush 10, 2) := by decide +kernel
theorem d_168_18 : decode M_168.2.2.1 18 = .ok (.if_icmp .eq 16, 3) := by decide +kernel
theorem d_168_21 : decode M_168.2.2.1 21 = .ok (.aload_n 0, 1) := by decide +kernel
theorem d_168_22 : decode M_168.2.2.1 22 = .ok (.aload_n 0, 1) := by decide +kernel
theorem d_168_23 : decode M_168.2.2.1 23 = .ok (.getfield 110, 3) := by decide +kernel
theorem d_168_26 : decode M_168.2.2.1 26 = .ok (.invokevirtual 116, 3) := by decide +kernel
theorem d_168_29 : decode M_168.2.2.1 29 = .ok (.bipush 32, 2) := by decide +kernel
theorem d_168_31 : decode M_168.2.2.1 31 = .ok (.if_icmp .ne 16, 3) := by decide +kernel
theorem d_168_34 : decode M_168.2.2.1 34 = .ok (.aload_n 0, 1) := by decide +kernel
theorem d_168_35 : decode M_168.2.2.1 35 = .ok (.dup, 1) := by decide +kernel
theorem d_168_36 : decode M_168.2.2.1 36 = .ok (.getfield 110, 3) := by decide +kernel
theorem d_168_39 : decode M_168.2.2.1 39 = .ok (.iconst 1, 1) := by decide +kernel
theorem d_168_40 : decode M_168.2.2.1 40 = .ok (.iadd, 1) := by decide +kernel
theorem d_168_41 : decode M_168.2.2.1 41 = .ok (.putfield 110, 3) := by decide +kernel
theorem d_168_44 : decode M_168.2.2.1 44 = .ok (.goto (-36), 3) := by decide +kernel
theorem d_168_47 : decode M_168.2.2.1 47 = .ok (.aload_n 0, 1) := by decide +kernel
theorem d_168_48 : decode M_168.2.2.1 48 = .ok (.aload_n 0, 1) := by decide +kernel
theorem d_168_49 : decode M_168.2.2.1 49 = .ok (.getfield 110, 3) := by decide +kernel
theorem d_168_52 : decode M_168.2.2.1 52 = .ok (.putfield 113, 3) := by decide +kernel
theorem d_168_55 : decode M_168.2.2.1 55 = .ok (.aload_n 0, 1) := by decide +kernel
theorem d_168_56 : decode M_168.2.2.1 56 = .ok (.getfield 110, 3) := by decide +kernel
theorem d_168_59 : decode M_168.2.2.1 59 = .ok (.aload_n 0, 1) := by decide +kernel
theorem d_168_60 : decode M_168.2.2.1 60 = .ok (.getfield 95, 3) := by decide +kernel
theorem d_168_63 : decode M_168.2.2.1 63 = .ok (.if_icmp .lt 12, 3) := by decide +kernel
theorem d_168_66 : decode M_168.2.2.1 66 = .ok (.aload_n 0, 1) := by decide +kernel
theorem d_168_67 : decode M_168.2.2.1 67 = .ok (.bipush 14, 2) := by decide +kernel
theorem d_168_69 : decode M_168.2.2.1 69 = .ok (.putfield 120, 3) := by decide +kernel
theorem d_168_72 : decode M_168.2.2.1 72 = .ok (.goto 198, 3) := by decide +kernel
theorem d_168_75 : decode M_168.2.2.1 75 = .ok (.aload_n 0, 1) := by decide +kernel
theorem d_168_76 : decode M_168.2.2.1 76 = .ok (.aload_n 0, 1) := by decide +kernel
theorem d_168_77 : decode M_168.2.2.1 77 = .ok (.getfield 110, 3) := by decide +kernel
theorem d_168_80 : decode M_168.2.2.1 80 = .ok (.invokevirtual 116, 3) := by decide +kernel
theorem d_168_83 : decode M_168.2.2.1 83 = .ok (.invokestatic 123, 3) := by decide +kernel
theorem d_168_86 : decode M_168.2.2.1 86 = .ok (.ifCond .eq 41, 3) := by decide +kernel
theorem d_168_89 : decode M_168.2.2.1 89 = .ok (.aload_n 0, 1) := by decide +kernel
theorem d_168_90 : decode M_168.2.2.1 90 = .ok (.aload_n 0, 1) := by decide +kernel
theorem d_168_91 : decode M_168.2.2.1 91 = .ok (.getfield 113, 3) := by decide +kernel
theorem d_168_94 : decode M_168.2.2.1 94 = .ok (.invokevirtual 116, 3) := by decide +kernel
theorem d_168_97 : decode M_168.2.2.1 97 = .ok (.invokestatic 123, 3) := by decide +kernel
theorem d_168_100 : decode M_168.2.2.1 100 = .ok (.ifCond .eq 16, 3) := by decide +kernel
theorem d_168_103 : decode M_168.2.2.1 103 = .ok (.aload_n 0, 1) := by decide +kernel
theorem d_168_104 : decode M_168.2.2.1 104 = .ok (.dup, 1) := by decide +kernel
theorem d_168_105 : decode M_168.2.2.1 105 = .ok (.getfield 113, 3) := by decide +kernel
theorem d_168_108 : decode M_168.2.2.1 108 = .ok (.iconst 1, 1) := by decide +kernel
theorem d_168_109 : decode M_168.2.2.1 109 = .ok (.iadd, 1) := by decide +kernel
theorem d_168_110 : decode M_168.2.2.1 110 = .ok (.putfield 113, 3) := by decide +kernel
theorem d_168_113 : decode M_168.2.2.1 113 = .ok (.goto (-24), 3) := by decide +kernel
theorem d_168_116 : decode M_168.2.2.1 116 = .ok (.aload_n 0, 1) := by decide +kernel
theorem d_168_117 : decode M_168.2.2.1 117 = .ok (.aload_n 0, 1) := by decide +kernel
theorem d_168_118 : decode M_168.2.2.1 118 = .ok (.invokevirtual 127, 3) := by decide +kernel
theorem d_168_121 : decode M_168.2.2.1 121 = .ok (.putfield 120, 3) := by decide +kernel
theorem d_168_124 : decode M_168.2.2.1 124 = .ok (.goto 146, 3) := by decide +kernel
theorem d_168_127 : decode M_168.2.2.1 127 = .ok (.aload_n 0, 1) := by decide +kernel
theorem d_168_128 : decode M_168.2.2.1 128 = .ok (.aload_n 0, 1) := by decide +kernel
theorem d_168_129 : decode M_168.2.2.1 129 = .ok (.getfield 110, 3) := by decide +kernel
theorem d_168_132 : decode M_168.2.2.1 132 = .ok (.invokevirtual 116, 3) := by decide +kernel
theorem d_168_135 : decode M_168.2.2.1 135 = .ok (.invokestatic 130, 3) := by decide +kernel
theorem d_168_138 : decode M_168.2.2.1 138 = .ok (.ifCond .eq 98, 3) := by decide +kernel
theorem d_168_141 : decode M_168.2.2.1 141 = .ok (.aload_n 0, 1) := by decide +kernel
theorem d_168_142 : decode M_168.2.2.1 142 = .ok (.iconst 0, 1) := by decide +kernel
theorem d_168_143 : decode M_168.2.2.1 143 = .ok (.putfield 133, 3) := by decide +kernel
theorem d_168_146 : decode M_168.2.2.1 146 = .ok (.aload_n 0, 1) := by decide +kernel
theorem d_168_147 : decode M_168.2.2.1 147 = .ok (.aload_n 0, 1) := by decide +kernel
theorem d_168_148 : decode M_168.2.2.1 148 = .ok (.getfield 113, 3) := by decide +kernel
theorem d_168_151 : decode M_168.2.2.1 151 = .ok (.invokevirtual 116, 3) := by decide +kernel
theorem d_168_154 : decode M_168.2.2.1 154 = .ok (.invokestatic 130, 3) := by decide +kernel
theorem d_168_157 : decode M_168.2.2.1 157 = .ok (.ifCond .eq 52, 3) := by decide +kernel
theorem d_168_160 : decode M_168.2.2.1 160 = .ok (.aload_n 0, 1) := by decide +kernel
theorem d_168_161 : decode M_168.2.2.1 161 = .ok (.getfield 113, 3) := by decide +kernel
theorem d_168_164 : decode M_168.2.2.1 164 = .ok (.aload_n 0, 1) := by decide +kernel
theorem d_168_165 : decode M_168.2.2.1 165 = .ok (.getfield 110, 3) := by decide +kernel
theorem d_168_168 : decode M_168.2.2.1 168 = .ok (.isub, 1) := by decide +kernel
theorem d_168_169 : decode M_168.2.2.1 169 = .ok (.iconst 3, 1) := by decide +kernel
theorem d_168_170 : decode M_168.2.2.1 170 = .ok (.if_icmp .ge 26, 3) := by decide +kernel
theorem d_168_173 : decode M_168.2.2.1 173 = .ok (.aload_n 0, 1) := by decide +kernel
theorem d_168_174 : decode M_168.2.2.1 174 = .ok (.bipush 10, 2) := by decide +kernel
theorem d_168_176 : decode M_168.2.2.1 176 = .ok (.aload_n 0, 1) := by decide +kernel
theorem d_168_177 : decode M_168.2.2.1 177 = .ok (.getfield 133, 3) := by decide +kernel
theorem d_168_180 : decode M_168.2.2.1 180 = .ok (.imul, 1) := by decide +kernel
theorem d_168_181 : decode M_168.2.2.1 181 = .ok (.aload_n 0, 1) := by decide +kernel
theorem d_168_182 : decode M_168.2.2.1 182 = .ok (.aload_n 0, 1) := by decide +kernel
theorem d_168_183 : decode M_168.2.2.1 183 = .ok (.getfield 113, 3) := by decide +kernel
theorem d_168_186 : decode M_168.2.2.1 186 = .ok (.invokevirtual 116, 3) := by decide +kernel
theorem d_168_189 : decode M_168.2.2.1 189 = .ok (.iadd, 1) := by decide +kernel
theorem d_168_190 : decode M_168.2.2.1 190 = .ok (.bipush 48, 2) := by decide +kernel
theorem d_168_192 : decode M_168.2.2.1 192 = .ok (.isub, 1) := by decide +kernel
theorem d_168_193 : decode M_168.2.2.1 193 = .ok (.putfield 133, 3) := by decide +kernel
theorem d_168_196 : decode M_168.2.2.1 196 = .ok (.aload_n 0, 1) := by decide +kernel
theorem d_168_197 : decode M_168.2.2.1 197 = .ok (.dup, 1) := by decide +kernel
theorem d_168_198 : decode M_168.2.2.1 198 = .ok (.getfield 113, 3) := by decide +kernel
theorem d_168_201 : decode M_168.2.2.1 201 = .ok (.iconst 1, 1) := by decide +kernel
theorem d_168_202 : decode M_168.2.2.1 202 = .ok (.iadd, 1) := by decide +kernel
theorem d_168_203 : decode M_168.2.2.1 203 = .ok (.putfield 113, 3) := by decide +kernel
theorem d_168_206 : decode M_168.2.2.1 206 = .ok (.goto (-60), 3) := by decide +kernel
theorem d_168_209 : decode M_168.2.2.1 209 = .ok (.aload_n 0, 1) := by decide +kernel
theorem d_168_210 : decode M_168.2.2.1 210 = .ok (.aload_n 0, 1) := by decide +kernel
theorem d_168_211 : decode M_168.2.2.1 211 = .ok (.getfield 113, 3) := by decide +kernel
theorem d_168_214 : decode M_168.2.2.1 214 = .ok (.aload_n 0, 1) := by decide +kernel
theorem d_168_215 : decode M_168.2.2.1 215 = .ok (.getfield 110, 3) := by decide +kernel
theorem d_168_218 : decode M_168.2.2.1 218 = .ok (.isub, 1) := by decide +kernel
theorem d_168_219 : decode M_168.2.2.1 219 = .ok (.iconst 3, 1) := by decide +kernel
theorem d_168_220 : decode M_168.2.2.1 220 = .ok (.if_icmp .le 8, 3) := by decide +kernel
theorem d_168_223 : decode M_168.2.2.1 223 = .ok (.bipush 15, 2) := by decide +kernel
theorem d_168_225 : decode M_168.2.2.1 225 = .ok (.goto 5, 3) := by decide +kernel
theorem d_168_228 : decode M_168.2.2.1 228 = .ok (.bipush 12, 2) := by decide +kernel
theorem d_168_230 : decode M_168.2.2.1 230 = .ok (.putfield 120, 3) := by decide +kernel
theorem d_168_233 : decode M_168.2.2.1 233 = .ok (.goto 37, 3) := by decide +kernel
theorem d_168_236 : decode M_168.2.2.1 236 = .ok (.aload_n 0, 1) := by decide +kernel
theorem d_168_237 : decode M_168.2.2.1 237 = .ok (.dup, 1) := by decide +kernel
theorem d_168_238 : decode M_168.2.2.1 238 = .ok (.getfield 113, 3) := by decide +kernel
theorem d_168_241 : decode M_168.2.2.1 241 = .ok (.iconst 1, 1) := by decide +kernel
theorem d_168_242 : decode M_168.2.2.1 242 = .ok (.iadd, 1) := by decide +kernel
theorem d_168_243 : decode M_168.2.2.1 243 = .ok (.putfield 113, 3) := by decide +kernel
theorem d_168_246 : decode M_168.2.2.1 246 = .ok (.aload_n 0, 1) := by decide +kernel
theorem d_168_247 : decode M_168.2.2.1 247 = .ok (.aload_n 0, 1) := by decide +kernel
theorem d_168_248 : decode M_168.2.2.1 248 = .ok (.aload_n 0, 1) := by decide +kernel
theorem d_168_249 : decode M_168.2.2.1 249 = .ok (.getfield 110, 3) := by decide +kernel
theorem d_168_252 : decode M_168.2.2.1 252 = .ok (.invokevirtual 116, 3) := by decide +kernel
theorem d_168_255 : decode M_168.2.2.1 255 = .ok (.bipush 59, 2) := by decide +kernel
theorem d_168_257 : decode M_168.2.2.1 257 = .ok (.if_icmp .ne 8, 3) := by decide +kernel
theorem d_168_260 : decode M_168.2.2.1 260 = .ok (.bipush 13, 2) := by decide +kernel
theorem d_168_262 : decode M_168.2.2.1 262 = .ok (.goto 5, 3) := by decide +kernel
theorem d_168_265 : decode M_168.2.2.1 265 = .ok (.bipush 15, 2) := by decide +kernel
theorem d_168_267 : decode M_168.2.2.1 267 = .ok (.putfield 120, 3) := by decide +kernel
theorem d_168_270 : decode M_168.2.2.1 270 = .ok (.return_, 1) := by decide +kernel
/-- HeardBarrelsModel.see(I)I -/
def M_169 : am_MT := (9, ⟨"HeardBarrelsModel", "see", "(I)I"⟩, prog_10_method_6_code, 2, some .int, false, 1, (0, 0))
theorem hM_169 : am_ms[169]? = some M_169 := rfl
theorem d_169_0 : decode M_169.2.2.1 0 = .ok (.iload_n 1, 1) := by decide +kernel
theorem d_169_1 : decode M_169.2.2.1 1 = .ok (.aload_n 0, 1) := by decide +kernel
theorem d_169_2 : decode M_169.2.2.1 2 = .ok (.getfield 95, 3) := by decide +kernel
theorem d_169_5 : decode M_169.2.2.1 5 = .ok (.if_icmp .ge 12, 3) := by decide +kernel
theorem d_169_8 : decode M_169.2.2.1 8 = .ok (.aload_n 0, 1) := by decide +kernel
theorem d_169_9 : decode M_169.2.2.1 9 = .ok (.getfield 21, 3) := by decide +kernel
theorem d_169_12 : decode M_169.2.2.1 12 = .ok (.iload_n 1, 1) := by decide +kernel
theorem d_169_13 : decode M_169.2.2.1 13 = .ok (.iaload, 1) := by decide +kernel
theorem d_169_14 : decode M_169.2.2.1 14 = .ok (.goto 4, 3) := by decide +kernel
theorem d_169_17 : decode M_169.2.2.1 17 = .ok (.iconst (-1), 1) := by decide +kernel
theorem d_169_18 : decode M_169.2.2.1 18 = .ok (.ireturn, 1) := by decide +kernel
/-- HeardBarrelsModel.isSmall(I)Z -/
def M_170 : am_MT := (9, ⟨"HeardBarrelsModel", "isSmall", "(I)Z"⟩, prog_10_method_7_code, 1, some .boolean, false, 1, (0, 0))
theorem hM_170 : am_ms[170]? = some M_170 := rfl
theorem d_170_0 : decode M_170.2.2.1 0 = .ok (.iload_n 0, 1) := by decide +kernel
theorem d_170_1 : decode M_170.2.2.1 1 = .ok (.bipush 97, 2) := by decide +kernel
theorem d_170_3 : decode M_170.2.2.1 3 = .ok (.if_icmp .lt 13, 3) := by decide +kernel
theorem d_170_6 : decode M_170.2.2.1 6 = .ok (.iload_n 0, 1) := by decide +kernel
theorem d_170_7 : decode M_170.2.2.1 7 = .ok (.bipush 122, 2) := by decide +kernel
theorem d_170_9 : decode M_170.2.2.1 9 = .ok (.if_icmp .gt 7, 3) := by decide +kernel
theorem d_170_12 : decode M_170.2.2.1 12 = .ok (.iconst 1, 1) := by decide +kernel
theorem d_170_13 : decode M_170.2.2.1 13 = .ok (.goto 4, 3) := by decide +kernel
theorem d_170_16 : decode M_170.2.2.1 16 = .ok (.iconst 0, 1) := by decide +kernel
theorem d_170_17 : decode M_170.2.2.1 17 = .ok (.ireturn, 1) := by decide +kernel
/-- HeardBarrelsModel.keyAt()I -/
def M_171 : am_MT := (9, ⟨"HeardBarrelsModel", "keyAt", "()I"⟩, prog_10_method_9_code, 4, some .int, false, 0, (0, 0))
theorem hM_171 : am_ms[171]? = some M_171 := rfl
theorem d_171_0 : decode M_171.2.2.1 0 = .ok (.iconst 0, 1) := by decide +kernel
theorem d_171_1 : decode M_171.2.2.1 1 = .ok (.istore_n 1, 1) := by decide +kernel
theorem d_171_2 : decode M_171.2.2.1 2 = .ok (.iconst 1, 1) := by decide +kernel
theorem d_171_3 : decode M_171.2.2.1 3 = .ok (.istore_n 2, 1) := by decide +kernel
theorem d_171_4 : decode M_171.2.2.1 4 = .ok (.iload_n 2, 1) := by decide +kernel
theorem d_171_5 : decode M_171.2.2.1 5 = .ok (.ldc 98, 2) := by decide +kernel
theorem d_171_7 : decode M_171.2.2.1 7 = .ok (.invokevirtual 100, 3) := by decide +kernel
theorem d_171_10 : decode M_171.2.2.1 10 = .ok (.if_icmp .ge 113, 3) := by decide +kernel
theorem d_171_13 : decode M_171.2.2.1 13 = .ok (.iconst 0, 1) := by decide +kernel
theorem d_171_14 : decode M_171.2.2.1 14 = .ok (.istore_n 3, 1) := by decide +kernel
theorem d_171_15 : decode M_171.2.2.1 15 = .ok (.ldc 98, 2) := by decide +kernel
theorem d_171_17 : decode M_171.2.2.1 17 = .ok (.iload_n 2, 1) := by decide +kernel
theorem d_171_18 : decode M_171.2.2.1 18 = .ok (.iload_n 3, 1) := by decide +kernel
theorem d_171_19 : decode M_171.2.2.1 19 = .ok (.iadd, 1) := by decide +kernel
theorem d_171_20 : decode M_171.2.2.1 20 = .ok (.invokevirtual 106, 3) := by decide +kernel
theorem d_171_23 : decode M_171.2.2.1 23 = .ok (.bipush 32, 2) := by decide +kernel
theorem d_171_25 : decode M_171.2.2.1 25 = .ok (.if_icmp .eq 44, 3) := by decide +kernel
theorem d_171_28 : decode M_171.2.2.1 28 = .ok (.aload_n 0, 1) := by decide +kernel
theorem d_171_29 : decode M_171.2.2.1 29 = .ok (.getfield 110, 3) := by decide +kernel
theorem d_171_32 : decode M_171.2.2.1 32 = .ok (.iload_n 3, 1) := by decide +kernel
theorem d_171_33 : decode M_171.2.2.1 33 = .ok (.iadd, 1) := by decide +kernel
theorem d_171_34 : decode M_171.2.2.1 34 = .ok (.aload_n 0, 1) := by decide +kernel
theorem d_171_35 : decode M_171.2.2.1 35 = .ok (.getfield 113, 3) := by decide +kernel
theorem d_171_38 : decode M_171.2.2.1 38 = .ok (.if_icmp .ge 31, 3) := by decide +kernel
theorem d_171_41 : decode M_171.2.2.1 41 = .ok (.aload_n 0, 1) := by decide +kernel
theorem d_171_42 : decode M_171.2.2.1 42 = .ok (.getfield 21, 3) := by decide +kernel
theorem d_171_45 : decode M_171.2.2.1 45 = .ok (.aload_n 0, 1) := by decide +kernel
theorem d_171_46 : decode M_171.2.2.1 46 = .ok (.getfield 110, 3) := by decide +kernel
theorem d_171_49 : decode M_171.2.2.1 49 = .ok (.iload_n 3, 1) := by decide +kernel
theorem d_171_50 : decode M_171.2.2.1 50 = .ok (.iadd, 1) := by decide +kernel
theorem d_171_51 : decode M_171.2.2.1 51 = .ok (.iaload, 1) := by decide +kernel
theorem d_171_52 : decode M_171.2.2.1 52 = .ok (.ldc 98, 2) := by decide +kernel
theorem d_171_54 : decode M_171.2.2.1 54 = .ok (.iload_n 2, 1) := by decide +kernel
theorem d_171_55 : decode M_171.2.2.1 55 = .ok (.iload_n 3, 1) := by decide +kernel
theorem d_171_56 : decode M_171.2.2.1 56 = .ok (.iadd, 1) := by decide +kernel
theorem d_171_57 : decode M_171.2.2.1 57 = .ok (.invokevirtual 106, 3) := by decide +kernel
theorem d_171_60 : decode M_171.2.2.1 60 = .ok (.if_icmp .ne 9, 3) := by decide +kernel
theorem d_171_63 : decode M_171.2.2.1 63 = .ok (.iinc 3 1, 3) := by decide +kernel
theorem d_171_66 : decode M_171.2.2.1 66 = .ok (.goto (-51), 3) := by decide +kernel
theorem d_171_69 : decode M_171.2.2.1 69 = .ok (.ldc 98, 2) := by decide +kernel
theorem d_171_71 : decode M_171.2.2.1 71 = .ok (.iload_n 2, 1) := by decide +kernel
theorem d_171_72 : decode M_171.2.2.1 72 = .ok (.iload_n 3, 1) := by decide +kernel
theorem d_171_73 : decode M_171.2.2.1 73 = .ok (.iadd, 1) := by decide +kernel
theorem d_171_74 : decode M_171.2.2.1 74 = .ok (.invokevirtual 106, 3) := by decide +kernel
theorem d_171_77 : decode M_171.2.2.1 77 = .ok (.bipush 32, 2) := by decide +kernel
theorem d_171_79 : decode M_171.2.2.1 79 = .ok (.if_icmp .ne 18, 3) := by decide +kernel
theorem d_171_82 : decode M_171.2.2.1 82 = .ok (.aload_n 0, 1) := by decide +kernel
theorem d_171_83 : decode M_171.2.2.1 83 = .ok (.getfield 110, 3) := by decide +kernel
theorem d_171_86 : decode M_171.2.2.1 86 = .ok (.iload_n 3, 1) := by decide +kernel
theorem d_171_87 : decode M_171.2.2.1 87 = .ok (.iadd, 1) := by decide +kernel
theorem d_171_88 : decode M_171.2.2.1 88 = .ok (.aload_n 0, 1) := by decide +kernel
theorem d_171_89 : decode M_171.2.2.1 89 = .ok (.getfield 113, 3) := by decide +kernel
theorem d_171_92 : decode M_171.2.2.1 92 = .ok (.if_icmp .ne 5, 3) := by decide +kernel
theorem d_171_95 : decode M_171.2.2.1 95 = .ok (.iload_n 1, 1) := by decide +kernel
theorem d_171_96 : decode M_171.2.2.1 96 = .ok (.ireturn, 1) := by decide +kernel
theorem d_171_97 : decode M_171.2.2.1 97 = .ok (.ldc 98, 2) := by decide +kernel
theorem d_171_99 : decode M_171.2.2.1 99 = .ok (.iload_n 2, 1) := by decide +kernel
theorem d_171_100 : decode M_171.2.2.1 100 = .ok (.invokevirtual 106, 3) := by decide +kernel
theorem d_171_103 : decode M_171.2.2.1 103 = .ok (.bipush 32, 2) := by decide +kernel
theorem d_171_105 : decode M_171.2.2.1 105 = .ok (.if_icmp .eq 9, 3) := by decide +kernel
theorem d_171_108 : decode M_171.2.2.1 108 = .ok (.iinc 2 1, 3) := by decide +kernel
theorem d_171_111 : decode M_171.2.2.1 111 = .ok (.goto (-14), 3) := by decide +kernel
theorem d_171_114 : decode M_171.2.2.1 114 = .ok (.iinc 2 1, 3) := by decide +kernel
theorem d_171_117 : decode M_171.2.2.1 117 = .ok (.iinc 1 1, 3) := by decide +kernel
theorem d_171_120 : decode M_171.2.2.1 120 = .ok (.goto (-116), 3) := by decide +kernel
theorem d_171_123 : decode M_171.2.2.1 123 = .ok (.bipush 11, 2) := by decide +kernel
theorem d_171_125 : decode M_171.2.2.1 125 = .ok (.ireturn, 1) := by decide +kernel
/-- HeardBarrelsModel.isDigit(I)Z -/
def M_172 : am_MT := (9, ⟨"HeardBarrelsModel", "isDigit", "(I)Z"⟩, prog_10_method_8_code, 1, some .boolean, false, 1, (0, 0))
theorem hM_172 : am_ms[172]? = some M_172 := rfl
theorem d_172_0 : decode M_172.2.2.1 0 = .ok (.iload_n 0, 1) := by decide +kernel
theorem d_172_1 : decode M_172.2.2.1 1 = .ok (.bipush 48, 2) := by decide +kernel
theorem d_172_3 : decode M_172.2.2.1 3 = .ok (.if_icmp .lt 13, 3) := by decide +kernel
theorem d_172_6 : decode M_172.2.2.1 6 = .ok (.iload_n 0, 1) := by decide +kernel
theorem d_172_7 : decode M_172.2.2.1 7 = .ok (.bipush 57, 2) := by decide +kernel
theorem d_172_9 : decode M_172.2.2.1 9 = .ok (.if_icmp .gt 7, 3) := by decide +kernel
theorem d_172_12 : decode M_172.2.2.1 12 = .ok (.iconst 1, 1) := by decide +kernel
theorem d_172_13 : decode M_172.2.2.1 13 = .ok (.goto 4, 3) := by decide +kernel
theorem d_172_16 : decode M_172.2.2.1 16 = .ok (.iconst 0, 1) := by decide +kernel
theorem d_172_17 : decode M_172.2.2.1 17 = .ok (.ireturn, 1) := by decide +kernel
/-- HeardBarrelsModel.readLine()V -/
def M_173 : am_MT := (9, ⟨"HeardBarrelsModel", "readLine", "()V"⟩, prog_10_method_18_code, 1, none, false, 0, (0, 0))
theorem hM_173 : am_ms[173]? = some M_173 := rfl
theorem d_173_0 : decode M_173.2.2.1 0 = .ok (.aload_n 0, 1) := by decide +kernel
theorem d_173_1 : decode M_173.2.2.1 1 = .ok (.iconst 0, 1) := by decide +kernel
theorem d_173_2 : decode M_173.2.2.1 2 = .ok (.invokevirtual 142, 3) := by decide +kernel
theorem d_173_5 : decode M_173.2.2.1 5 = .ok (.ifCond .eq 10, 3) := by decide +kernel
theorem d_173_8 : decode M_173.2.2.1 8 = .ok (.aload_n 0, 1) := by decide +kernel
theorem d_173_9 : decode M_173.2.2.1 9 = .ok (.invokevirtual 167, 3) := by decide +kernel
theorem d_173_12 : decode M_173.2.2.1 12 = .ok (.goto 149, 3) := by decide +kernel
theorem d_173_15 : decode M_173.2.2.1 15 = .ok (.aload_n 0, 1) := by decide +kernel
theorem d_173_16 : decode M_173.2.2.1 16 = .ok (.iconst 5, 1) := by decide +kernel
theorem d_173_17 : decode M_173.2.2.1 17 = .ok (.invokevirtual 142, 3) := by decide +kernel
theorem d_173_20 : decode M_173.2.2.1 20 = .ok (.ifCond .eq 10, 3) := by decide +kernel
theorem d_173_23 : decode M_173.2.2.1 23 = .ok (.aload_n 0, 1) := by decide +kernel
theorem d_173_24 : decode M_173.2.2.1 24 = .ok (.invokevirtual 170, 3) := by decide +kernel
theorem d_173_27 : decode M_173.2.2.1 27 = .ok (.goto 134, 3) := by decide +kernel
theorem d_173_30 : decode M_173.2.2.1 30 = .ok (.aload_n 0, 1) := by decide +kernel
theorem d_173_31 : decode M_173.2.2.1 31 = .ok (.bipush 6, 2) := by decide +kernel
theorem d_173_33 : decode M_173.2.2.1 33 = .ok (.invokevirtual 164, 3) := by decide +kernel
theorem d_173_36 : decode M_173.2.2.1 36 = .ok (.ifCond .eq 19, 3) := by decide +kernel
theorem d_173_39 : decode M_173.2.2.1 39 = .ok (.aload_n 0, 1) := by decide +kernel
theorem d_173_40 : decode M_173.2.2.1 40 = .ok (.getfield 24, 3) := by decide +kernel
theorem d_173_43 : decode M_173.2.2.1 43 = .ok (.iconst 2, 1) := by decide +kernel
theorem d_173_44 : decode M_173.2.2.1 44 = .ok (.aload_n 0, 1) := by decide +kernel
theorem d_173_45 : decode M_173.2.2.1 45 = .ok (.iconst 1, 1) := by decide +kernel
theorem d_173_46 : decode M_173.2.2.1 46 = .ok (.bipush 40, 2) := by decide +kernel
theorem d_173_48 : decode M_173.2.2.1 48 = .ok (.invokevirtual 160, 3) := by decide +kernel
theorem d_173_51 : decode M_173.2.2.1 51 = .ok (.iastore, 1) := by decide +kernel
theorem d_173_52 : decode M_173.2.2.1 52 = .ok (.goto 109, 3) := by decide +kernel
theorem d_173_55 : decode M_173.2.2.1 55 = .ok (.aload_n 0, 1) := by decide +kernel
theorem d_173_56 : decode M_173.2.2.1 56 = .ok (.bipush 7, 2) := by decide +kernel
theorem d_173_58 : decode M_173.2.2.1 58 = .ok (.invokevirtual 164, 3) := by decide +kernel
theorem d_173_61 : decode M_173.2.2.1 61 = .ok (.ifCond .eq 19, 3) := by decide +kernel
theorem d_173_64 : decode M_173.2.2.1 64 = .ok (.aload_n 0, 1) := by decide +kernel
theorem d_173_65 : decode M_173.2.2.1 65 = .ok (.getfield 24, 3) := by decide +kernel
theorem d_173_68 : decode M_173.2.2.1 68 = .ok (.iconst 3, 1) := by decide +kernel
theorem d_173_69 : decode M_173.2.2.1 69 = .ok (.aload_n 0, 1) := by decide +kernel
theorem d_173_70 : decode M_173.2.2.1 70 = .ok (.iconst 0, 1) := by decide +kernel
theorem d_173_71 : decode M_173.2.2.1 71 = .ok (.bipush 20, 2) := by decide +kernel
theorem d_173_73 : decode M_173.2.2.1 73 = .ok (.invokevirtual 160, 3) := by decide +kernel
theorem d_173_76 : decode M_173.2.2.1 76 = .ok (.iastore, 1) := by decide +kernel
theorem d_173_77 : decode M_173.2.2.1 77 = .ok (.goto 84, 3) := by decide +kernel
theorem d_173_80 : decode M_173.2.2.1 80 = .ok (.aload_n 0, 1) := by decide +kernel
theorem d_173_81 : decode M_173.2.2.1 81 = .ok (.bipush 8, 2) := by decide +kernel
theorem d_173_83 : decode M_173.2.2.1 83 = .ok (.invokevirtual 164, 3) := by decide +kernel
theorem d_173_86 : decode M_173.2.2.1 86 = .ok (.ifCond .eq 19, 3) := by decide +kernel
theorem d_173_89 : decode M_173.2.2.1 89 = .ok (.aload_n 0, 1) := by decide +kernel
theorem d_173_90 : decode M_173.2.2.1 90 = .ok (.getfield 24, 3) := by decide +kernel
theorem d_173_93 : decode M_173.2.2.1 93 = .ok (.iconst 4, 1) := by decide +kernel
theorem d_173_94 : decode M_173.2.2.1 94 = .ok (.aload_n 0, 1) := by decide +kernel
theorem d_173_95 : decode M_173.2.2.1 95 = .ok (.iconst 1, 1) := by decide +kernel
theorem d_173_96 : decode M_173.2.2.1 96 = .ok (.bipush 12, 2) := by decide +kernel
theorem d_173_98 : decode M_173.2.2.1 98 = .ok (.invokevirtual 160, 3) := by decide +kernel
theorem d_173_101 : decode M_173.2.2.1 101 = .ok (.iastore, 1) := by decide +kernel
theorem d_173_102 : decode M_173.2.2.1 102 = .ok (.goto 59, 3) := by decide +kernel
theorem d_173_105 : decode M_173.2.2.1 105 = .ok (.aload_n 0, 1) := by decide +kernel
theorem d_173_106 : decode M_173.2.2.1 106 = .ok (.bipush 9, 2) := by decide +kernel
theorem d_173_108 : decode M_173.2.2.1 108 = .ok (.invokevirtual 164, 3) := by decide +kernel
theorem d_173_111 : decode M_173.2.2.1 111 = .ok (.ifCond .eq 19, 3) := by decide +kernel
theorem d_173_114 : decode M_173.2.2.1 114 = .ok (.aload_n 0, 1) := by decide +kernel
theorem d_173_115 : decode M_173.2.2.1 115 = .ok (.getfield 24, 3) := by decide +kernel
theorem d_173_118 : decode M_173.2.2.1 118 = .ok (.iconst 5, 1) := by decide +kernel
theorem d_173_119 : decode M_173.2.2.1 119 = .ok (.aload_n 0, 1) := by decide +kernel
theorem d_173_120 : decode M_173.2.2.1 120 = .ok (.iconst 1, 1) := by decide +kernel
theorem d_173_121 : decode M_173.2.2.1 121 = .ok (.bipush 6, 2) := by decide +kernel
theorem d_173_123 : decode M_173.2.2.1 123 = .ok (.invokevirtual 160, 3) := by decide +kernel
theorem d_173_126 : decode M_173.2.2.1 126 = .ok (.iastore, 1) := by decide +kernel
theorem d_173_127 : decode M_173.2.2.1 127 = .ok (.goto 34, 3) := by decide +kernel
theorem d_173_130 : decode M_173.2.2.1 130 = .ok (.aload_n 0, 1) := by decide +kernel
theorem d_173_131 : decode M_173.2.2.1 131 = .ok (.bipush 10, 2) := by decide +kernel
theorem d_173_133 : decode M_173.2.2.1 133 = .ok (.invokevirtual 164, 3) := by decide +kernel
theorem d_173_136 : decode M_173.2.2.1 136 = .ok (.ifCond .eq 20, 3) := by decide +kernel
theorem d_173_139 : decode M_173.2.2.1 139 = .ok (.aload_n 0, 1) := by decide +kernel
theorem d_173_140 : decode M_173.2.2.1 140 = .ok (.getfield 24, 3) := by decide +kernel
theorem d_173_143 : decode M_173.2.2.1 143 = .ok (.bipush 6, 2) := by decide +kernel
theorem d_173_145 : decode M_173.2.2.1 145 = .ok (.aload_n 0, 1) := by decide +kernel
theorem d_173_146 : decode M_173.2.2.1 146 = .ok (.iconst 0, 1) := by decide +kernel
theorem d_173_147 : decode M_173.2.2.1 147 = .ok (.bipush 9, 2) := by decide +kernel
theorem d_173_149 : decode M_173.2.2.1 149 = .ok (.invokevirtual 160, 3) := by decide +kernel
theorem d_173_152 : decode M_173.2.2.1 152 = .ok (.iastore, 1) := by decide +kernel
theorem d_173_153 : decode M_173.2.2.1 153 = .ok (.goto 8, 3) := by decide +kernel
theorem d_173_156 : decode M_173.2.2.1 156 = .ok (.aload_n 0, 1) := by decide +kernel
theorem d_173_157 : decode M_173.2.2.1 157 = .ok (.iconst 2, 1) := by decide +kernel
theorem d_173_158 : decode M_173.2.2.1 158 = .ok (.invokevirtual 148, 3) := by decide +kernel
theorem d_173_161 : decode M_173.2.2.1 161 = .ok (.aload_n 0, 1) := by decide +kernel
theorem d_173_162 : decode M_173.2.2.1 162 = .ok (.bipush 13, 2) := by decide +kernel
theorem d_173_164 : decode M_173.2.2.1 164 = .ok (.invokevirtual 164, 3) := by decide +kernel
theorem d_173_167 : decode M_173.2.2.1 167 = .ok (.ifCond .ne 8, 3) := by decide +kernel
theorem d_173_170 : decode M_173.2.2.1 170 = .ok (.aload_n 0, 1) := by decide +kernel
theorem d_173_171 : decode M_173.2.2.1 171 = .ok (.iconst 2, 1) := by decide +kernel
theorem d_173_172 : decode M_173.2.2.1 172 = .ok (.invokevirtual 148, 3) := by decide +kernel
theorem d_173_175 : decode M_173.2.2.1 175 = .ok (.aload_n 0, 1) := by decide +kernel
theorem d_173_176 : decode M_173.2.2.1 176 = .ok (.getfield 24, 3) := by decide +kernel
theorem d_173_179 : decode M_173.2.2.1 179 = .ok (.bipush 7, 2) := by decide +kernel
theorem d_173_181 : decode M_173.2.2.1 181 = .ok (.dup2, 1) := by decide +kernel
theorem d_173_182 : decode M_173.2.2.1 182 = .ok (.iaload, 1) := by decide +kernel
theorem d_173_183 : decode M_173.2.2.1 183 = .ok (.iconst 1, 1) := by decide +kernel
theorem d_173_184 : decode M_173.2.2.1 184 = .ok (.iadd, 1) := by decide +kernel
theorem d_173_185 : decode M_173.2.2.1 185 = .ok (.iastore, 1) := by decide +kernel
theorem d_173_186 : decode M_173.2.2.1 186 = .ok (.return_, 1) := by decide +kernel
/-- HeardBarrelsModel.is(I)Z -/
def M_174 : am_MT := (9, ⟨"HeardBarrelsModel", "is", "(I)Z"⟩, prog_10_method_12_code, 2, some .boolean, false, 1, (0, 0))
theorem hM_174 : am_ms[174]? = some M_174 := rfl
theorem d_174_0 : decode M_174.2.2.1 0 = .ok (.aload_n 0, 1) := by decide +kernel
theorem d_174_1 : decode M_174.2.2.1 1 = .ok (.getfield 136, 3) := by decide +kernel
theorem d_174_4 : decode M_174.2.2.1 4 = .ok (.ifCond .ne 15, 3) := by decide +kernel
theorem d_174_7 : decode M_174.2.2.1 7 = .ok (.aload_n 0, 1) := by decide +kernel
theorem d_174_8 : decode M_174.2.2.1 8 = .ok (.getfield 120, 3) := by decide +kernel
theorem d_174_11 : decode M_174.2.2.1 11 = .ok (.iload_n 1, 1) := by decide +kernel
theorem d_174_12 : decode M_174.2.2.1 12 = .ok (.if_icmp .ne 7, 3) := by decide +kernel
theorem d_174_15 : decode M_174.2.2.1 15 = .ok (.iconst 1, 1) := by decide +kernel
theorem d_174_16 : decode M_174.2.2.1 16 = .ok (.goto 4, 3) := by decide +kernel
theorem d_174_19 : decode M_174.2.2.1 19 = .ok (.iconst 0, 1) := by decide +kernel
theorem d_174_20 : decode M_174.2.2.1 20 = .ok (.ireturn, 1) := by decide +kernel
/-- HeardBarrelsModel.readBarrel()V -/
def M_175 : am_MT := (9, ⟨"HeardBarrelsModel", "readBarrel", "()V"⟩, prog_10_method_16_code, 6, none, false, 0, (0, 0))
theorem hM_175 : am_ms[175]? = some M_175 := rfl
theorem d_175_0 : decode M_175.2.2.1 0 = .ok (.aload_n 0, 1) := by decide +kernel
theorem d_175_1 : decode M_175.2.2.1 1 = .ok (.invokevirtual 156, 3) := by decide +kernel
theorem d_175_4 : decode M_175.2.2.1 4 = .ok (.ifCond .ne 4, 3) := by decide +kernel
theorem d_175_7 : decode M_175.2.2.1 7 = .ok (.return_, 1) := by decide +kernel
theorem d_175_8 : decode M_175.2.2.1 8 = .ok (.aload_n 0, 1) := by decide +kernel
theorem d_175_9 : decode M_175.2.2.1 9 = .ok (.getfield 24, 3) := by decide +kernel
theorem d_175_12 : decode M_175.2.2.1 12 = .ok (.iconst 0, 1) := by decide +kernel
theorem d_175_13 : decode M_175.2.2.1 13 = .ok (.iaload, 1) := by decide +kernel
theorem d_175_14 : decode M_175.2.2.1 14 = .ok (.istore_n 1, 1) := by decide +kernel
theorem d_175_15 : decode M_175.2.2.1 15 = .ok (.aload_n 0, 1) := by decide +kernel
theorem d_175_16 : decode M_175.2.2.1 16 = .ok (.iconst 1, 1) := by decide +kernel
theorem d_175_17 : decode M_175.2.2.1 17 = .ok (.bipush 9, 2) := by decide +kernel
theorem d_175_19 : decode M_175.2.2.1 19 = .ok (.invokevirtual 160, 3) := by decide +kernel
theorem d_175_22 : decode M_175.2.2.1 22 = .ok (.istore_n 2, 1) := by decide +kernel
theorem d_175_23 : decode M_175.2.2.1 23 = .ok (.aload_n 0, 1) := by decide +kernel
theorem d_175_24 : decode M_175.2.2.1 24 = .ok (.iconst 1, 1) := by decide +kernel
theorem d_175_25 : decode M_175.2.2.1 25 = .ok (.invokevirtual 164, 3) := by decide +kernel
theorem d_175_28 : decode M_175.2.2.1 28 = .ok (.ifCond .eq 13, 3) := by decide +kernel
theorem d_175_31 : decode M_175.2.2.1 31 = .ok (.aload_n 0, 1) := by decide +kernel
theorem d_175_32 : decode M_175.2.2.1 32 = .ok (.iconst 0, 1) := by decide +kernel
theorem d_175_33 : decode M_175.2.2.1 33 = .ok (.bipush 100, 2) := by decide +kernel
theorem d_175_35 : decode M_175.2.2.1 35 = .ok (.invokevirtual 160, 3) := by decide +kernel
theorem d_175_38 : decode M_175.2.2.1 38 = .ok (.goto 4, 3) := by decide +kernel
theorem d_175_41 : decode M_175.2.2.1 41 = .ok (.iconst 0, 1) := by decide +kernel
theorem d_175_42 : decode M_175.2.2.1 42 = .ok (.istore_n 3, 1) := by decide +kernel
theorem d_175_43 : decode M_175.2.2.1 43 = .ok (.aload_n 0, 1) := by decide +kernel
theorem d_175_44 : decode M_175.2.2.1 44 = .ok (.iconst 2, 1) := by decide +kernel
theorem d_175_45 : decode M_175.2.2.1 45 = .ok (.invokevirtual 164, 3) := by decide +kernel
theorem d_175_48 : decode M_175.2.2.1 48 = .ok (.ifCond .eq 13, 3) := by decide +kernel
theorem d_175_51 : decode M_175.2.2.1 51 = .ok (.aload_n 0, 1) := by decide +kernel
theorem d_175_52 : decode M_175.2.2.1 52 = .ok (.iconst 0, 1) := by decide +kernel
theorem d_175_53 : decode M_175.2.2.1 53 = .ok (.bipush 9, 2) := by decide +kernel
theorem d_175_55 : decode M_175.2.2.1 55 = .ok (.invokevirtual 160, 3) := by decide +kernel
theorem d_175_58 : decode M_175.2.2.1 58 = .ok (.goto 4, 3) := by decide +kernel
theorem d_175_61 : decode M_175.2.2.1 61 = .ok (.iconst 0, 1) := by decide +kernel
theorem d_175_62 : decode M_175.2.2.1 62 = .ok (.istore 4, 2) := by decide +kernel
theorem d_175_64 : decode M_175.2.2.1 64 = .ok (.aload_n 0, 1) := by decide +kernel
theorem d_175_65 : decode M_175.2.2.1 65 = .ok (.iconst 3, 1) := by decide +kernel
theorem d_175_66 : decode M_175.2.2.1 66 = .ok (.invokevirtual 164, 3) := by decide +kernel
theorem d_175_69 : decode M_175.2.2.1 69 = .ok (.ifCond .eq 7, 3) := by decide +kernel
theorem d_175_72 : decode M_175.2.2.1 72 = .ok (.iconst 1, 1) := by decide +kernel
theorem d_175_73 : decode M_175.2.2.1 73 = .ok (.goto 16, 3) := by decide +kernel
theorem d_175_76 : decode M_175.2.2.1 76 = .ok (.aload_n 0, 1) := by decide +kernel
theorem d_175_77 : decode M_175.2.2.1 77 = .ok (.iconst 4, 1) := by decide +kernel
theorem d_175_78 : decode M_175.2.2.1 78 = .ok (.invokevirtual 164, 3) := by decide +kernel
theorem d_175_81 : decode M_175.2.2.1 81 = .ok (.ifCond .eq 7, 3) := by decide +kernel
theorem d_175_84 : decode M_175.2.2.1 84 = .ok (.iconst 2, 1) := by decide +kernel
theorem d_175_85 : decode M_175.2.2.1 85 = .ok (.goto 4, 3) := by decide +kernel
theorem d_175_88 : decode M_175.2.2.1 88 = .ok (.iconst 0, 1) := by decide +kernel
theorem d_175_89 : decode M_175.2.2.1 89 = .ok (.istore 5, 2) := by decide +kernel
theorem d_175_91 : decode M_175.2.2.1 91 = .ok (.aload_n 0, 1) := by decide +kernel
theorem d_175_92 : decode M_175.2.2.1 92 = .ok (.getfield 136, 3) := by decide +kernel
theorem d_175_95 : decode M_175.2.2.1 95 = .ok (.ifCond .eq 4, 3) := by decide +kernel
theorem d_175_98 : decode M_175.2.2.1 98 = .ok (.return_, 1) := by decide +kernel
theorem d_175_99 : decode M_175.2.2.1 99 = .ok (.aload_n 0, 1) := by decide +kernel
theorem d_175_100 : decode M_175.2.2.1 100 = .ok (.getfield 24, 3) := by decide +kernel
theorem d_175_103 : decode M_175.2.2.1 103 = .ok (.bipush 8, 2) := by decide +kernel
theorem d_175_105 : decode M_175.2.2.1 105 = .ok (.iload_n 1, 1) := by decide +kernel
theorem d_175_106 : decode M_175.2.2.1 106 = .ok (.iadd, 1) := by decide +kernel
theorem d_175_107 : decode M_175.2.2.1 107 = .ok (.iload 5, 2) := by decide +kernel
theorem d_175_109 : decode M_175.2.2.1 109 = .ok (.iastore, 1) := by decide +kernel
theorem d_175_110 : decode M_175.2.2.1 110 = .ok (.aload_n 0, 1) := by decide +kernel
theorem d_175_111 : decode M_175.2.2.1 111 = .ok (.getfield 24, 3) := by decide +kernel
theorem d_175_114 : decode M_175.2.2.1 114 = .ok (.bipush 20, 2) := by decide +kernel
theorem d_175_116 : decode M_175.2.2.1 116 = .ok (.iload_n 1, 1) := by decide +kernel
theorem d_175_117 : decode M_175.2.2.1 117 = .ok (.iadd, 1) := by decide +kernel
theorem d_175_118 : decode M_175.2.2.1 118 = .ok (.iload_n 2, 1) := by decide +kernel
theorem d_175_119 : decode M_175.2.2.1 119 = .ok (.iastore, 1) := by decide +kernel
theorem d_175_120 : decode M_175.2.2.1 120 = .ok (.aload_n 0, 1) := by decide +kernel
theorem d_175_121 : decode M_175.2.2.1 121 = .ok (.getfield 24, 3) := by decide +kernel
theorem d_175_124 : decode M_175.2.2.1 124 = .ok (.bipush 32, 2) := by decide +kernel
theorem d_175_126 : decode M_175.2.2.1 126 = .ok (.iload_n 1, 1) := by decide +kernel
theorem d_175_127 : decode M_175.2.2.1 127 = .ok (.iadd, 1) := by decide +kernel
theorem d_175_128 : decode M_175.2.2.1 128 = .ok (.iload_n 3, 1) := by decide +kernel
theorem d_175_129 : decode M_175.2.2.1 129 = .ok (.iastore, 1) := by decide +kernel
theorem d_175_130 : decode M_175.2.2.1 130 = .ok (.aload_n 0, 1) := by decide +kernel
theorem d_175_131 : decode M_175.2.2.1 131 = .ok (.getfield 24, 3) := by decide +kernel
theorem d_175_134 : decode M_175.2.2.1 134 = .ok (.bipush 44, 2) := by decide +kernel
theorem d_175_136 : decode M_175.2.2.1 136 = .ok (.iload_n 1, 1) := by decide +kernel
theorem d_175_137 : decode M_175.2.2.1 137 = .ok (.iadd, 1) := by decide +kernel
theorem d_175_138 : decode M_175.2.2.1 138 = .ok (.iload 4, 2) := by decide +kernel
theorem d_175_140 : decode M_175.2.2.1 140 = .ok (.iastore, 1) := by decide +kernel
theorem d_175_141 : decode M_175.2.2.1 141 = .ok (.aload_n 0, 1) := by decide +kernel
theorem d_175_142 : decode M_175.2.2.1 142 = .ok (.getfield 24, 3) := by decide +kernel
theorem d_175_145 : decode M_175.2.2.1 145 = .ok (.iconst 0, 1) := by decide +kernel
theorem d_175_146 : decode M_175.2.2.1 146 = .ok (.dup2, 1) := by decide +kernel
theorem d_175_147 : decode M_175.2.2.1 147 = .ok (.iaload, 1) := by decide +kernel
theorem d_175_148 : decode M_175.2.2.1 148 = .ok (.iconst 1, 1) := by decide +kernel
theorem d_175_149 : decode M_175.2.2.1 149 = .ok (.iadd, 1) := by decide +kernel
theorem d_175_150 : decode M_175.2.2.1 150 = .ok (.iastore, 1) := by decide +kernel
theorem d_175_151 : decode M_175.2.2.1 151 = .ok (.return_, 1) := by decide +kernel
/-- HeardBarrelsModel.hasRoom()Z -/
def M_176 : am_MT := (9, ⟨"HeardBarrelsModel", "hasRoom", "()Z"⟩, prog_10_method_15_code, 1, some .boolean, false, 0, (0, 0))
theorem hM_176 : am_ms[176]? = some M_176 := rfl
theorem d_176_0 : decode M_176.2.2.1 0 = .ok (.aload_n 0, 1) := by decide +kernel
theorem d_176_1 : decode M_176.2.2.1 1 = .ok (.getfield 24, 3) := by decide +kernel
theorem d_176_4 : decode M_176.2.2.1 4 = .ok (.iconst 0, 1) := by decide +kernel
theorem d_176_5 : decode M_176.2.2.1 5 = .ok (.iaload, 1) := by decide +kernel
theorem d_176_6 : decode M_176.2.2.1 6 = .ok (.bipush 12, 2) := by decide +kernel
theorem d_176_8 : decode M_176.2.2.1 8 = .ok (.if_icmp .ne 8, 3) := by decide +kernel
theorem d_176_11 : decode M_176.2.2.1 11 = .ok (.aload_n 0, 1) := by decide +kernel
theorem d_176_12 : decode M_176.2.2.1 12 = .ok (.iconst 4, 1) := by decide +kernel
theorem d_176_13 : decode M_176.2.2.1 13 = .ok (.invokevirtual 148, 3) := by decide +kernel
theorem d_176_16 : decode M_176.2.2.1 16 = .ok (.aload_n 0, 1) := by decide +kernel
theorem d_176_17 : decode M_176.2.2.1 17 = .ok (.getfield 136, 3) := by decide +kernel
theorem d_176_20 : decode M_176.2.2.1 20 = .ok (.ifCond .ne 7, 3) := by decide +kernel
theorem d_176_23 : decode M_176.2.2.1 23 = .ok (.aload_n 0, 1) := by decide +kernel
theorem d_176_24 : decode M_176.2.2.1 24 = .ok (.invokevirtual 145, 3) := by decide +kernel
theorem d_176_27 : decode M_176.2.2.1 27 = .ok (.aload_n 0, 1) := by decide +kernel
theorem d_176_28 : decode M_176.2.2.1 28 = .ok (.getfield 136, 3) := by decide +kernel
theorem d_176_31 : decode M_176.2.2.1 31 = .ok (.ifCond .ne 7, 3) := by decide +kernel
theorem d_176_34 : decode M_176.2.2.1 34 = .ok (.iconst 1, 1) := by decide +kernel
theorem d_176_35 : decode M_176.2.2.1 35 = .ok (.goto 4, 3) := by decide +kernel
theorem d_176_38 : decode M_176.2.2.1 38 = .ok (.iconst 0, 1) := by decide +kernel
theorem d_176_39 : decode M_176.2.2.1 39 = .ok (.ireturn, 1) := by decide +kernel
/-- HeardBarrelsModel.fails(I)V -/
def M_177 : am_MT := (9, ⟨"HeardBarrelsModel", "fails", "(I)V"⟩, prog_10_method_11_code, 2, none, false, 1, (0, 0))
theorem hM_177 : am_ms[177]? = some M_177 := rfl
theorem d_177_0 : decode M_177.2.2.1 0 = .ok (.aload_n 0, 1) := by decide +kernel
theorem d_177_1 : decode M_177.2.2.1 1 = .ok (.getfield 136, 3) := by decide +kernel
theorem d_177_4 : decode M_177.2.2.1 4 = .ok (.ifCond .eq 4, 3) := by decide +kernel
theorem d_177_7 : decode M_177.2.2.1 7 = .ok (.return_, 1) := by decide +kernel
theorem d_177_8 : decode M_177.2.2.1 8 = .ok (.aload_n 0, 1) := by decide +kernel
theorem d_177_9 : decode M_177.2.2.1 9 = .ok (.aload_n 0, 1) := by decide +kernel
theorem d_177_10 : decode M_177.2.2.1 10 = .ok (.getfield 120, 3) := by decide +kernel
theorem d_177_13 : decode M_177.2.2.1 13 = .ok (.bipush 15, 2) := by decide +kernel
theorem d_177_15 : decode M_177.2.2.1 15 = .ok (.if_icmp .ne 7, 3) := by decide +kernel
theorem d_177_18 : decode M_177.2.2.1 18 = .ok (.iconst 1, 1) := by decide +kernel
theorem d_177_19 : decode M_177.2.2.1 19 = .ok (.goto 4, 3) := by decide +kernel
theorem d_177_22 : decode M_177.2.2.1 22 = .ok (.iload_n 1, 1) := by decide +kernel
theorem d_177_23 : decode M_177.2.2.1 23 = .ok (.putfield 136, 3) := by decide +kernel
theorem d_177_26 : decode M_177.2.2.1 26 = .ok (.aload_n 0, 1) := by decide +kernel
theorem d_177_27 : decode M_177.2.2.1 27 = .ok (.aload_n 0, 1) := by decide +kernel
theorem d_177_28 : decode M_177.2.2.1 28 = .ok (.getfield 110, 3) := by decide +kernel
theorem d_177_31 : decode M_177.2.2.1 31 = .ok (.putfield 139, 3) := by decide +kernel
theorem d_177_34 : decode M_177.2.2.1 34 = .ok (.return_, 1) := by decide +kernel
/-- HeardBarrelsModel.takes(II)I -/
def M_178 : am_MT := (9, ⟨"HeardBarrelsModel", "takes", "(II)I"⟩, prog_10_method_14_code, 4, some .int, false, 2, (0, 0))
theorem hM_178 : am_ms[178]? = some M_178 := rfl
theorem d_178_0 : decode M_178.2.2.1 0 = .ok (.aload_n 0, 1) := by decide +kernel
theorem d_178_1 : decode M_178.2.2.1 1 = .ok (.bipush 12, 2) := by decide +kernel
theorem d_178_3 : decode M_178.2.2.1 3 = .ok (.invokevirtual 142, 3) := by decide +kernel
theorem d_178_6 : decode M_178.2.2.1 6 = .ok (.ifCond .ne 11, 3) := by decide +kernel
theorem d_178_9 : decode M_178.2.2.1 9 = .ok (.aload_n 0, 1) := by decide +kernel
theorem d_178_10 : decode M_178.2.2.1 10 = .ok (.iconst 2, 1) := by decide +kernel
theorem d_178_11 : decode M_178.2.2.1 11 = .ok (.invokevirtual 148, 3) := by decide +kernel
theorem d_178_14 : decode M_178.2.2.1 14 = .ok (.goto 23, 3) := by decide +kernel
theorem d_178_17 : decode M_178.2.2.1 17 = .ok (.aload_n 0, 1) := by decide +kernel
theorem d_178_18 : decode M_178.2.2.1 18 = .ok (.getfield 133, 3) := by decide +kernel
theorem d_178_21 : decode M_178.2.2.1 21 = .ok (.i2l, 1) := by decide +kernel
theorem d_178_22 : decode M_178.2.2.1 22 = .ok (.iload_n 1, 1) := by decide +kernel
theorem d_178_23 : decode M_178.2.2.1 23 = .ok (.i2l, 1) := by decide +kernel
theorem d_178_24 : decode M_178.2.2.1 24 = .ok (.iload_n 2, 1) := by decide +kernel
theorem d_178_25 : decode M_178.2.2.1 25 = .ok (.i2l, 1) := by decide +kernel
theorem d_178_26 : decode M_178.2.2.1 26 = .ok (.invokestatic 152, 3) := by decide +kernel
theorem d_178_29 : decode M_178.2.2.1 29 = .ok (.ifCond .ne 8, 3) := by decide +kernel
theorem d_178_32 : decode M_178.2.2.1 32 = .ok (.aload_n 0, 1) := by decide +kernel
theorem d_178_33 : decode M_178.2.2.1 33 = .ok (.iconst 3, 1) := by decide +kernel
theorem d_178_34 : decode M_178.2.2.1 34 = .ok (.invokevirtual 148, 3) := by decide +kernel
theorem d_178_37 : decode M_178.2.2.1 37 = .ok (.aload_n 0, 1) := by decide +kernel
theorem d_178_38 : decode M_178.2.2.1 38 = .ok (.getfield 133, 3) := by decide +kernel
theorem d_178_41 : decode M_178.2.2.1 41 = .ok (.istore_n 3, 1) := by decide +kernel
theorem d_178_42 : decode M_178.2.2.1 42 = .ok (.aload_n 0, 1) := by decide +kernel
theorem d_178_43 : decode M_178.2.2.1 43 = .ok (.getfield 136, 3) := by decide +kernel
theorem d_178_46 : decode M_178.2.2.1 46 = .ok (.ifCond .ne 7, 3) := by decide +kernel
theorem d_178_49 : decode M_178.2.2.1 49 = .ok (.aload_n 0, 1) := by decide +kernel
theorem d_178_50 : decode M_178.2.2.1 50 = .ok (.invokevirtual 145, 3) := by decide +kernel
theorem d_178_53 : decode M_178.2.2.1 53 = .ok (.iload_n 3, 1) := by decide +kernel
theorem d_178_54 : decode M_178.2.2.1 54 = .ok (.ireturn, 1) := by decide +kernel
/-- HeardBarrelsModel.eats(I)Z -/
def M_179 : am_MT := (9, ⟨"HeardBarrelsModel", "eats", "(I)Z"⟩, prog_10_method_13_code, 2, some .boolean, false, 1, (0, 0))
theorem hM_179 : am_ms[179]? = some M_179 := rfl
theorem d_179_0 : decode M_179.2.2.1 0 = .ok (.aload_n 0, 1) := by decide +kernel
theorem d_179_1 : decode M_179.2.2.1 1 = .ok (.iload_n 1, 1) := by decide +kernel
theorem d_179_2 : decode M_179.2.2.1 2 = .ok (.invokevirtual 142, 3) := by decide +kernel
theorem d_179_5 : decode M_179.2.2.1 5 = .ok (.ifCond .ne 5, 3) := by decide +kernel
theorem d_179_8 : decode M_179.2.2.1 8 = .ok (.iconst 0, 1) := by decide +kernel
theorem d_179_9 : decode M_179.2.2.1 9 = .ok (.ireturn, 1) := by decide +kernel
theorem d_179_10 : decode M_179.2.2.1 10 = .ok (.aload_n 0, 1) := by decide +kernel
theorem d_179_11 : decode M_179.2.2.1 11 = .ok (.invokevirtual 145, 3) := by decide +kernel
theorem d_179_14 : decode M_179.2.2.1 14 = .ok (.iconst 1, 1) := by decide +kernel
theorem d_179_15 : decode M_179.2.2.1 15 = .ok (.ireturn, 1) := by decide +kernel
/-- HeardBarrelsModel.readGap()V -/
def M_180 : am_MT := (9, ⟨"HeardBarrelsModel", "readGap", "()V"⟩, prog_10_method_17_code, 1, none, false, 0, (0, 0))
theorem hM_180 : am_ms[180]? = some M_180 := rfl
theorem d_180_0 : decode M_180.2.2.1 0 = .ok (.aload_n 0, 1) := by decide +kernel
theorem d_180_1 : decode M_180.2.2.1 1 = .ok (.invokevirtual 156, 3) := by decide +kernel
theorem d_180_4 : decode M_180.2.2.1 4 = .ok (.ifCond .ne 4, 3) := by decide +kernel
theorem d_180_7 : decode M_180.2.2.1 7 = .ok (.return_, 1) := by decide +kernel
theorem d_180_8 : decode M_180.2.2.1 8 = .ok (.aload_n 0, 1) := by decide +kernel
theorem d_180_9 : decode M_180.2.2.1 9 = .ok (.getfield 24, 3) := by decide +kernel
theorem d_180_12 : decode M_180.2.2.1 12 = .ok (.bipush 8, 2) := by decide +kernel
theorem d_180_14 : decode M_180.2.2.1 14 = .ok (.aload_n 0, 1) := by decide +kernel
theorem d_180_15 : decode M_180.2.2.1 15 = .ok (.getfield 24, 3) := by decide +kernel
theorem d_180_18 : decode M_180.2.2.1 18 = .ok (.iconst 0, 1) := by decide +kernel
theorem d_180_19 : decode M_180.2.2.1 19 = .ok (.iaload, 1) := by decide +kernel
theorem d_180_20 : decode M_180.2.2.1 20 = .ok (.iadd, 1) := by decide +kernel
theorem d_180_21 : decode M_180.2.2.1 21 = .ok (.iconst 3, 1) := by decide +kernel
theorem d_180_22 : decode M_180.2.2.1 22 = .ok (.iastore, 1) := by decide +kernel
theorem d_180_23 : decode M_180.2.2.1 23 = .ok (.aload_n 0, 1) := by decide +kernel
theorem d_180_24 : decode M_180.2.2.1 24 = .ok (.getfield 24, 3) := by decide +kernel
theorem d_180_27 : decode M_180.2.2.1 27 = .ok (.iconst 0, 1) := by decide +kernel
theorem d_180_28 : decode M_180.2.2.1 28 = .ok (.dup2, 1) := by decide +kernel
theorem d_180_29 : decode M_180.2.2.1 29 = .ok (.iaload, 1) := by decide +kernel
theorem d_180_30 : decode M_180.2.2.1 30 = .ok (.iconst 1, 1) := by decide +kernel
theorem d_180_31 : decode M_180.2.2.1 31 = .ok (.iadd, 1) := by decide +kernel
theorem d_180_32 : decode M_180.2.2.1 32 = .ok (.iastore, 1) := by decide +kernel
theorem d_180_33 : decode M_180.2.2.1 33 = .ok (.return_, 1) := by decide +kernel
/-- HeardBarrelsModel.fault(I)I -/
def M_181 : am_MT := (9, ⟨"HeardBarrelsModel", "fault", "(I)I"⟩, prog_10_method_20_code, 2, some .int, false, 1, (0, 0))
theorem hM_181 : am_ms[181]? = some M_181 := rfl
theorem d_181_0 : decode M_181.2.2.1 0 = .ok (.aload_n 0, 1) := by decide +kernel
theorem d_181_1 : decode M_181.2.2.1 1 = .ok (.iconst 0, 1) := by decide +kernel
theorem d_181_2 : decode M_181.2.2.1 2 = .ok (.putfield 1, 3) := by decide +kernel
theorem d_181_5 : decode M_181.2.2.1 5 = .ok (.iload_n 1, 1) := by decide +kernel
theorem d_181_6 : decode M_181.2.2.1 6 = .ok (.ifCond .ne 10, 3) := by decide +kernel
theorem d_181_9 : decode M_181.2.2.1 9 = .ok (.aload_n 0, 1) := by decide +kernel
theorem d_181_10 : decode M_181.2.2.1 10 = .ok (.getfield 176, 3) := by decide +kernel
theorem d_181_13 : decode M_181.2.2.1 13 = .ok (.goto 16, 3) := by decide +kernel
theorem d_181_16 : decode M_181.2.2.1 16 = .ok (.iload_n 1, 1) := by decide +kernel
theorem d_181_17 : decode M_181.2.2.1 17 = .ok (.iconst 1, 1) := by decide +kernel
theorem d_181_18 : decode M_181.2.2.1 18 = .ok (.if_icmp .ne 10, 3) := by decide +kernel
theorem d_181_21 : decode M_181.2.2.1 21 = .ok (.aload_n 0, 1) := by decide +kernel
theorem d_181_22 : decode M_181.2.2.1 22 = .ok (.getfield 27, 3) := by decide +kernel
theorem d_181_25 : decode M_181.2.2.1 25 = .ok (.goto 4, 3) := by decide +kernel
theorem d_181_28 : decode M_181.2.2.1 28 = .ok (.iconst (-1), 1) := by decide +kernel
theorem d_181_29 : decode M_181.2.2.1 29 = .ok (.ireturn, 1) := by decide +kernel
/-- HeardBarrelsModel.barrel(II)I -/
def M_182 : am_MT := (9, ⟨"HeardBarrelsModel", "barrel", "(II)I"⟩, prog_10_method_27_code, 3, some .int, false, 2, (0, 0))
theorem hM_182 : am_ms[182]? = some M_182 := rfl
theorem d_182_0 : decode M_182.2.2.1 0 = .ok (.aload_n 0, 1) := by decide +kernel
theorem d_182_1 : decode M_182.2.2.1 1 = .ok (.iconst 0, 1) := by decide +kernel
theorem d_182_2 : decode M_182.2.2.1 2 = .ok (.putfield 1, 3) := by decide +kernel
theorem d_182_5 : decode M_182.2.2.1 5 = .ok (.aload_n 0, 1) := by decide +kernel
theorem d_182_6 : decode M_182.2.2.1 6 = .ok (.iload_n 1, 1) := by decide +kernel
theorem d_182_7 : decode M_182.2.2.1 7 = .ok (.i2l, 1) := by decide +kernel
theorem d_182_8 : decode M_182.2.2.1 8 = .ok (.invokevirtual 179, 3) := by decide +kernel
theorem d_182_11 : decode M_182.2.2.1 11 = .ok (.ifCond .eq 32, 3) := by decide +kernel
theorem d_182_14 : decode M_182.2.2.1 14 = .ok (.iload_n 2, 1) := by decide +kernel
theorem d_182_15 : decode M_182.2.2.1 15 = .ok (.i2l, 1) := by decide +kernel
theorem d_182_16 : decode M_182.2.2.1 16 = .ok (.lconst 0, 1) := by decide +kernel
theorem d_182_17 : decode M_182.2.2.1 17 = .ok (.ldc2_w 190, 3) := by decide +kernel
theorem d_182_20 : decode M_182.2.2.1 20 = .ok (.invokestatic 152, 3) := by decide +kernel
theorem d_182_23 : decode M_182.2.2.1 23 = .ok (.ifCond .eq 20, 3) := by decide +kernel
theorem d_182_26 : decode M_182.2.2.1 26 = .ok (.aload_n 0, 1) := by decide +kernel
theorem d_182_27 : decode M_182.2.2.1 27 = .ok (.getfield 13, 3) := by decide +kernel
theorem d_182_30 : decode M_182.2.2.1 30 = .ok (.bipush 8, 2) := by decide +kernel
theorem d_182_32 : decode M_182.2.2.1 32 = .ok (.bipush 12, 2) := by decide +kernel
theorem d_182_34 : decode M_182.2.2.1 34 = .ok (.iload_n 2, 1) := by decide +kernel
theorem d_182_35 : decode M_182.2.2.1 35 = .ok (.imul, 1) := by decide +kernel
theorem d_182_36 : decode M_182.2.2.1 36 = .ok (.iadd, 1) := by decide +kernel
theorem d_182_37 : decode M_182.2.2.1 37 = .ok (.iload_n 1, 1) := by decide +kernel
theorem d_182_38 : decode M_182.2.2.1 38 = .ok (.iadd, 1) := by decide +kernel
theorem d_182_39 : decode M_182.2.2.1 39 = .ok (.iaload, 1) := by decide +kernel
theorem d_182_40 : decode M_182.2.2.1 40 = .ok (.goto 5, 3) := by decide +kernel
theorem d_182_43 : decode M_182.2.2.1 43 = .ok (.bipush (-2), 2) := by decide +kernel
theorem d_182_45 : decode M_182.2.2.1 45 = .ok (.ireturn, 1) := by decide +kernel
/-- HeardBarrelsModel.isPlace(J)Z -/
def M_183 : am_MT := (9, ⟨"HeardBarrelsModel", "isPlace", "(J)Z"⟩, prog_10_method_21_code, 3, some .boolean, false, 1, (0, 0))
theorem hM_183 : am_ms[183]? = some M_183 := rfl
theorem d_183_0 : decode M_183.2.2.1 0 = .ok (.lload_n 1, 1) := by decide +kernel
theorem d_183_1 : decode M_183.2.2.1 1 = .ok (.lconst 0, 1) := by decide +kernel
theorem d_183_2 : decode M_183.2.2.1 2 = .ok (.aload_n 0, 1) := by decide +kernel
theorem d_183_3 : decode M_183.2.2.1 3 = .ok (.getfield 13, 3) := by decide +kernel
theorem d_183_6 : decode M_183.2.2.1 6 = .ok (.iconst 0, 1) := by decide +kernel
theorem d_183_7 : decode M_183.2.2.1 7 = .ok (.iaload, 1) := by decide +kernel
theorem d_183_8 : decode M_183.2.2.1 8 = .ok (.iconst 1, 1) := by decide +kernel
theorem d_183_9 : decode M_183.2.2.1 9 = .ok (.isub, 1) := by decide +kernel
theorem d_183_10 : decode M_183.2.2.1 10 = .ok (.i2l, 1) := by decide +kernel
theorem d_183_11 : decode M_183.2.2.1 11 = .ok (.invokestatic 152, 3) := by decide +kernel
theorem d_183_14 : decode M_183.2.2.1 14 = .ok (.ireturn, 1) := by decide +kernel
/-- HeardBarrelsModel.swap(II)I -/
def M_184 : am_MT := (9, ⟨"HeardBarrelsModel", "swap", "(II)I"⟩, prog_10_method_29_code, 7, some .int, false, 2, (0, 0))
theorem hM_184 : am_ms[184]? = some M_184 := rfl
theorem d_184_0 : decode M_184.2.2.1 0 = .ok (.aload_n 0, 1) := by decide +kernel
theorem d_184_1 : decode M_184.2.2.1 1 = .ok (.iconst 0, 1) := by decide +kernel
theorem d_184_2 : decode M_184.2.2.1 2 = .ok (.putfield 1, 3) := by decide +kernel
theorem d_184_5 : decode M_184.2.2.1 5 = .ok (.aload_n 0, 1) := by decide +kernel
theorem d_184_6 : decode M_184.2.2.1 6 = .ok (.iload_n 1, 1) := by decide +kernel
theorem d_184_7 : decode M_184.2.2.1 7 = .ok (.i2l, 1) := by decide +kernel
theorem d_184_8 : decode M_184.2.2.1 8 = .ok (.invokevirtual 179, 3) := by decide +kernel
theorem d_184_11 : decode M_184.2.2.1 11 = .ok (.ifCond .eq 12, 3) := by decide +kernel
theorem d_184_14 : decode M_184.2.2.1 14 = .ok (.aload_n 0, 1) := by decide +kernel
theorem d_184_15 : decode M_184.2.2.1 15 = .ok (.iload_n 2, 1) := by decide +kernel
theorem d_184_16 : decode M_184.2.2.1 16 = .ok (.i2l, 1) := by decide +kernel
theorem d_184_17 : decode M_184.2.2.1 17 = .ok (.invokevirtual 179, 3) := by decide +kernel
theorem d_184_20 : decode M_184.2.2.1 20 = .ok (.ifCond .ne 6, 3) := by decide +kernel
theorem d_184_23 : decode M_184.2.2.1 23 = .ok (.bipush (-2), 2) := by decide +kernel
theorem d_184_25 : decode M_184.2.2.1 25 = .ok (.ireturn, 1) := by decide +kernel
theorem d_184_26 : decode M_184.2.2.1 26 = .ok (.aload_n 0, 1) := by decide +kernel
theorem d_184_27 : decode M_184.2.2.1 27 = .ok (.getfield 13, 3) := by decide +kernel
theorem d_184_30 : decode M_184.2.2.1 30 = .ok (.bipush 8, 2) := by decide +kernel
theorem d_184_32 : decode M_184.2.2.1 32 = .ok (.iload_n 1, 1) := by decide +kernel
theorem d_184_33 : decode M_184.2.2.1 33 = .ok (.iadd, 1) := by decide +kernel
theorem d_184_34 : decode M_184.2.2.1 34 = .ok (.iaload, 1) := by decide +kernel
theorem d_184_35 : decode M_184.2.2.1 35 = .ok (.istore_n 3, 1) := by decide +kernel
theorem d_184_36 : decode M_184.2.2.1 36 = .ok (.aload_n 0, 1) := by decide +kernel
theorem d_184_37 : decode M_184.2.2.1 37 = .ok (.getfield 13, 3) := by decide +kernel
theorem d_184_40 : decode M_184.2.2.1 40 = .ok (.bipush 20, 2) := by decide +kernel
theorem d_184_42 : decode M_184.2.2.1 42 = .ok (.iload_n 1, 1) := by decide +kernel
theorem d_184_43 : decode M_184.2.2.1 43 = .ok (.iadd, 1) := by decide +kernel
theorem d_184_44 : decode M_184.2.2.1 44 = .ok (.iaload, 1) := by decide +kernel
theorem d_184_45 : decode M_184.2.2.1 45 = .ok (.istore 4, 2) := by decide +kernel
theorem d_184_47 : decode M_184.2.2.1 47 = .ok (.aload_n 0, 1) := by decide +kernel
theorem d_184_48 : decode M_184.2.2.1 48 = .ok (.getfield 13, 3) := by decide +kernel
theorem d_184_51 : decode M_184.2.2.1 51 = .ok (.bipush 32, 2) := by decide +kernel
theorem d_184_53 : decode M_184.2.2.1 53 = .ok (.iload_n 1, 1) := by decide +kernel
theorem d_184_54 : decode M_184.2.2.1 54 = .ok (.iadd, 1) := by decide +kernel
theorem d_184_55 : decode M_184.2.2.1 55 = .ok (.iaload, 1) := by decide +kernel
theorem d_184_56 : decode M_184.2.2.1 56 = .ok (.istore 5, 2) := by decide +kernel
theorem d_184_58 : decode M_184.2.2.1 58 = .ok (.aload_n 0, 1) := by decide +kernel
theorem d_184_59 : decode M_184.2.2.1 59 = .ok (.getfield 13, 3) := by decide +kernel
theorem d_184_62 : decode M_184.2.2.1 62 = .ok (.bipush 44, 2) := by decide +kernel
theorem d_184_64 : decode M_184.2.2.1 64 = .ok (.iload_n 1, 1) := by decide +kernel
theorem d_184_65 : decode M_184.2.2.1 65 = .ok (.iadd, 1) := by decide +kernel
theorem d_184_66 : decode M_184.2.2.1 66 = .ok (.iaload, 1) := by decide +kernel
theorem d_184_67 : decode M_184.2.2.1 67 = .ok (.istore 6, 2) := by decide +kernel
theorem d_184_69 : decode M_184.2.2.1 69 = .ok (.aload_n 0, 1) := by decide +kernel
theorem d_184_70 : decode M_184.2.2.1 70 = .ok (.iload_n 1, 1) := by decide +kernel
theorem d_184_71 : decode M_184.2.2.1 71 = .ok (.aload_n 0, 1) := by decide +kernel
theorem d_184_72 : decode M_184.2.2.1 72 = .ok (.getfield 13, 3) := by decide +kernel
theorem d_184_75 : decode M_184.2.2.1 75 = .ok (.bipush 8, 2) := by decide +kernel
theorem d_184_77 : decode M_184.2.2.1 77 = .ok (.iload_n 2, 1) := by decide +kernel
theorem d_184_78 : decode M_184.2.2.1 78 = .ok (.iadd, 1) := by decide +kernel
theorem d_184_79 : decode M_184.2.2.1 79 = .ok (.iaload, 1) := by decide +kernel
theorem d_184_80 : decode M_184.2.2.1 80 = .ok (.aload_n 0, 1) := by decide +kernel
theorem d_184_81 : decode M_184.2.2.1 81 = .ok (.getfield 13, 3) := by decide +kernel
theorem d_184_84 : decode M_184.2.2.1 84 = .ok (.bipush 20, 2) := by decide +kernel
theorem d_184_86 : decode M_184.2.2.1 86 = .ok (.iload_n 2, 1) := by decide +kernel
theorem d_184_87 : decode M_184.2.2.1 87 = .ok (.iadd, 1) := by decide +kernel
theorem d_184_88 : decode M_184.2.2.1 88 = .ok (.iaload, 1) := by decide +kernel
theorem d_184_89 : decode M_184.2.2.1 89 = .ok (.aload_n 0, 1) := by decide +kernel
theorem d_184_90 : decode M_184.2.2.1 90 = .ok (.getfield 13, 3) := by decide +kernel
theorem d_184_93 : decode M_184.2.2.1 93 = .ok (.bipush 32, 2) := by decide +kernel
theorem d_184_95 : decode M_184.2.2.1 95 = .ok (.iload_n 2, 1) := by decide +kernel
theorem d_184_96 : decode M_184.2.2.1 96 = .ok (.iadd, 1) := by decide +kernel
theorem d_184_97 : decode M_184.2.2.1 97 = .ok (.iaload, 1) := by decide +kernel
theorem d_184_98 : decode M_184.2.2.1 98 = .ok (.aload_n 0, 1) := by decide +kernel
theorem d_184_99 : decode M_184.2.2.1 99 = .ok (.getfield 13, 3) := by decide +kernel
theorem d_184_102 : decode M_184.2.2.1 102 = .ok (.bipush 44, 2) := by decide +kernel
theorem d_184_104 : decode M_184.2.2.1 104 = .ok (.iload_n 2, 1) := by decide +kernel
theorem d_184_105 : decode M_184.2.2.1 105 = .ok (.iadd, 1) := by decide +kernel
theorem d_184_106 : decode M_184.2.2.1 106 = .ok (.iaload, 1) := by decide +kernel
theorem d_184_107 : decode M_184.2.2.1 107 = .ok (.invokevirtual 192, 3) := by decide +kernel
theorem d_184_110 : decode M_184.2.2.1 110 = .ok (.aload_n 0, 1) := by decide +kernel
theorem d_184_111 : decode M_184.2.2.1 111 = .ok (.iload_n 2, 1) := by decide +kernel
theorem d_184_112 : decode M_184.2.2.1 112 = .ok (.iload_n 3, 1) := by decide +kernel
theorem d_184_113 : decode M_184.2.2.1 113 = .ok (.iload 4, 2) := by decide +kernel
theorem d_184_115 : decode M_184.2.2.1 115 = .ok (.iload 5, 2) := by decide +kernel
theorem d_184_117 : decode M_184.2.2.1 117 = .ok (.iload 6, 2) := by decide +kernel
theorem d_184_119 : decode M_184.2.2.1 119 = .ok (.invokevirtual 192, 3) := by decide +kernel
theorem d_184_122 : decode M_184.2.2.1 122 = .ok (.iconst 0, 1) := by decide +kernel
theorem d_184_123 : decode M_184.2.2.1 123 = .ok (.ireturn, 1) := by decide +kernel
/-- HeardBarrelsModel.lays(IIIII)V -/
def M_185 : am_MT := (9, ⟨"HeardBarrelsModel", "lays", "(IIIII)V"⟩, prog_10_method_28_code, 6, none, false, 5, (0, 0))
theorem hM_185 : am_ms[185]? = some M_185 := rfl
theorem d_185_0 : decode M_185.2.2.1 0 = .ok (.aload_n 0, 1) := by decide +kernel
theorem d_185_1 : decode M_185.2.2.1 1 = .ok (.getfield 13, 3) := by decide +kernel
theorem d_185_4 : decode M_185.2.2.1 4 = .ok (.bipush 8, 2) := by decide +kernel
theorem d_185_6 : decode M_185.2.2.1 6 = .ok (.iload_n 1, 1) := by decide +kernel
theorem d_185_7 : decode M_185.2.2.1 7 = .ok (.iadd, 1) := by decide +kernel
theorem d_185_8 : decode M_185.2.2.1 8 = .ok (.iload_n 2, 1) := by decide +kernel
theorem d_185_9 : decode M_185.2.2.1 9 = .ok (.iastore, 1) := by decide +kernel
theorem d_185_10 : decode M_185.2.2.1 10 = .ok (.aload_n 0, 1) := by decide +kernel
theorem d_185_11 : decode M_185.2.2.1 11 = .ok (.getfield 13, 3) := by decide +kernel
theorem d_185_14 : decode M_185.2.2.1 14 = .ok (.bipush 20, 2) := by decide +kernel
theorem d_185_16 : decode M_185.2.2.1 16 = .ok (.iload_n 1, 1) := by decide +kernel
theorem d_185_17 : decode M_185.2.2.1 17 = .ok (.iadd, 1) := by decide +kernel
theorem d_185_18 : decode M_185.2.2.1 18 = .ok (.iload_n 3, 1) := by decide +kernel
theorem d_185_19 : decode M_185.2.2.1 19 = .ok (.iastore, 1) := by decide +kernel
theorem d_185_20 : decode M_185.2.2.1 20 = .ok (.aload_n 0, 1) := by decide +kernel
theorem d_185_21 : decode M_185.2.2.1 21 = .ok (.getfield 13, 3) := by decide +kernel
theorem d_185_24 : decode M_185.2.2.1 24 = .ok (.bipush 32, 2) := by decide +kernel
theorem d_185_26 : decode M_185.2.2.1 26 = .ok (.iload_n 1, 1) := by decide +kernel
theorem d_185_27 : decode M_185.2.2.1 27 = .ok (.iadd, 1) := by decide +kernel
theorem d_185_28 : decode M_185.2.2.1 28 = .ok (.iload 4, 2) := by decide +kernel
theorem d_185_30 : decode M_185.2.2.1 30 = .ok (.iastore, 1) := by decide +kernel
theorem d_185_31 : decode M_185.2.2.1 31 = .ok (.aload_n 0, 1) := by decide +kernel
theorem d_185_32 : decode M_185.2.2.1 32 = .ok (.getfield 13, 3) := by decide +kernel
theorem d_185_35 : decode M_185.2.2.1 35 = .ok (.bipush 44, 2) := by decide +kernel
theorem d_185_37 : decode M_185.2.2.1 37 = .ok (.iload_n 1, 1) := by decide +kernel
theorem d_185_38 : decode M_185.2.2.1 38 = .ok (.iadd, 1) := by decide +kernel
theorem d_185_39 : decode M_185.2.2.1 39 = .ok (.iload 5, 2) := by decide +kernel
theorem d_185_41 : decode M_185.2.2.1 41 = .ok (.iastore, 1) := by decide +kernel
theorem d_185_42 : decode M_185.2.2.1 42 = .ok (.return_, 1) := by decide +kernel
/-- HeardBarrelsModel.sell(I)I -/
def M_186 : am_MT := (9, ⟨"HeardBarrelsModel", "sell", "(I)I"⟩, prog_10_method_30_code, 3, some .int, false, 1, (0, 0))
theorem hM_186 : am_ms[186]? = some M_186 := rfl
theorem d_186_0 : decode M_186.2.2.1 0 = .ok (.aload_n 0, 1) := by decide +kernel
theorem d_186_1 : decode M_186.2.2.1 1 = .ok (.iconst 0, 1) := by decide +kernel
theorem d_186_2 : decode M_186.2.2.1 2 = .ok (.putfield 1, 3) := by decide +kernel
theorem d_186_5 : decode M_186.2.2.1 5 = .ok (.aload_n 0, 1) := by decide +kernel
theorem d_186_6 : decode M_186.2.2.1 6 = .ok (.iload_n 1, 1) := by decide +kernel
theorem d_186_7 : decode M_186.2.2.1 7 = .ok (.i2l, 1) := by decide +kernel
theorem d_186_8 : decode M_186.2.2.1 8 = .ok (.invokevirtual 179, 3) := by decide +kernel
theorem d_186_11 : decode M_186.2.2.1 11 = .ok (.ifCond .ne 6, 3) := by decide +kernel
theorem d_186_14 : decode M_186.2.2.1 14 = .ok (.bipush (-2), 2) := by decide +kernel
theorem d_186_16 : decode M_186.2.2.1 16 = .ok (.ireturn, 1) := by decide +kernel
theorem d_186_17 : decode M_186.2.2.1 17 = .ok (.aload_n 0, 1) := by decide +kernel
theorem d_186_18 : decode M_186.2.2.1 18 = .ok (.iload_n 1, 1) := by decide +kernel
theorem d_186_19 : decode M_186.2.2.1 19 = .ok (.iconst 0, 1) := by decide +kernel
theorem d_186_20 : decode M_186.2.2.1 20 = .ok (.invokevirtual 196, 3) := by decide +kernel
theorem d_186_23 : decode M_186.2.2.1 23 = .ok (.ifCond .eq 17, 3) := by decide +kernel
theorem d_186_26 : decode M_186.2.2.1 26 = .ok (.aload_n 0, 1) := by decide +kernel
theorem d_186_27 : decode M_186.2.2.1 27 = .ok (.getfield 13, 3) := by decide +kernel
theorem d_186_30 : decode M_186.2.2.1 30 = .ok (.bipush 32, 2) := by decide +kernel
theorem d_186_32 : decode M_186.2.2.1 32 = .ok (.iload_n 1, 1) := by decide +kernel
theorem d_186_33 : decode M_186.2.2.1 33 = .ok (.iadd, 1) := by decide +kernel
theorem d_186_34 : decode M_186.2.2.1 34 = .ok (.iaload, 1) := by decide +kernel
theorem d_186_35 : decode M_186.2.2.1 35 = .ok (.bipush 100, 2) := by decide +kernel
theorem d_186_37 : decode M_186.2.2.1 37 = .ok (.if_icmp .ge 6, 3) := by decide +kernel
theorem d_186_40 : decode M_186.2.2.1 40 = .ok (.bipush (-5), 2) := by decide +kernel
theorem d_186_42 : decode M_186.2.2.1 42 = .ok (.ireturn, 1) := by decide +kernel
theorem d_186_43 : decode M_186.2.2.1 43 = .ok (.aload_n 0, 1) := by decide +kernel
theorem d_186_44 : decode M_186.2.2.1 44 = .ok (.getfield 13, 3) := by decide +kernel
theorem d_186_47 : decode M_186.2.2.1 47 = .ok (.bipush 20, 2) := by decide +kernel
theorem d_186_49 : decode M_186.2.2.1 49 = .ok (.iload_n 1, 1) := by decide +kernel
theorem d_186_50 : decode M_186.2.2.1 50 = .ok (.iadd, 1) := by decide +kernel
theorem d_186_51 : decode M_186.2.2.1 51 = .ok (.iaload, 1) := by decide +kernel
theorem d_186_52 : decode M_186.2.2.1 52 = .ok (.istore_n 2, 1) := by decide +kernel
theorem d_186_53 : decode M_186.2.2.1 53 = .ok (.aload_n 0, 1) := by decide +kernel
theorem d_186_54 : decode M_186.2.2.1 54 = .ok (.iload_n 1, 1) := by decide +kernel
theorem d_186_55 : decode M_186.2.2.1 55 = .ok (.iconst 3, 1) := by decide +kernel
theorem d_186_56 : decode M_186.2.2.1 56 = .ok (.iconst 0, 1) := by decide +kernel
theorem d_186_57 : decode M_186.2.2.1 57 = .ok (.iconst 0, 1) := by decide +kernel
theorem d_186_58 : decode M_186.2.2.1 58 = .ok (.iconst 0, 1) := by decide +kernel
theorem d_186_59 : decode M_186.2.2.1 59 = .ok (.invokevirtual 192, 3) := by decide +kernel
theorem d_186_62 : decode M_186.2.2.1 62 = .ok (.iload_n 2, 1) := by decide +kernel
theorem d_186_63 : decode M_186.2.2.1 63 = .ok (.ireturn, 1) := by decide +kernel
/-- HeardBarrelsModel.is(II)Z -/
def M_187 : am_MT := (9, ⟨"HeardBarrelsModel", "is", "(II)Z"⟩, prog_10_method_22_code, 3, some .boolean, false, 2, (0, 0))
theorem hM_187 : am_ms[187]? = some M_187 := rfl
theorem d_187_0 : decode M_187.2.2.1 0 = .ok (.aload_n 0, 1) := by decide +kernel
theorem d_187_1 : decode M_187.2.2.1 1 = .ok (.iload_n 1, 1) := by decide +kernel
theorem d_187_2 : decode M_187.2.2.1 2 = .ok (.i2l, 1) := by decide +kernel
theorem d_187_3 : decode M_187.2.2.1 3 = .ok (.invokevirtual 179, 3) := by decide +kernel
theorem d_187_6 : decode M_187.2.2.1 6 = .ok (.ifCond .eq 20, 3) := by decide +kernel
theorem d_187_9 : decode M_187.2.2.1 9 = .ok (.aload_n 0, 1) := by decide +kernel
theorem d_187_10 : decode M_187.2.2.1 10 = .ok (.getfield 13, 3) := by decide +kernel
theorem d_187_13 : decode M_187.2.2.1 13 = .ok (.bipush 8, 2) := by decide +kernel
theorem d_187_15 : decode M_187.2.2.1 15 = .ok (.iload_n 1, 1) := by decide +kernel
theorem d_187_16 : decode M_187.2.2.1 16 = .ok (.iadd, 1) := by decide +kernel
theorem d_187_17 : decode M_187.2.2.1 17 = .ok (.iaload, 1) := by decide +kernel
theorem d_187_18 : decode M_187.2.2.1 18 = .ok (.iload_n 2, 1) := by decide +kernel
theorem d_187_19 : decode M_187.2.2.1 19 = .ok (.if_icmp .ne 7, 3) := by decide +kernel
theorem d_187_22 : decode M_187.2.2.1 22 = .ok (.iconst 1, 1) := by decide +kernel
theorem d_187_23 : decode M_187.2.2.1 23 = .ok (.goto 4, 3) := by decide +kernel
theorem d_187_26 : decode M_187.2.2.1 26 = .ok (.iconst 0, 1) := by decide +kernel
theorem d_187_27 : decode M_187.2.2.1 27 = .ok (.ireturn, 1) := by decide +kernel
/-- HeardBarrelsModel.put(II)I -/
def M_188 : am_MT := (9, ⟨"HeardBarrelsModel", "put", "(II)I"⟩, prog_10_method_31_code, 3, some .int, false, 2, (0, 0))
theorem hM_188 : am_ms[188]? = some M_188 := rfl
theorem d_188_0 : decode M_188.2.2.1 0 = .ok (.aload_n 0, 1) := by decide +kernel
theorem d_188_1 : decode M_188.2.2.1 1 = .ok (.iconst 0, 1) := by decide +kernel
theorem d_188_2 : decode M_188.2.2.1 2 = .ok (.putfield 1, 3) := by decide +kernel
theorem d_188_5 : decode M_188.2.2.1 5 = .ok (.aload_n 0, 1) := by decide +kernel
theorem d_188_6 : decode M_188.2.2.1 6 = .ok (.iload_n 1, 1) := by decide +kernel
theorem d_188_7 : decode M_188.2.2.1 7 = .ok (.i2l, 1) := by decide +kernel
theorem d_188_8 : decode M_188.2.2.1 8 = .ok (.invokevirtual 179, 3) := by decide +kernel
theorem d_188_11 : decode M_188.2.2.1 11 = .ok (.ifCond .ne 6, 3) := by decide +kernel
theorem d_188_14 : decode M_188.2.2.1 14 = .ok (.bipush (-2), 2) := by decide +kernel
theorem d_188_16 : decode M_188.2.2.1 16 = .ok (.ireturn, 1) := by decide +kernel
theorem d_188_17 : decode M_188.2.2.1 17 = .ok (.aload_n 0, 1) := by decide +kernel
theorem d_188_18 : decode M_188.2.2.1 18 = .ok (.iload_n 1, 1) := by decide +kernel
theorem d_188_19 : decode M_188.2.2.1 19 = .ok (.iconst 3, 1) := by decide +kernel
theorem d_188_20 : decode M_188.2.2.1 20 = .ok (.invokevirtual 196, 3) := by decide +kernel
theorem d_188_23 : decode M_188.2.2.1 23 = .ok (.ifCond .ne 6, 3) := by decide +kernel
theorem d_188_26 : decode M_188.2.2.1 26 = .ok (.bipush (-5), 2) := by decide +kernel
theorem d_188_28 : decode M_188.2.2.1 28 = .ok (.ireturn, 1) := by decide +kernel
theorem d_188_29 : decode M_188.2.2.1 29 = .ok (.iload_n 2, 1) := by decide +kernel
theorem d_188_30 : decode M_188.2.2.1 30 = .ok (.i2l, 1) := by decide +kernel
theorem d_188_31 : decode M_188.2.2.1 31 = .ok (.lconst 1, 1) := by decide +kernel
theorem d_188_32 : decode M_188.2.2.1 32 = .ok (.ldc2_w 199, 3) := by decide +kernel
theorem d_188_35 : decode M_188.2.2.1 35 = .ok (.invokestatic 152, 3) := by decide +kernel
theorem d_188_38 : decode M_188.2.2.1 38 = .ok (.ifCond .ne 6, 3) := by decide +kernel
theorem d_188_41 : decode M_188.2.2.1 41 = .ok (.bipush (-3), 2) := by decide +kernel
theorem d_188_43 : decode M_188.2.2.1 43 = .ok (.ireturn, 1) := by decide +kernel
theorem d_188_44 : decode M_188.2.2.1 44 = .ok (.aload_n 0, 1) := by decide +kernel
theorem d_188_45 : decode M_188.2.2.1 45 = .ok (.iload_n 1, 1) := by decide +kernel
theorem d_188_46 : decode M_188.2.2.1 46 = .ok (.iconst 0, 1) := by decide +kernel
theorem d_188_47 : decode M_188.2.2.1 47 = .ok (.iload_n 2, 1) := by decide +kernel
theorem d_188_48 : decode M_188.2.2.1 48 = .ok (.iconst 0, 1) := by decide +kernel
theorem d_188_49 : decode M_188.2.2.1 49 = .ok (.iconst 0, 1) := by decide +kernel
theorem d_188_50 : decode M_188.2.2.1 50 = .ok (.invokevirtual 192, 3) := by decide +kernel
theorem d_188_53 : decode M_188.2.2.1 53 = .ok (.iconst 0, 1) := by decide +kernel
theorem d_188_54 : decode M_188.2.2.1 54 = .ok (.ireturn, 1) := by decide +kernel
/-- HeardBarrelsModel.day(I)I -/
def M_189 : am_MT := (9, ⟨"HeardBarrelsModel", "day", "(I)I"⟩, prog_10_method_35_code, 3, some .int, false, 1, (0, 0))
theorem hM_189 : am_ms[189]? = some M_189 := rfl
theorem d_189_0 : decode M_189.2.2.1 0 = .ok (.aload_n 0, 1) := by decide +kernel
theorem d_189_1 : decode M_189.2.2.1 1 = .ok (.iconst 0, 1) := by decide +kernel
theorem d_189_2 : decode M_189.2.2.1 2 = .ok (.putfield 1, 3) := by decide +kernel
theorem d_189_5 : decode M_189.2.2.1 5 = .ok (.aload_n 0, 1) := by decide +kernel
theorem d_189_6 : decode M_189.2.2.1 6 = .ok (.iload_n 1, 1) := by decide +kernel
theorem d_189_7 : decode M_189.2.2.1 7 = .ok (.i2l, 1) := by decide +kernel
theorem d_189_8 : decode M_189.2.2.1 8 = .ok (.invokevirtual 213, 3) := by decide +kernel
theorem d_189_11 : decode M_189.2.2.1 11 = .ok (.istore_n 2, 1) := by decide +kernel
theorem d_189_12 : decode M_189.2.2.1 12 = .ok (.iload_n 2, 1) := by decide +kernel
theorem d_189_13 : decode M_189.2.2.1 13 = .ok (.ifCond .ne 11, 3) := by decide +kernel
theorem d_189_16 : decode M_189.2.2.1 16 = .ok (.aload_n 0, 1) := by decide +kernel
theorem d_189_17 : decode M_189.2.2.1 17 = .ok (.iload_n 1, 1) := by decide +kernel
theorem d_189_18 : decode M_189.2.2.1 18 = .ok (.invokevirtual 216, 3) := by decide +kernel
theorem d_189_21 : decode M_189.2.2.1 21 = .ok (.goto 25, 3) := by decide +kernel
theorem d_189_24 : decode M_189.2.2.1 24 = .ok (.iload_n 2, 1) := by decide +kernel
theorem d_189_25 : decode M_189.2.2.1 25 = .ok (.iconst 1, 1) := by decide +kernel
theorem d_189_26 : decode M_189.2.2.1 26 = .ok (.if_icmp .ne 8, 3) := by decide +kernel
theorem d_189_29 : decode M_189.2.2.1 29 = .ok (.bipush (-3), 2) := by decide +kernel
theorem d_189_31 : decode M_189.2.2.1 31 = .ok (.goto 15, 3) := by decide +kernel
theorem d_189_34 : decode M_189.2.2.1 34 = .ok (.iload_n 2, 1) := by decide +kernel
theorem d_189_35 : decode M_189.2.2.1 35 = .ok (.iconst 2, 1) := by decide +kernel
theorem d_189_36 : decode M_189.2.2.1 36 = .ok (.if_icmp .ne 8, 3) := by decide +kernel
theorem d_189_39 : decode M_189.2.2.1 39 = .ok (.bipush (-4), 2) := by decide +kernel
theorem d_189_41 : decode M_189.2.2.1 41 = .ok (.goto 5, 3) := by decide +kernel
theorem d_189_44 : decode M_189.2.2.1 44 = .ok (.bipush (-5), 2) := by decide +kernel
theorem d_189_46 : decode M_189.2.2.1 46 = .ok (.ireturn, 1) := by decide +kernel
/-- HeardBarrelsModel.refuses(J)I -/
def M_190 : am_MT := (9, ⟨"HeardBarrelsModel", "refuses", "(J)I"⟩, prog_10_method_34_code, 3, some .int, false, 1, (0, 0))
theorem hM_190 : am_ms[190]? = some M_190 := rfl
theorem d_190_0 : decode M_190.2.2.1 0 = .ok (.lload_n 1, 1) := by decide +kernel
theorem d_190_1 : decode M_190.2.2.1 1 = .ok (.aload_n 0, 1) := by decide +kernel
theorem d_190_2 : decode M_190.2.2.1 2 = .ok (.invokevirtual 204, 3) := by decide +kernel
theorem d_190_5 : decode M_190.2.2.1 5 = .ok (.i2l, 1) := by decide +kernel
theorem d_190_6 : decode M_190.2.2.1 6 = .ok (.ldc2_w 207, 3) := by decide +kernel
theorem d_190_9 : decode M_190.2.2.1 9 = .ok (.lxor, 1) := by decide +kernel
theorem d_190_10 : decode M_190.2.2.1 10 = .ok (.land, 1) := by decide +kernel
theorem d_190_11 : decode M_190.2.2.1 11 = .ok (.lconst 0, 1) := by decide +kernel
theorem d_190_12 : decode M_190.2.2.1 12 = .ok (.lcmp, 1) := by decide +kernel
theorem d_190_13 : decode M_190.2.2.1 13 = .ok (.ifCond .eq 5, 3) := by decide +kernel
theorem d_190_16 : decode M_190.2.2.1 16 = .ok (.iconst 1, 1) := by decide +kernel
theorem d_190_17 : decode M_190.2.2.1 17 = .ok (.ireturn, 1) := by decide +kernel
theorem d_190_18 : decode M_190.2.2.1 18 = .ok (.lload_n 1, 1) := by decide +kernel
theorem d_190_19 : decode M_190.2.2.1 19 = .ok (.invokestatic 209, 3) := by decide +kernel
theorem d_190_22 : decode M_190.2.2.1 22 = .ok (.aload_n 0, 1) := by decide +kernel
theorem d_190_23 : decode M_190.2.2.1 23 = .ok (.getfield 13, 3) := by decide +kernel
theorem d_190_26 : decode M_190.2.2.1 26 = .ok (.iconst 4, 1) := by decide +kernel
theorem d_190_27 : decode M_190.2.2.1 27 = .ok (.iaload, 1) := by decide +kernel
theorem d_190_28 : decode M_190.2.2.1 28 = .ok (.if_icmp .le 7, 3) := by decide +kernel
theorem d_190_31 : decode M_190.2.2.1 31 = .ok (.iconst 2, 1) := by decide +kernel
theorem d_190_32 : decode M_190.2.2.1 32 = .ok (.goto 20, 3) := by decide +kernel
theorem d_190_35 : decode M_190.2.2.1 35 = .ok (.aload_n 0, 1) := by decide +kernel
theorem d_190_36 : decode M_190.2.2.1 36 = .ok (.getfield 13, 3) := by decide +kernel
theorem d_190_39 : decode M_190.2.2.1 39 = .ok (.iconst 1, 1) := by decide +kernel
theorem d_190_40 : decode M_190.2.2.1 40 = .ok (.iaload, 1) := by decide +kernel
theorem d_190_41 : decode M_190.2.2.1 41 = .ok (.sipush 9999, 3) := by decide +kernel
theorem d_190_44 : decode M_190.2.2.1 44 = .ok (.if_icmp .ne 7, 3) := by decide +kernel
theorem d_190_47 : decode M_190.2.2.1 47 = .ok (.iconst 3, 1) := by decide +kernel
theorem d_190_48 : decode M_190.2.2.1 48 = .ok (.goto 4, 3) := by decide +kernel
theorem d_190_51 : decode M_190.2.2.1 51 = .ok (.iconst 0, 1) := by decide +kernel
theorem d_190_52 : decode M_190.2.2.1 52 = .ok (.ireturn, 1) := by decide +kernel
/-- HeardBarrelsModel.barrels()I -/
def M_191 : am_MT := (9, ⟨"HeardBarrelsModel", "barrels", "()I"⟩, prog_10_method_26_code, 1, some .int, false, 0, (0, 0))
theorem hM_191 : am_ms[191]? = some M_191 := rfl
theorem d_191_0 : decode M_191.2.2.1 0 = .ok (.aload_n 0, 1) := by decide +kernel
theorem d_191_1 : decode M_191.2.2.1 1 = .ok (.iconst 0, 1) := by decide +kernel
theorem d_191_2 : decode M_191.2.2.1 2 = .ok (.invokevirtual 187, 3) := by decide +kernel
theorem d_191_5 : decode M_191.2.2.1 5 = .ok (.aload_n 0, 1) := by decide +kernel
theorem d_191_6 : decode M_191.2.2.1 6 = .ok (.iconst 1, 1) := by decide +kernel
theorem d_191_7 : decode M_191.2.2.1 7 = .ok (.invokevirtual 187, 3) := by decide +kernel
theorem d_191_10 : decode M_191.2.2.1 10 = .ok (.ior, 1) := by decide +kernel
theorem d_191_11 : decode M_191.2.2.1 11 = .ok (.aload_n 0, 1) := by decide +kernel
theorem d_191_12 : decode M_191.2.2.1 12 = .ok (.iconst 2, 1) := by decide +kernel
theorem d_191_13 : decode M_191.2.2.1 13 = .ok (.invokevirtual 187, 3) := by decide +kernel
theorem d_191_16 : decode M_191.2.2.1 16 = .ok (.ior, 1) := by decide +kernel
theorem d_191_17 : decode M_191.2.2.1 17 = .ok (.ireturn, 1) := by decide +kernel
/-- HeardBarrelsModel.ones(I)I -/
def M_192 : am_MT := (9, ⟨"HeardBarrelsModel", "ones", "(I)I"⟩, prog_10_method_25_code, 4, some .int, false, 1, (0, 0))
theorem hM_192 : am_ms[192]? = some M_192 := rfl
theorem d_192_0 : decode M_192.2.2.1 0 = .ok (.iconst 0, 1) := by decide +kernel
theorem d_192_1 : decode M_192.2.2.1 1 = .ok (.istore_n 2, 1) := by decide +kernel
theorem d_192_2 : decode M_192.2.2.1 2 = .ok (.iconst 0, 1) := by decide +kernel
theorem d_192_3 : decode M_192.2.2.1 3 = .ok (.istore_n 3, 1) := by decide +kernel
theorem d_192_4 : decode M_192.2.2.1 4 = .ok (.iload_n 3, 1) := by decide +kernel
theorem d_192_5 : decode M_192.2.2.1 5 = .ok (.aload_n 0, 1) := by decide +kernel
theorem d_192_6 : decode M_192.2.2.1 6 = .ok (.getfield 13, 3) := by decide +kernel
theorem d_192_9 : decode M_192.2.2.1 9 = .ok (.iconst 0, 1) := by decide +kernel
theorem d_192_10 : decode M_192.2.2.1 10 = .ok (.iaload, 1) := by decide +kernel
theorem d_192_11 : decode M_192.2.2.1 11 = .ok (.if_icmp .ge 32, 3) := by decide +kernel
theorem d_192_14 : decode M_192.2.2.1 14 = .ok (.iload_n 2, 1) := by decide +kernel
theorem d_192_15 : decode M_192.2.2.1 15 = .ok (.aload_n 0, 1) := by decide +kernel
theorem d_192_16 : decode M_192.2.2.1 16 = .ok (.getfield 13, 3) := by decide +kernel
theorem d_192_19 : decode M_192.2.2.1 19 = .ok (.bipush 8, 2) := by decide +kernel
theorem d_192_21 : decode M_192.2.2.1 21 = .ok (.iload_n 3, 1) := by decide +kernel
theorem d_192_22 : decode M_192.2.2.1 22 = .ok (.iadd, 1) := by decide +kernel
theorem d_192_23 : decode M_192.2.2.1 23 = .ok (.iaload, 1) := by decide +kernel
theorem d_192_24 : decode M_192.2.2.1 24 = .ok (.iload_n 1, 1) := by decide +kernel
theorem d_192_25 : decode M_192.2.2.1 25 = .ok (.if_icmp .ne 9, 3) := by decide +kernel
theorem d_192_28 : decode M_192.2.2.1 28 = .ok (.iconst 1, 1) := by decide +kernel
theorem d_192_29 : decode M_192.2.2.1 29 = .ok (.iload_n 3, 1) := by decide +kernel
theorem d_192_30 : decode M_192.2.2.1 30 = .ok (.ishl, 1) := by decide +kernel
theorem d_192_31 : decode M_192.2.2.1 31 = .ok (.goto 4, 3) := by decide +kernel
theorem d_192_34 : decode M_192.2.2.1 34 = .ok (.iconst 0, 1) := by decide +kernel
theorem d_192_35 : decode M_192.2.2.1 35 = .ok (.ior, 1) := by decide +kernel
theorem d_192_36 : decode M_192.2.2.1 36 = .ok (.istore_n 2, 1) := by decide +kernel
theorem d_192_37 : decode M_192.2.2.1 37 = .ok (.iinc 3 1, 3) := by decide +kernel
theorem d_192_40 : decode M_192.2.2.1 40 = .ok (.goto (-36), 3) := by decide +kernel
theorem d_192_43 : decode M_192.2.2.1 43 = .ok (.iload_n 2, 1) := by decide +kernel
theorem d_192_44 : decode M_192.2.2.1 44 = .ok (.ireturn, 1) := by decide +kernel
/-- HeardBarrelsModel.bitsOf(J)I -/
def M_193 : am_MT := (9, ⟨"HeardBarrelsModel", "bitsOf", "(J)I"⟩, prog_10_method_24_code, 4, some .int, false, 1, (0, 0))
theorem hM_193 : am_ms[193]? = some M_193 := rfl
theorem d_193_0 : decode M_193.2.2.1 0 = .ok (.iconst 0, 1) := by decide +kernel
theorem d_193_1 : decode M_193.2.2.1 1 = .ok (.istore_n 2, 1) := by decide +kernel
theorem d_193_2 : decode M_193.2.2.1 2 = .ok (.iconst 0, 1) := by decide +kernel
theorem d_193_3 : decode M_193.2.2.1 3 = .ok (.istore_n 3, 1) := by decide +kernel
theorem d_193_4 : decode M_193.2.2.1 4 = .ok (.iload_n 3, 1) := by decide +kernel
theorem d_193_5 : decode M_193.2.2.1 5 = .ok (.bipush 12, 2) := by decide +kernel
theorem d_193_7 : decode M_193.2.2.1 7 = .ok (.if_icmp .ge 25, 3) := by decide +kernel
theorem d_193_10 : decode M_193.2.2.1 10 = .ok (.iload_n 2, 1) := by decide +kernel
theorem d_193_11 : decode M_193.2.2.1 11 = .ok (.lload_n 0, 1) := by decide +kernel
theorem d_193_12 : decode M_193.2.2.1 12 = .ok (.iload_n 3, 1) := by decide +kernel
theorem d_193_13 : decode M_193.2.2.1 13 = .ok (.invokestatic 183, 3) := by decide +kernel
theorem d_193_16 : decode M_193.2.2.1 16 = .ok (.ifCond .eq 7, 3) := by decide +kernel
theorem d_193_19 : decode M_193.2.2.1 19 = .ok (.iconst 1, 1) := by decide +kernel
theorem d_193_20 : decode M_193.2.2.1 20 = .ok (.goto 4, 3) := by decide +kernel
theorem d_193_23 : decode M_193.2.2.1 23 = .ok (.iconst 0, 1) := by decide +kernel
theorem d_193_24 : decode M_193.2.2.1 24 = .ok (.iadd, 1) := by decide +kernel
theorem d_193_25 : decode M_193.2.2.1 25 = .ok (.istore_n 2, 1) := by decide +kernel
theorem d_193_26 : decode M_193.2.2.1 26 = .ok (.iinc 3 1, 3) := by decide +kernel
theorem d_193_29 : decode M_193.2.2.1 29 = .ok (.goto (-25), 3) := by decide +kernel
theorem d_193_32 : decode M_193.2.2.1 32 = .ok (.iload_n 2, 1) := by decide +kernel
theorem d_193_33 : decode M_193.2.2.1 33 = .ok (.ireturn, 1) := by decide +kernel
/-- HeardBarrelsModel.isIn(JI)Z -/
def M_194 : am_MT := (9, ⟨"HeardBarrelsModel", "isIn", "(JI)Z"⟩, prog_10_method_23_code, 3, some .boolean, false, 2, (0, 0))
theorem hM_194 : am_ms[194]? = some M_194 := rfl
theorem d_194_0 : decode M_194.2.2.1 0 = .ok (.lload_n 0, 1) := by decide +kernel
theorem d_194_1 : decode M_194.2.2.1 1 = .ok (.iload_n 2, 1) := by decide +kernel
theorem d_194_2 : decode M_194.2.2.1 2 = .ok (.lshr, 1) := by decide +kernel
theorem d_194_3 : decode M_194.2.2.1 3 = .ok (.lconst 1, 1) := by decide +kernel
theorem d_194_4 : decode M_194.2.2.1 4 = .ok (.land, 1) := by decide +kernel
theorem d_194_5 : decode M_194.2.2.1 5 = .ok (.lconst 1, 1) := by decide +kernel
theorem d_194_6 : decode M_194.2.2.1 6 = .ok (.lcmp, 1) := by decide +kernel
theorem d_194_7 : decode M_194.2.2.1 7 = .ok (.ifCond .ne 7, 3) := by decide +kernel
theorem d_194_10 : decode M_194.2.2.1 10 = .ok (.iconst 1, 1) := by decide +kernel
theorem d_194_11 : decode M_194.2.2.1 11 = .ok (.goto 4, 3) := by decide +kernel
theorem d_194_14 : decode M_194.2.2.1 14 = .ok (.iconst 0, 1) := by decide +kernel
theorem d_194_15 : decode M_194.2.2.1 15 = .ok (.ireturn, 1) := by decide +kernel
/-- HeardBarrelsModel.goes(I)I -/
def M_195 : am_MT := (9, ⟨"HeardBarrelsModel", "goes", "(I)I"⟩, prog_10_method_33_code, 8, some .int, false, 1, (0, 0))
theorem hM_195 : am_ms[195]? = some M_195 := rfl
theorem d_195_0 : decode M_195.2.2.1 0 = .ok (.aload_n 0, 1) := by decide +kernel
theorem d_195_1 : decode M_195.2.2.1 1 = .ok (.iconst 1, 1) := by decide +kernel
theorem d_195_2 : decode M_195.2.2.1 2 = .ok (.invokevirtual 187, 3) := by decide +kernel
theorem d_195_5 : decode M_195.2.2.1 5 = .ok (.istore_n 2, 1) := by decide +kernel
theorem d_195_6 : decode M_195.2.2.1 6 = .ok (.iconst 0, 1) := by decide +kernel
theorem d_195_7 : decode M_195.2.2.1 7 = .ok (.istore_n 3, 1) := by decide +kernel
theorem d_195_8 : decode M_195.2.2.1 8 = .ok (.iconst 0, 1) := by decide +kernel
theorem d_195_9 : decode M_195.2.2.1 9 = .ok (.istore 4, 2) := by decide +kernel
theorem d_195_11 : decode M_195.2.2.1 11 = .ok (.iload 4, 2) := by decide +kernel
theorem d_195_13 : decode M_195.2.2.1 13 = .ok (.aload_n 0, 1) := by decide +kernel
theorem d_195_14 : decode M_195.2.2.1 14 = .ok (.getfield 13, 3) := by decide +kernel
theorem d_195_17 : decode M_195.2.2.1 17 = .ok (.iconst 0, 1) := by decide +kernel
theorem d_195_18 : decode M_195.2.2.1 18 = .ok (.iaload, 1) := by decide +kernel
theorem d_195_19 : decode M_195.2.2.1 19 = .ok (.if_icmp .ge 223, 3) := by decide +kernel
theorem d_195_22 : decode M_195.2.2.1 22 = .ok (.aload_n 0, 1) := by decide +kernel
theorem d_195_23 : decode M_195.2.2.1 23 = .ok (.getfield 13, 3) := by decide +kernel
theorem d_195_26 : decode M_195.2.2.1 26 = .ok (.bipush 8, 2) := by decide +kernel
theorem d_195_28 : decode M_195.2.2.1 28 = .ok (.iload 4, 2) := by decide +kernel
theorem d_195_30 : decode M_195.2.2.1 30 = .ok (.iadd, 1) := by decide +kernel
theorem d_195_31 : decode M_195.2.2.1 31 = .ok (.iaload, 1) := by decide +kernel
theorem d_195_32 : decode M_195.2.2.1 32 = .ok (.iconst 3, 1) := by decide +kernel
theorem d_195_33 : decode M_195.2.2.1 33 = .ok (.if_icmp .ne 6, 3) := by decide +kernel
theorem d_195_36 : decode M_195.2.2.1 36 = .ok (.goto 200, 3) := by decide +kernel
theorem d_195_39 : decode M_195.2.2.1 39 = .ok (.aload_n 0, 1) := by decide +kernel
theorem d_195_40 : decode M_195.2.2.1 40 = .ok (.getfield 13, 3) := by decide +kernel
theorem d_195_43 : decode M_195.2.2.1 43 = .ok (.bipush 8, 2) := by decide +kernel
theorem d_195_45 : decode M_195.2.2.1 45 = .ok (.iload 4, 2) := by decide +kernel
theorem d_195_47 : decode M_195.2.2.1 47 = .ok (.iadd, 1) := by decide +kernel
theorem d_195_48 : decode M_195.2.2.1 48 = .ok (.iaload, 1) := by decide +kernel
theorem d_195_49 : decode M_195.2.2.1 49 = .ok (.ifCond .ne 7, 3) := by decide +kernel
theorem d_195_52 : decode M_195.2.2.1 52 = .ok (.iconst 1, 1) := by decide +kernel
theorem d_195_53 : decode M_195.2.2.1 53 = .ok (.goto 4, 3) := by decide +kernel
theorem d_195_56 : decode M_195.2.2.1 56 = .ok (.iconst 0, 1) := by decide +kernel
theorem d_195_57 : decode M_195.2.2.1 57 = .ok (.istore 5, 2) := by decide +kernel
theorem d_195_59 : decode M_195.2.2.1 59 = .ok (.aload_n 0, 1) := by decide +kernel
theorem d_195_60 : decode M_195.2.2.1 60 = .ok (.getfield 13, 3) := by decide +kernel
theorem d_195_63 : decode M_195.2.2.1 63 = .ok (.bipush 44, 2) := by decide +kernel
theorem d_195_65 : decode M_195.2.2.1 65 = .ok (.iload 4, 2) := by decide +kernel
theorem d_195_67 : decode M_195.2.2.1 67 = .ok (.iadd, 1) := by decide +kernel
theorem d_195_68 : decode M_195.2.2.1 68 = .ok (.iaload, 1) := by decide +kernel
theorem d_195_69 : decode M_195.2.2.1 69 = .ok (.iload 5, 2) := by decide +kernel
theorem d_195_71 : decode M_195.2.2.1 71 = .ok (.ifCond .eq 16, 3) := by decide +kernel
theorem d_195_74 : decode M_195.2.2.1 74 = .ok (.iload_n 2, 1) := by decide +kernel
theorem d_195_75 : decode M_195.2.2.1 75 = .ok (.iload 4, 2) := by decide +kernel
theorem d_195_77 : decode M_195.2.2.1 77 = .ok (.invokestatic 201, 3) := by decide +kernel
theorem d_195_80 : decode M_195.2.2.1 80 = .ok (.ifCond .le 7, 3) := by decide +kernel
theorem d_195_83 : decode M_195.2.2.1 83 = .ok (.iconst 2, 1) := by decide +kernel
theorem d_195_84 : decode M_195.2.2.1 84 = .ok (.goto 4, 3) := by decide +kernel
theorem d_195_87 : decode M_195.2.2.1 87 = .ok (.iconst 1, 1) := by decide +kernel
theorem d_195_88 : decode M_195.2.2.1 88 = .ok (.iadd, 1) := by decide +kernel
theorem d_195_89 : decode M_195.2.2.1 89 = .ok (.istore 6, 2) := by decide +kernel
theorem d_195_91 : decode M_195.2.2.1 91 = .ok (.aload_n 0, 1) := by decide +kernel
theorem d_195_92 : decode M_195.2.2.1 92 = .ok (.getfield 13, 3) := by decide +kernel
theorem d_195_95 : decode M_195.2.2.1 95 = .ok (.bipush 44, 2) := by decide +kernel
theorem d_195_97 : decode M_195.2.2.1 97 = .ok (.iload 4, 2) := by decide +kernel
theorem d_195_99 : decode M_195.2.2.1 99 = .ok (.iadd, 1) := by decide +kernel
theorem d_195_100 : decode M_195.2.2.1 100 = .ok (.iload_n 1, 1) := by decide +kernel
theorem d_195_101 : decode M_195.2.2.1 101 = .ok (.i2l, 1) := by decide +kernel
theorem d_195_102 : decode M_195.2.2.1 102 = .ok (.iload 4, 2) := by decide +kernel
theorem d_195_104 : decode M_195.2.2.1 104 = .ok (.invokestatic 183, 3) := by decide +kernel
theorem d_195_107 : decode M_195.2.2.1 107 = .ok (.ifCond .eq 7, 3) := by decide +kernel
theorem d_195_110 : decode M_195.2.2.1 110 = .ok (.iconst 0, 1) := by decide +kernel
theorem d_195_111 : decode M_195.2.2.1 111 = .ok (.goto 17, 3) := by decide +kernel
theorem d_195_114 : decode M_195.2.2.1 114 = .ok (.iload 6, 2) := by decide +kernel
theorem d_195_116 : decode M_195.2.2.1 116 = .ok (.bipush 99, 2) := by decide +kernel
theorem d_195_118 : decode M_195.2.2.1 118 = .ok (.if_icmp .le 8, 3) := by decide +kernel
theorem d_195_121 : decode M_195.2.2.1 121 = .ok (.bipush 99, 2) := by decide +kernel
theorem d_195_123 : decode M_195.2.2.1 123 = .ok (.goto 5, 3) := by decide +kernel
theorem d_195_126 : decode M_195.2.2.1 126 = .ok (.iload 6, 2) := by decide +kernel
theorem d_195_128 : decode M_195.2.2.1 128 = .ok (.iastore, 1) := by decide +kernel
theorem d_195_129 : decode M_195.2.2.1 129 = .ok (.iload 5, 2) := by decide +kernel
theorem d_195_131 : decode M_195.2.2.1 131 = .ok (.ifCond .ne 6, 3) := by decide +kernel
theorem d_195_134 : decode M_195.2.2.1 134 = .ok (.goto 102, 3) := by decide +kernel
theorem d_195_137 : decode M_195.2.2.1 137 = .ok (.aload_n 0, 1) := by decide +kernel
theorem d_195_138 : decode M_195.2.2.1 138 = .ok (.getfield 13, 3) := by decide +kernel
theorem d_195_141 : decode M_195.2.2.1 141 = .ok (.bipush 32, 2) := by decide +kernel
theorem d_195_143 : decode M_195.2.2.1 143 = .ok (.iload 4, 2) := by decide +kernel
theorem d_195_145 : decode M_195.2.2.1 145 = .ok (.iadd, 1) := by decide +kernel
theorem d_195_146 : decode M_195.2.2.1 146 = .ok (.iaload, 1) := by decide +kernel
theorem d_195_147 : decode M_195.2.2.1 147 = .ok (.iload_n 1, 1) := by decide +kernel
theorem d_195_148 : decode M_195.2.2.1 148 = .ok (.i2l, 1) := by decide +kernel
theorem d_195_149 : decode M_195.2.2.1 149 = .ok (.iload 4, 2) := by decide +kernel
theorem d_195_151 : decode M_195.2.2.1 151 = .ok (.invokestatic 183, 3) := by decide +kernel
theorem d_195_154 : decode M_195.2.2.1 154 = .ok (.ifCond .eq 7, 3) := by decide +kernel
theorem d_195_157 : decode M_195.2.2.1 157 = .ok (.iconst 2, 1) := by decide +kernel
theorem d_195_158 : decode M_195.2.2.1 158 = .ok (.goto 4, 3) := by decide +kernel
theorem d_195_161 : decode M_195.2.2.1 161 = .ok (.iconst 1, 1) := by decide +kernel
theorem d_195_162 : decode M_195.2.2.1 162 = .ok (.aload_n 0, 1) := by decide +kernel
theorem d_195_163 : decode M_195.2.2.1 163 = .ok (.getfield 13, 3) := by decide +kernel
theorem d_195_166 : decode M_195.2.2.1 166 = .ok (.bipush 20, 2) := by decide +kernel
theorem d_195_168 : decode M_195.2.2.1 168 = .ok (.iload 4, 2) := by decide +kernel
theorem d_195_170 : decode M_195.2.2.1 170 = .ok (.iadd, 1) := by decide +kernel
theorem d_195_171 : decode M_195.2.2.1 171 = .ok (.iaload, 1) := by decide +kernel
theorem d_195_172 : decode M_195.2.2.1 172 = .ok (.imul, 1) := by decide +kernel
theorem d_195_173 : decode M_195.2.2.1 173 = .ok (.iadd, 1) := by decide +kernel
theorem d_195_174 : decode M_195.2.2.1 174 = .ok (.istore 7, 2) := by decide +kernel
theorem d_195_176 : decode M_195.2.2.1 176 = .ok (.aload_n 0, 1) := by decide +kernel
theorem d_195_177 : decode M_195.2.2.1 177 = .ok (.getfield 13, 3) := by decide +kernel
theorem d_195_180 : decode M_195.2.2.1 180 = .ok (.bipush 32, 2) := by decide +kernel
theorem d_195_182 : decode M_195.2.2.1 182 = .ok (.iload 4, 2) := by decide +kernel
theorem d_195_184 : decode M_195.2.2.1 184 = .ok (.iadd, 1) := by decide +kernel
theorem d_195_185 : decode M_195.2.2.1 185 = .ok (.iload 7, 2) := by decide +kernel
theorem d_195_187 : decode M_195.2.2.1 187 = .ok (.bipush 100, 2) := by decide +kernel
theorem d_195_189 : decode M_195.2.2.1 189 = .ok (.if_icmp .le 8, 3) := by decide +kernel
theorem d_195_192 : decode M_195.2.2.1 192 = .ok (.bipush 100, 2) := by decide +kernel
theorem d_195_194 : decode M_195.2.2.1 194 = .ok (.goto 5, 3) := by decide +kernel
theorem d_195_197 : decode M_195.2.2.1 197 = .ok (.iload 7, 2) := by decide +kernel
theorem d_195_199 : decode M_195.2.2.1 199 = .ok (.iastore, 1) := by decide +kernel
theorem d_195_200 : decode M_195.2.2.1 200 = .ok (.aload_n 0, 1) := by decide +kernel
theorem d_195_201 : decode M_195.2.2.1 201 = .ok (.getfield 13, 3) := by decide +kernel
theorem d_195_204 : decode M_195.2.2.1 204 = .ok (.bipush 44, 2) := by decide +kernel
theorem d_195_206 : decode M_195.2.2.1 206 = .ok (.iload 4, 2) := by decide +kernel
theorem d_195_208 : decode M_195.2.2.1 208 = .ok (.iadd, 1) := by decide +kernel
theorem d_195_209 : decode M_195.2.2.1 209 = .ok (.iaload, 1) := by decide +kernel
theorem d_195_210 : decode M_195.2.2.1 210 = .ok (.aload_n 0, 1) := by decide +kernel
theorem d_195_211 : decode M_195.2.2.1 211 = .ok (.getfield 13, 3) := by decide +kernel
theorem d_195_214 : decode M_195.2.2.1 214 = .ok (.iconst 5, 1) := by decide +kernel
theorem d_195_215 : decode M_195.2.2.1 215 = .ok (.iaload, 1) := by decide +kernel
theorem d_195_216 : decode M_195.2.2.1 216 = .ok (.if_icmp .gt 6, 3) := by decide +kernel
theorem d_195_219 : decode M_195.2.2.1 219 = .ok (.goto 17, 3) := by decide +kernel
theorem d_195_222 : decode M_195.2.2.1 222 = .ok (.aload_n 0, 1) := by decide +kernel
theorem d_195_223 : decode M_195.2.2.1 223 = .ok (.getfield 13, 3) := by decide +kernel
theorem d_195_226 : decode M_195.2.2.1 226 = .ok (.bipush 8, 2) := by decide +kernel
theorem d_195_228 : decode M_195.2.2.1 228 = .ok (.iload 4, 2) := by decide +kernel
theorem d_195_230 : decode M_195.2.2.1 230 = .ok (.iadd, 1) := by decide +kernel
theorem d_195_231 : decode M_195.2.2.1 231 = .ok (.iconst 1, 1) := by decide +kernel
theorem d_195_232 : decode M_195.2.2.1 232 = .ok (.iastore, 1) := by decide +kernel
theorem d_195_233 : decode M_195.2.2.1 233 = .ok (.iinc 3 1, 3) := by decide +kernel
theorem d_195_236 : decode M_195.2.2.1 236 = .ok (.iinc 4 1, 3) := by decide +kernel
theorem d_195_239 : decode M_195.2.2.1 239 = .ok (.goto (-228), 3) := by decide +kernel
theorem d_195_242 : decode M_195.2.2.1 242 = .ok (.aload_n 0, 1) := by decide +kernel
theorem d_195_243 : decode M_195.2.2.1 243 = .ok (.getfield 13, 3) := by decide +kernel
theorem d_195_246 : decode M_195.2.2.1 246 = .ok (.iconst 1, 1) := by decide +kernel
theorem d_195_247 : decode M_195.2.2.1 247 = .ok (.dup2, 1) := by decide +kernel
theorem d_195_248 : decode M_195.2.2.1 248 = .ok (.iaload, 1) := by decide +kernel
theorem d_195_249 : decode M_195.2.2.1 249 = .ok (.iconst 1, 1) := by decide +kernel
theorem d_195_250 : decode M_195.2.2.1 250 = .ok (.iadd, 1) := by decide +kernel
theorem d_195_251 : decode M_195.2.2.1 251 = .ok (.iastore, 1) := by decide +kernel
theorem d_195_252 : decode M_195.2.2.1 252 = .ok (.iload_n 3, 1) := by decide +kernel
theorem d_195_253 : decode M_195.2.2.1 253 = .ok (.ireturn, 1) := by decide +kernel
/-- HeardBarrelsModel.beside(II)I -/
def M_196 : am_MT := (9, ⟨"HeardBarrelsModel", "beside", "(II)I"⟩, prog_10_method_32_code, 2, some .int, false, 2, (0, 0))
theorem hM_196 : am_ms[196]? = some M_196 := rfl
theorem d_196_0 : decode M_196.2.2.1 0 = .ok (.iload_n 1, 1) := by decide +kernel
theorem d_196_1 : decode M_196.2.2.1 1 = .ok (.ifCond .le 18, 3) := by decide +kernel
theorem d_196_4 : decode M_196.2.2.1 4 = .ok (.iload_n 0, 1) := by decide +kernel
theorem d_196_5 : decode M_196.2.2.1 5 = .ok (.i2l, 1) := by decide +kernel
theorem d_196_6 : decode M_196.2.2.1 6 = .ok (.iload_n 1, 1) := by decide +kernel
theorem d_196_7 : decode M_196.2.2.1 7 = .ok (.iconst 1, 1) := by decide +kernel
theorem d_196_8 : decode M_196.2.2.1 8 = .ok (.isub, 1) := by decide +kernel
theorem d_196_9 : decode M_196.2.2.1 9 = .ok (.invokestatic 183, 3) := by decide +kernel
theorem d_196_12 : decode M_196.2.2.1 12 = .ok (.ifCond .eq 7, 3) := by decide +kernel
theorem d_196_15 : decode M_196.2.2.1 15 = .ok (.iconst 1, 1) := by decide +kernel
theorem d_196_16 : decode M_196.2.2.1 16 = .ok (.goto 4, 3) := by decide +kernel
theorem d_196_19 : decode M_196.2.2.1 19 = .ok (.iconst 0, 1) := by decide +kernel
theorem d_196_20 : decode M_196.2.2.1 20 = .ok (.iload_n 0, 1) := by decide +kernel
theorem d_196_21 : decode M_196.2.2.1 21 = .ok (.i2l, 1) := by decide +kernel
theorem d_196_22 : decode M_196.2.2.1 22 = .ok (.iload_n 1, 1) := by decide +kernel
theorem d_196_23 : decode M_196.2.2.1 23 = .ok (.iconst 1, 1) := by decide +kernel
theorem d_196_24 : decode M_196.2.2.1 24 = .ok (.iadd, 1) := by decide +kernel
theorem d_196_25 : decode M_196.2.2.1 25 = .ok (.invokestatic 183, 3) := by decide +kernel
theorem d_196_28 : decode M_196.2.2.1 28 = .ok (.ifCond .eq 7, 3) := by decide +kernel
theorem d_196_31 : decode M_196.2.2.1 31 = .ok (.iconst 1, 1) := by decide +kernel
theorem d_196_32 : decode M_196.2.2.1 32 = .ok (.goto 4, 3) := by decide +kernel
theorem d_196_35 : decode M_196.2.2.1 35 = .ok (.iconst 0, 1) := by decide +kernel
theorem d_196_36 : decode M_196.2.2.1 36 = .ok (.iadd, 1) := by decide +kernel
theorem d_196_37 : decode M_196.2.2.1 37 = .ok (.ireturn, 1) := by decide +kernel
/-- HeardBarrelsModel.judge(II)I -/
def M_197 : am_MT := (9, ⟨"HeardBarrelsModel", "judge", "(II)I"⟩, prog_10_method_39_code, 5, some .int, false, 2, (0, 0))
theorem hM_197 : am_ms[197]? = some M_197 := rfl
theorem d_197_0 : decode M_197.2.2.1 0 = .ok (.aload_n 0, 1) := by decide +kernel
theorem d_197_1 : decode M_197.2.2.1 1 = .ok (.iconst 0, 1) := by decide +kernel
theorem d_197_2 : decode M_197.2.2.1 2 = .ok (.putfield 1, 3) := by decide +kernel
theorem d_197_5 : decode M_197.2.2.1 5 = .ok (.iload_n 1, 1) := by decide +kernel
theorem d_197_6 : decode M_197.2.2.1 6 = .ok (.i2l, 1) := by decide +kernel
theorem d_197_7 : decode M_197.2.2.1 7 = .ok (.lconst 0, 1) := by decide +kernel
theorem d_197_8 : decode M_197.2.2.1 8 = .ok (.ldc2_w 190, 3) := by decide +kernel
theorem d_197_11 : decode M_197.2.2.1 11 = .ok (.invokestatic 152, 3) := by decide +kernel
theorem d_197_14 : decode M_197.2.2.1 14 = .ok (.ifCond .eq 15, 3) := by decide +kernel
theorem d_197_17 : decode M_197.2.2.1 17 = .ok (.iload_n 2, 1) := by decide +kernel
theorem d_197_18 : decode M_197.2.2.1 18 = .ok (.i2l, 1) := by decide +kernel
theorem d_197_19 : decode M_197.2.2.1 19 = .ok (.lconst 0, 1) := by decide +kernel
theorem d_197_20 : decode M_197.2.2.1 20 = .ok (.ldc2_w 190, 3) := by decide +kernel
theorem d_197_23 : decode M_197.2.2.1 23 = .ok (.invokestatic 152, 3) := by decide +kernel
theorem d_197_26 : decode M_197.2.2.1 26 = .ok (.ifCond .ne 6, 3) := by decide +kernel
theorem d_197_29 : decode M_197.2.2.1 29 = .ok (.bipush (-2), 2) := by decide +kernel
theorem d_197_31 : decode M_197.2.2.1 31 = .ok (.ireturn, 1) := by decide +kernel
theorem d_197_32 : decode M_197.2.2.1 32 = .ok (.aload_n 0, 1) := by decide +kernel
theorem d_197_33 : decode M_197.2.2.1 33 = .ok (.getfield 78, 3) := by decide +kernel
theorem d_197_36 : decode M_197.2.2.1 36 = .ok (.iload_n 1, 1) := by decide +kernel
theorem d_197_37 : decode M_197.2.2.1 37 = .ok (.iaload, 1) := by decide +kernel
theorem d_197_38 : decode M_197.2.2.1 38 = .ok (.iconst (-1), 1) := by decide +kernel
theorem d_197_39 : decode M_197.2.2.1 39 = .ok (.if_icmp .ne 6, 3) := by decide +kernel
theorem d_197_42 : decode M_197.2.2.1 42 = .ok (.bipush (-6), 2) := by decide +kernel
theorem d_197_44 : decode M_197.2.2.1 44 = .ok (.ireturn, 1) := by decide +kernel
theorem d_197_45 : decode M_197.2.2.1 45 = .ok (.aload_n 0, 1) := by decide +kernel
theorem d_197_46 : decode M_197.2.2.1 46 = .ok (.invokevirtual 225, 3) := by decide +kernel
theorem d_197_49 : decode M_197.2.2.1 49 = .ok (.aload_n 0, 1) := by decide +kernel
theorem d_197_50 : decode M_197.2.2.1 50 = .ok (.iload_n 1, 1) := by decide +kernel
theorem d_197_51 : decode M_197.2.2.1 51 = .ok (.invokevirtual 228, 3) := by decide +kernel
theorem d_197_54 : decode M_197.2.2.1 54 = .ok (.istore_n 3, 1) := by decide +kernel
theorem d_197_55 : decode M_197.2.2.1 55 = .ok (.aload_n 0, 1) := by decide +kernel
theorem d_197_56 : decode M_197.2.2.1 56 = .ok (.iconst 1, 1) := by decide +kernel
theorem d_197_57 : decode M_197.2.2.1 57 = .ok (.invokevirtual 187, 3) := by decide +kernel
theorem d_197_60 : decode M_197.2.2.1 60 = .ok (.istore 4, 2) := by decide +kernel
theorem d_197_62 : decode M_197.2.2.1 62 = .ok (.aload_n 0, 1) := by decide +kernel
theorem d_197_63 : decode M_197.2.2.1 63 = .ok (.invokevirtual 231, 3) := by decide +kernel
theorem d_197_66 : decode M_197.2.2.1 66 = .ok (.iload_n 2, 1) := by decide +kernel
theorem d_197_67 : decode M_197.2.2.1 67 = .ok (.ifCond .ne 18, 3) := by decide +kernel
theorem d_197_70 : decode M_197.2.2.1 70 = .ok (.aload_n 0, 1) := by decide +kernel
theorem d_197_71 : decode M_197.2.2.1 71 = .ok (.getfield 219, 3) := by decide +kernel
theorem d_197_74 : decode M_197.2.2.1 74 = .ok (.ifCond .ne 7, 3) := by decide +kernel
theorem d_197_77 : decode M_197.2.2.1 77 = .ok (.iconst (-1), 1) := by decide +kernel
theorem d_197_78 : decode M_197.2.2.1 78 = .ok (.goto 33, 3) := by decide +kernel
theorem d_197_81 : decode M_197.2.2.1 81 = .ok (.iload_n 3, 1) := by decide +kernel
theorem d_197_82 : decode M_197.2.2.1 82 = .ok (.goto 29, 3) := by decide +kernel
theorem d_197_85 : decode M_197.2.2.1 85 = .ok (.iload_n 2, 1) := by decide +kernel
theorem d_197_86 : decode M_197.2.2.1 86 = .ok (.iconst 1, 1) := by decide +kernel
theorem d_197_87 : decode M_197.2.2.1 87 = .ok (.if_icmp .ne 10, 3) := by decide +kernel
theorem d_197_90 : decode M_197.2.2.1 90 = .ok (.aload_n 0, 1) := by decide +kernel
theorem d_197_91 : decode M_197.2.2.1 91 = .ok (.getfield 219, 3) := by decide +kernel
theorem d_197_94 : decode M_197.2.2.1 94 = .ok (.goto 17, 3) := by decide +kernel
theorem d_197_97 : decode M_197.2.2.1 97 = .ok (.iload_n 2, 1) := by decide +kernel
theorem d_197_98 : decode M_197.2.2.1 98 = .ok (.iconst 2, 1) := by decide +kernel
theorem d_197_99 : decode M_197.2.2.1 99 = .ok (.if_icmp .ne 8, 3) := by decide +kernel
theorem d_197_102 : decode M_197.2.2.1 102 = .ok (.iload 4, 2) := by decide +kernel
theorem d_197_104 : decode M_197.2.2.1 104 = .ok (.goto 7, 3) := by decide +kernel
theorem d_197_107 : decode M_197.2.2.1 107 = .ok (.aload_n 0, 1) := by decide +kernel
theorem d_197_108 : decode M_197.2.2.1 108 = .ok (.getfield 222, 3) := by decide +kernel
theorem d_197_111 : decode M_197.2.2.1 111 = .ok (.ireturn, 1) := by decide +kernel
/-- HeardBarrelsModel.keeps()V -/
def M_198 : am_MT := (9, ⟨"HeardBarrelsModel", "keeps", "()V"⟩, prog_10_method_36_code, 2, none, false, 0, (0, 0))
theorem hM_198 : am_ms[198]? = some M_198 := rfl
theorem d_198_0 : decode M_198.2.2.1 0 = .ok (.iconst 0, 1) := by decide +kernel
theorem d_198_1 : decode M_198.2.2.1 1 = .ok (.istore_n 1, 1) := by decide +kernel
theorem d_198_2 : decode M_198.2.2.1 2 = .ok (.iload_n 1, 1) := by decide +kernel
theorem d_198_3 : decode M_198.2.2.1 3 = .ok (.bipush 56, 2) := by decide +kernel
theorem d_198_5 : decode M_198.2.2.1 5 = .ok (.if_icmp .ge 21, 3) := by decide +kernel
theorem d_198_8 : decode M_198.2.2.1 8 = .ok (.aload_n 0, 1) := by decide +kernel
theorem d_198_9 : decode M_198.2.2.1 9 = .ok (.getfield 30, 3) := by decide +kernel
theorem d_198_12 : decode M_198.2.2.1 12 = .ok (.iload_n 1, 1) := by decide +kernel
theorem d_198_13 : decode M_198.2.2.1 13 = .ok (.aload_n 0, 1) := by decide +kernel
theorem d_198_14 : decode M_198.2.2.1 14 = .ok (.getfield 13, 3) := by decide +kernel
theorem d_198_17 : decode M_198.2.2.1 17 = .ok (.iload_n 1, 1) := by decide +kernel
theorem d_198_18 : decode M_198.2.2.1 18 = .ok (.iaload, 1) := by decide +kernel
theorem d_198_19 : decode M_198.2.2.1 19 = .ok (.iastore, 1) := by decide +kernel
theorem d_198_20 : decode M_198.2.2.1 20 = .ok (.iinc 1 1, 3) := by decide +kernel
theorem d_198_23 : decode M_198.2.2.1 23 = .ok (.goto (-21), 3) := by decide +kernel
theorem d_198_26 : decode M_198.2.2.1 26 = .ok (.return_, 1) := by decide +kernel
/-- HeardBarrelsModel.daysOf(I)I -/
def M_199 : am_MT := (9, ⟨"HeardBarrelsModel", "daysOf", "(I)I"⟩, prog_10_method_38_code, 3, some .int, false, 1, (0, 0))
theorem hM_199 : am_ms[199]? = some M_199 := rfl
theorem d_199_0 : decode M_199.2.2.1 0 = .ok (.aload_n 0, 1) := by decide +kernel
theorem d_199_1 : decode M_199.2.2.1 1 = .ok (.iconst 0, 1) := by decide +kernel
theorem d_199_2 : decode M_199.2.2.1 2 = .ok (.putfield 219, 3) := by decide +kernel
theorem d_199_5 : decode M_199.2.2.1 5 = .ok (.aload_n 0, 1) := by decide +kernel
theorem d_199_6 : decode M_199.2.2.1 6 = .ok (.iconst 0, 1) := by decide +kernel
theorem d_199_7 : decode M_199.2.2.1 7 = .ok (.putfield 222, 3) := by decide +kernel
theorem d_199_10 : decode M_199.2.2.1 10 = .ok (.iconst 0, 1) := by decide +kernel
theorem d_199_11 : decode M_199.2.2.1 11 = .ok (.istore_n 2, 1) := by decide +kernel
theorem d_199_12 : decode M_199.2.2.1 12 = .ok (.iload_n 2, 1) := by decide +kernel
theorem d_199_13 : decode M_199.2.2.1 13 = .ok (.aload_n 0, 1) := by decide +kernel
theorem d_199_14 : decode M_199.2.2.1 14 = .ok (.getfield 81, 3) := by decide +kernel
theorem d_199_17 : decode M_199.2.2.1 17 = .ok (.iload_n 1, 1) := by decide +kernel
theorem d_199_18 : decode M_199.2.2.1 18 = .ok (.iaload, 1) := by decide +kernel
theorem d_199_19 : decode M_199.2.2.1 19 = .ok (.if_icmp .ge 77, 3) := by decide +kernel
theorem d_199_22 : decode M_199.2.2.1 22 = .ok (.aload_n 0, 1) := by decide +kernel
theorem d_199_23 : decode M_199.2.2.1 23 = .ok (.aload_n 0, 1) := by decide +kernel
theorem d_199_24 : decode M_199.2.2.1 24 = .ok (.aload_n 0, 1) := by decide +kernel
theorem d_199_25 : decode M_199.2.2.1 25 = .ok (.getfield 84, 3) := by decide +kernel
theorem d_199_28 : decode M_199.2.2.1 28 = .ok (.bipush 40, 2) := by decide +kernel
theorem d_199_30 : decode M_199.2.2.1 30 = .ok (.iload_n 1, 1) := by decide +kernel
theorem d_199_31 : decode M_199.2.2.1 31 = .ok (.imul, 1) := by decide +kernel
theorem d_199_32 : decode M_199.2.2.1 32 = .ok (.iload_n 2, 1) := by decide +kernel
theorem d_199_33 : decode M_199.2.2.1 33 = .ok (.iadd, 1) := by decide +kernel
theorem d_199_34 : decode M_199.2.2.1 34 = .ok (.laload, 1) := by decide +kernel
theorem d_199_35 : decode M_199.2.2.1 35 = .ok (.invokevirtual 213, 3) := by decide +kernel
theorem d_199_38 : decode M_199.2.2.1 38 = .ok (.putfield 219, 3) := by decide +kernel
theorem d_199_41 : decode M_199.2.2.1 41 = .ok (.aload_n 0, 1) := by decide +kernel
theorem d_199_42 : decode M_199.2.2.1 42 = .ok (.getfield 219, 3) := by decide +kernel
theorem d_199_45 : decode M_199.2.2.1 45 = .ok (.ifCond .eq 5, 3) := by decide +kernel
theorem d_199_48 : decode M_199.2.2.1 48 = .ok (.iload_n 2, 1) := by decide +kernel
theorem d_199_49 : decode M_199.2.2.1 49 = .ok (.ireturn, 1) := by decide +kernel
theorem d_199_50 : decode M_199.2.2.1 50 = .ok (.aload_n 0, 1) := by decide +kernel
theorem d_199_51 : decode M_199.2.2.1 51 = .ok (.dup, 1) := by decide +kernel
theorem d_199_52 : decode M_199.2.2.1 52 = .ok (.getfield 222, 3) := by decide +kernel
theorem d_199_55 : decode M_199.2.2.1 55 = .ok (.aload_n 0, 1) := by decide +kernel
theorem d_199_56 : decode M_199.2.2.1 56 = .ok (.getfield 84, 3) := by decide +kernel
theorem d_199_59 : decode M_199.2.2.1 59 = .ok (.bipush 40, 2) := by decide +kernel
theorem d_199_61 : decode M_199.2.2.1 61 = .ok (.iload_n 1, 1) := by decide +kernel
theorem d_199_62 : decode M_199.2.2.1 62 = .ok (.imul, 1) := by decide +kernel
theorem d_199_63 : decode M_199.2.2.1 63 = .ok (.iload_n 2, 1) := by decide +kernel
theorem d_199_64 : decode M_199.2.2.1 64 = .ok (.iadd, 1) := by decide +kernel
theorem d_199_65 : decode M_199.2.2.1 65 = .ok (.laload, 1) := by decide +kernel
theorem d_199_66 : decode M_199.2.2.1 66 = .ok (.invokestatic 209, 3) := by decide +kernel
theorem d_199_69 : decode M_199.2.2.1 69 = .ok (.iadd, 1) := by decide +kernel
theorem d_199_70 : decode M_199.2.2.1 70 = .ok (.putfield 222, 3) := by decide +kernel
theorem d_199_73 : decode M_199.2.2.1 73 = .ok (.aload_n 0, 1) := by decide +kernel
theorem d_199_74 : decode M_199.2.2.1 74 = .ok (.aload_n 0, 1) := by decide +kernel
theorem d_199_75 : decode M_199.2.2.1 75 = .ok (.getfield 84, 3) := by decide +kernel
theorem d_199_78 : decode M_199.2.2.1 78 = .ok (.bipush 40, 2) := by decide +kernel
theorem d_199_80 : decode M_199.2.2.1 80 = .ok (.iload_n 1, 1) := by decide +kernel
theorem d_199_81 : decode M_199.2.2.1 81 = .ok (.imul, 1) := by decide +kernel
theorem d_199_82 : decode M_199.2.2.1 82 = .ok (.iload_n 2, 1) := by decide +kernel
theorem d_199_83 : decode M_199.2.2.1 83 = .ok (.iadd, 1) := by decide +kernel
theorem d_199_84 : decode M_199.2.2.1 84 = .ok (.laload, 1) := by decide +kernel
theorem d_199_85 : decode M_199.2.2.1 85 = .ok (.l2i, 1) := by decide +kernel
theorem d_199_86 : decode M_199.2.2.1 86 = .ok (.invokevirtual 216, 3) := by decide +kernel
theorem d_199_89 : decode M_199.2.2.1 89 = .ok (.pop, 1) := by decide +kernel
theorem d_199_90 : decode M_199.2.2.1 90 = .ok (.iinc 2 1, 3) := by decide +kernel
theorem d_199_93 : decode M_199.2.2.1 93 = .ok (.goto (-81), 3) := by decide +kernel
theorem d_199_96 : decode M_199.2.2.1 96 = .ok (.aload_n 0, 1) := by decide +kernel
theorem d_199_97 : decode M_199.2.2.1 97 = .ok (.getfield 81, 3) := by decide +kernel
theorem d_199_100 : decode M_199.2.2.1 100 = .ok (.iload_n 1, 1) := by decide +kernel
theorem d_199_101 : decode M_199.2.2.1 101 = .ok (.iaload, 1) := by decide +kernel
theorem d_199_102 : decode M_199.2.2.1 102 = .ok (.ireturn, 1) := by decide +kernel
/-- HeardBarrelsModel.isAgain()V -/
def M_200 : am_MT := (9, ⟨"HeardBarrelsModel", "isAgain", "()V"⟩, prog_10_method_37_code, 2, none, false, 0, (0, 0))
theorem hM_200 : am_ms[200]? = some M_200 := rfl
theorem d_200_0 : decode M_200.2.2.1 0 = .ok (.iconst 0, 1) := by decide +kernel
theorem d_200_1 : decode M_200.2.2.1 1 = .ok (.istore_n 1, 1) := by decide +kernel
theorem d_200_2 : decode M_200.2.2.1 2 = .ok (.iload_n 1, 1) := by decide +kernel
theorem d_200_3 : decode M_200.2.2.1 3 = .ok (.bipush 56, 2) := by decide +kernel
theorem d_200_5 : decode M_200.2.2.1 5 = .ok (.if_icmp .ge 21, 3) := by decide +kernel
theorem d_200_8 : decode M_200.2.2.1 8 = .ok (.aload_n 0, 1) := by decide +kernel
theorem d_200_9 : decode M_200.2.2.1 9 = .ok (.getfield 13, 3) := by decide +kernel
theorem d_200_12 : decode M_200.2.2.1 12 = .ok (.iload_n 1, 1) := by decide +kernel
theorem d_200_13 : decode M_200.2.2.1 13 = .ok (.aload_n 0, 1) := by decide +kernel
theorem d_200_14 : decode M_200.2.2.1 14 = .ok (.getfield 30, 3) := by decide +kernel
theorem d_200_17 : decode M_200.2.2.1 17 = .ok (.iload_n 1, 1) := by decide +kernel
theorem d_200_18 : decode M_200.2.2.1 18 = .ok (.iaload, 1) := by decide +kernel
theorem d_200_19 : decode M_200.2.2.1 19 = .ok (.iastore, 1) := by decide +kernel
theorem d_200_20 : decode M_200.2.2.1 20 = .ok (.iinc 1 1, 3) := by decide +kernel
theorem d_200_23 : decode M_200.2.2.1 23 = .ok (.goto (-21), 3) := by decide +kernel
theorem d_200_26 : decode M_200.2.2.1 26 = .ok (.return_, 1) := by decide +kernel
/-- HeardBarrelsModel.perform(I)I -/
def M_201 : am_MT := (9, ⟨"HeardBarrelsModel", "perform", "(I)I"⟩, prog_10_method_40_code, 2, some .int, false, 1, (0, 0))
theorem hM_201 : am_ms[201]? = some M_201 := rfl
theorem d_201_0 : decode M_201.2.2.1 0 = .ok (.aload_n 0, 1) := by decide +kernel
theorem d_201_1 : decode M_201.2.2.1 1 = .ok (.iconst 0, 1) := by decide +kernel
theorem d_201_2 : decode M_201.2.2.1 2 = .ok (.putfield 1, 3) := by decide +kernel
theorem d_201_5 : decode M_201.2.2.1 5 = .ok (.iload_n 1, 1) := by decide +kernel
theorem d_201_6 : decode M_201.2.2.1 6 = .ok (.i2l, 1) := by decide +kernel
theorem d_201_7 : decode M_201.2.2.1 7 = .ok (.lconst 0, 1) := by decide +kernel
theorem d_201_8 : decode M_201.2.2.1 8 = .ok (.ldc2_w 190, 3) := by decide +kernel
theorem d_201_11 : decode M_201.2.2.1 11 = .ok (.invokestatic 152, 3) := by decide +kernel
theorem d_201_14 : decode M_201.2.2.1 14 = .ok (.ifCond .ne 6, 3) := by decide +kernel
theorem d_201_17 : decode M_201.2.2.1 17 = .ok (.bipush (-2), 2) := by decide +kernel
theorem d_201_19 : decode M_201.2.2.1 19 = .ok (.ireturn, 1) := by decide +kernel
theorem d_201_20 : decode M_201.2.2.1 20 = .ok (.aload_n 0, 1) := by decide +kernel
theorem d_201_21 : decode M_201.2.2.1 21 = .ok (.getfield 78, 3) := by decide +kernel
theorem d_201_24 : decode M_201.2.2.1 24 = .ok (.iload_n 1, 1) := by decide +kernel
theorem d_201_25 : decode M_201.2.2.1 25 = .ok (.iaload, 1) := by decide +kernel
theorem d_201_26 : decode M_201.2.2.1 26 = .ok (.iconst (-1), 1) := by decide +kernel
theorem d_201_27 : decode M_201.2.2.1 27 = .ok (.if_icmp .ne 8, 3) := by decide +kernel
theorem d_201_30 : decode M_201.2.2.1 30 = .ok (.bipush (-6), 2) := by decide +kernel
theorem d_201_32 : decode M_201.2.2.1 32 = .ok (.goto 8, 3) := by decide +kernel
theorem d_201_35 : decode M_201.2.2.1 35 = .ok (.aload_n 0, 1) := by decide +kernel
theorem d_201_36 : decode M_201.2.2.1 36 = .ok (.iload_n 1, 1) := by decide +kernel
theorem d_201_37 : decode M_201.2.2.1 37 = .ok (.invokevirtual 228, 3) := by decide +kernel
theorem d_201_40 : decode M_201.2.2.1 40 = .ok (.ireturn, 1) := by decide +kernel
/-- HeardBarrelsModel.week(II)I -/
def M_202 : am_MT := (9, ⟨"HeardBarrelsModel", "week", "(II)I"⟩, prog_10_method_41_code, 8, some .int, false, 2, (0, 0))
theorem hM_202 : am_ms[202]? = some M_202 := rfl
theorem d_202_0 : decode M_202.2.2.1 0 = .ok (.aload_n 0, 1) := by decide +kernel
theorem d_202_1 : decode M_202.2.2.1 1 = .ok (.iconst 0, 1) := by decide +kernel
theorem d_202_2 : decode M_202.2.2.1 2 = .ok (.putfield 1, 3) := by decide +kernel
theorem d_202_5 : decode M_202.2.2.1 5 = .ok (.iload_n 2, 1) := by decide +kernel
theorem d_202_6 : decode M_202.2.2.1 6 = .ok (.i2l, 1) := by decide +kernel
theorem d_202_7 : decode M_202.2.2.1 7 = .ok (.lconst 1, 1) := by decide +kernel
theorem d_202_8 : decode M_202.2.2.1 8 = .ok (.ldc2_w 234, 3) := by decide +kernel
theorem d_202_11 : decode M_202.2.2.1 11 = .ok (.invokestatic 152, 3) := by decide +kernel
theorem d_202_14 : decode M_202.2.2.1 14 = .ok (.ifCond .ne 6, 3) := by decide +kernel
theorem d_202_17 : decode M_202.2.2.1 17 = .ok (.bipush (-3), 2) := by decide +kernel
theorem d_202_19 : decode M_202.2.2.1 19 = .ok (.ireturn, 1) := by decide +kernel
theorem d_202_20 : decode M_202.2.2.1 20 = .ok (.aload_n 0, 1) := by decide +kernel
theorem d_202_21 : decode M_202.2.2.1 21 = .ok (.getfield 13, 3) := by decide +kernel
theorem d_202_24 : decode M_202.2.2.1 24 = .ok (.iconst 1, 1) := by decide +kernel
theorem d_202_25 : decode M_202.2.2.1 25 = .ok (.iaload, 1) := by decide +kernel
theorem d_202_26 : decode M_202.2.2.1 26 = .ok (.iload_n 2, 1) := by decide +kernel
theorem d_202_27 : decode M_202.2.2.1 27 = .ok (.iadd, 1) := by decide +kernel
theorem d_202_28 : decode M_202.2.2.1 28 = .ok (.sipush 9999, 3) := by decide +kernel
theorem d_202_31 : decode M_202.2.2.1 31 = .ok (.if_icmp .le 6, 3) := by decide +kernel
theorem d_202_34 : decode M_202.2.2.1 34 = .ok (.bipush (-5), 2) := by decide +kernel
theorem d_202_36 : decode M_202.2.2.1 36 = .ok (.ireturn, 1) := by decide +kernel
theorem d_202_37 : decode M_202.2.2.1 37 = .ok (.iload_n 1, 1) := by decide +kernel
theorem d_202_38 : decode M_202.2.2.1 38 = .ok (.istore_n 3, 1) := by decide +kernel
theorem d_202_39 : decode M_202.2.2.1 39 = .ok (.iconst 0, 1) := by decide +kernel
theorem d_202_40 : decode M_202.2.2.1 40 = .ok (.istore 4, 2) := by decide +kernel
theorem d_202_42 : decode M_202.2.2.1 42 = .ok (.iconst 0, 1) := by decide +kernel
theorem d_202_43 : decode M_202.2.2.1 43 = .ok (.istore 5, 2) := by decide +kernel
theorem d_202_45 : decode M_202.2.2.1 45 = .ok (.iload 5, 2) := by decide +kernel
theorem d_202_47 : decode M_202.2.2.1 47 = .ok (.iload_n 2, 1) := by decide +kernel
theorem d_202_48 : decode M_202.2.2.1 48 = .ok (.if_icmp .ge 107, 3) := by decide +kernel
theorem d_202_51 : decode M_202.2.2.1 51 = .ok (.iconst 0, 1) := by decide +kernel
theorem d_202_52 : decode M_202.2.2.1 52 = .ok (.istore 6, 2) := by decide +kernel
theorem d_202_54 : decode M_202.2.2.1 54 = .ok (.iconst 0, 1) := by decide +kernel
theorem d_202_55 : decode M_202.2.2.1 55 = .ok (.istore 7, 2) := by decide +kernel
theorem d_202_57 : decode M_202.2.2.1 57 = .ok (.iload 7, 2) := by decide +kernel
theorem d_202_59 : decode M_202.2.2.1 59 = .ok (.aload_n 0, 1) := by decide +kernel
theorem d_202_60 : decode M_202.2.2.1 60 = .ok (.getfield 13, 3) := by decide +kernel
theorem d_202_63 : decode M_202.2.2.1 63 = .ok (.iconst 0, 1) := by decide +kernel
theorem d_202_64 : decode M_202.2.2.1 64 = .ok (.iaload, 1) := by decide +kernel
theorem d_202_65 : decode M_202.2.2.1 65 = .ok (.if_icmp .ge 73, 3) := by decide +kernel
theorem d_202_68 : decode M_202.2.2.1 68 = .ok (.aload_n 0, 1) := by decide +kernel
theorem d_202_69 : decode M_202.2.2.1 69 = .ok (.getfield 13, 3) := by decide +kernel
theorem d_202_72 : decode M_202.2.2.1 72 = .ok (.bipush 8, 2) := by decide +kernel
theorem d_202_74 : decode M_202.2.2.1 74 = .ok (.iload 7, 2) := by decide +kernel
theorem d_202_76 : decode M_202.2.2.1 76 = .ok (.iadd, 1) := by decide +kernel
theorem d_202_77 : decode M_202.2.2.1 77 = .ok (.iaload, 1) := by decide +kernel
theorem d_202_78 : decode M_202.2.2.1 78 = .ok (.iconst 3, 1) := by decide +kernel
theorem d_202_79 : decode M_202.2.2.1 79 = .ok (.if_icmp .eq 53, 3) := by decide +kernel
theorem d_202_82 : decode M_202.2.2.1 82 = .ok (.iload 6, 2) := by decide +kernel
theorem d_202_84 : decode M_202.2.2.1 84 = .ok (.i2l, 1) := by decide +kernel
theorem d_202_85 : decode M_202.2.2.1 85 = .ok (.invokestatic 209, 3) := by decide +kernel
theorem d_202_88 : decode M_202.2.2.1 88 = .ok (.aload_n 0, 1) := by decide +kernel
theorem d_202_89 : decode M_202.2.2.1 89 = .ok (.getfield 13, 3) := by decide +kernel
theorem d_202_92 : decode M_202.2.2.1 92 = .ok (.iconst 4, 1) := by decide +kernel
theorem d_202_93 : decode M_202.2.2.1 93 = .ok (.iaload, 1) := by decide +kernel
theorem d_202_94 : decode M_202.2.2.1 94 = .ok (.if_icmp .ne 6, 3) := by decide +kernel
theorem d_202_97 : decode M_202.2.2.1 97 = .ok (.goto 35, 3) := by decide +kernel
theorem d_202_100 : decode M_202.2.2.1 100 = .ok (.ldc 236, 2) := by decide +kernel
theorem d_202_102 : decode M_202.2.2.1 102 = .ok (.iload_n 3, 1) := by decide +kernel
theorem d_202_103 : decode M_202.2.2.1 103 = .ok (.imul, 1) := by decide +kernel
theorem d_202_104 : decode M_202.2.2.1 104 = .ok (.sipush 12345, 3) := by decide +kernel
theorem d_202_107 : decode M_202.2.2.1 107 = .ok (.iadd, 1) := by decide +kernel
theorem d_202_108 : decode M_202.2.2.1 108 = .ok (.istore_n 3, 1) := by decide +kernel
theorem d_202_109 : decode M_202.2.2.1 109 = .ok (.iload 6, 2) := by decide +kernel
theorem d_202_111 : decode M_202.2.2.1 111 = .ok (.iload_n 3, 1) := by decide +kernel
theorem d_202_112 : decode M_202.2.2.1 112 = .ok (.bipush 16, 2) := by decide +kernel
theorem d_202_114 : decode M_202.2.2.1 114 = .ok (.iushr, 1) := by decide +kernel
theorem d_202_115 : decode M_202.2.2.1 115 = .ok (.iconst 2, 1) := by decide +kernel
theorem d_202_116 : decode M_202.2.2.1 116 = .ok (.irem, 1) := by decide +kernel
theorem d_202_117 : decode M_202.2.2.1 117 = .ok (.iconst 1, 1) := by decide +kernel
theorem d_202_118 : decode M_202.2.2.1 118 = .ok (.if_icmp .ne 10, 3) := by decide +kernel
theorem d_202_121 : decode M_202.2.2.1 121 = .ok (.iconst 1, 1) := by decide +kernel
theorem d_202_122 : decode M_202.2.2.1 122 = .ok (.iload 7, 2) := by decide +kernel
theorem d_202_124 : decode M_202.2.2.1 124 = .ok (.ishl, 1) := by decide +kernel
theorem d_202_125 : decode M_202.2.2.1 125 = .ok (.goto 4, 3) := by decide +kernel
theorem d_202_128 : decode M_202.2.2.1 128 = .ok (.iconst 0, 1) := by decide +kernel
theorem d_202_129 : decode M_202.2.2.1 129 = .ok (.ior, 1) := by decide +kernel
theorem d_202_130 : decode M_202.2.2.1 130 = .ok (.istore 6, 2) := by decide +kernel
theorem d_202_132 : decode M_202.2.2.1 132 = .ok (.iinc 7 1, 3) := by decide +kernel
theorem d_202_135 : decode M_202.2.2.1 135 = .ok (.goto (-78), 3) := by decide +kernel
theorem d_202_138 : decode M_202.2.2.1 138 = .ok (.iload 4, 2) := by decide +kernel
theorem d_202_140 : decode M_202.2.2.1 140 = .ok (.aload_n 0, 1) := by decide +kernel
theorem d_202_141 : decode M_202.2.2.1 141 = .ok (.iload 6, 2) := by decide +kernel
theorem d_202_143 : decode M_202.2.2.1 143 = .ok (.invokevirtual 216, 3) := by decide +kernel
theorem d_202_146 : decode M_202.2.2.1 146 = .ok (.iadd, 1) := by decide +kernel
theorem d_202_147 : decode M_202.2.2.1 147 = .ok (.istore 4, 2) := by decide +kernel
theorem d_202_149 : decode M_202.2.2.1 149 = .ok (.iinc 5 1, 3) := by decide +kernel
theorem d_202_152 : decode M_202.2.2.1 152 = .ok (.goto (-107), 3) := by decide +kernel
theorem d_202_155 : decode M_202.2.2.1 155 = .ok (.iload 4, 2) := by decide +kernel
theorem d_202_157 : decode M_202.2.2.1 157 = .ok (.ireturn, 1) := by decide +kernel
/-- HeardBarrelsModel.leftAlone(I)I -/
def M_203 : am_MT := (9, ⟨"HeardBarrelsModel", "leftAlone", "(I)I"⟩, prog_10_method_42_code, 3, some .int, false, 1, (0, 0))
theorem hM_203 : am_ms[203]? = some M_203 := rfl
theorem d_203_0 : decode M_203.2.2.1 0 = .ok (.aload_n 0, 1) := by decide +kernel
theorem d_203_1 : decode M_203.2.2.1 1 = .ok (.iconst 0, 1) := by decide +kernel
theorem d_203_2 : decode M_203.2.2.1 2 = .ok (.putfield 1, 3) := by decide +kernel
theorem d_203_5 : decode M_203.2.2.1 5 = .ok (.iload_n 1, 1) := by decide +kernel
theorem d_203_6 : decode M_203.2.2.1 6 = .ok (.i2l, 1) := by decide +kernel
theorem d_203_7 : decode M_203.2.2.1 7 = .ok (.lconst 0, 1) := by decide +kernel
theorem d_203_8 : decode M_203.2.2.1 8 = .ok (.ldc2_w 234, 3) := by decide +kernel
theorem d_203_11 : decode M_203.2.2.1 11 = .ok (.invokestatic 152, 3) := by decide +kernel
theorem d_203_14 : decode M_203.2.2.1 14 = .ok (.ifCond .ne 6, 3) := by decide +kernel
theorem d_203_17 : decode M_203.2.2.1 17 = .ok (.bipush (-3), 2) := by decide +kernel
theorem d_203_19 : decode M_203.2.2.1 19 = .ok (.ireturn, 1) := by decide +kernel
theorem d_203_20 : decode M_203.2.2.1 20 = .ok (.aload_n 0, 1) := by decide +kernel
theorem d_203_21 : decode M_203.2.2.1 21 = .ok (.invokevirtual 225, 3) := by decide +kernel
theorem d_203_24 : decode M_203.2.2.1 24 = .ok (.iconst 0, 1) := by decide +kernel
theorem d_203_25 : decode M_203.2.2.1 25 = .ok (.istore_n 2, 1) := by decide +kernel
theorem d_203_26 : decode M_203.2.2.1 26 = .ok (.iload_n 2, 1) := by decide +kernel
theorem d_203_27 : decode M_203.2.2.1 27 = .ok (.iload_n 1, 1) := by decide +kernel
theorem d_203_28 : decode M_203.2.2.1 28 = .ok (.if_icmp .ge 15, 3) := by decide +kernel
theorem d_203_31 : decode M_203.2.2.1 31 = .ok (.aload_n 0, 1) := by decide +kernel
theorem d_203_32 : decode M_203.2.2.1 32 = .ok (.iconst 0, 1) := by decide +kernel
theorem d_203_33 : decode M_203.2.2.1 33 = .ok (.invokevirtual 216, 3) := by decide +kernel
theorem d_203_36 : decode M_203.2.2.1 36 = .ok (.pop, 1) := by decide +kernel
theorem d_203_37 : decode M_203.2.2.1 37 = .ok (.iinc 2 1, 3) := by decide +kernel
theorem d_203_40 : decode M_203.2.2.1 40 = .ok (.goto (-14), 3) := by decide +kernel
theorem d_203_43 : decode M_203.2.2.1 43 = .ok (.aload_n 0, 1) := by decide +kernel
theorem d_203_44 : decode M_203.2.2.1 44 = .ok (.iconst 1, 1) := by decide +kernel
theorem d_203_45 : decode M_203.2.2.1 45 = .ok (.invokevirtual 187, 3) := by decide +kernel
theorem d_203_48 : decode M_203.2.2.1 48 = .ok (.istore_n 2, 1) := by decide +kernel
theorem d_203_49 : decode M_203.2.2.1 49 = .ok (.aload_n 0, 1) := by decide +kernel
theorem d_203_50 : decode M_203.2.2.1 50 = .ok (.invokevirtual 231, 3) := by decide +kernel
theorem d_203_53 : decode M_203.2.2.1 53 = .ok (.iload_n 2, 1) := by decide +kernel
theorem d_203_54 : decode M_203.2.2.1 54 = .ok (.ireturn, 1) := by decide +kernel
/-- HeardBarrelsModel.missed(II)I -/
def M_204 : am_MT := (9, ⟨"HeardBarrelsModel", "missed", "(II)I"⟩, prog_10_method_43_code, 6, some .int, false, 2, (0, 0))
theorem hM_204 : am_ms[204]? = some M_204 := rfl
theorem d_204_0 : decode M_204.2.2.1 0 = .ok (.aload_n 0, 1) := by decide +kernel
theorem d_204_1 : decode M_204.2.2.1 1 = .ok (.iconst 0, 1) := by decide +kernel
theorem d_204_2 : decode M_204.2.2.1 2 = .ok (.putfield 1, 3) := by decide +kernel
theorem d_204_5 : decode M_204.2.2.1 5 = .ok (.iload_n 1, 1) := by decide +kernel
theorem d_204_6 : decode M_204.2.2.1 6 = .ok (.i2l, 1) := by decide +kernel
theorem d_204_7 : decode M_204.2.2.1 7 = .ok (.lconst 0, 1) := by decide +kernel
theorem d_204_8 : decode M_204.2.2.1 8 = .ok (.ldc2_w 190, 3) := by decide +kernel
theorem d_204_11 : decode M_204.2.2.1 11 = .ok (.invokestatic 152, 3) := by decide +kernel
theorem d_204_14 : decode M_204.2.2.1 14 = .ok (.ifCond .ne 6, 3) := by decide +kernel
theorem d_204_17 : decode M_204.2.2.1 17 = .ok (.bipush (-2), 2) := by decide +kernel
theorem d_204_19 : decode M_204.2.2.1 19 = .ok (.ireturn, 1) := by decide +kernel
theorem d_204_20 : decode M_204.2.2.1 20 = .ok (.aload_n 0, 1) := by decide +kernel
theorem d_204_21 : decode M_204.2.2.1 21 = .ok (.getfield 78, 3) := by decide +kernel
theorem d_204_24 : decode M_204.2.2.1 24 = .ok (.iload_n 1, 1) := by decide +kernel
theorem d_204_25 : decode M_204.2.2.1 25 = .ok (.iaload, 1) := by decide +kernel
theorem d_204_26 : decode M_204.2.2.1 26 = .ok (.iconst (-1), 1) := by decide +kernel
theorem d_204_27 : decode M_204.2.2.1 27 = .ok (.if_icmp .ne 6, 3) := by decide +kernel
theorem d_204_30 : decode M_204.2.2.1 30 = .ok (.bipush (-6), 2) := by decide +kernel
theorem d_204_32 : decode M_204.2.2.1 32 = .ok (.ireturn, 1) := by decide +kernel
theorem d_204_33 : decode M_204.2.2.1 33 = .ok (.aload_n 0, 1) := by decide +kernel
theorem d_204_34 : decode M_204.2.2.1 34 = .ok (.getfield 81, 3) := by decide +kernel
theorem d_204_37 : decode M_204.2.2.1 37 = .ok (.iload_n 1, 1) := by decide +kernel
theorem d_204_38 : decode M_204.2.2.1 38 = .ok (.iaload, 1) := by decide +kernel
theorem d_204_39 : decode M_204.2.2.1 39 = .ok (.bipush 12, 2) := by decide +kernel
theorem d_204_41 : decode M_204.2.2.1 41 = .ok (.if_icmp .le 6, 3) := by decide +kernel
theorem d_204_44 : decode M_204.2.2.1 44 = .ok (.bipush (-4), 2) := by decide +kernel
theorem d_204_46 : decode M_204.2.2.1 46 = .ok (.ireturn, 1) := by decide +kernel
theorem d_204_47 : decode M_204.2.2.1 47 = .ok (.aload_n 0, 1) := by decide +kernel
theorem d_204_48 : decode M_204.2.2.1 48 = .ok (.invokevirtual 225, 3) := by decide +kernel
theorem d_204_51 : decode M_204.2.2.1 51 = .ok (.aload_n 0, 1) := by decide +kernel
theorem d_204_52 : decode M_204.2.2.1 52 = .ok (.iload_n 1, 1) := by decide +kernel
theorem d_204_53 : decode M_204.2.2.1 53 = .ok (.invokevirtual 228, 3) := by decide +kernel
theorem d_204_56 : decode M_204.2.2.1 56 = .ok (.pop, 1) := by decide +kernel
theorem d_204_57 : decode M_204.2.2.1 57 = .ok (.aload_n 0, 1) := by decide +kernel
theorem d_204_58 : decode M_204.2.2.1 58 = .ok (.invokevirtual 231, 3) := by decide +kernel
theorem d_204_61 : decode M_204.2.2.1 61 = .ok (.aload_n 0, 1) := by decide +kernel
theorem d_204_62 : decode M_204.2.2.1 62 = .ok (.getfield 219, 3) := by decide +kernel
theorem d_204_65 : decode M_204.2.2.1 65 = .ok (.ifCond .eq 6, 3) := by decide +kernel
theorem d_204_68 : decode M_204.2.2.1 68 = .ok (.bipush (-5), 2) := by decide +kernel
theorem d_204_70 : decode M_204.2.2.1 70 = .ok (.ireturn, 1) := by decide +kernel
theorem d_204_71 : decode M_204.2.2.1 71 = .ok (.iload_n 2, 1) := by decide +kernel
theorem d_204_72 : decode M_204.2.2.1 72 = .ok (.i2l, 1) := by decide +kernel
theorem d_204_73 : decode M_204.2.2.1 73 = .ok (.lconst 0, 1) := by decide +kernel
theorem d_204_74 : decode M_204.2.2.1 74 = .ok (.iconst 1, 1) := by decide +kernel
theorem d_204_75 : decode M_204.2.2.1 75 = .ok (.aload_n 0, 1) := by decide +kernel
theorem d_204_76 : decode M_204.2.2.1 76 = .ok (.getfield 13, 3) := by decide +kernel
theorem d_204_79 : decode M_204.2.2.1 79 = .ok (.iconst 0, 1) := by decide +kernel
theorem d_204_80 : decode M_204.2.2.1 80 = .ok (.iaload, 1) := by decide +kernel
theorem d_204_81 : decode M_204.2.2.1 81 = .ok (.ishl, 1) := by decide +kernel
theorem d_204_82 : decode M_204.2.2.1 82 = .ok (.iconst 1, 1) := by decide +kernel
theorem d_204_83 : decode M_204.2.2.1 83 = .ok (.isub, 1) := by decide +kernel
theorem d_204_84 : decode M_204.2.2.1 84 = .ok (.i2l, 1) := by decide +kernel
theorem d_204_85 : decode M_204.2.2.1 85 = .ok (.invokestatic 152, 3) := by decide +kernel
theorem d_204_88 : decode M_204.2.2.1 88 = .ok (.ifCond .ne 6, 3) := by decide +kernel
theorem d_204_91 : decode M_204.2.2.1 91 = .ok (.bipush (-3), 2) := by decide +kernel
theorem d_204_93 : decode M_204.2.2.1 93 = .ok (.ireturn, 1) := by decide +kernel
theorem d_204_94 : decode M_204.2.2.1 94 = .ok (.iconst 0, 1) := by decide +kernel
theorem d_204_95 : decode M_204.2.2.1 95 = .ok (.istore_n 3, 1) := by decide +kernel
theorem d_204_96 : decode M_204.2.2.1 96 = .ok (.iconst 0, 1) := by decide +kernel
theorem d_204_97 : decode M_204.2.2.1 97 = .ok (.istore 4, 2) := by decide +kernel
theorem d_204_99 : decode M_204.2.2.1 99 = .ok (.iload 4, 2) := by decide +kernel
theorem d_204_101 : decode M_204.2.2.1 101 = .ok (.aload_n 0, 1) := by decide +kernel
theorem d_204_102 : decode M_204.2.2.1 102 = .ok (.getfield 81, 3) := by decide +kernel
theorem d_204_105 : decode M_204.2.2.1 105 = .ok (.iload_n 1, 1) := by decide +kernel
theorem d_204_106 : decode M_204.2.2.1 106 = .ok (.iaload, 1) := by decide +kernel
theorem d_204_107 : decode M_204.2.2.1 107 = .ok (.if_icmp .ge 82, 3) := by decide +kernel
theorem d_204_110 : decode M_204.2.2.1 110 = .ok (.iconst 0, 1) := by decide +kernel
theorem d_204_111 : decode M_204.2.2.1 111 = .ok (.istore 5, 2) := by decide +kernel
theorem d_204_113 : decode M_204.2.2.1 113 = .ok (.iload 5, 2) := by decide +kernel
theorem d_204_115 : decode M_204.2.2.1 115 = .ok (.aload_n 0, 1) := by decide +kernel
theorem d_204_116 : decode M_204.2.2.1 116 = .ok (.getfield 81, 3) := by decide +kernel
theorem d_204_119 : decode M_204.2.2.1 119 = .ok (.iload_n 1, 1) := by decide +kernel
theorem d_204_120 : decode M_204.2.2.1 120 = .ok (.iaload, 1) := by decide +kernel
theorem d_204_121 : decode M_204.2.2.1 121 = .ok (.if_icmp .ge 38, 3) := by decide +kernel
theorem d_204_124 : decode M_204.2.2.1 124 = .ok (.aload_n 0, 1) := by decide +kernel
theorem d_204_125 : decode M_204.2.2.1 125 = .ok (.iload 5, 2) := by decide +kernel
theorem d_204_127 : decode M_204.2.2.1 127 = .ok (.iload 4, 2) := by decide +kernel
theorem d_204_129 : decode M_204.2.2.1 129 = .ok (.if_icmp .ne 7, 3) := by decide +kernel
theorem d_204_132 : decode M_204.2.2.1 132 = .ok (.iconst 0, 1) := by decide +kernel
theorem d_204_133 : decode M_204.2.2.1 133 = .ok (.goto 16, 3) := by decide +kernel
theorem d_204_136 : decode M_204.2.2.1 136 = .ok (.aload_n 0, 1) := by decide +kernel
theorem d_204_137 : decode M_204.2.2.1 137 = .ok (.getfield 84, 3) := by decide +kernel
theorem d_204_140 : decode M_204.2.2.1 140 = .ok (.bipush 40, 2) := by decide +kernel
theorem d_204_142 : decode M_204.2.2.1 142 = .ok (.iload_n 1, 1) := by decide +kernel
theorem d_204_143 : decode M_204.2.2.1 143 = .ok (.imul, 1) := by decide +kernel
theorem d_204_144 : decode M_204.2.2.1 144 = .ok (.iload 5, 2) := by decide +kernel
theorem d_204_146 : decode M_204.2.2.1 146 = .ok (.iadd, 1) := by decide +kernel
theorem d_204_147 : decode M_204.2.2.1 147 = .ok (.laload, 1) := by decide +kernel
theorem d_204_148 : decode M_204.2.2.1 148 = .ok (.l2i, 1) := by decide +kernel
theorem d_204_149 : decode M_204.2.2.1 149 = .ok (.invokevirtual 216, 3) := by decide +kernel
theorem d_204_152 : decode M_204.2.2.1 152 = .ok (.pop, 1) := by decide +kernel
theorem d_204_153 : decode M_204.2.2.1 153 = .ok (.iinc 5 1, 3) := by decide +kernel
theorem d_204_156 : decode M_204.2.2.1 156 = .ok (.goto (-43), 3) := by decide +kernel
theorem d_204_159 : decode M_204.2.2.1 159 = .ok (.iload_n 3, 1) := by decide +kernel
theorem d_204_160 : decode M_204.2.2.1 160 = .ok (.aload_n 0, 1) := by decide +kernel
theorem d_204_161 : decode M_204.2.2.1 161 = .ok (.iconst 1, 1) := by decide +kernel
theorem d_204_162 : decode M_204.2.2.1 162 = .ok (.invokevirtual 187, 3) := by decide +kernel
theorem d_204_165 : decode M_204.2.2.1 165 = .ok (.iload_n 2, 1) := by decide +kernel
theorem d_204_166 : decode M_204.2.2.1 166 = .ok (.if_icmp .ne 10, 3) := by decide +kernel
theorem d_204_169 : decode M_204.2.2.1 169 = .ok (.iconst 1, 1) := by decide +kernel
theorem d_204_170 : decode M_204.2.2.1 170 = .ok (.iload 4, 2) := by decide +kernel
theorem d_204_172 : decode M_204.2.2.1 172 = .ok (.ishl, 1) := by decide +kernel
theorem d_204_173 : decode M_204.2.2.1 173 = .ok (.goto 4, 3) := by decide +kernel
theorem d_204_176 : decode M_204.2.2.1 176 = .ok (.iconst 0, 1) := by decide +kernel
theorem d_204_177 : decode M_204.2.2.1 177 = .ok (.ior, 1) := by decide +kernel
theorem d_204_178 : decode M_204.2.2.1 178 = .ok (.istore_n 3, 1) := by decide +kernel
theorem d_204_179 : decode M_204.2.2.1 179 = .ok (.aload_n 0, 1) := by decide +kernel
theorem d_204_180 : decode M_204.2.2.1 180 = .ok (.invokevirtual 231, 3) := by decide +kernel
theorem d_204_183 : decode M_204.2.2.1 183 = .ok (.iinc 4 1, 3) := by decide +kernel
theorem d_204_186 : decode M_204.2.2.1 186 = .ok (.goto (-87), 3) := by decide +kernel
theorem d_204_189 : decode M_204.2.2.1 189 = .ok (.iload_n 3, 1) := by decide +kernel
theorem d_204_190 : decode M_204.2.2.1 190 = .ok (.ireturn, 1) := by decide +kernel
/-- HeardBarrelsModel.leak(II)I -/
def M_205 : am_MT := (9, ⟨"HeardBarrelsModel", "leak", "(II)I"⟩, prog_10_method_44_code, 5, some .int, false, 2, (0, 0))
theorem hM_205 : am_ms[205]? = some M_205 := rfl
theorem d_205_0 : decode M_205.2.2.1 0 = .ok (.aload_n 0, 1) := by decide +kernel
theorem d_205_1 : decode M_205.2.2.1 1 = .ok (.iconst 0, 1) := by decide +kernel
theorem d_205_2 : decode M_205.2.2.1 2 = .ok (.putfield 1, 3) := by decide +kernel
theorem d_205_5 : decode M_205.2.2.1 5 = .ok (.aload_n 0, 1) := by decide +kernel
theorem d_205_6 : decode M_205.2.2.1 6 = .ok (.iload_n 1, 1) := by decide +kernel
theorem d_205_7 : decode M_205.2.2.1 7 = .ok (.i2l, 1) := by decide +kernel
theorem d_205_8 : decode M_205.2.2.1 8 = .ok (.invokevirtual 179, 3) := by decide +kernel
theorem d_205_11 : decode M_205.2.2.1 11 = .ok (.ifCond .ne 6, 3) := by decide +kernel
theorem d_205_14 : decode M_205.2.2.1 14 = .ok (.bipush (-2), 2) := by decide +kernel
theorem d_205_16 : decode M_205.2.2.1 16 = .ok (.ireturn, 1) := by decide +kernel
theorem d_205_17 : decode M_205.2.2.1 17 = .ok (.iload_n 2, 1) := by decide +kernel
theorem d_205_18 : decode M_205.2.2.1 18 = .ok (.i2l, 1) := by decide +kernel
theorem d_205_19 : decode M_205.2.2.1 19 = .ok (.lconst 1, 1) := by decide +kernel
theorem d_205_20 : decode M_205.2.2.1 20 = .ok (.ldc2_w 237, 3) := by decide +kernel
theorem d_205_23 : decode M_205.2.2.1 23 = .ok (.invokestatic 152, 3) := by decide +kernel
theorem d_205_26 : decode M_205.2.2.1 26 = .ok (.ifCond .ne 6, 3) := by decide +kernel
theorem d_205_29 : decode M_205.2.2.1 29 = .ok (.bipush (-3), 2) := by decide +kernel
theorem d_205_31 : decode M_205.2.2.1 31 = .ok (.ireturn, 1) := by decide +kernel
theorem d_205_32 : decode M_205.2.2.1 32 = .ok (.iconst 0, 1) := by decide +kernel
theorem d_205_33 : decode M_205.2.2.1 33 = .ok (.istore_n 3, 1) := by decide +kernel
theorem d_205_34 : decode M_205.2.2.1 34 = .ok (.iload_n 1, 1) := by decide +kernel
theorem d_205_35 : decode M_205.2.2.1 35 = .ok (.istore 4, 2) := by decide +kernel
theorem d_205_37 : decode M_205.2.2.1 37 = .ok (.iload 4, 2) := by decide +kernel
theorem d_205_39 : decode M_205.2.2.1 39 = .ok (.iload_n 1, 1) := by decide +kernel
theorem d_205_40 : decode M_205.2.2.1 40 = .ok (.iload_n 2, 1) := by decide +kernel
theorem d_205_41 : decode M_205.2.2.1 41 = .ok (.iadd, 1) := by decide +kernel
theorem d_205_42 : decode M_205.2.2.1 42 = .ok (.if_icmp .ge 63, 3) := by decide +kernel
theorem d_205_45 : decode M_205.2.2.1 45 = .ok (.aload_n 0, 1) := by decide +kernel
theorem d_205_46 : decode M_205.2.2.1 46 = .ok (.iload 4, 2) := by decide +kernel
theorem d_205_48 : decode M_205.2.2.1 48 = .ok (.invokevirtual 239, 3) := by decide +kernel
theorem d_205_51 : decode M_205.2.2.1 51 = .ok (.ifCond .eq 54, 3) := by decide +kernel
theorem d_205_54 : decode M_205.2.2.1 54 = .ok (.aload_n 0, 1) := by decide +kernel
theorem d_205_55 : decode M_205.2.2.1 55 = .ok (.iload 4, 2) := by decide +kernel
theorem d_205_57 : decode M_205.2.2.1 57 = .ok (.iconst 0, 1) := by decide +kernel
theorem d_205_58 : decode M_205.2.2.1 58 = .ok (.invokevirtual 196, 3) := by decide +kernel
theorem d_205_61 : decode M_205.2.2.1 61 = .ok (.ifCond .eq 38, 3) := by decide +kernel
theorem d_205_64 : decode M_205.2.2.1 64 = .ok (.aload_n 0, 1) := by decide +kernel
theorem d_205_65 : decode M_205.2.2.1 65 = .ok (.getfield 13, 3) := by decide +kernel
theorem d_205_68 : decode M_205.2.2.1 68 = .ok (.bipush 20, 2) := by decide +kernel
theorem d_205_70 : decode M_205.2.2.1 70 = .ok (.iload 4, 2) := by decide +kernel
theorem d_205_72 : decode M_205.2.2.1 72 = .ok (.iadd, 1) := by decide +kernel
theorem d_205_73 : decode M_205.2.2.1 73 = .ok (.iaload, 1) := by decide +kernel
theorem d_205_74 : decode M_205.2.2.1 74 = .ok (.bipush 9, 2) := by decide +kernel
theorem d_205_76 : decode M_205.2.2.1 76 = .ok (.if_icmp .ne 6, 3) := by decide +kernel
theorem d_205_79 : decode M_205.2.2.1 79 = .ok (.goto 20, 3) := by decide +kernel
theorem d_205_82 : decode M_205.2.2.1 82 = .ok (.aload_n 0, 1) := by decide +kernel
theorem d_205_83 : decode M_205.2.2.1 83 = .ok (.getfield 13, 3) := by decide +kernel
theorem d_205_86 : decode M_205.2.2.1 86 = .ok (.bipush 20, 2) := by decide +kernel
theorem d_205_88 : decode M_205.2.2.1 88 = .ok (.iload 4, 2) := by decide +kernel
theorem d_205_90 : decode M_205.2.2.1 90 = .ok (.iadd, 1) := by decide +kernel
theorem d_205_91 : decode M_205.2.2.1 91 = .ok (.dup2, 1) := by decide +kernel
theorem d_205_92 : decode M_205.2.2.1 92 = .ok (.iaload, 1) := by decide +kernel
theorem d_205_93 : decode M_205.2.2.1 93 = .ok (.iconst 1, 1) := by decide +kernel
theorem d_205_94 : decode M_205.2.2.1 94 = .ok (.iadd, 1) := by decide +kernel
theorem d_205_95 : decode M_205.2.2.1 95 = .ok (.iastore, 1) := by decide +kernel
theorem d_205_96 : decode M_205.2.2.1 96 = .ok (.iinc 3 1, 3) := by decide +kernel
theorem d_205_99 : decode M_205.2.2.1 99 = .ok (.iinc 4 1, 3) := by decide +kernel
theorem d_205_102 : decode M_205.2.2.1 102 = .ok (.goto (-65), 3) := by decide +kernel
theorem d_205_105 : decode M_205.2.2.1 105 = .ok (.iload_n 3, 1) := by decide +kernel
theorem d_205_106 : decode M_205.2.2.1 106 = .ok (.ireturn, 1) := by decide +kernel
/-- HeardBarrelsModel.isBarrel(I)Z -/
def M_206 : am_MT := (9, ⟨"HeardBarrelsModel", "isBarrel", "(I)Z"⟩, prog_10_method_48_code, 2, some .boolean, false, 1, (0, 0))
theorem hM_206 : am_ms[206]? = some M_206 := rfl
theorem d_206_0 : decode M_206.2.2.1 0 = .ok (.aload_n 0, 1) := by decide +kernel
theorem d_206_1 : decode M_206.2.2.1 1 = .ok (.iload_n 1, 1) := by decide +kernel
theorem d_206_2 : decode M_206.2.2.1 2 = .ok (.i2l, 1) := by decide +kernel
theorem d_206_3 : decode M_206.2.2.1 3 = .ok (.invokevirtual 179, 3) := by decide +kernel
theorem d_206_6 : decode M_206.2.2.1 6 = .ok (.ifCond .eq 16, 3) := by decide +kernel
theorem d_206_9 : decode M_206.2.2.1 9 = .ok (.aload_n 0, 1) := by decide +kernel
theorem d_206_10 : decode M_206.2.2.1 10 = .ok (.iload_n 1, 1) := by decide +kernel
theorem d_206_11 : decode M_206.2.2.1 11 = .ok (.iconst 3, 1) := by decide +kernel
theorem d_206_12 : decode M_206.2.2.1 12 = .ok (.invokevirtual 196, 3) := by decide +kernel
theorem d_206_15 : decode M_206.2.2.1 15 = .ok (.ifCond .ne 7, 3) := by decide +kernel
theorem d_206_18 : decode M_206.2.2.1 18 = .ok (.iconst 1, 1) := by decide +kernel
theorem d_206_19 : decode M_206.2.2.1 19 = .ok (.goto 4, 3) := by decide +kernel
theorem d_206_22 : decode M_206.2.2.1 22 = .ok (.iconst 0, 1) := by decide +kernel
theorem d_206_23 : decode M_206.2.2.1 23 = .ok (.ireturn, 1) := by decide +kernel
/-- HeardBarrelsModel.tone(I)I -/
def M_207 : am_MT := (9, ⟨"HeardBarrelsModel", "tone", "(I)I"⟩, prog_10_method_47_code, 2, some .int, false, 1, (0, 0))
theorem hM_207 : am_ms[207]? = some M_207 := rfl
theorem d_207_0 : decode M_207.2.2.1 0 = .ok (.aload_n 0, 1) := by decide +kernel
theorem d_207_1 : decode M_207.2.2.1 1 = .ok (.iconst 0, 1) := by decide +kernel
theorem d_207_2 : decode M_207.2.2.1 2 = .ok (.putfield 1, 3) := by decide +kernel
theorem d_207_5 : decode M_207.2.2.1 5 = .ok (.aload_n 0, 1) := by decide +kernel
theorem d_207_6 : decode M_207.2.2.1 6 = .ok (.iload_n 1, 1) := by decide +kernel
theorem d_207_7 : decode M_207.2.2.1 7 = .ok (.i2l, 1) := by decide +kernel
theorem d_207_8 : decode M_207.2.2.1 8 = .ok (.invokevirtual 179, 3) := by decide +kernel
theorem d_207_11 : decode M_207.2.2.1 11 = .ok (.ifCond .ne 6, 3) := by decide +kernel
theorem d_207_14 : decode M_207.2.2.1 14 = .ok (.bipush (-2), 2) := by decide +kernel
theorem d_207_16 : decode M_207.2.2.1 16 = .ok (.ireturn, 1) := by decide +kernel
theorem d_207_17 : decode M_207.2.2.1 17 = .ok (.aload_n 0, 1) := by decide +kernel
theorem d_207_18 : decode M_207.2.2.1 18 = .ok (.iload_n 1, 1) := by decide +kernel
theorem d_207_19 : decode M_207.2.2.1 19 = .ok (.iconst 3, 1) := by decide +kernel
theorem d_207_20 : decode M_207.2.2.1 20 = .ok (.invokevirtual 196, 3) := by decide +kernel
theorem d_207_23 : decode M_207.2.2.1 23 = .ok (.ifCond .eq 8, 3) := by decide +kernel
theorem d_207_26 : decode M_207.2.2.1 26 = .ok (.bipush (-5), 2) := by decide +kernel
theorem d_207_28 : decode M_207.2.2.1 28 = .ok (.goto 14, 3) := by decide +kernel
theorem d_207_31 : decode M_207.2.2.1 31 = .ok (.aload_n 0, 1) := by decide +kernel
theorem d_207_32 : decode M_207.2.2.1 32 = .ok (.iload_n 1, 1) := by decide +kernel
theorem d_207_33 : decode M_207.2.2.1 33 = .ok (.aload_n 0, 1) := by decide +kernel
theorem d_207_34 : decode M_207.2.2.1 34 = .ok (.iload_n 1, 1) := by decide +kernel
theorem d_207_35 : decode M_207.2.2.1 35 = .ok (.iconst 1, 1) := by decide +kernel
theorem d_207_36 : decode M_207.2.2.1 36 = .ok (.invokevirtual 196, 3) := by decide +kernel
theorem d_207_39 : decode M_207.2.2.1 39 = .ok (.invokevirtual 242, 3) := by decide +kernel
theorem d_207_42 : decode M_207.2.2.1 42 = .ok (.ireturn, 1) := by decide +kernel
/-- HeardBarrelsModel.toneOf(IZ)I -/
def M_208 : am_MT := (9, ⟨"HeardBarrelsModel", "toneOf", "(IZ)I"⟩, prog_10_method_45_code, 3, some .int, false, 2, (0, 0))
theorem hM_208 : am_ms[208]? = some M_208 := rfl
theorem d_208_0 : decode M_208.2.2.1 0 = .ok (.aload_n 0, 1) := by decide +kernel
theorem d_208_1 : decode M_208.2.2.1 1 = .ok (.getfield 13, 3) := by decide +kernel
theorem d_208_4 : decode M_208.2.2.1 4 = .ok (.bipush 8, 2) := by decide +kernel
theorem d_208_6 : decode M_208.2.2.1 6 = .ok (.iload_n 1, 1) := by decide +kernel
theorem d_208_7 : decode M_208.2.2.1 7 = .ok (.iadd, 1) := by decide +kernel
theorem d_208_8 : decode M_208.2.2.1 8 = .ok (.iaload, 1) := by decide +kernel
theorem d_208_9 : decode M_208.2.2.1 9 = .ok (.iconst 2, 1) := by decide +kernel
theorem d_208_10 : decode M_208.2.2.1 10 = .ok (.if_icmp .ne 6, 3) := by decide +kernel
theorem d_208_13 : decode M_208.2.2.1 13 = .ok (.bipush 20, 2) := by decide +kernel
theorem d_208_15 : decode M_208.2.2.1 15 = .ok (.ireturn, 1) := by decide +kernel
theorem d_208_16 : decode M_208.2.2.1 16 = .ok (.bipush 120, 2) := by decide +kernel
theorem d_208_18 : decode M_208.2.2.1 18 = .ok (.aload_n 0, 1) := by decide +kernel
theorem d_208_19 : decode M_208.2.2.1 19 = .ok (.getfield 13, 3) := by decide +kernel
theorem d_208_22 : decode M_208.2.2.1 22 = .ok (.bipush 32, 2) := by decide +kernel
theorem d_208_24 : decode M_208.2.2.1 24 = .ok (.iload_n 1, 1) := by decide +kernel
theorem d_208_25 : decode M_208.2.2.1 25 = .ok (.iadd, 1) := by decide +kernel
theorem d_208_26 : decode M_208.2.2.1 26 = .ok (.iaload, 1) := by decide +kernel
theorem d_208_27 : decode M_208.2.2.1 27 = .ok (.iconst 2, 1) := by decide +kernel
theorem d_208_28 : decode M_208.2.2.1 28 = .ok (.idiv, 1) := by decide +kernel
theorem d_208_29 : decode M_208.2.2.1 29 = .ok (.isub, 1) := by decide +kernel
theorem d_208_30 : decode M_208.2.2.1 30 = .ok (.aload_n 0, 1) := by decide +kernel
theorem d_208_31 : decode M_208.2.2.1 31 = .ok (.getfield 13, 3) := by decide +kernel
theorem d_208_34 : decode M_208.2.2.1 34 = .ok (.bipush 20, 2) := by decide +kernel
theorem d_208_36 : decode M_208.2.2.1 36 = .ok (.iload_n 1, 1) := by decide +kernel
theorem d_208_37 : decode M_208.2.2.1 37 = .ok (.iadd, 1) := by decide +kernel
theorem d_208_38 : decode M_208.2.2.1 38 = .ok (.iaload, 1) := by decide +kernel
theorem d_208_39 : decode M_208.2.2.1 39 = .ok (.iadd, 1) := by decide +kernel
theorem d_208_40 : decode M_208.2.2.1 40 = .ok (.iload_n 2, 1) := by decide +kernel
theorem d_208_41 : decode M_208.2.2.1 41 = .ok (.ifCond .eq 12, 3) := by decide +kernel
theorem d_208_44 : decode M_208.2.2.1 44 = .ok (.aload_n 0, 1) := by decide +kernel
theorem d_208_45 : decode M_208.2.2.1 45 = .ok (.getfield 13, 3) := by decide +kernel
theorem d_208_48 : decode M_208.2.2.1 48 = .ok (.iconst 2, 1) := by decide +kernel
theorem d_208_49 : decode M_208.2.2.1 49 = .ok (.iaload, 1) := by decide +kernel
theorem d_208_50 : decode M_208.2.2.1 50 = .ok (.goto 4, 3) := by decide +kernel
theorem d_208_53 : decode M_208.2.2.1 53 = .ok (.iconst 0, 1) := by decide +kernel
theorem d_208_54 : decode M_208.2.2.1 54 = .ok (.isub, 1) := by decide +kernel
theorem d_208_55 : decode M_208.2.2.1 55 = .ok (.ireturn, 1) := by decide +kernel
/-- HeardBarrelsModel.knock(I)I -/
def M_209 : am_MT := (9, ⟨"HeardBarrelsModel", "knock", "(I)I"⟩, prog_10_method_49_code, 2, some .int, false, 1, (0, 0))
theorem hM_209 : am_ms[209]? = some M_209 := rfl
theorem d_209_0 : decode M_209.2.2.1 0 = .ok (.aload_n 0, 1) := by decide +kernel
theorem d_209_1 : decode M_209.2.2.1 1 = .ok (.iconst 0, 1) := by decide +kernel
theorem d_209_2 : decode M_209.2.2.1 2 = .ok (.putfield 1, 3) := by decide +kernel
theorem d_209_5 : decode M_209.2.2.1 5 = .ok (.aload_n 0, 1) := by decide +kernel
theorem d_209_6 : decode M_209.2.2.1 6 = .ok (.iload_n 1, 1) := by decide +kernel
theorem d_209_7 : decode M_209.2.2.1 7 = .ok (.invokevirtual 239, 3) := by decide +kernel
theorem d_209_10 : decode M_209.2.2.1 10 = .ok (.ifCond .eq 16, 3) := by decide +kernel
theorem d_209_13 : decode M_209.2.2.1 13 = .ok (.aload_n 0, 1) := by decide +kernel
theorem d_209_14 : decode M_209.2.2.1 14 = .ok (.iload_n 1, 1) := by decide +kernel
theorem d_209_15 : decode M_209.2.2.1 15 = .ok (.aload_n 0, 1) := by decide +kernel
theorem d_209_16 : decode M_209.2.2.1 16 = .ok (.iconst 1, 1) := by decide +kernel
theorem d_209_17 : decode M_209.2.2.1 17 = .ok (.invokevirtual 187, 3) := by decide +kernel
theorem d_209_20 : decode M_209.2.2.1 20 = .ok (.invokevirtual 246, 3) := by decide +kernel
theorem d_209_23 : decode M_209.2.2.1 23 = .ok (.goto 6, 3) := by decide +kernel
theorem d_209_26 : decode M_209.2.2.1 26 = .ok (.sipush (-1000), 3) := by decide +kernel
theorem d_209_29 : decode M_209.2.2.1 29 = .ok (.ireturn, 1) := by decide +kernel
/-- HeardBarrelsModel.heardOf(II)I -/
def M_210 : am_MT := (9, ⟨"HeardBarrelsModel", "heardOf", "(II)I"⟩, prog_10_method_46_code, 6, some .int, false, 2, (0, 0))
theorem hM_210 : am_ms[210]? = some M_210 := rfl
theorem d_210_0 : decode M_210.2.2.1 0 = .ok (.aload_n 0, 1) := by decide +kernel
theorem d_210_1 : decode M_210.2.2.1 1 = .ok (.iload_n 1, 1) := by decide +kernel
theorem d_210_2 : decode M_210.2.2.1 2 = .ok (.iload_n 2, 1) := by decide +kernel
theorem d_210_3 : decode M_210.2.2.1 3 = .ok (.i2l, 1) := by decide +kernel
theorem d_210_4 : decode M_210.2.2.1 4 = .ok (.iload_n 1, 1) := by decide +kernel
theorem d_210_5 : decode M_210.2.2.1 5 = .ok (.invokestatic 183, 3) := by decide +kernel
theorem d_210_8 : decode M_210.2.2.1 8 = .ok (.invokevirtual 242, 3) := by decide +kernel
theorem d_210_11 : decode M_210.2.2.1 11 = .ok (.aload_n 0, 1) := by decide +kernel
theorem d_210_12 : decode M_210.2.2.1 12 = .ok (.getfield 13, 3) := by decide +kernel
theorem d_210_15 : decode M_210.2.2.1 15 = .ok (.iconst 3, 1) := by decide +kernel
theorem d_210_16 : decode M_210.2.2.1 16 = .ok (.iaload, 1) := by decide +kernel
theorem d_210_17 : decode M_210.2.2.1 17 = .ok (.iload_n 2, 1) := by decide +kernel
theorem d_210_18 : decode M_210.2.2.1 18 = .ok (.iload_n 1, 1) := by decide +kernel
theorem d_210_19 : decode M_210.2.2.1 19 = .ok (.invokestatic 201, 3) := by decide +kernel
theorem d_210_22 : decode M_210.2.2.1 22 = .ok (.imul, 1) := by decide +kernel
theorem d_210_23 : decode M_210.2.2.1 23 = .ok (.isub, 1) := by decide +kernel
theorem d_210_24 : decode M_210.2.2.1 24 = .ok (.aload_n 0, 1) := by decide +kernel
theorem d_210_25 : decode M_210.2.2.1 25 = .ok (.iconst 3, 1) := by decide +kernel
theorem d_210_26 : decode M_210.2.2.1 26 = .ok (.invokevirtual 187, 3) := by decide +kernel
theorem d_210_29 : decode M_210.2.2.1 29 = .ok (.iload_n 1, 1) := by decide +kernel
theorem d_210_30 : decode M_210.2.2.1 30 = .ok (.invokestatic 201, 3) := by decide +kernel
theorem d_210_33 : decode M_210.2.2.1 33 = .ok (.iadd, 1) := by decide +kernel
theorem d_210_34 : decode M_210.2.2.1 34 = .ok (.istore_n 3, 1) := by decide +kernel
theorem d_210_35 : decode M_210.2.2.1 35 = .ok (.aload_n 0, 1) := by decide +kernel
theorem d_210_36 : decode M_210.2.2.1 36 = .ok (.getfield 13, 3) := by decide +kernel
theorem d_210_39 : decode M_210.2.2.1 39 = .ok (.bipush 6, 2) := by decide +kernel
theorem d_210_41 : decode M_210.2.2.1 41 = .ok (.iaload, 1) := by decide +kernel
theorem d_210_42 : decode M_210.2.2.1 42 = .ok (.iconst 1, 1) := by decide +kernel
theorem d_210_43 : decode M_210.2.2.1 43 = .ok (.iadd, 1) := by decide +kernel
theorem d_210_44 : decode M_210.2.2.1 44 = .ok (.istore 4, 2) := by decide +kernel
theorem d_210_46 : decode M_210.2.2.1 46 = .ok (.iload_n 3, 1) := by decide +kernel
theorem d_210_47 : decode M_210.2.2.1 47 = .ok (.iload 4, 2) := by decide +kernel
theorem d_210_49 : decode M_210.2.2.1 49 = .ok (.idiv, 1) := by decide +kernel
theorem d_210_50 : decode M_210.2.2.1 50 = .ok (.istore 5, 2) := by decide +kernel
theorem d_210_52 : decode M_210.2.2.1 52 = .ok (.iload_n 3, 1) := by decide +kernel
theorem d_210_53 : decode M_210.2.2.1 53 = .ok (.ifCond .ge 19, 3) := by decide +kernel
theorem d_210_56 : decode M_210.2.2.1 56 = .ok (.iload 5, 2) := by decide +kernel
theorem d_210_58 : decode M_210.2.2.1 58 = .ok (.iload 4, 2) := by decide +kernel
theorem d_210_60 : decode M_210.2.2.1 60 = .ok (.imul, 1) := by decide +kernel
theorem d_210_61 : decode M_210.2.2.1 61 = .ok (.iload_n 3, 1) := by decide +kernel
theorem d_210_62 : decode M_210.2.2.1 62 = .ok (.if_icmp .eq 10, 3) := by decide +kernel
theorem d_210_65 : decode M_210.2.2.1 65 = .ok (.iload 5, 2) := by decide +kernel
theorem d_210_67 : decode M_210.2.2.1 67 = .ok (.iconst 1, 1) := by decide +kernel
theorem d_210_68 : decode M_210.2.2.1 68 = .ok (.isub, 1) := by decide +kernel
theorem d_210_69 : decode M_210.2.2.1 69 = .ok (.goto 5, 3) := by decide +kernel
theorem d_210_72 : decode M_210.2.2.1 72 = .ok (.iload 5, 2) := by decide +kernel
theorem d_210_74 : decode M_210.2.2.1 74 = .ok (.ireturn, 1) := by decide +kernel
/-- HeardBarrelsModel.heard(II)I -/
def M_211 : am_MT := (9, ⟨"HeardBarrelsModel", "heard", "(II)I"⟩, prog_10_method_50_code, 3, some .int, false, 2, (0, 0))
theorem hM_211 : am_ms[211]? = some M_211 := rfl
theorem d_211_0 : decode M_211.2.2.1 0 = .ok (.aload_n 0, 1) := by decide +kernel
theorem d_211_1 : decode M_211.2.2.1 1 = .ok (.iconst 0, 1) := by decide +kernel
theorem d_211_2 : decode M_211.2.2.1 2 = .ok (.putfield 1, 3) := by decide +kernel
theorem d_211_5 : decode M_211.2.2.1 5 = .ok (.aload_n 0, 1) := by decide +kernel
theorem d_211_6 : decode M_211.2.2.1 6 = .ok (.iload_n 1, 1) := by decide +kernel
theorem d_211_7 : decode M_211.2.2.1 7 = .ok (.invokevirtual 239, 3) := by decide +kernel
theorem d_211_10 : decode M_211.2.2.1 10 = .ok (.ifCond .eq 30, 3) := by decide +kernel
theorem d_211_13 : decode M_211.2.2.1 13 = .ok (.iload_n 2, 1) := by decide +kernel
theorem d_211_14 : decode M_211.2.2.1 14 = .ok (.aload_n 0, 1) := by decide +kernel
theorem d_211_15 : decode M_211.2.2.1 15 = .ok (.iconst 0, 1) := by decide +kernel
theorem d_211_16 : decode M_211.2.2.1 16 = .ok (.invokevirtual 187, 3) := by decide +kernel
theorem d_211_19 : decode M_211.2.2.1 19 = .ok (.aload_n 0, 1) := by decide +kernel
theorem d_211_20 : decode M_211.2.2.1 20 = .ok (.iconst 1, 1) := by decide +kernel
theorem d_211_21 : decode M_211.2.2.1 21 = .ok (.invokevirtual 187, 3) := by decide +kernel
theorem d_211_24 : decode M_211.2.2.1 24 = .ok (.ior, 1) := by decide +kernel
theorem d_211_25 : decode M_211.2.2.1 25 = .ok (.iconst (-1), 1) := by decide +kernel
theorem d_211_26 : decode M_211.2.2.1 26 = .ok (.ixor, 1) := by decide +kernel
theorem d_211_27 : decode M_211.2.2.1 27 = .ok (.iand, 1) := by decide +kernel
theorem d_211_28 : decode M_211.2.2.1 28 = .ok (.ifCond .ne 12, 3) := by decide +kernel
theorem d_211_31 : decode M_211.2.2.1 31 = .ok (.aload_n 0, 1) := by decide +kernel
theorem d_211_32 : decode M_211.2.2.1 32 = .ok (.iload_n 1, 1) := by decide +kernel
theorem d_211_33 : decode M_211.2.2.1 33 = .ok (.iload_n 2, 1) := by decide +kernel
theorem d_211_34 : decode M_211.2.2.1 34 = .ok (.invokevirtual 246, 3) := by decide +kernel
theorem d_211_37 : decode M_211.2.2.1 37 = .ok (.goto 6, 3) := by decide +kernel
theorem d_211_40 : decode M_211.2.2.1 40 = .ok (.sipush (-1000), 3) := by decide +kernel
theorem d_211_43 : decode M_211.2.2.1 43 = .ok (.ireturn, 1) := by decide +kernel
/-- HeardBarrelsModel.fit(I)I -/
def M_212 : am_MT := (9, ⟨"HeardBarrelsModel", "fit", "(I)I"⟩, prog_10_method_53_code, 3, some .int, false, 1, (0, 0))
theorem hM_212 : am_ms[212]? = some M_212 := rfl
theorem d_212_0 : decode M_212.2.2.1 0 = .ok (.aload_n 0, 1) := by decide +kernel
theorem d_212_1 : decode M_212.2.2.1 1 = .ok (.iconst 0, 1) := by decide +kernel
theorem d_212_2 : decode M_212.2.2.1 2 = .ok (.putfield 1, 3) := by decide +kernel
theorem d_212_5 : decode M_212.2.2.1 5 = .ok (.aload_n 0, 1) := by decide +kernel
theorem d_212_6 : decode M_212.2.2.1 6 = .ok (.iload_n 1, 1) := by decide +kernel
theorem d_212_7 : decode M_212.2.2.1 7 = .ok (.invokevirtual 257, 3) := by decide +kernel
theorem d_212_10 : decode M_212.2.2.1 10 = .ok (.istore_n 2, 1) := by decide +kernel
theorem d_212_11 : decode M_212.2.2.1 11 = .ok (.iload_n 2, 1) := by decide +kernel
theorem d_212_12 : decode M_212.2.2.1 12 = .ok (.ifCond .eq 7, 3) := by decide +kernel
theorem d_212_15 : decode M_212.2.2.1 15 = .ok (.iload_n 2, 1) := by decide +kernel
theorem d_212_16 : decode M_212.2.2.1 16 = .ok (.goto 7, 3) := by decide +kernel
theorem d_212_19 : decode M_212.2.2.1 19 = .ok (.aload_n 0, 1) := by decide +kernel
theorem d_212_20 : decode M_212.2.2.1 20 = .ok (.getfield 251, 3) := by decide +kernel
theorem d_212_23 : decode M_212.2.2.1 23 = .ok (.ireturn, 1) := by decide +kernel
/-- HeardBarrelsModel.laysFit(I)I -/
def M_213 : am_MT := (9, ⟨"HeardBarrelsModel", "laysFit", "(I)I"⟩, prog_10_method_52_code, 4, some .int, false, 1, (0, 0))
theorem hM_213 : am_ms[213]? = some M_213 := rfl
theorem d_213_0 : decode M_213.2.2.1 0 = .ok (.iload_n 1, 1) := by decide +kernel
theorem d_213_1 : decode M_213.2.2.1 1 = .ok (.i2l, 1) := by decide +kernel
theorem d_213_2 : decode M_213.2.2.1 2 = .ok (.lconst 0, 1) := by decide +kernel
theorem d_213_3 : decode M_213.2.2.1 3 = .ok (.ldc2_w 190, 3) := by decide +kernel
theorem d_213_6 : decode M_213.2.2.1 6 = .ok (.invokestatic 152, 3) := by decide +kernel
theorem d_213_9 : decode M_213.2.2.1 9 = .ok (.ifCond .ne 6, 3) := by decide +kernel
theorem d_213_12 : decode M_213.2.2.1 12 = .ok (.bipush (-2), 2) := by decide +kernel
theorem d_213_14 : decode M_213.2.2.1 14 = .ok (.ireturn, 1) := by decide +kernel
theorem d_213_15 : decode M_213.2.2.1 15 = .ok (.aload_n 0, 1) := by decide +kernel
theorem d_213_16 : decode M_213.2.2.1 16 = .ok (.getfield 78, 3) := by decide +kernel
theorem d_213_19 : decode M_213.2.2.1 19 = .ok (.iload_n 1, 1) := by decide +kernel
theorem d_213_20 : decode M_213.2.2.1 20 = .ok (.iaload, 1) := by decide +kernel
theorem d_213_21 : decode M_213.2.2.1 21 = .ok (.iconst (-1), 1) := by decide +kernel
theorem d_213_22 : decode M_213.2.2.1 22 = .ok (.if_icmp .ne 6, 3) := by decide +kernel
theorem d_213_25 : decode M_213.2.2.1 25 = .ok (.bipush (-6), 2) := by decide +kernel
theorem d_213_27 : decode M_213.2.2.1 27 = .ok (.ireturn, 1) := by decide +kernel
theorem d_213_28 : decode M_213.2.2.1 28 = .ok (.aload_n 0, 1) := by decide +kernel
theorem d_213_29 : decode M_213.2.2.1 29 = .ok (.getfield 81, 3) := by decide +kernel
theorem d_213_32 : decode M_213.2.2.1 32 = .ok (.iload_n 1, 1) := by decide +kernel
theorem d_213_33 : decode M_213.2.2.1 33 = .ok (.iaload, 1) := by decide +kernel
theorem d_213_34 : decode M_213.2.2.1 34 = .ok (.aload_n 0, 1) := by decide +kernel
theorem d_213_35 : decode M_213.2.2.1 35 = .ok (.getfield 13, 3) := by decide +kernel
theorem d_213_38 : decode M_213.2.2.1 38 = .ok (.iconst 0, 1) := by decide +kernel
theorem d_213_39 : decode M_213.2.2.1 39 = .ok (.iaload, 1) := by decide +kernel
theorem d_213_40 : decode M_213.2.2.1 40 = .ok (.if_icmp .eq 6, 3) := by decide +kernel
theorem d_213_43 : decode M_213.2.2.1 43 = .ok (.bipush (-7), 2) := by decide +kernel
theorem d_213_45 : decode M_213.2.2.1 45 = .ok (.ireturn, 1) := by decide +kernel
theorem d_213_46 : decode M_213.2.2.1 46 = .ok (.aload_n 0, 1) := by decide +kernel
theorem d_213_47 : decode M_213.2.2.1 47 = .ok (.iconst 0, 1) := by decide +kernel
theorem d_213_48 : decode M_213.2.2.1 48 = .ok (.invokevirtual 187, 3) := by decide +kernel
theorem d_213_51 : decode M_213.2.2.1 51 = .ok (.aload_n 0, 1) := by decide +kernel
theorem d_213_52 : decode M_213.2.2.1 52 = .ok (.iconst 1, 1) := by decide +kernel
theorem d_213_53 : decode M_213.2.2.1 53 = .ok (.invokevirtual 187, 3) := by decide +kernel
theorem d_213_56 : decode M_213.2.2.1 56 = .ok (.ior, 1) := by decide +kernel
theorem d_213_57 : decode M_213.2.2.1 57 = .ok (.istore_n 2, 1) := by decide +kernel
theorem d_213_58 : decode M_213.2.2.1 58 = .ok (.aload_n 0, 1) := by decide +kernel
theorem d_213_59 : decode M_213.2.2.1 59 = .ok (.iconst 0, 1) := by decide +kernel
theorem d_213_60 : decode M_213.2.2.1 60 = .ok (.putfield 251, 3) := by decide +kernel
theorem d_213_63 : decode M_213.2.2.1 63 = .ok (.iconst 0, 1) := by decide +kernel
theorem d_213_64 : decode M_213.2.2.1 64 = .ok (.istore_n 3, 1) := by decide +kernel
theorem d_213_65 : decode M_213.2.2.1 65 = .ok (.iload_n 3, 1) := by decide +kernel
theorem d_213_66 : decode M_213.2.2.1 66 = .ok (.iload_n 2, 1) := by decide +kernel
theorem d_213_67 : decode M_213.2.2.1 67 = .ok (.if_icmp .gt 49, 3) := by decide +kernel
theorem d_213_70 : decode M_213.2.2.1 70 = .ok (.iload_n 3, 1) := by decide +kernel
theorem d_213_71 : decode M_213.2.2.1 71 = .ok (.iload_n 2, 1) := by decide +kernel
theorem d_213_72 : decode M_213.2.2.1 72 = .ok (.iconst (-1), 1) := by decide +kernel
theorem d_213_73 : decode M_213.2.2.1 73 = .ok (.ixor, 1) := by decide +kernel
theorem d_213_74 : decode M_213.2.2.1 74 = .ok (.iand, 1) := by decide +kernel
theorem d_213_75 : decode M_213.2.2.1 75 = .ok (.ifCond .ne 35, 3) := by decide +kernel
theorem d_213_78 : decode M_213.2.2.1 78 = .ok (.aload_n 0, 1) := by decide +kernel
theorem d_213_79 : decode M_213.2.2.1 79 = .ok (.iload_n 1, 1) := by decide +kernel
theorem d_213_80 : decode M_213.2.2.1 80 = .ok (.iload_n 3, 1) := by decide +kernel
theorem d_213_81 : decode M_213.2.2.1 81 = .ok (.invokevirtual 254, 3) := by decide +kernel
theorem d_213_84 : decode M_213.2.2.1 84 = .ok (.ifCond .ne 6, 3) := by decide +kernel
theorem d_213_87 : decode M_213.2.2.1 87 = .ok (.goto 23, 3) := by decide +kernel
theorem d_213_90 : decode M_213.2.2.1 90 = .ok (.aload_n 0, 1) := by decide +kernel
theorem d_213_91 : decode M_213.2.2.1 91 = .ok (.getfield 33, 3) := by decide +kernel
theorem d_213_94 : decode M_213.2.2.1 94 = .ok (.aload_n 0, 1) := by decide +kernel
theorem d_213_95 : decode M_213.2.2.1 95 = .ok (.getfield 251, 3) := by decide +kernel
theorem d_213_98 : decode M_213.2.2.1 98 = .ok (.iload_n 3, 1) := by decide +kernel
theorem d_213_99 : decode M_213.2.2.1 99 = .ok (.iastore, 1) := by decide +kernel
theorem d_213_100 : decode M_213.2.2.1 100 = .ok (.aload_n 0, 1) := by decide +kernel
theorem d_213_101 : decode M_213.2.2.1 101 = .ok (.dup, 1) := by decide +kernel
theorem d_213_102 : decode M_213.2.2.1 102 = .ok (.getfield 251, 3) := by decide +kernel
theorem d_213_105 : decode M_213.2.2.1 105 = .ok (.iconst 1, 1) := by decide +kernel
theorem d_213_106 : decode M_213.2.2.1 106 = .ok (.iadd, 1) := by decide +kernel
theorem d_213_107 : decode M_213.2.2.1 107 = .ok (.putfield 251, 3) := by decide +kernel
theorem d_213_110 : decode M_213.2.2.1 110 = .ok (.iinc 3 1, 3) := by decide +kernel
theorem d_213_113 : decode M_213.2.2.1 113 = .ok (.goto (-48), 3) := by decide +kernel
theorem d_213_116 : decode M_213.2.2.1 116 = .ok (.iconst 0, 1) := by decide +kernel
theorem d_213_117 : decode M_213.2.2.1 117 = .ok (.ireturn, 1) := by decide +kernel
/-- HeardBarrelsModel.isFit(II)Z -/
def M_214 : am_MT := (9, ⟨"HeardBarrelsModel", "isFit", "(II)Z"⟩, prog_10_method_51_code, 6, some .boolean, false, 2, (0, 0))
theorem hM_214 : am_ms[214]? = some M_214 := rfl
theorem d_214_0 : decode M_214.2.2.1 0 = .ok (.iconst 0, 1) := by decide +kernel
theorem d_214_1 : decode M_214.2.2.1 1 = .ok (.istore_n 3, 1) := by decide +kernel
theorem d_214_2 : decode M_214.2.2.1 2 = .ok (.iload_n 3, 1) := by decide +kernel
theorem d_214_3 : decode M_214.2.2.1 3 = .ok (.aload_n 0, 1) := by decide +kernel
theorem d_214_4 : decode M_214.2.2.1 4 = .ok (.getfield 13, 3) := by decide +kernel
theorem d_214_7 : decode M_214.2.2.1 7 = .ok (.iconst 0, 1) := by decide +kernel
theorem d_214_8 : decode M_214.2.2.1 8 = .ok (.iaload, 1) := by decide +kernel
theorem d_214_9 : decode M_214.2.2.1 9 = .ok (.if_icmp .ge 55, 3) := by decide +kernel
theorem d_214_12 : decode M_214.2.2.1 12 = .ok (.aload_n 0, 1) := by decide +kernel
theorem d_214_13 : decode M_214.2.2.1 13 = .ok (.getfield 84, 3) := by decide +kernel
theorem d_214_16 : decode M_214.2.2.1 16 = .ok (.bipush 40, 2) := by decide +kernel
theorem d_214_18 : decode M_214.2.2.1 18 = .ok (.iload_n 1, 1) := by decide +kernel
theorem d_214_19 : decode M_214.2.2.1 19 = .ok (.imul, 1) := by decide +kernel
theorem d_214_20 : decode M_214.2.2.1 20 = .ok (.iload_n 3, 1) := by decide +kernel
theorem d_214_21 : decode M_214.2.2.1 21 = .ok (.iadd, 1) := by decide +kernel
theorem d_214_22 : decode M_214.2.2.1 22 = .ok (.laload, 1) := by decide +kernel
theorem d_214_23 : decode M_214.2.2.1 23 = .ok (.lstore 4, 2) := by decide +kernel
theorem d_214_25 : decode M_214.2.2.1 25 = .ok (.lload 4, 2) := by decide +kernel
theorem d_214_27 : decode M_214.2.2.1 27 = .ok (.ldc2_w 249, 3) := by decide +kernel
theorem d_214_30 : decode M_214.2.2.1 30 = .ok (.lcmp, 1) := by decide +kernel
theorem d_214_31 : decode M_214.2.2.1 31 = .ok (.ifCond .eq 27, 3) := by decide +kernel
theorem d_214_34 : decode M_214.2.2.1 34 = .ok (.aload_n 0, 1) := by decide +kernel
theorem d_214_35 : decode M_214.2.2.1 35 = .ok (.iload_n 3, 1) := by decide +kernel
theorem d_214_36 : decode M_214.2.2.1 36 = .ok (.iconst 3, 1) := by decide +kernel
theorem d_214_37 : decode M_214.2.2.1 37 = .ok (.invokevirtual 196, 3) := by decide +kernel
theorem d_214_40 : decode M_214.2.2.1 40 = .ok (.ifCond .ne 16, 3) := by decide +kernel
theorem d_214_43 : decode M_214.2.2.1 43 = .ok (.aload_n 0, 1) := by decide +kernel
theorem d_214_44 : decode M_214.2.2.1 44 = .ok (.iload_n 3, 1) := by decide +kernel
theorem d_214_45 : decode M_214.2.2.1 45 = .ok (.iload_n 2, 1) := by decide +kernel
theorem d_214_46 : decode M_214.2.2.1 46 = .ok (.invokevirtual 246, 3) := by decide +kernel
theorem d_214_49 : decode M_214.2.2.1 49 = .ok (.i2l, 1) := by decide +kernel
theorem d_214_50 : decode M_214.2.2.1 50 = .ok (.lload 4, 2) := by decide +kernel
theorem d_214_52 : decode M_214.2.2.1 52 = .ok (.lcmp, 1) := by decide +kernel
theorem d_214_53 : decode M_214.2.2.1 53 = .ok (.ifCond .eq 5, 3) := by decide +kernel
theorem d_214_56 : decode M_214.2.2.1 56 = .ok (.iconst 0, 1) := by decide +kernel
theorem d_214_57 : decode M_214.2.2.1 57 = .ok (.ireturn, 1) := by decide +kernel
theorem d_214_58 : decode M_214.2.2.1 58 = .ok (.iinc 3 1, 3) := by decide +kernel
theorem d_214_61 : decode M_214.2.2.1 61 = .ok (.goto (-59), 3) := by decide +kernel
theorem d_214_64 : decode M_214.2.2.1 64 = .ok (.iconst 1, 1) := by decide +kernel
theorem d_214_65 : decode M_214.2.2.1 65 = .ok (.ireturn, 1) := by decide +kernel
/-- HeardBarrelsModel.fitting(II)I -/
def M_215 : am_MT := (9, ⟨"HeardBarrelsModel", "fitting", "(II)I"⟩, prog_10_method_54_code, 4, some .int, false, 2, (0, 0))
theorem hM_215 : am_ms[215]? = some M_215 := rfl
theorem d_215_0 : decode M_215.2.2.1 0 = .ok (.aload_n 0, 1) := by decide +kernel
theorem d_215_1 : decode M_215.2.2.1 1 = .ok (.iconst 0, 1) := by decide +kernel
theorem d_215_2 : decode M_215.2.2.1 2 = .ok (.putfield 1, 3) := by decide +kernel
theorem d_215_5 : decode M_215.2.2.1 5 = .ok (.aload_n 0, 1) := by decide +kernel
theorem d_215_6 : decode M_215.2.2.1 6 = .ok (.iload_n 1, 1) := by decide +kernel
theorem d_215_7 : decode M_215.2.2.1 7 = .ok (.invokevirtual 257, 3) := by decide +kernel
theorem d_215_10 : decode M_215.2.2.1 10 = .ok (.istore_n 3, 1) := by decide +kernel
theorem d_215_11 : decode M_215.2.2.1 11 = .ok (.iload_n 3, 1) := by decide +kernel
theorem d_215_12 : decode M_215.2.2.1 12 = .ok (.ifCond .eq 7, 3) := by decide +kernel
theorem d_215_15 : decode M_215.2.2.1 15 = .ok (.iload_n 3, 1) := by decide +kernel
theorem d_215_16 : decode M_215.2.2.1 16 = .ok (.goto 29, 3) := by decide +kernel
theorem d_215_19 : decode M_215.2.2.1 19 = .ok (.iload_n 2, 1) := by decide +kernel
theorem d_215_20 : decode M_215.2.2.1 20 = .ok (.i2l, 1) := by decide +kernel
theorem d_215_21 : decode M_215.2.2.1 21 = .ok (.lconst 0, 1) := by decide +kernel
theorem d_215_22 : decode M_215.2.2.1 22 = .ok (.aload_n 0, 1) := by decide +kernel
theorem d_215_23 : decode M_215.2.2.1 23 = .ok (.getfield 251, 3) := by decide +kernel
theorem d_215_26 : decode M_215.2.2.1 26 = .ok (.iconst 1, 1) := by decide +kernel
theorem d_215_27 : decode M_215.2.2.1 27 = .ok (.isub, 1) := by decide +kernel
theorem d_215_28 : decode M_215.2.2.1 28 = .ok (.i2l, 1) := by decide +kernel
theorem d_215_29 : decode M_215.2.2.1 29 = .ok (.invokestatic 152, 3) := by decide +kernel
theorem d_215_32 : decode M_215.2.2.1 32 = .ok (.ifCond .eq 12, 3) := by decide +kernel
theorem d_215_35 : decode M_215.2.2.1 35 = .ok (.aload_n 0, 1) := by decide +kernel
theorem d_215_36 : decode M_215.2.2.1 36 = .ok (.getfield 33, 3) := by decide +kernel
theorem d_215_39 : decode M_215.2.2.1 39 = .ok (.iload_n 2, 1) := by decide +kernel
theorem d_215_40 : decode M_215.2.2.1 40 = .ok (.iaload, 1) := by decide +kernel
theorem d_215_41 : decode M_215.2.2.1 41 = .ok (.goto 4, 3) := by decide +kernel
theorem d_215_44 : decode M_215.2.2.1 44 = .ok (.iconst (-1), 1) := by decide +kernel
theorem d_215_45 : decode M_215.2.2.1 45 = .ok (.ireturn, 1) := by decide +kernel
/-- HeardBarrelsModel.sure(IZ)I -/
def M_216 : am_MT := (9, ⟨"HeardBarrelsModel", "sure", "(IZ)I"⟩, prog_10_method_55_code, 6, some .int, false, 2, (0, 0))
theorem hM_216 : am_ms[216]? = some M_216 := rfl
theorem d_216_0 : decode M_216.2.2.1 0 = .ok (.aload_n 0, 1) := by decide +kernel
theorem d_216_1 : decode M_216.2.2.1 1 = .ok (.iconst 0, 1) := by decide +kernel
theorem d_216_2 : decode M_216.2.2.1 2 = .ok (.putfield 1, 3) := by decide +kernel
theorem d_216_5 : decode M_216.2.2.1 5 = .ok (.aload_n 0, 1) := by decide +kernel
theorem d_216_6 : decode M_216.2.2.1 6 = .ok (.iload_n 1, 1) := by decide +kernel
theorem d_216_7 : decode M_216.2.2.1 7 = .ok (.invokevirtual 257, 3) := by decide +kernel
theorem d_216_10 : decode M_216.2.2.1 10 = .ok (.istore_n 3, 1) := by decide +kernel
theorem d_216_11 : decode M_216.2.2.1 11 = .ok (.iload_n 3, 1) := by decide +kernel
theorem d_216_12 : decode M_216.2.2.1 12 = .ok (.ifCond .ne 10, 3) := by decide +kernel
theorem d_216_15 : decode M_216.2.2.1 15 = .ok (.aload_n 0, 1) := by decide +kernel
theorem d_216_16 : decode M_216.2.2.1 16 = .ok (.getfield 251, 3) := by decide +kernel
theorem d_216_19 : decode M_216.2.2.1 19 = .ok (.ifCond .ne 5, 3) := by decide +kernel
theorem d_216_22 : decode M_216.2.2.1 22 = .ok (.iload_n 3, 1) := by decide +kernel
theorem d_216_23 : decode M_216.2.2.1 23 = .ok (.ireturn, 1) := by decide +kernel
theorem d_216_24 : decode M_216.2.2.1 24 = .ok (.aload_n 0, 1) := by decide +kernel
theorem d_216_25 : decode M_216.2.2.1 25 = .ok (.iconst 0, 1) := by decide +kernel
theorem d_216_26 : decode M_216.2.2.1 26 = .ok (.invokevirtual 187, 3) := by decide +kernel
theorem d_216_29 : decode M_216.2.2.1 29 = .ok (.aload_n 0, 1) := by decide +kernel
theorem d_216_30 : decode M_216.2.2.1 30 = .ok (.iconst 1, 1) := by decide +kernel
theorem d_216_31 : decode M_216.2.2.1 31 = .ok (.invokevirtual 187, 3) := by decide +kernel
theorem d_216_34 : decode M_216.2.2.1 34 = .ok (.ior, 1) := by decide +kernel
theorem d_216_35 : decode M_216.2.2.1 35 = .ok (.istore 4, 2) := by decide +kernel
theorem d_216_37 : decode M_216.2.2.1 37 = .ok (.iconst 0, 1) := by decide +kernel
theorem d_216_38 : decode M_216.2.2.1 38 = .ok (.istore 5, 2) := by decide +kernel
theorem d_216_40 : decode M_216.2.2.1 40 = .ok (.iload 5, 2) := by decide +kernel
theorem d_216_42 : decode M_216.2.2.1 42 = .ok (.aload_n 0, 1) := by decide +kernel
theorem d_216_43 : decode M_216.2.2.1 43 = .ok (.getfield 251, 3) := by decide +kernel
theorem d_216_46 : decode M_216.2.2.1 46 = .ok (.if_icmp .ge 37, 3) := by decide +kernel
theorem d_216_49 : decode M_216.2.2.1 49 = .ok (.iload 4, 2) := by decide +kernel
theorem d_216_51 : decode M_216.2.2.1 51 = .ok (.iload_n 2, 1) := by decide +kernel
theorem d_216_52 : decode M_216.2.2.1 52 = .ok (.ifCond .eq 13, 3) := by decide +kernel
theorem d_216_55 : decode M_216.2.2.1 55 = .ok (.aload_n 0, 1) := by decide +kernel
theorem d_216_56 : decode M_216.2.2.1 56 = .ok (.getfield 33, 3) := by decide +kernel
theorem d_216_59 : decode M_216.2.2.1 59 = .ok (.iload 5, 2) := by decide +kernel
theorem d_216_61 : decode M_216.2.2.1 61 = .ok (.iaload, 1) := by decide +kernel
theorem d_216_62 : decode M_216.2.2.1 62 = .ok (.goto 12, 3) := by decide +kernel
theorem d_216_65 : decode M_216.2.2.1 65 = .ok (.aload_n 0, 1) := by decide +kernel
theorem d_216_66 : decode M_216.2.2.1 66 = .ok (.getfield 33, 3) := by decide +kernel
theorem d_216_69 : decode M_216.2.2.1 69 = .ok (.iload 5, 2) := by decide +kernel
theorem d_216_71 : decode M_216.2.2.1 71 = .ok (.iaload, 1) := by decide +kernel
theorem d_216_72 : decode M_216.2.2.1 72 = .ok (.iconst (-1), 1) := by decide +kernel
theorem d_216_73 : decode M_216.2.2.1 73 = .ok (.ixor, 1) := by decide +kernel
theorem d_216_74 : decode M_216.2.2.1 74 = .ok (.iand, 1) := by decide +kernel
theorem d_216_75 : decode M_216.2.2.1 75 = .ok (.istore 4, 2) := by decide +kernel
theorem d_216_77 : decode M_216.2.2.1 77 = .ok (.iinc 5 1, 3) := by decide +kernel
theorem d_216_80 : decode M_216.2.2.1 80 = .ok (.goto (-40), 3) := by decide +kernel
theorem d_216_83 : decode M_216.2.2.1 83 = .ok (.iload 4, 2) := by decide +kernel
theorem d_216_85 : decode M_216.2.2.1 85 = .ok (.ireturn, 1) := by decide +kernel
/-- HeardBarrelsModel.next(I)I -/
def M_217 : am_MT := (9, ⟨"HeardBarrelsModel", "next", "(I)I"⟩, prog_10_method_58_code, 3, some .int, false, 1, (0, 0))
theorem hM_217 : am_ms[217]? = some M_217 := rfl
theorem d_217_0 : decode M_217.2.2.1 0 = .ok (.aload_n 0, 1) := by decide +kernel
theorem d_217_1 : decode M_217.2.2.1 1 = .ok (.iconst 0, 1) := by decide +kernel
theorem d_217_2 : decode M_217.2.2.1 2 = .ok (.putfield 1, 3) := by decide +kernel
theorem d_217_5 : decode M_217.2.2.1 5 = .ok (.aload_n 0, 1) := by decide +kernel
theorem d_217_6 : decode M_217.2.2.1 6 = .ok (.iload_n 1, 1) := by decide +kernel
theorem d_217_7 : decode M_217.2.2.1 7 = .ok (.invokevirtual 257, 3) := by decide +kernel
theorem d_217_10 : decode M_217.2.2.1 10 = .ok (.istore_n 2, 1) := by decide +kernel
theorem d_217_11 : decode M_217.2.2.1 11 = .ok (.iload_n 2, 1) := by decide +kernel
theorem d_217_12 : decode M_217.2.2.1 12 = .ok (.ifCond .eq 7, 3) := by decide +kernel
theorem d_217_15 : decode M_217.2.2.1 15 = .ok (.iload_n 2, 1) := by decide +kernel
theorem d_217_16 : decode M_217.2.2.1 16 = .ok (.goto 8, 3) := by decide +kernel
theorem d_217_19 : decode M_217.2.2.1 19 = .ok (.aload_n 0, 1) := by decide +kernel
theorem d_217_20 : decode M_217.2.2.1 20 = .ok (.iload_n 1, 1) := by decide +kernel
theorem d_217_21 : decode M_217.2.2.1 21 = .ok (.invokevirtual 266, 3) := by decide +kernel
theorem d_217_24 : decode M_217.2.2.1 24 = .ok (.ireturn, 1) := by decide +kernel
/-- HeardBarrelsModel.nextOf(I)I -/
def M_218 : am_MT := (9, ⟨"HeardBarrelsModel", "nextOf", "(I)I"⟩, prog_10_method_57_code, 5, some .int, false, 1, (0, 0))
theorem hM_218 : am_ms[218]? = some M_218 := rfl
theorem d_218_0 : decode M_218.2.2.1 0 = .ok (.iconst (-1), 1) := by decide +kernel
theorem d_218_1 : decode M_218.2.2.1 1 = .ok (.istore_n 2, 1) := by decide +kernel
theorem d_218_2 : decode M_218.2.2.1 2 = .ok (.aload_n 0, 1) := by decide +kernel
theorem d_218_3 : decode M_218.2.2.1 3 = .ok (.iconst 0, 1) := by decide +kernel
theorem d_218_4 : decode M_218.2.2.1 4 = .ok (.putfield 260, 3) := by decide +kernel
theorem d_218_7 : decode M_218.2.2.1 7 = .ok (.iconst 0, 1) := by decide +kernel
theorem d_218_8 : decode M_218.2.2.1 8 = .ok (.istore_n 3, 1) := by decide +kernel
theorem d_218_9 : decode M_218.2.2.1 9 = .ok (.iload_n 3, 1) := by decide +kernel
theorem d_218_10 : decode M_218.2.2.1 10 = .ok (.aload_n 0, 1) := by decide +kernel
theorem d_218_11 : decode M_218.2.2.1 11 = .ok (.getfield 13, 3) := by decide +kernel
theorem d_218_14 : decode M_218.2.2.1 14 = .ok (.iconst 0, 1) := by decide +kernel
theorem d_218_15 : decode M_218.2.2.1 15 = .ok (.iaload, 1) := by decide +kernel
theorem d_218_16 : decode M_218.2.2.1 16 = .ok (.if_icmp .ge 79, 3) := by decide +kernel
theorem d_218_19 : decode M_218.2.2.1 19 = .ok (.aload_n 0, 1) := by decide +kernel
theorem d_218_20 : decode M_218.2.2.1 20 = .ok (.getfield 251, 3) := by decide +kernel
theorem d_218_23 : decode M_218.2.2.1 23 = .ok (.iconst 1, 1) := by decide +kernel
theorem d_218_24 : decode M_218.2.2.1 24 = .ok (.if_icmp .le 71, 3) := by decide +kernel
theorem d_218_27 : decode M_218.2.2.1 27 = .ok (.aload_n 0, 1) := by decide +kernel
theorem d_218_28 : decode M_218.2.2.1 28 = .ok (.iload_n 3, 1) := by decide +kernel
theorem d_218_29 : decode M_218.2.2.1 29 = .ok (.iconst 3, 1) := by decide +kernel
theorem d_218_30 : decode M_218.2.2.1 30 = .ok (.invokevirtual 196, 3) := by decide +kernel
theorem d_218_33 : decode M_218.2.2.1 33 = .ok (.ifCond .ne 56, 3) := by decide +kernel
theorem d_218_36 : decode M_218.2.2.1 36 = .ok (.aload_n 0, 1) := by decide +kernel
theorem d_218_37 : decode M_218.2.2.1 37 = .ok (.getfield 84, 3) := by decide +kernel
theorem d_218_40 : decode M_218.2.2.1 40 = .ok (.bipush 40, 2) := by decide +kernel
theorem d_218_42 : decode M_218.2.2.1 42 = .ok (.iload_n 1, 1) := by decide +kernel
theorem d_218_43 : decode M_218.2.2.1 43 = .ok (.imul, 1) := by decide +kernel
theorem d_218_44 : decode M_218.2.2.1 44 = .ok (.iload_n 3, 1) := by decide +kernel
theorem d_218_45 : decode M_218.2.2.1 45 = .ok (.iadd, 1) := by decide +kernel
theorem d_218_46 : decode M_218.2.2.1 46 = .ok (.laload, 1) := by decide +kernel
theorem d_218_47 : decode M_218.2.2.1 47 = .ok (.ldc2_w 249, 3) := by decide +kernel
theorem d_218_50 : decode M_218.2.2.1 50 = .ok (.lcmp, 1) := by decide +kernel
theorem d_218_51 : decode M_218.2.2.1 51 = .ok (.ifCond .eq 6, 3) := by decide +kernel
theorem d_218_54 : decode M_218.2.2.1 54 = .ok (.goto 35, 3) := by decide +kernel
theorem d_218_57 : decode M_218.2.2.1 57 = .ok (.aload_n 0, 1) := by decide +kernel
theorem d_218_58 : decode M_218.2.2.1 58 = .ok (.iload_n 3, 1) := by decide +kernel
theorem d_218_59 : decode M_218.2.2.1 59 = .ok (.invokevirtual 263, 3) := by decide +kernel
theorem d_218_62 : decode M_218.2.2.1 62 = .ok (.istore 4, 2) := by decide +kernel
theorem d_218_64 : decode M_218.2.2.1 64 = .ok (.iload_n 2, 1) := by decide +kernel
theorem d_218_65 : decode M_218.2.2.1 65 = .ok (.iconst (-1), 1) := by decide +kernel
theorem d_218_66 : decode M_218.2.2.1 66 = .ok (.if_icmp .eq 15, 3) := by decide +kernel
theorem d_218_69 : decode M_218.2.2.1 69 = .ok (.iload 4, 2) := by decide +kernel
theorem d_218_71 : decode M_218.2.2.1 71 = .ok (.aload_n 0, 1) := by decide +kernel
theorem d_218_72 : decode M_218.2.2.1 72 = .ok (.getfield 260, 3) := by decide +kernel
theorem d_218_75 : decode M_218.2.2.1 75 = .ok (.if_icmp .lt 6, 3) := by decide +kernel
theorem d_218_78 : decode M_218.2.2.1 78 = .ok (.goto 11, 3) := by decide +kernel
theorem d_218_81 : decode M_218.2.2.1 81 = .ok (.iload_n 3, 1) := by decide +kernel
theorem d_218_82 : decode M_218.2.2.1 82 = .ok (.istore_n 2, 1) := by decide +kernel
theorem d_218_83 : decode M_218.2.2.1 83 = .ok (.aload_n 0, 1) := by decide +kernel
theorem d_218_84 : decode M_218.2.2.1 84 = .ok (.iload 4, 2) := by decide +kernel
theorem d_218_86 : decode M_218.2.2.1 86 = .ok (.putfield 260, 3) := by decide +kernel
theorem d_218_89 : decode M_218.2.2.1 89 = .ok (.iinc 3 1, 3) := by decide +kernel
theorem d_218_92 : decode M_218.2.2.1 92 = .ok (.goto (-83), 3) := by decide +kernel
theorem d_218_95 : decode M_218.2.2.1 95 = .ok (.iload_n 2, 1) := by decide +kernel
theorem d_218_96 : decode M_218.2.2.1 96 = .ok (.ireturn, 1) := by decide +kernel
/-- HeardBarrelsModel.worstAt(I)I -/
def M_219 : am_MT := (9, ⟨"HeardBarrelsModel", "worstAt", "(I)I"⟩, prog_10_method_56_code, 5, some .int, false, 1, (0, 0))
theorem hM_219 : am_ms[219]? = some M_219 := rfl
theorem d_219_0 : decode M_219.2.2.1 0 = .ok (.iconst 0, 1) := by decide +kernel
theorem d_219_1 : decode M_219.2.2.1 1 = .ok (.istore_n 2, 1) := by decide +kernel
theorem d_219_2 : decode M_219.2.2.1 2 = .ok (.iload_n 2, 1) := by decide +kernel
theorem d_219_3 : decode M_219.2.2.1 3 = .ok (.sipush 256, 3) := by decide +kernel
theorem d_219_6 : decode M_219.2.2.1 6 = .ok (.if_icmp .ge 16, 3) := by decide +kernel
theorem d_219_9 : decode M_219.2.2.1 9 = .ok (.aload_n 0, 1) := by decide +kernel
theorem d_219_10 : decode M_219.2.2.1 10 = .ok (.getfield 36, 3) := by decide +kernel
theorem d_219_13 : decode M_219.2.2.1 13 = .ok (.iload_n 2, 1) := by decide +kernel
theorem d_219_14 : decode M_219.2.2.1 14 = .ok (.iconst 0, 1) := by decide +kernel
theorem d_219_15 : decode M_219.2.2.1 15 = .ok (.iastore, 1) := by decide +kernel
theorem d_219_16 : decode M_219.2.2.1 16 = .ok (.iinc 2 1, 3) := by decide +kernel
theorem d_219_19 : decode M_219.2.2.1 19 = .ok (.goto (-17), 3) := by decide +kernel
theorem d_219_22 : decode M_219.2.2.1 22 = .ok (.iconst 0, 1) := by decide +kernel
theorem d_219_23 : decode M_219.2.2.1 23 = .ok (.istore_n 2, 1) := by decide +kernel
theorem d_219_24 : decode M_219.2.2.1 24 = .ok (.iconst 0, 1) := by decide +kernel
theorem d_219_25 : decode M_219.2.2.1 25 = .ok (.istore_n 3, 1) := by decide +kernel
theorem d_219_26 : decode M_219.2.2.1 26 = .ok (.iload_n 3, 1) := by decide +kernel
theorem d_219_27 : decode M_219.2.2.1 27 = .ok (.aload_n 0, 1) := by decide +kernel
theorem d_219_28 : decode M_219.2.2.1 28 = .ok (.getfield 251, 3) := by decide +kernel
theorem d_219_31 : decode M_219.2.2.1 31 = .ok (.if_icmp .ge 59, 3) := by decide +kernel
theorem d_219_34 : decode M_219.2.2.1 34 = .ok (.aload_n 0, 1) := by decide +kernel
theorem d_219_35 : decode M_219.2.2.1 35 = .ok (.iload_n 1, 1) := by decide +kernel
theorem d_219_36 : decode M_219.2.2.1 36 = .ok (.aload_n 0, 1) := by decide +kernel
theorem d_219_37 : decode M_219.2.2.1 37 = .ok (.getfield 33, 3) := by decide +kernel
theorem d_219_40 : decode M_219.2.2.1 40 = .ok (.iload_n 3, 1) := by decide +kernel
theorem d_219_41 : decode M_219.2.2.1 41 = .ok (.iaload, 1) := by decide +kernel
theorem d_219_42 : decode M_219.2.2.1 42 = .ok (.invokevirtual 246, 3) := by decide +kernel
theorem d_219_45 : decode M_219.2.2.1 45 = .ok (.bipush 100, 2) := by decide +kernel
theorem d_219_47 : decode M_219.2.2.1 47 = .ok (.iadd, 1) := by decide +kernel
theorem d_219_48 : decode M_219.2.2.1 48 = .ok (.istore 4, 2) := by decide +kernel
theorem d_219_50 : decode M_219.2.2.1 50 = .ok (.aload_n 0, 1) := by decide +kernel
theorem d_219_51 : decode M_219.2.2.1 51 = .ok (.getfield 36, 3) := by decide +kernel
theorem d_219_54 : decode M_219.2.2.1 54 = .ok (.iload 4, 2) := by decide +kernel
theorem d_219_56 : decode M_219.2.2.1 56 = .ok (.dup2, 1) := by decide +kernel
theorem d_219_57 : decode M_219.2.2.1 57 = .ok (.iaload, 1) := by decide +kernel
theorem d_219_58 : decode M_219.2.2.1 58 = .ok (.iconst 1, 1) := by decide +kernel
theorem d_219_59 : decode M_219.2.2.1 59 = .ok (.iadd, 1) := by decide +kernel
theorem d_219_60 : decode M_219.2.2.1 60 = .ok (.iastore, 1) := by decide +kernel
theorem d_219_61 : decode M_219.2.2.1 61 = .ok (.aload_n 0, 1) := by decide +kernel
theorem d_219_62 : decode M_219.2.2.1 62 = .ok (.getfield 36, 3) := by decide +kernel
theorem d_219_65 : decode M_219.2.2.1 65 = .ok (.iload 4, 2) := by decide +kernel
theorem d_219_67 : decode M_219.2.2.1 67 = .ok (.iaload, 1) := by decide +kernel
theorem d_219_68 : decode M_219.2.2.1 68 = .ok (.iload_n 2, 1) := by decide +kernel
theorem d_219_69 : decode M_219.2.2.1 69 = .ok (.if_icmp .le 13, 3) := by decide +kernel
theorem d_219_72 : decode M_219.2.2.1 72 = .ok (.aload_n 0, 1) := by decide +kernel
theorem d_219_73 : decode M_219.2.2.1 73 = .ok (.getfield 36, 3) := by decide +kernel
theorem d_219_76 : decode M_219.2.2.1 76 = .ok (.iload 4, 2) := by decide +kernel
theorem d_219_78 : decode M_219.2.2.1 78 = .ok (.iaload, 1) := by decide +kernel
theorem d_219_79 : decode M_219.2.2.1 79 = .ok (.goto 4, 3) := by decide +kernel
theorem d_219_82 : decode M_219.2.2.1 82 = .ok (.iload_n 2, 1) := by decide +kernel
theorem d_219_83 : decode M_219.2.2.1 83 = .ok (.istore_n 2, 1) := by decide +kernel
theorem d_219_84 : decode M_219.2.2.1 84 = .ok (.iinc 3 1, 3) := by decide +kernel
theorem d_219_87 : decode M_219.2.2.1 87 = .ok (.goto (-61), 3) := by decide +kernel
theorem d_219_90 : decode M_219.2.2.1 90 = .ok (.iload_n 2, 1) := by decide +kernel
theorem d_219_91 : decode M_219.2.2.1 91 = .ok (.ireturn, 1) := by decide +kernel
/-- HeardBarrelsModel.worst(I)I -/
def M_220 : am_MT := (9, ⟨"HeardBarrelsModel", "worst", "(I)I"⟩, prog_10_method_59_code, 3, some .int, false, 1, (0, 0))
theorem hM_220 : am_ms[220]? = some M_220 := rfl
theorem d_220_0 : decode M_220.2.2.1 0 = .ok (.aload_n 0, 1) := by decide +kernel
theorem d_220_1 : decode M_220.2.2.1 1 = .ok (.iconst 0, 1) := by decide +kernel
theorem d_220_2 : decode M_220.2.2.1 2 = .ok (.putfield 1, 3) := by decide +kernel
theorem d_220_5 : decode M_220.2.2.1 5 = .ok (.aload_n 0, 1) := by decide +kernel
theorem d_220_6 : decode M_220.2.2.1 6 = .ok (.iload_n 1, 1) := by decide +kernel
theorem d_220_7 : decode M_220.2.2.1 7 = .ok (.invokevirtual 257, 3) := by decide +kernel
theorem d_220_10 : decode M_220.2.2.1 10 = .ok (.istore_n 2, 1) := by decide +kernel
theorem d_220_11 : decode M_220.2.2.1 11 = .ok (.iload_n 2, 1) := by decide +kernel
theorem d_220_12 : decode M_220.2.2.1 12 = .ok (.ifCond .eq 5, 3) := by decide +kernel
theorem d_220_15 : decode M_220.2.2.1 15 = .ok (.iload_n 2, 1) := by decide +kernel
theorem d_220_16 : decode M_220.2.2.1 16 = .ok (.ireturn, 1) := by decide +kernel
theorem d_220_17 : decode M_220.2.2.1 17 = .ok (.aload_n 0, 1) := by decide +kernel
theorem d_220_18 : decode M_220.2.2.1 18 = .ok (.iload_n 1, 1) := by decide +kernel
theorem d_220_19 : decode M_220.2.2.1 19 = .ok (.invokevirtual 266, 3) := by decide +kernel
theorem d_220_22 : decode M_220.2.2.1 22 = .ok (.iconst (-1), 1) := by decide +kernel
theorem d_220_23 : decode M_220.2.2.1 23 = .ok (.if_icmp .ne 7, 3) := by decide +kernel
theorem d_220_26 : decode M_220.2.2.1 26 = .ok (.iconst (-1), 1) := by decide +kernel
theorem d_220_27 : decode M_220.2.2.1 27 = .ok (.goto 7, 3) := by decide +kernel
theorem d_220_30 : decode M_220.2.2.1 30 = .ok (.aload_n 0, 1) := by decide +kernel
theorem d_220_31 : decode M_220.2.2.1 31 = .ok (.getfield 260, 3) := by decide +kernel
theorem d_220_34 : decode M_220.2.2.1 34 = .ok (.ireturn, 1) := by decide +kernel
/-- HeardBarrelsModel.ways(II)I -/
def M_221 : am_MT := (9, ⟨"HeardBarrelsModel", "ways", "(II)I"⟩, prog_10_method_61_code, 6, some .int, false, 2, (0, 0))
theorem hM_221 : am_ms[221]? = some M_221 := rfl
theorem d_221_0 : decode M_221.2.2.1 0 = .ok (.aload_n 0, 1) := by decide +kernel
theorem d_221_1 : decode M_221.2.2.1 1 = .ok (.iconst 0, 1) := by decide +kernel
theorem d_221_2 : decode M_221.2.2.1 2 = .ok (.putfield 1, 3) := by decide +kernel
theorem d_221_5 : decode M_221.2.2.1 5 = .ok (.aload_n 0, 1) := by decide +kernel
theorem d_221_6 : decode M_221.2.2.1 6 = .ok (.iload_n 1, 1) := by decide +kernel
theorem d_221_7 : decode M_221.2.2.1 7 = .ok (.invokevirtual 239, 3) := by decide +kernel
theorem d_221_10 : decode M_221.2.2.1 10 = .ok (.ifCond .ne 6, 3) := by decide +kernel
theorem d_221_13 : decode M_221.2.2.1 13 = .ok (.bipush (-2), 2) := by decide +kernel
theorem d_221_15 : decode M_221.2.2.1 15 = .ok (.ireturn, 1) := by decide +kernel
theorem d_221_16 : decode M_221.2.2.1 16 = .ok (.aload_n 0, 1) := by decide +kernel
theorem d_221_17 : decode M_221.2.2.1 17 = .ok (.invokevirtual 269, 3) := by decide +kernel
theorem d_221_20 : decode M_221.2.2.1 20 = .ok (.istore_n 3, 1) := by decide +kernel
theorem d_221_21 : decode M_221.2.2.1 21 = .ok (.iconst 0, 1) := by decide +kernel
theorem d_221_22 : decode M_221.2.2.1 22 = .ok (.istore 4, 2) := by decide +kernel
theorem d_221_24 : decode M_221.2.2.1 24 = .ok (.iconst 0, 1) := by decide +kernel
theorem d_221_25 : decode M_221.2.2.1 25 = .ok (.istore 5, 2) := by decide +kernel
theorem d_221_27 : decode M_221.2.2.1 27 = .ok (.iload 5, 2) := by decide +kernel
theorem d_221_29 : decode M_221.2.2.1 29 = .ok (.iload_n 3, 1) := by decide +kernel
theorem d_221_30 : decode M_221.2.2.1 30 = .ok (.if_icmp .gt 39, 3) := by decide +kernel
theorem d_221_33 : decode M_221.2.2.1 33 = .ok (.iload 4, 2) := by decide +kernel
theorem d_221_35 : decode M_221.2.2.1 35 = .ok (.iload 5, 2) := by decide +kernel
theorem d_221_37 : decode M_221.2.2.1 37 = .ok (.iload_n 3, 1) := by decide +kernel
theorem d_221_38 : decode M_221.2.2.1 38 = .ok (.iconst (-1), 1) := by decide +kernel
theorem d_221_39 : decode M_221.2.2.1 39 = .ok (.ixor, 1) := by decide +kernel
theorem d_221_40 : decode M_221.2.2.1 40 = .ok (.iand, 1) := by decide +kernel
theorem d_221_41 : decode M_221.2.2.1 41 = .ok (.ifCond .ne 18, 3) := by decide +kernel
theorem d_221_44 : decode M_221.2.2.1 44 = .ok (.aload_n 0, 1) := by decide +kernel
theorem d_221_45 : decode M_221.2.2.1 45 = .ok (.iload_n 1, 1) := by decide +kernel
theorem d_221_46 : decode M_221.2.2.1 46 = .ok (.iload 5, 2) := by decide +kernel
theorem d_221_48 : decode M_221.2.2.1 48 = .ok (.invokevirtual 246, 3) := by decide +kernel
theorem d_221_51 : decode M_221.2.2.1 51 = .ok (.iload_n 2, 1) := by decide +kernel
theorem d_221_52 : decode M_221.2.2.1 52 = .ok (.if_icmp .ne 7, 3) := by decide +kernel
theorem d_221_55 : decode M_221.2.2.1 55 = .ok (.iconst 1, 1) := by decide +kernel
theorem d_221_56 : decode M_221.2.2.1 56 = .ok (.goto 4, 3) := by decide +kernel
theorem d_221_59 : decode M_221.2.2.1 59 = .ok (.iconst 0, 1) := by decide +kernel
theorem d_221_60 : decode M_221.2.2.1 60 = .ok (.iadd, 1) := by decide +kernel
theorem d_221_61 : decode M_221.2.2.1 61 = .ok (.istore 4, 2) := by decide +kernel
theorem d_221_63 : decode M_221.2.2.1 63 = .ok (.iinc 5 1, 3) := by decide +kernel
theorem d_221_66 : decode M_221.2.2.1 66 = .ok (.goto (-39), 3) := by decide +kernel
theorem d_221_69 : decode M_221.2.2.1 69 = .ok (.iload 4, 2) := by decide +kernel
theorem d_221_71 : decode M_221.2.2.1 71 = .ok (.ireturn, 1) := by decide +kernel
/-- HeardBarrelsModel.doubtful()I -/
def M_222 : am_MT := (9, ⟨"HeardBarrelsModel", "doubtful", "()I"⟩, prog_10_method_60_code, 1, some .int, false, 0, (0, 0))
theorem hM_222 : am_ms[222]? = some M_222 := rfl
theorem d_222_0 : decode M_222.2.2.1 0 = .ok (.aload_n 0, 1) := by decide +kernel
theorem d_222_1 : decode M_222.2.2.1 1 = .ok (.iconst 0, 1) := by decide +kernel
theorem d_222_2 : decode M_222.2.2.1 2 = .ok (.invokevirtual 187, 3) := by decide +kernel
theorem d_222_5 : decode M_222.2.2.1 5 = .ok (.aload_n 0, 1) := by decide +kernel
theorem d_222_6 : decode M_222.2.2.1 6 = .ok (.iconst 1, 1) := by decide +kernel
theorem d_222_7 : decode M_222.2.2.1 7 = .ok (.invokevirtual 187, 3) := by decide +kernel
theorem d_222_10 : decode M_222.2.2.1 10 = .ok (.ior, 1) := by decide +kernel
theorem d_222_11 : decode M_222.2.2.1 11 = .ok (.ireturn, 1) := by decide +kernel
/-- HeardBarrelsModel.alike(I)I -/
def M_223 : am_MT := (9, ⟨"HeardBarrelsModel", "alike", "(I)I"⟩, prog_10_method_63_code, 5, some .int, false, 1, (0, 0))
theorem hM_223 : am_ms[223]? = some M_223 := rfl
theorem d_223_0 : decode M_223.2.2.1 0 = .ok (.aload_n 0, 1) := by decide +kernel
theorem d_223_1 : decode M_223.2.2.1 1 = .ok (.iconst 0, 1) := by decide +kernel
theorem d_223_2 : decode M_223.2.2.1 2 = .ok (.putfield 1, 3) := by decide +kernel
theorem d_223_5 : decode M_223.2.2.1 5 = .ok (.aload_n 0, 1) := by decide +kernel
theorem d_223_6 : decode M_223.2.2.1 6 = .ok (.invokevirtual 269, 3) := by decide +kernel
theorem d_223_9 : decode M_223.2.2.1 9 = .ok (.istore_n 2, 1) := by decide +kernel
theorem d_223_10 : decode M_223.2.2.1 10 = .ok (.iload_n 1, 1) := by decide +kernel
theorem d_223_11 : decode M_223.2.2.1 11 = .ok (.iload_n 2, 1) := by decide +kernel
theorem d_223_12 : decode M_223.2.2.1 12 = .ok (.iconst (-1), 1) := by decide +kernel
theorem d_223_13 : decode M_223.2.2.1 13 = .ok (.ixor, 1) := by decide +kernel
theorem d_223_14 : decode M_223.2.2.1 14 = .ok (.iand, 1) := by decide +kernel
theorem d_223_15 : decode M_223.2.2.1 15 = .ok (.ifCond .eq 6, 3) := by decide +kernel
theorem d_223_18 : decode M_223.2.2.1 18 = .ok (.bipush (-3), 2) := by decide +kernel
theorem d_223_20 : decode M_223.2.2.1 20 = .ok (.ireturn, 1) := by decide +kernel
theorem d_223_21 : decode M_223.2.2.1 21 = .ok (.iconst 0, 1) := by decide +kernel
theorem d_223_22 : decode M_223.2.2.1 22 = .ok (.istore_n 3, 1) := by decide +kernel
theorem d_223_23 : decode M_223.2.2.1 23 = .ok (.iconst 0, 1) := by decide +kernel
theorem d_223_24 : decode M_223.2.2.1 24 = .ok (.istore 4, 2) := by decide +kernel
theorem d_223_26 : decode M_223.2.2.1 26 = .ok (.iload 4, 2) := by decide +kernel
theorem d_223_28 : decode M_223.2.2.1 28 = .ok (.iload_n 2, 1) := by decide +kernel
theorem d_223_29 : decode M_223.2.2.1 29 = .ok (.if_icmp .gt 36, 3) := by decide +kernel
theorem d_223_32 : decode M_223.2.2.1 32 = .ok (.iload_n 3, 1) := by decide +kernel
theorem d_223_33 : decode M_223.2.2.1 33 = .ok (.iload 4, 2) := by decide +kernel
theorem d_223_35 : decode M_223.2.2.1 35 = .ok (.iload_n 2, 1) := by decide +kernel
theorem d_223_36 : decode M_223.2.2.1 36 = .ok (.iconst (-1), 1) := by decide +kernel
theorem d_223_37 : decode M_223.2.2.1 37 = .ok (.ixor, 1) := by decide +kernel
theorem d_223_38 : decode M_223.2.2.1 38 = .ok (.iand, 1) := by decide +kernel
theorem d_223_39 : decode M_223.2.2.1 39 = .ok (.ifCond .ne 17, 3) := by decide +kernel
theorem d_223_42 : decode M_223.2.2.1 42 = .ok (.aload_n 0, 1) := by decide +kernel
theorem d_223_43 : decode M_223.2.2.1 43 = .ok (.iload_n 1, 1) := by decide +kernel
theorem d_223_44 : decode M_223.2.2.1 44 = .ok (.iload 4, 2) := by decide +kernel
theorem d_223_46 : decode M_223.2.2.1 46 = .ok (.invokevirtual 272, 3) := by decide +kernel
theorem d_223_49 : decode M_223.2.2.1 49 = .ok (.ifCond .ne 7, 3) := by decide +kernel
theorem d_223_52 : decode M_223.2.2.1 52 = .ok (.iconst 1, 1) := by decide +kernel
theorem d_223_53 : decode M_223.2.2.1 53 = .ok (.goto 4, 3) := by decide +kernel
theorem d_223_56 : decode M_223.2.2.1 56 = .ok (.iconst 0, 1) := by decide +kernel
theorem d_223_57 : decode M_223.2.2.1 57 = .ok (.iadd, 1) := by decide +kernel
theorem d_223_58 : decode M_223.2.2.1 58 = .ok (.istore_n 3, 1) := by decide +kernel
theorem d_223_59 : decode M_223.2.2.1 59 = .ok (.iinc 4 1, 3) := by decide +kernel
theorem d_223_62 : decode M_223.2.2.1 62 = .ok (.goto (-36), 3) := by decide +kernel
theorem d_223_65 : decode M_223.2.2.1 65 = .ok (.iload_n 3, 1) := by decide +kernel
theorem d_223_66 : decode M_223.2.2.1 66 = .ok (.ireturn, 1) := by decide +kernel
/-- HeardBarrelsModel.unlike(II)I -/
def M_224 : am_MT := (9, ⟨"HeardBarrelsModel", "unlike", "(II)I"⟩, prog_10_method_62_code, 5, some .int, false, 2, (0, 0))
theorem hM_224 : am_ms[224]? = some M_224 := rfl
theorem d_224_0 : decode M_224.2.2.1 0 = .ok (.iconst 0, 1) := by decide +kernel
theorem d_224_1 : decode M_224.2.2.1 1 = .ok (.istore_n 3, 1) := by decide +kernel
theorem d_224_2 : decode M_224.2.2.1 2 = .ok (.iconst 0, 1) := by decide +kernel
theorem d_224_3 : decode M_224.2.2.1 3 = .ok (.istore 4, 2) := by decide +kernel
theorem d_224_5 : decode M_224.2.2.1 5 = .ok (.iload 4, 2) := by decide +kernel
theorem d_224_7 : decode M_224.2.2.1 7 = .ok (.aload_n 0, 1) := by decide +kernel
theorem d_224_8 : decode M_224.2.2.1 8 = .ok (.getfield 13, 3) := by decide +kernel
theorem d_224_11 : decode M_224.2.2.1 11 = .ok (.iconst 0, 1) := by decide +kernel
theorem d_224_12 : decode M_224.2.2.1 12 = .ok (.iaload, 1) := by decide +kernel
theorem d_224_13 : decode M_224.2.2.1 13 = .ok (.if_icmp .ge 47, 3) := by decide +kernel
theorem d_224_16 : decode M_224.2.2.1 16 = .ok (.iload_n 3, 1) := by decide +kernel
theorem d_224_17 : decode M_224.2.2.1 17 = .ok (.aload_n 0, 1) := by decide +kernel
theorem d_224_18 : decode M_224.2.2.1 18 = .ok (.iload 4, 2) := by decide +kernel
theorem d_224_20 : decode M_224.2.2.1 20 = .ok (.iconst 3, 1) := by decide +kernel
theorem d_224_21 : decode M_224.2.2.1 21 = .ok (.invokevirtual 196, 3) := by decide +kernel
theorem d_224_24 : decode M_224.2.2.1 24 = .ok (.ifCond .ne 27, 3) := by decide +kernel
theorem d_224_27 : decode M_224.2.2.1 27 = .ok (.aload_n 0, 1) := by decide +kernel
theorem d_224_28 : decode M_224.2.2.1 28 = .ok (.iload 4, 2) := by decide +kernel
theorem d_224_30 : decode M_224.2.2.1 30 = .ok (.iload_n 1, 1) := by decide +kernel
theorem d_224_31 : decode M_224.2.2.1 31 = .ok (.invokevirtual 246, 3) := by decide +kernel
theorem d_224_34 : decode M_224.2.2.1 34 = .ok (.aload_n 0, 1) := by decide +kernel
theorem d_224_35 : decode M_224.2.2.1 35 = .ok (.iload 4, 2) := by decide +kernel
theorem d_224_37 : decode M_224.2.2.1 37 = .ok (.iload_n 2, 1) := by decide +kernel
theorem d_224_38 : decode M_224.2.2.1 38 = .ok (.invokevirtual 246, 3) := by decide +kernel
theorem d_224_41 : decode M_224.2.2.1 41 = .ok (.if_icmp .eq 10, 3) := by decide +kernel
theorem d_224_44 : decode M_224.2.2.1 44 = .ok (.iconst 1, 1) := by decide +kernel
theorem d_224_45 : decode M_224.2.2.1 45 = .ok (.iload 4, 2) := by decide +kernel
theorem d_224_47 : decode M_224.2.2.1 47 = .ok (.ishl, 1) := by decide +kernel
theorem d_224_48 : decode M_224.2.2.1 48 = .ok (.goto 4, 3) := by decide +kernel
theorem d_224_51 : decode M_224.2.2.1 51 = .ok (.iconst 0, 1) := by decide +kernel
theorem d_224_52 : decode M_224.2.2.1 52 = .ok (.ior, 1) := by decide +kernel
theorem d_224_53 : decode M_224.2.2.1 53 = .ok (.istore_n 3, 1) := by decide +kernel
theorem d_224_54 : decode M_224.2.2.1 54 = .ok (.iinc 4 1, 3) := by decide +kernel
theorem d_224_57 : decode M_224.2.2.1 57 = .ok (.goto (-52), 3) := by decide +kernel
theorem d_224_60 : decode M_224.2.2.1 60 = .ok (.iload_n 3, 1) := by decide +kernel
theorem d_224_61 : decode M_224.2.2.1 61 = .ok (.ireturn, 1) := by decide +kernel
/-- HeardBarrelsModel.enough()I -/
def M_225 : am_MT := (9, ⟨"HeardBarrelsModel", "enough", "()I"⟩, prog_10_method_65_code, 5, some .int, false, 0, (0, 0))
theorem hM_225 : am_ms[225]? = some M_225 := rfl
theorem d_225_0 : decode M_225.2.2.1 0 = .ok (.aload_n 0, 1) := by decide +kernel
theorem d_225_1 : decode M_225.2.2.1 1 = .ok (.iconst 0, 1) := by decide +kernel
theorem d_225_2 : decode M_225.2.2.1 2 = .ok (.putfield 1, 3) := by decide +kernel
theorem d_225_5 : decode M_225.2.2.1 5 = .ok (.aload_n 0, 1) := by decide +kernel
theorem d_225_6 : decode M_225.2.2.1 6 = .ok (.invokevirtual 269, 3) := by decide +kernel
theorem d_225_9 : decode M_225.2.2.1 9 = .ok (.istore_n 1, 1) := by decide +kernel
theorem d_225_10 : decode M_225.2.2.1 10 = .ok (.iload_n 1, 1) := by decide +kernel
theorem d_225_11 : decode M_225.2.2.1 11 = .ok (.i2l, 1) := by decide +kernel
theorem d_225_12 : decode M_225.2.2.1 12 = .ok (.invokestatic 209, 3) := by decide +kernel
theorem d_225_15 : decode M_225.2.2.1 15 = .ok (.bipush 8, 2) := by decide +kernel
theorem d_225_17 : decode M_225.2.2.1 17 = .ok (.if_icmp .le 6, 3) := by decide +kernel
theorem d_225_20 : decode M_225.2.2.1 20 = .ok (.bipush (-4), 2) := by decide +kernel
theorem d_225_22 : decode M_225.2.2.1 22 = .ok (.ireturn, 1) := by decide +kernel
theorem d_225_23 : decode M_225.2.2.1 23 = .ok (.iconst 0, 1) := by decide +kernel
theorem d_225_24 : decode M_225.2.2.1 24 = .ok (.istore_n 2, 1) := by decide +kernel
theorem d_225_25 : decode M_225.2.2.1 25 = .ok (.iload_n 2, 1) := by decide +kernel
theorem d_225_26 : decode M_225.2.2.1 26 = .ok (.sipush 4096, 3) := by decide +kernel
theorem d_225_29 : decode M_225.2.2.1 29 = .ok (.if_icmp .ge 16, 3) := by decide +kernel
theorem d_225_32 : decode M_225.2.2.1 32 = .ok (.aload_n 0, 1) := by decide +kernel
theorem d_225_33 : decode M_225.2.2.1 33 = .ok (.getfield 39, 3) := by decide +kernel
theorem d_225_36 : decode M_225.2.2.1 36 = .ok (.iload_n 2, 1) := by decide +kernel
theorem d_225_37 : decode M_225.2.2.1 37 = .ok (.iconst 0, 1) := by decide +kernel
theorem d_225_38 : decode M_225.2.2.1 38 = .ok (.bastore, 1) := by decide +kernel
theorem d_225_39 : decode M_225.2.2.1 39 = .ok (.iinc 2 1, 3) := by decide +kernel
theorem d_225_42 : decode M_225.2.2.1 42 = .ok (.goto (-17), 3) := by decide +kernel
theorem d_225_45 : decode M_225.2.2.1 45 = .ok (.iconst 0, 1) := by decide +kernel
theorem d_225_46 : decode M_225.2.2.1 46 = .ok (.istore_n 2, 1) := by decide +kernel
theorem d_225_47 : decode M_225.2.2.1 47 = .ok (.iload_n 2, 1) := by decide +kernel
theorem d_225_48 : decode M_225.2.2.1 48 = .ok (.iload_n 1, 1) := by decide +kernel
theorem d_225_49 : decode M_225.2.2.1 49 = .ok (.if_icmp .gt 50, 3) := by decide +kernel
theorem d_225_52 : decode M_225.2.2.1 52 = .ok (.iconst 0, 1) := by decide +kernel
theorem d_225_53 : decode M_225.2.2.1 53 = .ok (.istore_n 3, 1) := by decide +kernel
theorem d_225_54 : decode M_225.2.2.1 54 = .ok (.iload_n 3, 1) := by decide +kernel
theorem d_225_55 : decode M_225.2.2.1 55 = .ok (.iload_n 2, 1) := by decide +kernel
theorem d_225_56 : decode M_225.2.2.1 56 = .ok (.if_icmp .ge 37, 3) := by decide +kernel
theorem d_225_59 : decode M_225.2.2.1 59 = .ok (.iload_n 2, 1) := by decide +kernel
theorem d_225_60 : decode M_225.2.2.1 60 = .ok (.iload_n 1, 1) := by decide +kernel
theorem d_225_61 : decode M_225.2.2.1 61 = .ok (.iconst (-1), 1) := by decide +kernel
theorem d_225_62 : decode M_225.2.2.1 62 = .ok (.ixor, 1) := by decide +kernel
theorem d_225_63 : decode M_225.2.2.1 63 = .ok (.iand, 1) := by decide +kernel
theorem d_225_64 : decode M_225.2.2.1 64 = .ok (.ifCond .ne 23, 3) := by decide +kernel
theorem d_225_67 : decode M_225.2.2.1 67 = .ok (.iload_n 3, 1) := by decide +kernel
theorem d_225_68 : decode M_225.2.2.1 68 = .ok (.iload_n 1, 1) := by decide +kernel
theorem d_225_69 : decode M_225.2.2.1 69 = .ok (.iconst (-1), 1) := by decide +kernel
theorem d_225_70 : decode M_225.2.2.1 70 = .ok (.ixor, 1) := by decide +kernel
theorem d_225_71 : decode M_225.2.2.1 71 = .ok (.iand, 1) := by decide +kernel
theorem d_225_72 : decode M_225.2.2.1 72 = .ok (.ifCond .ne 15, 3) := by decide +kernel
theorem d_225_75 : decode M_225.2.2.1 75 = .ok (.aload_n 0, 1) := by decide +kernel
theorem d_225_76 : decode M_225.2.2.1 76 = .ok (.getfield 39, 3) := by decide +kernel
theorem d_225_79 : decode M_225.2.2.1 79 = .ok (.aload_n 0, 1) := by decide +kernel
theorem d_225_80 : decode M_225.2.2.1 80 = .ok (.iload_n 2, 1) := by decide +kernel
theorem d_225_81 : decode M_225.2.2.1 81 = .ok (.iload_n 3, 1) := by decide +kernel
theorem d_225_82 : decode M_225.2.2.1 82 = .ok (.invokevirtual 272, 3) := by decide +kernel
theorem d_225_85 : decode M_225.2.2.1 85 = .ok (.iconst 1, 1) := by decide +kernel
theorem d_225_86 : decode M_225.2.2.1 86 = .ok (.bastore, 1) := by decide +kernel
theorem d_225_87 : decode M_225.2.2.1 87 = .ok (.iinc 3 1, 3) := by decide +kernel
theorem d_225_90 : decode M_225.2.2.1 90 = .ok (.goto (-36), 3) := by decide +kernel
theorem d_225_93 : decode M_225.2.2.1 93 = .ok (.iinc 2 1, 3) := by decide +kernel
theorem d_225_96 : decode M_225.2.2.1 96 = .ok (.goto (-49), 3) := by decide +kernel
theorem d_225_99 : decode M_225.2.2.1 99 = .ok (.iconst (-1), 1) := by decide +kernel
theorem d_225_100 : decode M_225.2.2.1 100 = .ok (.istore_n 2, 1) := by decide +kernel
theorem d_225_101 : decode M_225.2.2.1 101 = .ok (.aload_n 0, 1) := by decide +kernel
theorem d_225_102 : decode M_225.2.2.1 102 = .ok (.invokevirtual 204, 3) := by decide +kernel
theorem d_225_105 : decode M_225.2.2.1 105 = .ok (.istore_n 3, 1) := by decide +kernel
theorem d_225_106 : decode M_225.2.2.1 106 = .ok (.iconst 0, 1) := by decide +kernel
theorem d_225_107 : decode M_225.2.2.1 107 = .ok (.istore 4, 2) := by decide +kernel
theorem d_225_109 : decode M_225.2.2.1 109 = .ok (.iload 4, 2) := by decide +kernel
theorem d_225_111 : decode M_225.2.2.1 111 = .ok (.iload_n 3, 1) := by decide +kernel
theorem d_225_112 : decode M_225.2.2.1 112 = .ok (.if_icmp .gt 49, 3) := by decide +kernel
theorem d_225_115 : decode M_225.2.2.1 115 = .ok (.iload 4, 2) := by decide +kernel
theorem d_225_117 : decode M_225.2.2.1 117 = .ok (.iload_n 3, 1) := by decide +kernel
theorem d_225_118 : decode M_225.2.2.1 118 = .ok (.iconst (-1), 1) := by decide +kernel
theorem d_225_119 : decode M_225.2.2.1 119 = .ok (.ixor, 1) := by decide +kernel
theorem d_225_120 : decode M_225.2.2.1 120 = .ok (.iand, 1) := by decide +kernel
theorem d_225_121 : decode M_225.2.2.1 121 = .ok (.ifCond .ne 34, 3) := by decide +kernel
theorem d_225_124 : decode M_225.2.2.1 124 = .ok (.iload_n 2, 1) := by decide +kernel
theorem d_225_125 : decode M_225.2.2.1 125 = .ok (.iconst (-1), 1) := by decide +kernel
theorem d_225_126 : decode M_225.2.2.1 126 = .ok (.if_icmp .eq 17, 3) := by decide +kernel
theorem d_225_129 : decode M_225.2.2.1 129 = .ok (.iload 4, 2) := by decide +kernel
theorem d_225_131 : decode M_225.2.2.1 131 = .ok (.i2l, 1) := by decide +kernel
theorem d_225_132 : decode M_225.2.2.1 132 = .ok (.invokestatic 209, 3) := by decide +kernel
theorem d_225_135 : decode M_225.2.2.1 135 = .ok (.iload_n 2, 1) := by decide +kernel
theorem d_225_136 : decode M_225.2.2.1 136 = .ok (.i2l, 1) := by decide +kernel
theorem d_225_137 : decode M_225.2.2.1 137 = .ok (.invokestatic 209, 3) := by decide +kernel
theorem d_225_140 : decode M_225.2.2.1 140 = .ok (.if_icmp .ge 15, 3) := by decide +kernel
theorem d_225_143 : decode M_225.2.2.1 143 = .ok (.aload_n 0, 1) := by decide +kernel
theorem d_225_144 : decode M_225.2.2.1 144 = .ok (.iload 4, 2) := by decide +kernel
theorem d_225_146 : decode M_225.2.2.1 146 = .ok (.invokevirtual 275, 3) := by decide +kernel
theorem d_225_149 : decode M_225.2.2.1 149 = .ok (.ifCond .eq 6, 3) := by decide +kernel
theorem d_225_152 : decode M_225.2.2.1 152 = .ok (.iload 4, 2) := by decide +kernel
theorem d_225_154 : decode M_225.2.2.1 154 = .ok (.istore_n 2, 1) := by decide +kernel
theorem d_225_155 : decode M_225.2.2.1 155 = .ok (.iinc 4 1, 3) := by decide +kernel
theorem d_225_158 : decode M_225.2.2.1 158 = .ok (.goto (-49), 3) := by decide +kernel
theorem d_225_161 : decode M_225.2.2.1 161 = .ok (.iload_n 2, 1) := by decide +kernel
theorem d_225_162 : decode M_225.2.2.1 162 = .ok (.ireturn, 1) := by decide +kernel
/-- HeardBarrelsModel.tells(I)Z -/
def M_226 : am_MT := (9, ⟨"HeardBarrelsModel", "tells", "(I)Z"⟩, prog_10_method_64_code, 3, some .boolean, false, 1, (0, 0))
theorem hM_226 : am_ms[226]? = some M_226 := rfl
theorem d_226_0 : decode M_226.2.2.1 0 = .ok (.iconst 0, 1) := by decide +kernel
theorem d_226_1 : decode M_226.2.2.1 1 = .ok (.istore_n 2, 1) := by decide +kernel
theorem d_226_2 : decode M_226.2.2.1 2 = .ok (.iload_n 2, 1) := by decide +kernel
theorem d_226_3 : decode M_226.2.2.1 3 = .ok (.sipush 4096, 3) := by decide +kernel
theorem d_226_6 : decode M_226.2.2.1 6 = .ok (.if_icmp .ge 26, 3) := by decide +kernel
theorem d_226_9 : decode M_226.2.2.1 9 = .ok (.aload_n 0, 1) := by decide +kernel
theorem d_226_10 : decode M_226.2.2.1 10 = .ok (.getfield 39, 3) := by decide +kernel
theorem d_226_13 : decode M_226.2.2.1 13 = .ok (.iload_n 2, 1) := by decide +kernel
theorem d_226_14 : decode M_226.2.2.1 14 = .ok (.baload, 1) := by decide +kernel
theorem d_226_15 : decode M_226.2.2.1 15 = .ok (.ifCond .eq 11, 3) := by decide +kernel
theorem d_226_18 : decode M_226.2.2.1 18 = .ok (.iload_n 2, 1) := by decide +kernel
theorem d_226_19 : decode M_226.2.2.1 19 = .ok (.iload_n 1, 1) := by decide +kernel
theorem d_226_20 : decode M_226.2.2.1 20 = .ok (.iand, 1) := by decide +kernel
theorem d_226_21 : decode M_226.2.2.1 21 = .ok (.ifCond .ne 5, 3) := by decide +kernel
theorem d_226_24 : decode M_226.2.2.1 24 = .ok (.iconst 0, 1) := by decide +kernel
theorem d_226_25 : decode M_226.2.2.1 25 = .ok (.ireturn, 1) := by decide +kernel
theorem d_226_26 : decode M_226.2.2.1 26 = .ok (.iinc 2 1, 3) := by decide +kernel
theorem d_226_29 : decode M_226.2.2.1 29 = .ok (.goto (-27), 3) := by decide +kernel
theorem d_226_32 : decode M_226.2.2.1 32 = .ok (.iconst 1, 1) := by decide +kernel
theorem d_226_33 : decode M_226.2.2.1 33 = .ok (.ireturn, 1) := by decide +kernel
/-- HeardBarrelsModel.needed(I)I -/
def M_227 : am_MT := (9, ⟨"HeardBarrelsModel", "needed", "(I)I"⟩, prog_10_method_67_code, 6, some .int, false, 1, (0, 0))
theorem hM_227 : am_ms[227]? = some M_227 := rfl
theorem d_227_0 : decode M_227.2.2.1 0 = .ok (.aload_n 0, 1) := by decide +kernel
theorem d_227_1 : decode M_227.2.2.1 1 = .ok (.iconst 0, 1) := by decide +kernel
theorem d_227_2 : decode M_227.2.2.1 2 = .ok (.putfield 1, 3) := by decide +kernel
theorem d_227_5 : decode M_227.2.2.1 5 = .ok (.aload_n 0, 1) := by decide +kernel
theorem d_227_6 : decode M_227.2.2.1 6 = .ok (.iload_n 1, 1) := by decide +kernel
theorem d_227_7 : decode M_227.2.2.1 7 = .ok (.invokevirtual 257, 3) := by decide +kernel
theorem d_227_10 : decode M_227.2.2.1 10 = .ok (.istore_n 2, 1) := by decide +kernel
theorem d_227_11 : decode M_227.2.2.1 11 = .ok (.iload_n 2, 1) := by decide +kernel
theorem d_227_12 : decode M_227.2.2.1 12 = .ok (.ifCond .eq 5, 3) := by decide +kernel
theorem d_227_15 : decode M_227.2.2.1 15 = .ok (.iload_n 2, 1) := by decide +kernel
theorem d_227_16 : decode M_227.2.2.1 16 = .ok (.ireturn, 1) := by decide +kernel
theorem d_227_17 : decode M_227.2.2.1 17 = .ok (.aload_n 0, 1) := by decide +kernel
theorem d_227_18 : decode M_227.2.2.1 18 = .ok (.getfield 251, 3) := by decide +kernel
theorem d_227_21 : decode M_227.2.2.1 21 = .ok (.ifCond .ne 5, 3) := by decide +kernel
theorem d_227_24 : decode M_227.2.2.1 24 = .ok (.iconst (-1), 1) := by decide +kernel
theorem d_227_25 : decode M_227.2.2.1 25 = .ok (.ireturn, 1) := by decide +kernel
theorem d_227_26 : decode M_227.2.2.1 26 = .ok (.aload_n 0, 1) := by decide +kernel
theorem d_227_27 : decode M_227.2.2.1 27 = .ok (.getfield 251, 3) := by decide +kernel
theorem d_227_30 : decode M_227.2.2.1 30 = .ok (.bipush 10, 2) := by decide +kernel
theorem d_227_32 : decode M_227.2.2.1 32 = .ok (.if_icmp .le 6, 3) := by decide +kernel
theorem d_227_35 : decode M_227.2.2.1 35 = .ok (.bipush (-4), 2) := by decide +kernel
theorem d_227_37 : decode M_227.2.2.1 37 = .ok (.ireturn, 1) := by decide +kernel
theorem d_227_38 : decode M_227.2.2.1 38 = .ok (.iconst 1, 1) := by decide +kernel
theorem d_227_39 : decode M_227.2.2.1 39 = .ok (.istore_n 3, 1) := by decide +kernel
theorem d_227_40 : decode M_227.2.2.1 40 = .ok (.iload_n 3, 1) := by decide +kernel
theorem d_227_41 : decode M_227.2.2.1 41 = .ok (.iconst 1, 1) := by decide +kernel
theorem d_227_42 : decode M_227.2.2.1 42 = .ok (.aload_n 0, 1) := by decide +kernel
theorem d_227_43 : decode M_227.2.2.1 43 = .ok (.getfield 251, 3) := by decide +kernel
theorem d_227_46 : decode M_227.2.2.1 46 = .ok (.ishl, 1) := by decide +kernel
theorem d_227_47 : decode M_227.2.2.1 47 = .ok (.if_icmp .ge 109, 3) := by decide +kernel
theorem d_227_50 : decode M_227.2.2.1 50 = .ok (.aload_n 0, 1) := by decide +kernel
theorem d_227_51 : decode M_227.2.2.1 51 = .ok (.getfield 42, 3) := by decide +kernel
theorem d_227_54 : decode M_227.2.2.1 54 = .ok (.iload_n 3, 1) := by decide +kernel
theorem d_227_55 : decode M_227.2.2.1 55 = .ok (.iload_n 3, 1) := by decide +kernel
theorem d_227_56 : decode M_227.2.2.1 56 = .ok (.i2l, 1) := by decide +kernel
theorem d_227_57 : decode M_227.2.2.1 57 = .ok (.invokestatic 209, 3) := by decide +kernel
theorem d_227_60 : decode M_227.2.2.1 60 = .ok (.iconst 1, 1) := by decide +kernel
theorem d_227_61 : decode M_227.2.2.1 61 = .ok (.if_icmp .ne 7, 3) := by decide +kernel
theorem d_227_64 : decode M_227.2.2.1 64 = .ok (.iconst 0, 1) := by decide +kernel
theorem d_227_65 : decode M_227.2.2.1 65 = .ok (.goto 5, 3) := by decide +kernel
theorem d_227_68 : decode M_227.2.2.1 68 = .ok (.bipush 99, 2) := by decide +kernel
theorem d_227_70 : decode M_227.2.2.1 70 = .ok (.iastore, 1) := by decide +kernel
theorem d_227_71 : decode M_227.2.2.1 71 = .ok (.iconst 0, 1) := by decide +kernel
theorem d_227_72 : decode M_227.2.2.1 72 = .ok (.istore 4, 2) := by decide +kernel
theorem d_227_74 : decode M_227.2.2.1 74 = .ok (.iload 4, 2) := by decide +kernel
theorem d_227_76 : decode M_227.2.2.1 76 = .ok (.aload_n 0, 1) := by decide +kernel
theorem d_227_77 : decode M_227.2.2.1 77 = .ok (.getfield 13, 3) := by decide +kernel
theorem d_227_80 : decode M_227.2.2.1 80 = .ok (.iconst 0, 1) := by decide +kernel
theorem d_227_81 : decode M_227.2.2.1 81 = .ok (.iaload, 1) := by decide +kernel
theorem d_227_82 : decode M_227.2.2.1 82 = .ok (.if_icmp .ge 68, 3) := by decide +kernel
theorem d_227_85 : decode M_227.2.2.1 85 = .ok (.iload_n 3, 1) := by decide +kernel
theorem d_227_86 : decode M_227.2.2.1 86 = .ok (.i2l, 1) := by decide +kernel
theorem d_227_87 : decode M_227.2.2.1 87 = .ok (.invokestatic 209, 3) := by decide +kernel
theorem d_227_90 : decode M_227.2.2.1 90 = .ok (.iconst 1, 1) := by decide +kernel
theorem d_227_91 : decode M_227.2.2.1 91 = .ok (.if_icmp .le 59, 3) := by decide +kernel
theorem d_227_94 : decode M_227.2.2.1 94 = .ok (.aload_n 0, 1) := by decide +kernel
theorem d_227_95 : decode M_227.2.2.1 95 = .ok (.iload 4, 2) := by decide +kernel
theorem d_227_97 : decode M_227.2.2.1 97 = .ok (.iconst 3, 1) := by decide +kernel
theorem d_227_98 : decode M_227.2.2.1 98 = .ok (.invokevirtual 196, 3) := by decide +kernel
theorem d_227_101 : decode M_227.2.2.1 101 = .ok (.ifCond .eq 6, 3) := by decide +kernel
theorem d_227_104 : decode M_227.2.2.1 104 = .ok (.goto 40, 3) := by decide +kernel
theorem d_227_107 : decode M_227.2.2.1 107 = .ok (.aload_n 0, 1) := by decide +kernel
theorem d_227_108 : decode M_227.2.2.1 108 = .ok (.iload_n 3, 1) := by decide +kernel
theorem d_227_109 : decode M_227.2.2.1 109 = .ok (.iload 4, 2) := by decide +kernel
theorem d_227_111 : decode M_227.2.2.1 111 = .ok (.invokevirtual 278, 3) := by decide +kernel
theorem d_227_114 : decode M_227.2.2.1 114 = .ok (.istore 5, 2) := by decide +kernel
theorem d_227_116 : decode M_227.2.2.1 116 = .ok (.aload_n 0, 1) := by decide +kernel
theorem d_227_117 : decode M_227.2.2.1 117 = .ok (.getfield 42, 3) := by decide +kernel
theorem d_227_120 : decode M_227.2.2.1 120 = .ok (.iload_n 3, 1) := by decide +kernel
theorem d_227_121 : decode M_227.2.2.1 121 = .ok (.iload 5, 2) := by decide +kernel
theorem d_227_123 : decode M_227.2.2.1 123 = .ok (.aload_n 0, 1) := by decide +kernel
theorem d_227_124 : decode M_227.2.2.1 124 = .ok (.getfield 42, 3) := by decide +kernel
theorem d_227_127 : decode M_227.2.2.1 127 = .ok (.iload_n 3, 1) := by decide +kernel
theorem d_227_128 : decode M_227.2.2.1 128 = .ok (.iaload, 1) := by decide +kernel
theorem d_227_129 : decode M_227.2.2.1 129 = .ok (.if_icmp .ge 8, 3) := by decide +kernel
theorem d_227_132 : decode M_227.2.2.1 132 = .ok (.iload 5, 2) := by decide +kernel
theorem d_227_134 : decode M_227.2.2.1 134 = .ok (.goto 9, 3) := by decide +kernel
theorem d_227_137 : decode M_227.2.2.1 137 = .ok (.aload_n 0, 1) := by decide +kernel
theorem d_227_138 : decode M_227.2.2.1 138 = .ok (.getfield 42, 3) := by decide +kernel
theorem d_227_141 : decode M_227.2.2.1 141 = .ok (.iload_n 3, 1) := by decide +kernel
theorem d_227_142 : decode M_227.2.2.1 142 = .ok (.iaload, 1) := by decide +kernel
theorem d_227_143 : decode M_227.2.2.1 143 = .ok (.iastore, 1) := by decide +kernel
theorem d_227_144 : decode M_227.2.2.1 144 = .ok (.iinc 4 1, 3) := by decide +kernel
theorem d_227_147 : decode M_227.2.2.1 147 = .ok (.goto (-73), 3) := by decide +kernel
theorem d_227_150 : decode M_227.2.2.1 150 = .ok (.iinc 3 1, 3) := by decide +kernel
theorem d_227_153 : decode M_227.2.2.1 153 = .ok (.goto (-113), 3) := by decide +kernel
theorem d_227_156 : decode M_227.2.2.1 156 = .ok (.aload_n 0, 1) := by decide +kernel
theorem d_227_157 : decode M_227.2.2.1 157 = .ok (.getfield 42, 3) := by decide +kernel
theorem d_227_160 : decode M_227.2.2.1 160 = .ok (.iconst 1, 1) := by decide +kernel
theorem d_227_161 : decode M_227.2.2.1 161 = .ok (.aload_n 0, 1) := by decide +kernel
theorem d_227_162 : decode M_227.2.2.1 162 = .ok (.getfield 251, 3) := by decide +kernel
theorem d_227_165 : decode M_227.2.2.1 165 = .ok (.ishl, 1) := by decide +kernel
theorem d_227_166 : decode M_227.2.2.1 166 = .ok (.iconst 1, 1) := by decide +kernel
theorem d_227_167 : decode M_227.2.2.1 167 = .ok (.isub, 1) := by decide +kernel
theorem d_227_168 : decode M_227.2.2.1 168 = .ok (.iaload, 1) := by decide +kernel
theorem d_227_169 : decode M_227.2.2.1 169 = .ok (.istore_n 3, 1) := by decide +kernel
theorem d_227_170 : decode M_227.2.2.1 170 = .ok (.iload_n 3, 1) := by decide +kernel
theorem d_227_171 : decode M_227.2.2.1 171 = .ok (.bipush 99, 2) := by decide +kernel
theorem d_227_173 : decode M_227.2.2.1 173 = .ok (.if_icmp .lt 7, 3) := by decide +kernel
theorem d_227_176 : decode M_227.2.2.1 176 = .ok (.iconst (-1), 1) := by decide +kernel
theorem d_227_177 : decode M_227.2.2.1 177 = .ok (.goto 4, 3) := by decide +kernel
theorem d_227_180 : decode M_227.2.2.1 180 = .ok (.iload_n 3, 1) := by decide +kernel
theorem d_227_181 : decode M_227.2.2.1 181 = .ok (.ireturn, 1) := by decide +kernel
/-- HeardBarrelsModel.knocksAt(II)I -/
def M_228 : am_MT := (9, ⟨"HeardBarrelsModel", "knocksAt", "(II)I"⟩, prog_10_method_66_code, 7, some .int, false, 2, (0, 0))
theorem hM_228 : am_ms[228]? = some M_228 := rfl
theorem d_228_0 : decode M_228.2.2.1 0 = .ok (.iconst 0, 1) := by decide +kernel
theorem d_228_1 : decode M_228.2.2.1 1 = .ok (.istore_n 3, 1) := by decide +kernel
theorem d_228_2 : decode M_228.2.2.1 2 = .ok (.iconst 0, 1) := by decide +kernel
theorem d_228_3 : decode M_228.2.2.1 3 = .ok (.istore 4, 2) := by decide +kernel
theorem d_228_5 : decode M_228.2.2.1 5 = .ok (.iload 4, 2) := by decide +kernel
theorem d_228_7 : decode M_228.2.2.1 7 = .ok (.aload_n 0, 1) := by decide +kernel
theorem d_228_8 : decode M_228.2.2.1 8 = .ok (.getfield 251, 3) := by decide +kernel
theorem d_228_11 : decode M_228.2.2.1 11 = .ok (.if_icmp .ge 125, 3) := by decide +kernel
theorem d_228_14 : decode M_228.2.2.1 14 = .ok (.iload_n 1, 1) := by decide +kernel
theorem d_228_15 : decode M_228.2.2.1 15 = .ok (.i2l, 1) := by decide +kernel
theorem d_228_16 : decode M_228.2.2.1 16 = .ok (.iload 4, 2) := by decide +kernel
theorem d_228_18 : decode M_228.2.2.1 18 = .ok (.invokestatic 183, 3) := by decide +kernel
theorem d_228_21 : decode M_228.2.2.1 21 = .ok (.ifCond .ne 6, 3) := by decide +kernel
theorem d_228_24 : decode M_228.2.2.1 24 = .ok (.goto 106, 3) := by decide +kernel
theorem d_228_27 : decode M_228.2.2.1 27 = .ok (.iconst 0, 1) := by decide +kernel
theorem d_228_28 : decode M_228.2.2.1 28 = .ok (.istore 5, 2) := by decide +kernel
theorem d_228_30 : decode M_228.2.2.1 30 = .ok (.iconst 0, 1) := by decide +kernel
theorem d_228_31 : decode M_228.2.2.1 31 = .ok (.istore 6, 2) := by decide +kernel
theorem d_228_33 : decode M_228.2.2.1 33 = .ok (.iload 6, 2) := by decide +kernel
theorem d_228_35 : decode M_228.2.2.1 35 = .ok (.aload_n 0, 1) := by decide +kernel
theorem d_228_36 : decode M_228.2.2.1 36 = .ok (.getfield 251, 3) := by decide +kernel
theorem d_228_39 : decode M_228.2.2.1 39 = .ok (.if_icmp .ge 59, 3) := by decide +kernel
theorem d_228_42 : decode M_228.2.2.1 42 = .ok (.iload 5, 2) := by decide +kernel
theorem d_228_44 : decode M_228.2.2.1 44 = .ok (.iload_n 1, 1) := by decide +kernel
theorem d_228_45 : decode M_228.2.2.1 45 = .ok (.i2l, 1) := by decide +kernel
theorem d_228_46 : decode M_228.2.2.1 46 = .ok (.iload 6, 2) := by decide +kernel
theorem d_228_48 : decode M_228.2.2.1 48 = .ok (.invokestatic 183, 3) := by decide +kernel
theorem d_228_51 : decode M_228.2.2.1 51 = .ok (.ifCond .eq 37, 3) := by decide +kernel
theorem d_228_54 : decode M_228.2.2.1 54 = .ok (.aload_n 0, 1) := by decide +kernel
theorem d_228_55 : decode M_228.2.2.1 55 = .ok (.iload_n 2, 1) := by decide +kernel
theorem d_228_56 : decode M_228.2.2.1 56 = .ok (.aload_n 0, 1) := by decide +kernel
theorem d_228_57 : decode M_228.2.2.1 57 = .ok (.getfield 33, 3) := by decide +kernel
theorem d_228_60 : decode M_228.2.2.1 60 = .ok (.iload 6, 2) := by decide +kernel
theorem d_228_62 : decode M_228.2.2.1 62 = .ok (.iaload, 1) := by decide +kernel
theorem d_228_63 : decode M_228.2.2.1 63 = .ok (.invokevirtual 246, 3) := by decide +kernel
theorem d_228_66 : decode M_228.2.2.1 66 = .ok (.aload_n 0, 1) := by decide +kernel
theorem d_228_67 : decode M_228.2.2.1 67 = .ok (.iload_n 2, 1) := by decide +kernel
theorem d_228_68 : decode M_228.2.2.1 68 = .ok (.aload_n 0, 1) := by decide +kernel
theorem d_228_69 : decode M_228.2.2.1 69 = .ok (.getfield 33, 3) := by decide +kernel
theorem d_228_72 : decode M_228.2.2.1 72 = .ok (.iload 4, 2) := by decide +kernel
theorem d_228_74 : decode M_228.2.2.1 74 = .ok (.iaload, 1) := by decide +kernel
theorem d_228_75 : decode M_228.2.2.1 75 = .ok (.invokevirtual 246, 3) := by decide +kernel
theorem d_228_78 : decode M_228.2.2.1 78 = .ok (.if_icmp .ne 10, 3) := by decide +kernel
theorem d_228_81 : decode M_228.2.2.1 81 = .ok (.iconst 1, 1) := by decide +kernel
theorem d_228_82 : decode M_228.2.2.1 82 = .ok (.iload 6, 2) := by decide +kernel
theorem d_228_84 : decode M_228.2.2.1 84 = .ok (.ishl, 1) := by decide +kernel
theorem d_228_85 : decode M_228.2.2.1 85 = .ok (.goto 4, 3) := by decide +kernel
theorem d_228_88 : decode M_228.2.2.1 88 = .ok (.iconst 0, 1) := by decide +kernel
theorem d_228_89 : decode M_228.2.2.1 89 = .ok (.ior, 1) := by decide +kernel
theorem d_228_90 : decode M_228.2.2.1 90 = .ok (.istore 5, 2) := by decide +kernel
theorem d_228_92 : decode M_228.2.2.1 92 = .ok (.iinc 6 1, 3) := by decide +kernel
theorem d_228_95 : decode M_228.2.2.1 95 = .ok (.goto (-62), 3) := by decide +kernel
theorem d_228_98 : decode M_228.2.2.1 98 = .ok (.iload 5, 2) := by decide +kernel
theorem d_228_100 : decode M_228.2.2.1 100 = .ok (.iload_n 1, 1) := by decide +kernel
theorem d_228_101 : decode M_228.2.2.1 101 = .ok (.if_icmp .ne 6, 3) := by decide +kernel
theorem d_228_104 : decode M_228.2.2.1 104 = .ok (.bipush 99, 2) := by decide +kernel
theorem d_228_106 : decode M_228.2.2.1 106 = .ok (.ireturn, 1) := by decide +kernel
theorem d_228_107 : decode M_228.2.2.1 107 = .ok (.aload_n 0, 1) := by decide +kernel
theorem d_228_108 : decode M_228.2.2.1 108 = .ok (.getfield 42, 3) := by decide +kernel
theorem d_228_111 : decode M_228.2.2.1 111 = .ok (.iload 5, 2) := by decide +kernel
theorem d_228_113 : decode M_228.2.2.1 113 = .ok (.iaload, 1) := by decide +kernel
theorem d_228_114 : decode M_228.2.2.1 114 = .ok (.iload_n 3, 1) := by decide +kernel
theorem d_228_115 : decode M_228.2.2.1 115 = .ok (.if_icmp .le 13, 3) := by decide +kernel
theorem d_228_118 : decode M_228.2.2.1 118 = .ok (.aload_n 0, 1) := by decide +kernel
theorem d_228_119 : decode M_228.2.2.1 119 = .ok (.getfield 42, 3) := by decide +kernel
theorem d_228_122 : decode M_228.2.2.1 122 = .ok (.iload 5, 2) := by decide +kernel
theorem d_228_124 : decode M_228.2.2.1 124 = .ok (.iaload, 1) := by decide +kernel
theorem d_228_125 : decode M_228.2.2.1 125 = .ok (.goto 4, 3) := by decide +kernel
theorem d_228_128 : decode M_228.2.2.1 128 = .ok (.iload_n 3, 1) := by decide +kernel
theorem d_228_129 : decode M_228.2.2.1 129 = .ok (.istore_n 3, 1) := by decide +kernel
theorem d_228_130 : decode M_228.2.2.1 130 = .ok (.iinc 4 1, 3) := by decide +kernel
theorem d_228_133 : decode M_228.2.2.1 133 = .ok (.goto (-128), 3) := by decide +kernel
theorem d_228_136 : decode M_228.2.2.1 136 = .ok (.iload_n 3, 1) := by decide +kernel
theorem d_228_137 : decode M_228.2.2.1 137 = .ok (.bipush 99, 2) := by decide +kernel
theorem d_228_139 : decode M_228.2.2.1 139 = .ok (.if_icmp .lt 8, 3) := by decide +kernel
theorem d_228_142 : decode M_228.2.2.1 142 = .ok (.bipush 99, 2) := by decide +kernel
theorem d_228_144 : decode M_228.2.2.1 144 = .ok (.goto 6, 3) := by decide +kernel
theorem d_228_147 : decode M_228.2.2.1 147 = .ok (.iload_n 3, 1) := by decide +kernel
theorem d_228_148 : decode M_228.2.2.1 148 = .ok (.iconst 1, 1) := by decide +kernel
theorem d_228_149 : decode M_228.2.2.1 149 = .ok (.iadd, 1) := by decide +kernel
theorem d_228_150 : decode M_228.2.2.1 150 = .ok (.ireturn, 1) := by decide +kernel
/-- HeardBarrelsModel.kept(II)I -/
def M_229 : am_MT := (9, ⟨"HeardBarrelsModel", "kept", "(II)I"⟩, prog_10_method_77_code, 6, some .int, false, 2, (0, 0))
theorem hM_229 : am_ms[229]? = some M_229 := rfl
theorem d_229_0 : decode M_229.2.2.1 0 = .ok (.aload_n 0, 1) := by decide +kernel
theorem d_229_1 : decode M_229.2.2.1 1 = .ok (.iconst 0, 1) := by decide +kernel
theorem d_229_2 : decode M_229.2.2.1 2 = .ok (.putfield 1, 3) := by decide +kernel
theorem d_229_5 : decode M_229.2.2.1 5 = .ok (.iload_n 2, 1) := by decide +kernel
theorem d_229_6 : decode M_229.2.2.1 6 = .ok (.ifCond .eq 20, 3) := by decide +kernel
theorem d_229_9 : decode M_229.2.2.1 9 = .ok (.iload_n 2, 1) := by decide +kernel
theorem d_229_10 : decode M_229.2.2.1 10 = .ok (.i2l, 1) := by decide +kernel
theorem d_229_11 : decode M_229.2.2.1 11 = .ok (.ldc2_w 296, 3) := by decide +kernel
theorem d_229_14 : decode M_229.2.2.1 14 = .ok (.ldc2_w 298, 3) := by decide +kernel
theorem d_229_17 : decode M_229.2.2.1 17 = .ok (.invokestatic 152, 3) := by decide +kernel
theorem d_229_20 : decode M_229.2.2.1 20 = .ok (.ifCond .ne 6, 3) := by decide +kernel
theorem d_229_23 : decode M_229.2.2.1 23 = .ok (.bipush (-2), 2) := by decide +kernel
theorem d_229_25 : decode M_229.2.2.1 25 = .ok (.ireturn, 1) := by decide +kernel
theorem d_229_26 : decode M_229.2.2.1 26 = .ok (.iload_n 1, 1) := by decide +kernel
theorem d_229_27 : decode M_229.2.2.1 27 = .ok (.i2l, 1) := by decide +kernel
theorem d_229_28 : decode M_229.2.2.1 28 = .ok (.lconst 1, 1) := by decide +kernel
theorem d_229_29 : decode M_229.2.2.1 29 = .ok (.ldc2_w 300, 3) := by decide +kernel
theorem d_229_32 : decode M_229.2.2.1 32 = .ok (.invokestatic 152, 3) := by decide +kernel
theorem d_229_35 : decode M_229.2.2.1 35 = .ok (.ifCond .ne 6, 3) := by decide +kernel
theorem d_229_38 : decode M_229.2.2.1 38 = .ok (.bipush (-3), 2) := by decide +kernel
theorem d_229_40 : decode M_229.2.2.1 40 = .ok (.ireturn, 1) := by decide +kernel
theorem d_229_41 : decode M_229.2.2.1 41 = .ok (.aload_n 0, 1) := by decide +kernel
theorem d_229_42 : decode M_229.2.2.1 42 = .ok (.invokevirtual 302, 3) := by decide +kernel
theorem d_229_45 : decode M_229.2.2.1 45 = .ok (.ifCond .ne 6, 3) := by decide +kernel
theorem d_229_48 : decode M_229.2.2.1 48 = .ok (.bipush (-4), 2) := by decide +kernel
theorem d_229_50 : decode M_229.2.2.1 50 = .ok (.ireturn, 1) := by decide +kernel
theorem d_229_51 : decode M_229.2.2.1 51 = .ok (.aload_n 0, 1) := by decide +kernel
theorem d_229_52 : decode M_229.2.2.1 52 = .ok (.iload_n 1, 1) := by decide +kernel
theorem d_229_53 : decode M_229.2.2.1 53 = .ok (.invokevirtual 305, 3) := by decide +kernel
theorem d_229_56 : decode M_229.2.2.1 56 = .ok (.aload_n 0, 1) := by decide +kernel
theorem d_229_57 : decode M_229.2.2.1 57 = .ok (.invokevirtual 308, 3) := by decide +kernel
theorem d_229_60 : decode M_229.2.2.1 60 = .ok (.aload_n 0, 1) := by decide +kernel
theorem d_229_61 : decode M_229.2.2.1 61 = .ok (.iload_n 1, 1) := by decide +kernel
theorem d_229_62 : decode M_229.2.2.1 62 = .ok (.invokevirtual 293, 3) := by decide +kernel
theorem d_229_65 : decode M_229.2.2.1 65 = .ok (.istore_n 3, 1) := by decide +kernel
theorem d_229_66 : decode M_229.2.2.1 66 = .ok (.iload_n 3, 1) := by decide +kernel
theorem d_229_67 : decode M_229.2.2.1 67 = .ok (.bipush 99, 2) := by decide +kernel
theorem d_229_69 : decode M_229.2.2.1 69 = .ok (.if_icmp .lt 5, 3) := by decide +kernel
theorem d_229_72 : decode M_229.2.2.1 72 = .ok (.iconst (-1), 1) := by decide +kernel
theorem d_229_73 : decode M_229.2.2.1 73 = .ok (.ireturn, 1) := by decide +kernel
theorem d_229_74 : decode M_229.2.2.1 74 = .ok (.iload_n 2, 1) := by decide +kernel
theorem d_229_75 : decode M_229.2.2.1 75 = .ok (.ifCond .ne 5, 3) := by decide +kernel
theorem d_229_78 : decode M_229.2.2.1 78 = .ok (.iload_n 3, 1) := by decide +kernel
theorem d_229_79 : decode M_229.2.2.1 79 = .ok (.ireturn, 1) := by decide +kernel
theorem d_229_80 : decode M_229.2.2.1 80 = .ok (.iload_n 2, 1) := by decide +kernel
theorem d_229_81 : decode M_229.2.2.1 81 = .ok (.bipush 10, 2) := by decide +kernel
theorem d_229_83 : decode M_229.2.2.1 83 = .ok (.isub, 1) := by decide +kernel
theorem d_229_84 : decode M_229.2.2.1 84 = .ok (.iload_n 1, 1) := by decide +kernel
theorem d_229_85 : decode M_229.2.2.1 85 = .ok (.if_icmp .lt 5, 3) := by decide +kernel
theorem d_229_88 : decode M_229.2.2.1 88 = .ok (.iconst (-1), 1) := by decide +kernel
theorem d_229_89 : decode M_229.2.2.1 89 = .ok (.ireturn, 1) := by decide +kernel
theorem d_229_90 : decode M_229.2.2.1 90 = .ok (.iconst 0, 1) := by decide +kernel
theorem d_229_91 : decode M_229.2.2.1 91 = .ok (.istore 4, 2) := by decide +kernel
theorem d_229_93 : decode M_229.2.2.1 93 = .ok (.aload_n 0, 1) := by decide +kernel
theorem d_229_94 : decode M_229.2.2.1 94 = .ok (.iload_n 1, 1) := by decide +kernel
theorem d_229_95 : decode M_229.2.2.1 95 = .ok (.iload 4, 2) := by decide +kernel
theorem d_229_97 : decode M_229.2.2.1 97 = .ok (.isub, 1) := by decide +kernel
theorem d_229_98 : decode M_229.2.2.1 98 = .ok (.iload_n 3, 1) := by decide +kernel
theorem d_229_99 : decode M_229.2.2.1 99 = .ok (.invokevirtual 311, 3) := by decide +kernel
theorem d_229_102 : decode M_229.2.2.1 102 = .ok (.istore 5, 2) := by decide +kernel
theorem d_229_104 : decode M_229.2.2.1 104 = .ok (.iload 4, 2) := by decide +kernel
theorem d_229_106 : decode M_229.2.2.1 106 = .ok (.iload_n 2, 1) := by decide +kernel
theorem d_229_107 : decode M_229.2.2.1 107 = .ok (.bipush 10, 2) := by decide +kernel
theorem d_229_109 : decode M_229.2.2.1 109 = .ok (.isub, 1) := by decide +kernel
theorem d_229_110 : decode M_229.2.2.1 110 = .ok (.if_icmp .ne 10, 3) := by decide +kernel
theorem d_229_113 : decode M_229.2.2.1 113 = .ok (.aload_n 0, 1) := by decide +kernel
theorem d_229_114 : decode M_229.2.2.1 114 = .ok (.iload 5, 2) := by decide +kernel
theorem d_229_116 : decode M_229.2.2.1 116 = .ok (.invokevirtual 314, 3) := by decide +kernel
theorem d_229_119 : decode M_229.2.2.1 119 = .ok (.ireturn, 1) := by decide +kernel
theorem d_229_120 : decode M_229.2.2.1 120 = .ok (.iload_n 3, 1) := by decide +kernel
theorem d_229_121 : decode M_229.2.2.1 121 = .ok (.iload 5, 2) := by decide +kernel
theorem d_229_123 : decode M_229.2.2.1 123 = .ok (.i2l, 1) := by decide +kernel
theorem d_229_124 : decode M_229.2.2.1 124 = .ok (.invokestatic 209, 3) := by decide +kernel
theorem d_229_127 : decode M_229.2.2.1 127 = .ok (.isub, 1) := by decide +kernel
theorem d_229_128 : decode M_229.2.2.1 128 = .ok (.istore_n 3, 1) := by decide +kernel
theorem d_229_129 : decode M_229.2.2.1 129 = .ok (.aload_n 0, 1) := by decide +kernel
theorem d_229_130 : decode M_229.2.2.1 130 = .ok (.aload_n 0, 1) := by decide +kernel
theorem d_229_131 : decode M_229.2.2.1 131 = .ok (.iload 5, 2) := by decide +kernel
theorem d_229_133 : decode M_229.2.2.1 133 = .ok (.invokevirtual 284, 3) := by decide +kernel
theorem d_229_136 : decode M_229.2.2.1 136 = .ok (.invokevirtual 290, 3) := by decide +kernel
theorem d_229_139 : decode M_229.2.2.1 139 = .ok (.iinc 4 1, 3) := by decide +kernel
theorem d_229_142 : decode M_229.2.2.1 142 = .ok (.goto (-49), 3) := by decide +kernel
/-- HeardBarrelsModel.laysFew()Z -/
def M_230 : am_MT := (9, ⟨"HeardBarrelsModel", "laysFew", "()Z"⟩, prog_10_method_68_code, 3, some .boolean, false, 0, (0, 0))
theorem hM_230 : am_ms[230]? = some M_230 := rfl
theorem d_230_0 : decode M_230.2.2.1 0 = .ok (.aload_n 0, 1) := by decide +kernel
theorem d_230_1 : decode M_230.2.2.1 1 = .ok (.iconst 0, 1) := by decide +kernel
theorem d_230_2 : decode M_230.2.2.1 2 = .ok (.putfield 281, 3) := by decide +kernel
theorem d_230_5 : decode M_230.2.2.1 5 = .ok (.aload_n 0, 1) := by decide +kernel
theorem d_230_6 : decode M_230.2.2.1 6 = .ok (.iconst 1, 1) := by decide +kernel
theorem d_230_7 : decode M_230.2.2.1 7 = .ok (.invokevirtual 187, 3) := by decide +kernel
theorem d_230_10 : decode M_230.2.2.1 10 = .ok (.istore_n 1, 1) := by decide +kernel
theorem d_230_11 : decode M_230.2.2.1 11 = .ok (.iconst 0, 1) := by decide +kernel
theorem d_230_12 : decode M_230.2.2.1 12 = .ok (.istore_n 2, 1) := by decide +kernel
theorem d_230_13 : decode M_230.2.2.1 13 = .ok (.iload_n 2, 1) := by decide +kernel
theorem d_230_14 : decode M_230.2.2.1 14 = .ok (.aload_n 0, 1) := by decide +kernel
theorem d_230_15 : decode M_230.2.2.1 15 = .ok (.getfield 13, 3) := by decide +kernel
theorem d_230_18 : decode M_230.2.2.1 18 = .ok (.iconst 0, 1) := by decide +kernel
theorem d_230_19 : decode M_230.2.2.1 19 = .ok (.iaload, 1) := by decide +kernel
theorem d_230_20 : decode M_230.2.2.1 20 = .ok (.if_icmp .ge 76, 3) := by decide +kernel
theorem d_230_23 : decode M_230.2.2.1 23 = .ok (.aload_n 0, 1) := by decide +kernel
theorem d_230_24 : decode M_230.2.2.1 24 = .ok (.getfield 13, 3) := by decide +kernel
theorem d_230_27 : decode M_230.2.2.1 27 = .ok (.bipush 8, 2) := by decide +kernel
theorem d_230_29 : decode M_230.2.2.1 29 = .ok (.iload_n 2, 1) := by decide +kernel
theorem d_230_30 : decode M_230.2.2.1 30 = .ok (.iadd, 1) := by decide +kernel
theorem d_230_31 : decode M_230.2.2.1 31 = .ok (.iaload, 1) := by decide +kernel
theorem d_230_32 : decode M_230.2.2.1 32 = .ok (.ifCond .eq 6, 3) := by decide +kernel
theorem d_230_35 : decode M_230.2.2.1 35 = .ok (.goto 55, 3) := by decide +kernel
theorem d_230_38 : decode M_230.2.2.1 38 = .ok (.aload_n 0, 1) := by decide +kernel
theorem d_230_39 : decode M_230.2.2.1 39 = .ok (.getfield 281, 3) := by decide +kernel
theorem d_230_42 : decode M_230.2.2.1 42 = .ok (.iconst 5, 1) := by decide +kernel
theorem d_230_43 : decode M_230.2.2.1 43 = .ok (.if_icmp .ne 5, 3) := by decide +kernel
theorem d_230_46 : decode M_230.2.2.1 46 = .ok (.iconst 0, 1) := by decide +kernel
theorem d_230_47 : decode M_230.2.2.1 47 = .ok (.ireturn, 1) := by decide +kernel
theorem d_230_48 : decode M_230.2.2.1 48 = .ok (.aload_n 0, 1) := by decide +kernel
theorem d_230_49 : decode M_230.2.2.1 49 = .ok (.getfield 45, 3) := by decide +kernel
theorem d_230_52 : decode M_230.2.2.1 52 = .ok (.aload_n 0, 1) := by decide +kernel
theorem d_230_53 : decode M_230.2.2.1 53 = .ok (.getfield 281, 3) := by decide +kernel
theorem d_230_56 : decode M_230.2.2.1 56 = .ok (.iload_n 2, 1) := by decide +kernel
theorem d_230_57 : decode M_230.2.2.1 57 = .ok (.iastore, 1) := by decide +kernel
theorem d_230_58 : decode M_230.2.2.1 58 = .ok (.aload_n 0, 1) := by decide +kernel
theorem d_230_59 : decode M_230.2.2.1 59 = .ok (.getfield 48, 3) := by decide +kernel
theorem d_230_62 : decode M_230.2.2.1 62 = .ok (.aload_n 0, 1) := by decide +kernel
theorem d_230_63 : decode M_230.2.2.1 63 = .ok (.getfield 281, 3) := by decide +kernel
theorem d_230_66 : decode M_230.2.2.1 66 = .ok (.iload_n 1, 1) := by decide +kernel
theorem d_230_67 : decode M_230.2.2.1 67 = .ok (.iload_n 2, 1) := by decide +kernel
theorem d_230_68 : decode M_230.2.2.1 68 = .ok (.invokestatic 201, 3) := by decide +kernel
theorem d_230_71 : decode M_230.2.2.1 71 = .ok (.ifCond .le 7, 3) := by decide +kernel
theorem d_230_74 : decode M_230.2.2.1 74 = .ok (.iconst 2, 1) := by decide +kernel
theorem d_230_75 : decode M_230.2.2.1 75 = .ok (.goto 4, 3) := by decide +kernel
theorem d_230_78 : decode M_230.2.2.1 78 = .ok (.iconst 1, 1) := by decide +kernel
theorem d_230_79 : decode M_230.2.2.1 79 = .ok (.iastore, 1) := by decide +kernel
theorem d_230_80 : decode M_230.2.2.1 80 = .ok (.aload_n 0, 1) := by decide +kernel
theorem d_230_81 : decode M_230.2.2.1 81 = .ok (.dup, 1) := by decide +kernel
theorem d_230_82 : decode M_230.2.2.1 82 = .ok (.getfield 281, 3) := by decide +kernel
theorem d_230_85 : decode M_230.2.2.1 85 = .ok (.iconst 1, 1) := by decide +kernel
theorem d_230_86 : decode M_230.2.2.1 86 = .ok (.iadd, 1) := by decide +kernel
theorem d_230_87 : decode M_230.2.2.1 87 = .ok (.putfield 281, 3) := by decide +kernel
theorem d_230_90 : decode M_230.2.2.1 90 = .ok (.iinc 2 1, 3) := by decide +kernel
theorem d_230_93 : decode M_230.2.2.1 93 = .ok (.goto (-80), 3) := by decide +kernel
theorem d_230_96 : decode M_230.2.2.1 96 = .ok (.iconst 1, 1) := by decide +kernel
theorem d_230_97 : decode M_230.2.2.1 97 = .ok (.ireturn, 1) := by decide +kernel
/-- HeardBarrelsModel.laysTurns(I)V -/
def M_231 : am_MT := (9, ⟨"HeardBarrelsModel", "laysTurns", "(I)V"⟩, prog_10_method_73_code, 5, none, false, 1, (0, 0))
theorem hM_231 : am_ms[231]? = some M_231 := rfl
theorem d_231_0 : decode M_231.2.2.1 0 = .ok (.aload_n 0, 1) := by decide +kernel
theorem d_231_1 : decode M_231.2.2.1 1 = .ok (.invokevirtual 287, 3) := by decide +kernel
theorem d_231_4 : decode M_231.2.2.1 4 = .ok (.istore_n 2, 1) := by decide +kernel
theorem d_231_5 : decode M_231.2.2.1 5 = .ok (.iconst 0, 1) := by decide +kernel
theorem d_231_6 : decode M_231.2.2.1 6 = .ok (.istore_n 3, 1) := by decide +kernel
theorem d_231_7 : decode M_231.2.2.1 7 = .ok (.iload_n 3, 1) := by decide +kernel
theorem d_231_8 : decode M_231.2.2.1 8 = .ok (.iload_n 2, 1) := by decide +kernel
theorem d_231_9 : decode M_231.2.2.1 9 = .ok (.if_icmp .ge 16, 3) := by decide +kernel
theorem d_231_12 : decode M_231.2.2.1 12 = .ok (.aload_n 0, 1) := by decide +kernel
theorem d_231_13 : decode M_231.2.2.1 13 = .ok (.getfield 55, 3) := by decide +kernel
theorem d_231_16 : decode M_231.2.2.1 16 = .ok (.iload_n 3, 1) := by decide +kernel
theorem d_231_17 : decode M_231.2.2.1 17 = .ok (.iconst 0, 1) := by decide +kernel
theorem d_231_18 : decode M_231.2.2.1 18 = .ok (.bastore, 1) := by decide +kernel
theorem d_231_19 : decode M_231.2.2.1 19 = .ok (.iinc 3 1, 3) := by decide +kernel
theorem d_231_22 : decode M_231.2.2.1 22 = .ok (.goto (-15), 3) := by decide +kernel
theorem d_231_25 : decode M_231.2.2.1 25 = .ok (.iconst 1, 1) := by decide +kernel
theorem d_231_26 : decode M_231.2.2.1 26 = .ok (.istore_n 3, 1) := by decide +kernel
theorem d_231_27 : decode M_231.2.2.1 27 = .ok (.iload_n 3, 1) := by decide +kernel
theorem d_231_28 : decode M_231.2.2.1 28 = .ok (.iload_n 1, 1) := by decide +kernel
theorem d_231_29 : decode M_231.2.2.1 29 = .ok (.if_icmp .ge 49, 3) := by decide +kernel
theorem d_231_32 : decode M_231.2.2.1 32 = .ok (.iconst 0, 1) := by decide +kernel
theorem d_231_33 : decode M_231.2.2.1 33 = .ok (.istore 4, 2) := by decide +kernel
theorem d_231_35 : decode M_231.2.2.1 35 = .ok (.iload 4, 2) := by decide +kernel
theorem d_231_37 : decode M_231.2.2.1 37 = .ok (.iload_n 2, 1) := by decide +kernel
theorem d_231_38 : decode M_231.2.2.1 38 = .ok (.if_icmp .ge 34, 3) := by decide +kernel
theorem d_231_41 : decode M_231.2.2.1 41 = .ok (.aload_n 0, 1) := by decide +kernel
theorem d_231_42 : decode M_231.2.2.1 42 = .ok (.iload 4, 2) := by decide +kernel
theorem d_231_44 : decode M_231.2.2.1 44 = .ok (.invokevirtual 290, 3) := by decide +kernel
theorem d_231_47 : decode M_231.2.2.1 47 = .ok (.aload_n 0, 1) := by decide +kernel
theorem d_231_48 : decode M_231.2.2.1 48 = .ok (.getfield 55, 3) := by decide +kernel
theorem d_231_51 : decode M_231.2.2.1 51 = .ok (.sipush 16807, 3) := by decide +kernel
theorem d_231_54 : decode M_231.2.2.1 54 = .ok (.iload_n 3, 1) := by decide +kernel
theorem d_231_55 : decode M_231.2.2.1 55 = .ok (.imul, 1) := by decide +kernel
theorem d_231_56 : decode M_231.2.2.1 56 = .ok (.iload 4, 2) := by decide +kernel
theorem d_231_58 : decode M_231.2.2.1 58 = .ok (.iadd, 1) := by decide +kernel
theorem d_231_59 : decode M_231.2.2.1 59 = .ok (.aload_n 0, 1) := by decide +kernel
theorem d_231_60 : decode M_231.2.2.1 60 = .ok (.iload_n 3, 1) := by decide +kernel
theorem d_231_61 : decode M_231.2.2.1 61 = .ok (.invokevirtual 293, 3) := by decide +kernel
theorem d_231_64 : decode M_231.2.2.1 64 = .ok (.i2b, 1) := by decide +kernel
theorem d_231_65 : decode M_231.2.2.1 65 = .ok (.bastore, 1) := by decide +kernel
theorem d_231_66 : decode M_231.2.2.1 66 = .ok (.iinc 4 1, 3) := by decide +kernel
theorem d_231_69 : decode M_231.2.2.1 69 = .ok (.goto (-34), 3) := by decide +kernel
theorem d_231_72 : decode M_231.2.2.1 72 = .ok (.iinc 3 1, 3) := by decide +kernel
theorem d_231_75 : decode M_231.2.2.1 75 = .ok (.goto (-48), 3) := by decide +kernel
theorem d_231_78 : decode M_231.2.2.1 78 = .ok (.return_, 1) := by decide +kernel
/-- HeardBarrelsModel.stateMany()I -/
def M_232 : am_MT := (9, ⟨"HeardBarrelsModel", "stateMany", "()I"⟩, prog_10_method_69_code, 3, some .int, false, 0, (0, 0))
theorem hM_232 : am_ms[232]? = some M_232 := rfl
theorem d_232_0 : decode M_232.2.2.1 0 = .ok (.iconst 1, 1) := by decide +kernel
theorem d_232_1 : decode M_232.2.2.1 1 = .ok (.istore_n 1, 1) := by decide +kernel
theorem d_232_2 : decode M_232.2.2.1 2 = .ok (.iconst 0, 1) := by decide +kernel
theorem d_232_3 : decode M_232.2.2.1 3 = .ok (.istore_n 2, 1) := by decide +kernel
theorem d_232_4 : decode M_232.2.2.1 4 = .ok (.iload_n 2, 1) := by decide +kernel
theorem d_232_5 : decode M_232.2.2.1 5 = .ok (.aload_n 0, 1) := by decide +kernel
theorem d_232_6 : decode M_232.2.2.1 6 = .ok (.getfield 281, 3) := by decide +kernel
theorem d_232_9 : decode M_232.2.2.1 9 = .ok (.if_icmp .ge 14, 3) := by decide +kernel
theorem d_232_12 : decode M_232.2.2.1 12 = .ok (.iload_n 1, 1) := by decide +kernel
theorem d_232_13 : decode M_232.2.2.1 13 = .ok (.bipush 7, 2) := by decide +kernel
theorem d_232_15 : decode M_232.2.2.1 15 = .ok (.imul, 1) := by decide +kernel
theorem d_232_16 : decode M_232.2.2.1 16 = .ok (.istore_n 1, 1) := by decide +kernel
theorem d_232_17 : decode M_232.2.2.1 17 = .ok (.iinc 2 1, 3) := by decide +kernel
theorem d_232_20 : decode M_232.2.2.1 20 = .ok (.goto (-16), 3) := by decide +kernel
theorem d_232_23 : decode M_232.2.2.1 23 = .ok (.iload_n 1, 1) := by decide +kernel
theorem d_232_24 : decode M_232.2.2.1 24 = .ok (.ireturn, 1) := by decide +kernel
/-- HeardBarrelsModel.becomes(I)V -/
def M_233 : am_MT := (9, ⟨"HeardBarrelsModel", "becomes", "(I)V"⟩, prog_10_method_70_code, 4, none, false, 1, (0, 0))
theorem hM_233 : am_ms[233]? = some M_233 := rfl
theorem d_233_0 : decode M_233.2.2.1 0 = .ok (.iload_n 1, 1) := by decide +kernel
theorem d_233_1 : decode M_233.2.2.1 1 = .ok (.istore_n 2, 1) := by decide +kernel
theorem d_233_2 : decode M_233.2.2.1 2 = .ok (.iconst 0, 1) := by decide +kernel
theorem d_233_3 : decode M_233.2.2.1 3 = .ok (.istore_n 3, 1) := by decide +kernel
theorem d_233_4 : decode M_233.2.2.1 4 = .ok (.iload_n 3, 1) := by decide +kernel
theorem d_233_5 : decode M_233.2.2.1 5 = .ok (.aload_n 0, 1) := by decide +kernel
theorem d_233_6 : decode M_233.2.2.1 6 = .ok (.getfield 281, 3) := by decide +kernel
theorem d_233_9 : decode M_233.2.2.1 9 = .ok (.if_icmp .ge 24, 3) := by decide +kernel
theorem d_233_12 : decode M_233.2.2.1 12 = .ok (.aload_n 0, 1) := by decide +kernel
theorem d_233_13 : decode M_233.2.2.1 13 = .ok (.getfield 51, 3) := by decide +kernel
theorem d_233_16 : decode M_233.2.2.1 16 = .ok (.iload_n 3, 1) := by decide +kernel
theorem d_233_17 : decode M_233.2.2.1 17 = .ok (.iload_n 2, 1) := by decide +kernel
theorem d_233_18 : decode M_233.2.2.1 18 = .ok (.bipush 7, 2) := by decide +kernel
theorem d_233_20 : decode M_233.2.2.1 20 = .ok (.irem, 1) := by decide +kernel
theorem d_233_21 : decode M_233.2.2.1 21 = .ok (.iastore, 1) := by decide +kernel
theorem d_233_22 : decode M_233.2.2.1 22 = .ok (.iload_n 2, 1) := by decide +kernel
theorem d_233_23 : decode M_233.2.2.1 23 = .ok (.bipush 7, 2) := by decide +kernel
theorem d_233_25 : decode M_233.2.2.1 25 = .ok (.idiv, 1) := by decide +kernel
theorem d_233_26 : decode M_233.2.2.1 26 = .ok (.istore_n 2, 1) := by decide +kernel
theorem d_233_27 : decode M_233.2.2.1 27 = .ok (.iinc 3 1, 3) := by decide +kernel
theorem d_233_30 : decode M_233.2.2.1 30 = .ok (.goto (-26), 3) := by decide +kernel
theorem d_233_33 : decode M_233.2.2.1 33 = .ok (.return_, 1) := by decide +kernel
/-- HeardBarrelsModel.fewest(I)I -/
def M_234 : am_MT := (9, ⟨"HeardBarrelsModel", "fewest", "(I)I"⟩, prog_10_method_72_code, 6, some .int, false, 1, (0, 0))
theorem hM_234 : am_ms[234]? = some M_234 := rfl
theorem d_234_0 : decode M_234.2.2.1 0 = .ok (.bipush 99, 2) := by decide +kernel
theorem d_234_2 : decode M_234.2.2.1 2 = .ok (.istore_n 2, 1) := by decide +kernel
theorem d_234_3 : decode M_234.2.2.1 3 = .ok (.iconst 0, 1) := by decide +kernel
theorem d_234_4 : decode M_234.2.2.1 4 = .ok (.istore_n 3, 1) := by decide +kernel
theorem d_234_5 : decode M_234.2.2.1 5 = .ok (.iload_n 3, 1) := by decide +kernel
theorem d_234_6 : decode M_234.2.2.1 6 = .ok (.iconst 1, 1) := by decide +kernel
theorem d_234_7 : decode M_234.2.2.1 7 = .ok (.aload_n 0, 1) := by decide +kernel
theorem d_234_8 : decode M_234.2.2.1 8 = .ok (.getfield 281, 3) := by decide +kernel
theorem d_234_11 : decode M_234.2.2.1 11 = .ok (.ishl, 1) := by decide +kernel
theorem d_234_12 : decode M_234.2.2.1 12 = .ok (.if_icmp .ge 78, 3) := by decide +kernel
theorem d_234_15 : decode M_234.2.2.1 15 = .ok (.iload_n 3, 1) := by decide +kernel
theorem d_234_16 : decode M_234.2.2.1 16 = .ok (.i2l, 1) := by decide +kernel
theorem d_234_17 : decode M_234.2.2.1 17 = .ok (.invokestatic 209, 3) := by decide +kernel
theorem d_234_20 : decode M_234.2.2.1 20 = .ok (.aload_n 0, 1) := by decide +kernel
theorem d_234_21 : decode M_234.2.2.1 21 = .ok (.getfield 13, 3) := by decide +kernel
theorem d_234_24 : decode M_234.2.2.1 24 = .ok (.iconst 4, 1) := by decide +kernel
theorem d_234_25 : decode M_234.2.2.1 25 = .ok (.iaload, 1) := by decide +kernel
theorem d_234_26 : decode M_234.2.2.1 26 = .ok (.if_icmp .le 6, 3) := by decide +kernel
theorem d_234_29 : decode M_234.2.2.1 29 = .ok (.goto 55, 3) := by decide +kernel
theorem d_234_32 : decode M_234.2.2.1 32 = .ok (.aload_n 0, 1) := by decide +kernel
theorem d_234_33 : decode M_234.2.2.1 33 = .ok (.iload_n 3, 1) := by decide +kernel
theorem d_234_34 : decode M_234.2.2.1 34 = .ok (.invokevirtual 284, 3) := by decide +kernel
theorem d_234_37 : decode M_234.2.2.1 37 = .ok (.istore 4, 2) := by decide +kernel
theorem d_234_39 : decode M_234.2.2.1 39 = .ok (.iload 4, 2) := by decide +kernel
theorem d_234_41 : decode M_234.2.2.1 41 = .ok (.iconst (-1), 1) := by decide +kernel
theorem d_234_42 : decode M_234.2.2.1 42 = .ok (.if_icmp .ne 6, 3) := by decide +kernel
theorem d_234_45 : decode M_234.2.2.1 45 = .ok (.goto 39, 3) := by decide +kernel
theorem d_234_48 : decode M_234.2.2.1 48 = .ok (.iload_n 3, 1) := by decide +kernel
theorem d_234_49 : decode M_234.2.2.1 49 = .ok (.i2l, 1) := by decide +kernel
theorem d_234_50 : decode M_234.2.2.1 50 = .ok (.invokestatic 209, 3) := by decide +kernel
theorem d_234_53 : decode M_234.2.2.1 53 = .ok (.aload_n 0, 1) := by decide +kernel
theorem d_234_54 : decode M_234.2.2.1 54 = .ok (.getfield 55, 3) := by decide +kernel
theorem d_234_57 : decode M_234.2.2.1 57 = .ok (.sipush 16807, 3) := by decide +kernel
theorem d_234_60 : decode M_234.2.2.1 60 = .ok (.iload_n 1, 1) := by decide +kernel
theorem d_234_61 : decode M_234.2.2.1 61 = .ok (.iconst 1, 1) := by decide +kernel
theorem d_234_62 : decode M_234.2.2.1 62 = .ok (.isub, 1) := by decide +kernel
theorem d_234_63 : decode M_234.2.2.1 63 = .ok (.imul, 1) := by decide +kernel
theorem d_234_64 : decode M_234.2.2.1 64 = .ok (.iload 4, 2) := by decide +kernel
theorem d_234_66 : decode M_234.2.2.1 66 = .ok (.iadd, 1) := by decide +kernel
theorem d_234_67 : decode M_234.2.2.1 67 = .ok (.baload, 1) := by decide +kernel
theorem d_234_68 : decode M_234.2.2.1 68 = .ok (.iadd, 1) := by decide +kernel
theorem d_234_69 : decode M_234.2.2.1 69 = .ok (.istore 5, 2) := by decide +kernel
theorem d_234_71 : decode M_234.2.2.1 71 = .ok (.iload 5, 2) := by decide +kernel
theorem d_234_73 : decode M_234.2.2.1 73 = .ok (.iload_n 2, 1) := by decide +kernel
theorem d_234_74 : decode M_234.2.2.1 74 = .ok (.if_icmp .ge 8, 3) := by decide +kernel
theorem d_234_77 : decode M_234.2.2.1 77 = .ok (.iload 5, 2) := by decide +kernel
theorem d_234_79 : decode M_234.2.2.1 79 = .ok (.goto 4, 3) := by decide +kernel
theorem d_234_82 : decode M_234.2.2.1 82 = .ok (.iload_n 2, 1) := by decide +kernel
theorem d_234_83 : decode M_234.2.2.1 83 = .ok (.istore_n 2, 1) := by decide +kernel
theorem d_234_84 : decode M_234.2.2.1 84 = .ok (.iinc 3 1, 3) := by decide +kernel
theorem d_234_87 : decode M_234.2.2.1 87 = .ok (.goto (-82), 3) := by decide +kernel
theorem d_234_90 : decode M_234.2.2.1 90 = .ok (.iload_n 2, 1) := by decide +kernel
theorem d_234_91 : decode M_234.2.2.1 91 = .ok (.ireturn, 1) := by decide +kernel
/-- HeardBarrelsModel.then(I)I -/
def M_235 : am_MT := (9, ⟨"HeardBarrelsModel", "then", "(I)I"⟩, prog_10_method_71_code, 6, some .int, false, 1, (0, 0))
theorem hM_235 : am_ms[235]? = some M_235 := rfl
theorem d_235_0 : decode M_235.2.2.1 0 = .ok (.iconst 0, 1) := by decide +kernel
theorem d_235_1 : decode M_235.2.2.1 1 = .ok (.istore_n 2, 1) := by decide +kernel
theorem d_235_2 : decode M_235.2.2.1 2 = .ok (.iconst 1, 1) := by decide +kernel
theorem d_235_3 : decode M_235.2.2.1 3 = .ok (.istore_n 3, 1) := by decide +kernel
theorem d_235_4 : decode M_235.2.2.1 4 = .ok (.iconst 0, 1) := by decide +kernel
theorem d_235_5 : decode M_235.2.2.1 5 = .ok (.istore 4, 2) := by decide +kernel
theorem d_235_7 : decode M_235.2.2.1 7 = .ok (.iload 4, 2) := by decide +kernel
theorem d_235_9 : decode M_235.2.2.1 9 = .ok (.aload_n 0, 1) := by decide +kernel
theorem d_235_10 : decode M_235.2.2.1 10 = .ok (.getfield 281, 3) := by decide +kernel
theorem d_235_13 : decode M_235.2.2.1 13 = .ok (.if_icmp .ge 65, 3) := by decide +kernel
theorem d_235_16 : decode M_235.2.2.1 16 = .ok (.iload_n 1, 1) := by decide +kernel
theorem d_235_17 : decode M_235.2.2.1 17 = .ok (.i2l, 1) := by decide +kernel
theorem d_235_18 : decode M_235.2.2.1 18 = .ok (.iload 4, 2) := by decide +kernel
theorem d_235_20 : decode M_235.2.2.1 20 = .ok (.invokestatic 183, 3) := by decide +kernel
theorem d_235_23 : decode M_235.2.2.1 23 = .ok (.ifCond .eq 7, 3) := by decide +kernel
theorem d_235_26 : decode M_235.2.2.1 26 = .ok (.iconst 0, 1) := by decide +kernel
theorem d_235_27 : decode M_235.2.2.1 27 = .ok (.goto 18, 3) := by decide +kernel
theorem d_235_30 : decode M_235.2.2.1 30 = .ok (.aload_n 0, 1) := by decide +kernel
theorem d_235_31 : decode M_235.2.2.1 31 = .ok (.getfield 51, 3) := by decide +kernel
theorem d_235_34 : decode M_235.2.2.1 34 = .ok (.iload 4, 2) := by decide +kernel
theorem d_235_36 : decode M_235.2.2.1 36 = .ok (.iaload, 1) := by decide +kernel
theorem d_235_37 : decode M_235.2.2.1 37 = .ok (.aload_n 0, 1) := by decide +kernel
theorem d_235_38 : decode M_235.2.2.1 38 = .ok (.getfield 48, 3) := by decide +kernel
theorem d_235_41 : decode M_235.2.2.1 41 = .ok (.iload 4, 2) := by decide +kernel
theorem d_235_43 : decode M_235.2.2.1 43 = .ok (.iaload, 1) := by decide +kernel
theorem d_235_44 : decode M_235.2.2.1 44 = .ok (.iadd, 1) := by decide +kernel
theorem d_235_45 : decode M_235.2.2.1 45 = .ok (.istore 5, 2) := by decide +kernel
theorem d_235_47 : decode M_235.2.2.1 47 = .ok (.iload 5, 2) := by decide +kernel
theorem d_235_49 : decode M_235.2.2.1 49 = .ok (.aload_n 0, 1) := by decide +kernel
theorem d_235_50 : decode M_235.2.2.1 50 = .ok (.getfield 13, 3) := by decide +kernel
theorem d_235_53 : decode M_235.2.2.1 53 = .ok (.iconst 5, 1) := by decide +kernel
theorem d_235_54 : decode M_235.2.2.1 54 = .ok (.iaload, 1) := by decide +kernel
theorem d_235_55 : decode M_235.2.2.1 55 = .ok (.if_icmp .le 5, 3) := by decide +kernel
theorem d_235_58 : decode M_235.2.2.1 58 = .ok (.iconst (-1), 1) := by decide +kernel
theorem d_235_59 : decode M_235.2.2.1 59 = .ok (.ireturn, 1) := by decide +kernel
theorem d_235_60 : decode M_235.2.2.1 60 = .ok (.iload_n 2, 1) := by decide +kernel
theorem d_235_61 : decode M_235.2.2.1 61 = .ok (.iload 5, 2) := by decide +kernel
theorem d_235_63 : decode M_235.2.2.1 63 = .ok (.iload_n 3, 1) := by decide +kernel
theorem d_235_64 : decode M_235.2.2.1 64 = .ok (.imul, 1) := by decide +kernel
theorem d_235_65 : decode M_235.2.2.1 65 = .ok (.iadd, 1) := by decide +kernel
theorem d_235_66 : decode M_235.2.2.1 66 = .ok (.istore_n 2, 1) := by decide +kernel
theorem d_235_67 : decode M_235.2.2.1 67 = .ok (.iload_n 3, 1) := by decide +kernel
theorem d_235_68 : decode M_235.2.2.1 68 = .ok (.bipush 7, 2) := by decide +kernel
theorem d_235_70 : decode M_235.2.2.1 70 = .ok (.imul, 1) := by decide +kernel
theorem d_235_71 : decode M_235.2.2.1 71 = .ok (.istore_n 3, 1) := by decide +kernel
theorem d_235_72 : decode M_235.2.2.1 72 = .ok (.iinc 4 1, 3) := by decide +kernel
theorem d_235_75 : decode M_235.2.2.1 75 = .ok (.goto (-68), 3) := by decide +kernel
theorem d_235_78 : decode M_235.2.2.1 78 = .ok (.iload_n 2, 1) := by decide +kernel
theorem d_235_79 : decode M_235.2.2.1 79 = .ok (.ireturn, 1) := by decide +kernel
/-- HeardBarrelsModel.takesNow()V -/
def M_236 : am_MT := (9, ⟨"HeardBarrelsModel", "takesNow", "()V"⟩, prog_10_method_74_code, 2, none, false, 0, (0, 0))
theorem hM_236 : am_ms[236]? = some M_236 := rfl
theorem d_236_0 : decode M_236.2.2.1 0 = .ok (.iconst 0, 1) := by decide +kernel
theorem d_236_1 : decode M_236.2.2.1 1 = .ok (.istore_n 1, 1) := by decide +kernel
theorem d_236_2 : decode M_236.2.2.1 2 = .ok (.iload_n 1, 1) := by decide +kernel
theorem d_236_3 : decode M_236.2.2.1 3 = .ok (.aload_n 0, 1) := by decide +kernel
theorem d_236_4 : decode M_236.2.2.1 4 = .ok (.getfield 281, 3) := by decide +kernel
theorem d_236_7 : decode M_236.2.2.1 7 = .ok (.if_icmp .ge 29, 3) := by decide +kernel
theorem d_236_10 : decode M_236.2.2.1 10 = .ok (.aload_n 0, 1) := by decide +kernel
theorem d_236_11 : decode M_236.2.2.1 11 = .ok (.getfield 51, 3) := by decide +kernel
theorem d_236_14 : decode M_236.2.2.1 14 = .ok (.iload_n 1, 1) := by decide +kernel
theorem d_236_15 : decode M_236.2.2.1 15 = .ok (.aload_n 0, 1) := by decide +kernel
theorem d_236_16 : decode M_236.2.2.1 16 = .ok (.getfield 13, 3) := by decide +kernel
theorem d_236_19 : decode M_236.2.2.1 19 = .ok (.bipush 44, 2) := by decide +kernel
theorem d_236_21 : decode M_236.2.2.1 21 = .ok (.aload_n 0, 1) := by decide +kernel
theorem d_236_22 : decode M_236.2.2.1 22 = .ok (.getfield 45, 3) := by decide +kernel
theorem d_236_25 : decode M_236.2.2.1 25 = .ok (.iload_n 1, 1) := by decide +kernel
theorem d_236_26 : decode M_236.2.2.1 26 = .ok (.iaload, 1) := by decide +kernel
theorem d_236_27 : decode M_236.2.2.1 27 = .ok (.iadd, 1) := by decide +kernel
theorem d_236_28 : decode M_236.2.2.1 28 = .ok (.iaload, 1) := by decide +kernel
theorem d_236_29 : decode M_236.2.2.1 29 = .ok (.iastore, 1) := by decide +kernel
theorem d_236_30 : decode M_236.2.2.1 30 = .ok (.iinc 1 1, 3) := by decide +kernel
theorem d_236_33 : decode M_236.2.2.1 33 = .ok (.goto (-31), 3) := by decide +kernel
theorem d_236_36 : decode M_236.2.2.1 36 = .ok (.return_, 1) := by decide +kernel
/-- HeardBarrelsModel.firstSet(II)I -/
def M_237 : am_MT := (9, ⟨"HeardBarrelsModel", "firstSet", "(II)I"⟩, prog_10_method_76_code, 4, some .int, false, 2, (0, 0))
theorem hM_237 : am_ms[237]? = some M_237 := rfl
theorem d_237_0 : decode M_237.2.2.1 0 = .ok (.iconst 0, 1) := by decide +kernel
theorem d_237_1 : decode M_237.2.2.1 1 = .ok (.istore_n 3, 1) := by decide +kernel
theorem d_237_2 : decode M_237.2.2.1 2 = .ok (.iload_n 3, 1) := by decide +kernel
theorem d_237_3 : decode M_237.2.2.1 3 = .ok (.i2l, 1) := by decide +kernel
theorem d_237_4 : decode M_237.2.2.1 4 = .ok (.invokestatic 209, 3) := by decide +kernel
theorem d_237_7 : decode M_237.2.2.1 7 = .ok (.aload_n 0, 1) := by decide +kernel
theorem d_237_8 : decode M_237.2.2.1 8 = .ok (.getfield 13, 3) := by decide +kernel
theorem d_237_11 : decode M_237.2.2.1 11 = .ok (.iconst 4, 1) := by decide +kernel
theorem d_237_12 : decode M_237.2.2.1 12 = .ok (.iaload, 1) := by decide +kernel
theorem d_237_13 : decode M_237.2.2.1 13 = .ok (.if_icmp .gt 40, 3) := by decide +kernel
theorem d_237_16 : decode M_237.2.2.1 16 = .ok (.aload_n 0, 1) := by decide +kernel
theorem d_237_17 : decode M_237.2.2.1 17 = .ok (.iload_n 3, 1) := by decide +kernel
theorem d_237_18 : decode M_237.2.2.1 18 = .ok (.invokevirtual 284, 3) := by decide +kernel
theorem d_237_21 : decode M_237.2.2.1 21 = .ok (.iconst (-1), 1) := by decide +kernel
theorem d_237_22 : decode M_237.2.2.1 22 = .ok (.if_icmp .eq 31, 3) := by decide +kernel
theorem d_237_25 : decode M_237.2.2.1 25 = .ok (.iload_n 3, 1) := by decide +kernel
theorem d_237_26 : decode M_237.2.2.1 26 = .ok (.i2l, 1) := by decide +kernel
theorem d_237_27 : decode M_237.2.2.1 27 = .ok (.invokestatic 209, 3) := by decide +kernel
theorem d_237_30 : decode M_237.2.2.1 30 = .ok (.aload_n 0, 1) := by decide +kernel
theorem d_237_31 : decode M_237.2.2.1 31 = .ok (.getfield 55, 3) := by decide +kernel
theorem d_237_34 : decode M_237.2.2.1 34 = .ok (.sipush 16807, 3) := by decide +kernel
theorem d_237_37 : decode M_237.2.2.1 37 = .ok (.iload_n 1, 1) := by decide +kernel
theorem d_237_38 : decode M_237.2.2.1 38 = .ok (.iconst 1, 1) := by decide +kernel
theorem d_237_39 : decode M_237.2.2.1 39 = .ok (.isub, 1) := by decide +kernel
theorem d_237_40 : decode M_237.2.2.1 40 = .ok (.imul, 1) := by decide +kernel
theorem d_237_41 : decode M_237.2.2.1 41 = .ok (.aload_n 0, 1) := by decide +kernel
theorem d_237_42 : decode M_237.2.2.1 42 = .ok (.iload_n 3, 1) := by decide +kernel
theorem d_237_43 : decode M_237.2.2.1 43 = .ok (.invokevirtual 284, 3) := by decide +kernel
theorem d_237_46 : decode M_237.2.2.1 46 = .ok (.iadd, 1) := by decide +kernel
theorem d_237_47 : decode M_237.2.2.1 47 = .ok (.baload, 1) := by decide +kernel
theorem d_237_48 : decode M_237.2.2.1 48 = .ok (.iadd, 1) := by decide +kernel
theorem d_237_49 : decode M_237.2.2.1 49 = .ok (.iload_n 2, 1) := by decide +kernel
theorem d_237_50 : decode M_237.2.2.1 50 = .ok (.if_icmp .eq 9, 3) := by decide +kernel
theorem d_237_53 : decode M_237.2.2.1 53 = .ok (.iinc 3 1, 3) := by decide +kernel
theorem d_237_56 : decode M_237.2.2.1 56 = .ok (.goto (-54), 3) := by decide +kernel
theorem d_237_59 : decode M_237.2.2.1 59 = .ok (.iload_n 3, 1) := by decide +kernel
theorem d_237_60 : decode M_237.2.2.1 60 = .ok (.ireturn, 1) := by decide +kernel
/-- HeardBarrelsModel.asPlaces(I)I -/
def M_238 : am_MT := (9, ⟨"HeardBarrelsModel", "asPlaces", "(I)I"⟩, prog_10_method_75_code, 4, some .int, false, 1, (0, 0))
theorem hM_238 : am_ms[238]? = some M_238 := rfl
theorem d_238_0 : decode M_238.2.2.1 0 = .ok (.iconst 0, 1) := by decide +kernel
theorem d_238_1 : decode M_238.2.2.1 1 = .ok (.istore_n 2, 1) := by decide +kernel
theorem d_238_2 : decode M_238.2.2.1 2 = .ok (.iconst 0, 1) := by decide +kernel
theorem d_238_3 : decode M_238.2.2.1 3 = .ok (.istore_n 3, 1) := by decide +kernel
theorem d_238_4 : decode M_238.2.2.1 4 = .ok (.iload_n 3, 1) := by decide +kernel
theorem d_238_5 : decode M_238.2.2.1 5 = .ok (.aload_n 0, 1) := by decide +kernel
theorem d_238_6 : decode M_238.2.2.1 6 = .ok (.getfield 281, 3) := by decide +kernel
theorem d_238_9 : decode M_238.2.2.1 9 = .ok (.if_icmp .ge 33, 3) := by decide +kernel
theorem d_238_12 : decode M_238.2.2.1 12 = .ok (.iload_n 2, 1) := by decide +kernel
theorem d_238_13 : decode M_238.2.2.1 13 = .ok (.iload_n 1, 1) := by decide +kernel
theorem d_238_14 : decode M_238.2.2.1 14 = .ok (.i2l, 1) := by decide +kernel
theorem d_238_15 : decode M_238.2.2.1 15 = .ok (.iload_n 3, 1) := by decide +kernel
theorem d_238_16 : decode M_238.2.2.1 16 = .ok (.invokestatic 183, 3) := by decide +kernel
theorem d_238_19 : decode M_238.2.2.1 19 = .ok (.ifCond .eq 14, 3) := by decide +kernel
theorem d_238_22 : decode M_238.2.2.1 22 = .ok (.iconst 1, 1) := by decide +kernel
theorem d_238_23 : decode M_238.2.2.1 23 = .ok (.aload_n 0, 1) := by decide +kernel
theorem d_238_24 : decode M_238.2.2.1 24 = .ok (.getfield 45, 3) := by decide +kernel
theorem d_238_27 : decode M_238.2.2.1 27 = .ok (.iload_n 3, 1) := by decide +kernel
theorem d_238_28 : decode M_238.2.2.1 28 = .ok (.iaload, 1) := by decide +kernel
theorem d_238_29 : decode M_238.2.2.1 29 = .ok (.ishl, 1) := by decide +kernel
theorem d_238_30 : decode M_238.2.2.1 30 = .ok (.goto 4, 3) := by decide +kernel
theorem d_238_33 : decode M_238.2.2.1 33 = .ok (.iconst 0, 1) := by decide +kernel
theorem d_238_34 : decode M_238.2.2.1 34 = .ok (.ior, 1) := by decide +kernel
theorem d_238_35 : decode M_238.2.2.1 35 = .ok (.istore_n 2, 1) := by decide +kernel
theorem d_238_36 : decode M_238.2.2.1 36 = .ok (.iinc 3 1, 3) := by decide +kernel
theorem d_238_39 : decode M_238.2.2.1 39 = .ok (.goto (-35), 3) := by decide +kernel
theorem d_238_42 : decode M_238.2.2.1 42 = .ok (.iload_n 2, 1) := by decide +kernel
theorem d_238_43 : decode M_238.2.2.1 43 = .ok (.ireturn, 1) := by decide +kernel
/-- HeardBarrelsModel.longest()I -/
def M_239 : am_MT := (9, ⟨"HeardBarrelsModel", "longest", "()I"⟩, prog_10_method_79_code, 5, some .int, false, 0, (0, 0))
theorem hM_239 : am_ms[239]? = some M_239 := rfl
theorem d_239_0 : decode M_239.2.2.1 0 = .ok (.aload_n 0, 1) := by decide +kernel
theorem d_239_1 : decode M_239.2.2.1 1 = .ok (.iconst 0, 1) := by decide +kernel
theorem d_239_2 : decode M_239.2.2.1 2 = .ok (.putfield 1, 3) := by decide +kernel
theorem d_239_5 : decode M_239.2.2.1 5 = .ok (.aload_n 0, 1) := by decide +kernel
theorem d_239_6 : decode M_239.2.2.1 6 = .ok (.invokevirtual 302, 3) := by decide +kernel
theorem d_239_9 : decode M_239.2.2.1 9 = .ok (.ifCond .ne 6, 3) := by decide +kernel
theorem d_239_12 : decode M_239.2.2.1 12 = .ok (.bipush (-4), 2) := by decide +kernel
theorem d_239_14 : decode M_239.2.2.1 14 = .ok (.ireturn, 1) := by decide +kernel
theorem d_239_15 : decode M_239.2.2.1 15 = .ok (.aload_n 0, 1) := by decide +kernel
theorem d_239_16 : decode M_239.2.2.1 16 = .ok (.invokevirtual 287, 3) := by decide +kernel
theorem d_239_19 : decode M_239.2.2.1 19 = .ok (.istore_n 1, 1) := by decide +kernel
theorem d_239_20 : decode M_239.2.2.1 20 = .ok (.iconst 0, 1) := by decide +kernel
theorem d_239_21 : decode M_239.2.2.1 21 = .ok (.istore_n 2, 1) := by decide +kernel
theorem d_239_22 : decode M_239.2.2.1 22 = .ok (.iload_n 2, 1) := by decide +kernel
theorem d_239_23 : decode M_239.2.2.1 23 = .ok (.bipush 30, 2) := by decide +kernel
theorem d_239_25 : decode M_239.2.2.1 25 = .ok (.if_icmp .ge 141, 3) := by decide +kernel
theorem d_239_28 : decode M_239.2.2.1 28 = .ok (.aload_n 0, 1) := by decide +kernel
theorem d_239_29 : decode M_239.2.2.1 29 = .ok (.invokevirtual 308, 3) := by decide +kernel
theorem d_239_32 : decode M_239.2.2.1 32 = .ok (.aload_n 0, 1) := by decide +kernel
theorem d_239_33 : decode M_239.2.2.1 33 = .ok (.iload_n 2, 1) := by decide +kernel
theorem d_239_34 : decode M_239.2.2.1 34 = .ok (.ifCond .ne 7, 3) := by decide +kernel
theorem d_239_37 : decode M_239.2.2.1 37 = .ok (.iconst 1, 1) := by decide +kernel
theorem d_239_38 : decode M_239.2.2.1 38 = .ok (.goto 4, 3) := by decide +kernel
theorem d_239_41 : decode M_239.2.2.1 41 = .ok (.iconst 0, 1) := by decide +kernel
theorem d_239_42 : decode M_239.2.2.1 42 = .ok (.invokevirtual 317, 3) := by decide +kernel
theorem d_239_45 : decode M_239.2.2.1 45 = .ok (.ifCond .ne 5, 3) := by decide +kernel
theorem d_239_48 : decode M_239.2.2.1 48 = .ok (.iload_n 2, 1) := by decide +kernel
theorem d_239_49 : decode M_239.2.2.1 49 = .ok (.ireturn, 1) := by decide +kernel
theorem d_239_50 : decode M_239.2.2.1 50 = .ok (.iconst 0, 1) := by decide +kernel
theorem d_239_51 : decode M_239.2.2.1 51 = .ok (.istore_n 3, 1) := by decide +kernel
theorem d_239_52 : decode M_239.2.2.1 52 = .ok (.iload_n 3, 1) := by decide +kernel
theorem d_239_53 : decode M_239.2.2.1 53 = .ok (.iload_n 1, 1) := by decide +kernel
theorem d_239_54 : decode M_239.2.2.1 54 = .ok (.if_icmp .ge 33, 3) := by decide +kernel
theorem d_239_57 : decode M_239.2.2.1 57 = .ok (.aload_n 0, 1) := by decide +kernel
theorem d_239_58 : decode M_239.2.2.1 58 = .ok (.iload_n 3, 1) := by decide +kernel
theorem d_239_59 : decode M_239.2.2.1 59 = .ok (.invokevirtual 290, 3) := by decide +kernel
theorem d_239_62 : decode M_239.2.2.1 62 = .ok (.aload_n 0, 1) := by decide +kernel
theorem d_239_63 : decode M_239.2.2.1 63 = .ok (.getfield 59, 3) := by decide +kernel
theorem d_239_66 : decode M_239.2.2.1 66 = .ok (.iload_n 3, 1) := by decide +kernel
theorem d_239_67 : decode M_239.2.2.1 67 = .ok (.aload_n 0, 1) := by decide +kernel
theorem d_239_68 : decode M_239.2.2.1 68 = .ok (.iload_n 2, 1) := by decide +kernel
theorem d_239_69 : decode M_239.2.2.1 69 = .ok (.ifCond .ne 7, 3) := by decide +kernel
theorem d_239_72 : decode M_239.2.2.1 72 = .ok (.iconst 1, 1) := by decide +kernel
theorem d_239_73 : decode M_239.2.2.1 73 = .ok (.goto 4, 3) := by decide +kernel
theorem d_239_76 : decode M_239.2.2.1 76 = .ok (.iconst 0, 1) := by decide +kernel
theorem d_239_77 : decode M_239.2.2.1 77 = .ok (.invokevirtual 317, 3) := by decide +kernel
theorem d_239_80 : decode M_239.2.2.1 80 = .ok (.bastore, 1) := by decide +kernel
theorem d_239_81 : decode M_239.2.2.1 81 = .ok (.iinc 3 1, 3) := by decide +kernel
theorem d_239_84 : decode M_239.2.2.1 84 = .ok (.goto (-32), 3) := by decide +kernel
theorem d_239_87 : decode M_239.2.2.1 87 = .ok (.iload_n 2, 1) := by decide +kernel
theorem d_239_88 : decode M_239.2.2.1 88 = .ok (.ifCond .le 7, 3) := by decide +kernel
theorem d_239_91 : decode M_239.2.2.1 91 = .ok (.iconst 1, 1) := by decide +kernel
theorem d_239_92 : decode M_239.2.2.1 92 = .ok (.goto 4, 3) := by decide +kernel
theorem d_239_95 : decode M_239.2.2.1 95 = .ok (.iconst 0, 1) := by decide +kernel
theorem d_239_96 : decode M_239.2.2.1 96 = .ok (.istore_n 3, 1) := by decide +kernel
theorem d_239_97 : decode M_239.2.2.1 97 = .ok (.iconst 0, 1) := by decide +kernel
theorem d_239_98 : decode M_239.2.2.1 98 = .ok (.istore 4, 2) := by decide +kernel
theorem d_239_100 : decode M_239.2.2.1 100 = .ok (.iload 4, 2) := by decide +kernel
theorem d_239_102 : decode M_239.2.2.1 102 = .ok (.iload_n 1, 1) := by decide +kernel
theorem d_239_103 : decode M_239.2.2.1 103 = .ok (.if_icmp .ge 50, 3) := by decide +kernel
theorem d_239_106 : decode M_239.2.2.1 106 = .ok (.iload_n 3, 1) := by decide +kernel
theorem d_239_107 : decode M_239.2.2.1 107 = .ok (.ifCond .eq 24, 3) := by decide +kernel
theorem d_239_110 : decode M_239.2.2.1 110 = .ok (.aload_n 0, 1) := by decide +kernel
theorem d_239_111 : decode M_239.2.2.1 111 = .ok (.getfield 59, 3) := by decide +kernel
theorem d_239_114 : decode M_239.2.2.1 114 = .ok (.iload 4, 2) := by decide +kernel
theorem d_239_116 : decode M_239.2.2.1 116 = .ok (.baload, 1) := by decide +kernel
theorem d_239_117 : decode M_239.2.2.1 117 = .ok (.aload_n 0, 1) := by decide +kernel
theorem d_239_118 : decode M_239.2.2.1 118 = .ok (.getfield 62, 3) := by decide +kernel
theorem d_239_121 : decode M_239.2.2.1 121 = .ok (.iload 4, 2) := by decide +kernel
theorem d_239_123 : decode M_239.2.2.1 123 = .ok (.baload, 1) := by decide +kernel
theorem d_239_124 : decode M_239.2.2.1 124 = .ok (.if_icmp .ne 7, 3) := by decide +kernel
theorem d_239_127 : decode M_239.2.2.1 127 = .ok (.iconst 1, 1) := by decide +kernel
theorem d_239_128 : decode M_239.2.2.1 128 = .ok (.goto 4, 3) := by decide +kernel
theorem d_239_131 : decode M_239.2.2.1 131 = .ok (.iconst 0, 1) := by decide +kernel
theorem d_239_132 : decode M_239.2.2.1 132 = .ok (.istore_n 3, 1) := by decide +kernel
theorem d_239_133 : decode M_239.2.2.1 133 = .ok (.aload_n 0, 1) := by decide +kernel
theorem d_239_134 : decode M_239.2.2.1 134 = .ok (.getfield 62, 3) := by decide +kernel
theorem d_239_137 : decode M_239.2.2.1 137 = .ok (.iload 4, 2) := by decide +kernel
theorem d_239_139 : decode M_239.2.2.1 139 = .ok (.aload_n 0, 1) := by decide +kernel
theorem d_239_140 : decode M_239.2.2.1 140 = .ok (.getfield 59, 3) := by decide +kernel
theorem d_239_143 : decode M_239.2.2.1 143 = .ok (.iload 4, 2) := by decide +kernel
theorem d_239_145 : decode M_239.2.2.1 145 = .ok (.baload, 1) := by decide +kernel
theorem d_239_146 : decode M_239.2.2.1 146 = .ok (.bastore, 1) := by decide +kernel
theorem d_239_147 : decode M_239.2.2.1 147 = .ok (.iinc 4 1, 3) := by decide +kernel
theorem d_239_150 : decode M_239.2.2.1 150 = .ok (.goto (-50), 3) := by decide +kernel
theorem d_239_153 : decode M_239.2.2.1 153 = .ok (.iload_n 3, 1) := by decide +kernel
theorem d_239_154 : decode M_239.2.2.1 154 = .ok (.ifCond .eq 6, 3) := by decide +kernel
theorem d_239_157 : decode M_239.2.2.1 157 = .ok (.bipush 30, 2) := by decide +kernel
theorem d_239_159 : decode M_239.2.2.1 159 = .ok (.ireturn, 1) := by decide +kernel
theorem d_239_160 : decode M_239.2.2.1 160 = .ok (.iinc 2 1, 3) := by decide +kernel
theorem d_239_163 : decode M_239.2.2.1 163 = .ok (.goto (-141), 3) := by decide +kernel
theorem d_239_166 : decode M_239.2.2.1 166 = .ok (.bipush 30, 2) := by decide +kernel
theorem d_239_168 : decode M_239.2.2.1 168 = .ok (.ireturn, 1) := by decide +kernel
/-- HeardBarrelsModel.canGo(Z)Z -/
def M_240 : am_MT := (9, ⟨"HeardBarrelsModel", "canGo", "(Z)Z"⟩, prog_10_method_78_code, 4, some .boolean, false, 1, (0, 0))
set_option maxRecDepth 8000 in
theorem hM_240 : am_ms[240]? = some M_240 := rfl
theorem d_240_0 : decode M_240.2.2.1 0 = .ok (.aload_n 0, 1) := by decide +kernel
theorem d_240_1 : decode M_240.2.2.1 1 = .ok (.getfield 13, 3) := by decide +kernel
theorem d_240_4 : decode M_240.2.2.1 4 = .ok (.iconst 4, 1) := by decide +kernel
theorem d_240_5 : decode M_240.2.2.1 5 = .ok (.iaload, 1) := by decide +kernel
theorem d_240_6 : decode M_240.2.2.1 6 = .ok (.aload_n 0, 1) := by decide +kernel
theorem d_240_7 : decode M_240.2.2.1 7 = .ok (.getfield 281, 3) := by decide +kernel
theorem d_240_10 : decode M_240.2.2.1 10 = .ok (.if_icmp .ge 12, 3) := by decide +kernel
theorem d_240_13 : decode M_240.2.2.1 13 = .ok (.aload_n 0, 1) := by decide +kernel
theorem d_240_14 : decode M_240.2.2.1 14 = .ok (.getfield 13, 3) := by decide +kernel
theorem d_240_17 : decode M_240.2.2.1 17 = .ok (.iconst 4, 1) := by decide +kernel
theorem d_240_18 : decode M_240.2.2.1 18 = .ok (.iaload, 1) := by decide +kernel
theorem d_240_19 : decode M_240.2.2.1 19 = .ok (.goto 7, 3) := by decide +kernel
theorem d_240_22 : decode M_240.2.2.1 22 = .ok (.aload_n 0, 1) := by decide +kernel
theorem d_240_23 : decode M_240.2.2.1 23 = .ok (.getfield 281, 3) := by decide +kernel
theorem d_240_26 : decode M_240.2.2.1 26 = .ok (.istore_n 2, 1) := by decide +kernel
theorem d_240_27 : decode M_240.2.2.1 27 = .ok (.iconst 0, 1) := by decide +kernel
theorem d_240_28 : decode M_240.2.2.1 28 = .ok (.istore_n 3, 1) := by decide +kernel
theorem d_240_29 : decode M_240.2.2.1 29 = .ok (.iload_n 3, 1) := by decide +kernel
theorem d_240_30 : decode M_240.2.2.1 30 = .ok (.iconst 1, 1) := by decide +kernel
theorem d_240_31 : decode M_240.2.2.1 31 = .ok (.aload_n 0, 1) := by decide +kernel
theorem d_240_32 : decode M_240.2.2.1 32 = .ok (.getfield 281, 3) := by decide +kernel
theorem d_240_35 : decode M_240.2.2.1 35 = .ok (.ishl, 1) := by decide +kernel
theorem d_240_36 : decode M_240.2.2.1 36 = .ok (.if_icmp .ge 46, 3) := by decide +kernel
theorem d_240_39 : decode M_240.2.2.1 39 = .ok (.iload_n 3, 1) := by decide +kernel
theorem d_240_40 : decode M_240.2.2.1 40 = .ok (.i2l, 1) := by decide +kernel
theorem d_240_41 : decode M_240.2.2.1 41 = .ok (.invokestatic 209, 3) := by decide +kernel
theorem d_240_44 : decode M_240.2.2.1 44 = .ok (.iload_n 2, 1) := by decide +kernel
theorem d_240_45 : decode M_240.2.2.1 45 = .ok (.if_icmp .ne 31, 3) := by decide +kernel
theorem d_240_48 : decode M_240.2.2.1 48 = .ok (.aload_n 0, 1) := by decide +kernel
theorem d_240_49 : decode M_240.2.2.1 49 = .ok (.iload_n 3, 1) := by decide +kernel
theorem d_240_50 : decode M_240.2.2.1 50 = .ok (.invokevirtual 284, 3) := by decide +kernel
theorem d_240_53 : decode M_240.2.2.1 53 = .ok (.iconst (-1), 1) := by decide +kernel
theorem d_240_54 : decode M_240.2.2.1 54 = .ok (.if_icmp .eq 22, 3) := by decide +kernel
theorem d_240_57 : decode M_240.2.2.1 57 = .ok (.iload_n 1, 1) := by decide +kernel
theorem d_240_58 : decode M_240.2.2.1 58 = .ok (.ifCond .ne 16, 3) := by decide +kernel
theorem d_240_61 : decode M_240.2.2.1 61 = .ok (.aload_n 0, 1) := by decide +kernel
theorem d_240_62 : decode M_240.2.2.1 62 = .ok (.getfield 62, 3) := by decide +kernel
theorem d_240_65 : decode M_240.2.2.1 65 = .ok (.aload_n 0, 1) := by decide +kernel
theorem d_240_66 : decode M_240.2.2.1 66 = .ok (.iload_n 3, 1) := by decide +kernel
theorem d_240_67 : decode M_240.2.2.1 67 = .ok (.invokevirtual 284, 3) := by decide +kernel
theorem d_240_70 : decode M_240.2.2.1 70 = .ok (.baload, 1) := by decide +kernel
theorem d_240_71 : decode M_240.2.2.1 71 = .ok (.ifCond .eq 5, 3) := by decide +kernel
theorem d_240_74 : decode M_240.2.2.1 74 = .ok (.iconst 1, 1) := by decide +kernel
theorem d_240_75 : decode M_240.2.2.1 75 = .ok (.ireturn, 1) := by decide +kernel
theorem d_240_76 : decode M_240.2.2.1 76 = .ok (.iinc 3 1, 3) := by decide +kernel
theorem d_240_79 : decode M_240.2.2.1 79 = .ok (.goto (-50), 3) := by decide +kernel
theorem d_240_82 : decode M_240.2.2.1 82 = .ok (.iconst 0, 1) := by decide +kernel
theorem d_240_83 : decode M_240.2.2.1 83 = .ok (.ireturn, 1) := by decide +kernel
/-- HeardBarrelsModel.ripeIn(I)I -/
def M_241 : am_MT := (9, ⟨"HeardBarrelsModel", "ripeIn", "(I)I"⟩, prog_10_method_81_code, 2, some .int, false, 1, (0, 0))
set_option maxRecDepth 8000 in
theorem hM_241 : am_ms[241]? = some M_241 := rfl
theorem d_241_0 : decode M_241.2.2.1 0 = .ok (.aload_n 0, 1) := by decide +kernel
theorem d_241_1 : decode M_241.2.2.1 1 = .ok (.iconst 0, 1) := by decide +kernel
theorem d_241_2 : decode M_241.2.2.1 2 = .ok (.putfield 1, 3) := by decide +kernel
theorem d_241_5 : decode M_241.2.2.1 5 = .ok (.aload_n 0, 1) := by decide +kernel
theorem d_241_6 : decode M_241.2.2.1 6 = .ok (.iload_n 1, 1) := by decide +kernel
theorem d_241_7 : decode M_241.2.2.1 7 = .ok (.i2l, 1) := by decide +kernel
theorem d_241_8 : decode M_241.2.2.1 8 = .ok (.invokevirtual 179, 3) := by decide +kernel
theorem d_241_11 : decode M_241.2.2.1 11 = .ok (.ifCond .ne 6, 3) := by decide +kernel
theorem d_241_14 : decode M_241.2.2.1 14 = .ok (.bipush (-2), 2) := by decide +kernel
theorem d_241_16 : decode M_241.2.2.1 16 = .ok (.ireturn, 1) := by decide +kernel
theorem d_241_17 : decode M_241.2.2.1 17 = .ok (.aload_n 0, 1) := by decide +kernel
theorem d_241_18 : decode M_241.2.2.1 18 = .ok (.iload_n 1, 1) := by decide +kernel
theorem d_241_19 : decode M_241.2.2.1 19 = .ok (.iconst 0, 1) := by decide +kernel
theorem d_241_20 : decode M_241.2.2.1 20 = .ok (.invokevirtual 196, 3) := by decide +kernel
theorem d_241_23 : decode M_241.2.2.1 23 = .ok (.ifCond .eq 11, 3) := by decide +kernel
theorem d_241_26 : decode M_241.2.2.1 26 = .ok (.aload_n 0, 1) := by decide +kernel
theorem d_241_27 : decode M_241.2.2.1 27 = .ok (.iload_n 1, 1) := by decide +kernel
theorem d_241_28 : decode M_241.2.2.1 28 = .ok (.invokevirtual 321, 3) := by decide +kernel
theorem d_241_31 : decode M_241.2.2.1 31 = .ok (.goto 4, 3) := by decide +kernel
theorem d_241_34 : decode M_241.2.2.1 34 = .ok (.iconst (-1), 1) := by decide +kernel
theorem d_241_35 : decode M_241.2.2.1 35 = .ok (.ireturn, 1) := by decide +kernel
/-- HeardBarrelsModel.ripeInOf(I)I -/
def M_242 : am_MT := (9, ⟨"HeardBarrelsModel", "ripeInOf", "(I)I"⟩, prog_10_method_80_code, 4, some .int, false, 1, (0, 0))
set_option maxRecDepth 8000 in
theorem hM_242 : am_ms[242]? = some M_242 := rfl
theorem d_242_0 : decode M_242.2.2.1 0 = .ok (.bipush 100, 2) := by decide +kernel
theorem d_242_2 : decode M_242.2.2.1 2 = .ok (.aload_n 0, 1) := by decide +kernel
theorem d_242_3 : decode M_242.2.2.1 3 = .ok (.getfield 13, 3) := by decide +kernel
theorem d_242_6 : decode M_242.2.2.1 6 = .ok (.bipush 32, 2) := by decide +kernel
theorem d_242_8 : decode M_242.2.2.1 8 = .ok (.iload_n 1, 1) := by decide +kernel
theorem d_242_9 : decode M_242.2.2.1 9 = .ok (.iadd, 1) := by decide +kernel
theorem d_242_10 : decode M_242.2.2.1 10 = .ok (.iaload, 1) := by decide +kernel
theorem d_242_11 : decode M_242.2.2.1 11 = .ok (.isub, 1) := by decide +kernel
theorem d_242_12 : decode M_242.2.2.1 12 = .ok (.istore_n 2, 1) := by decide +kernel
theorem d_242_13 : decode M_242.2.2.1 13 = .ok (.iconst 2, 1) := by decide +kernel
theorem d_242_14 : decode M_242.2.2.1 14 = .ok (.aload_n 0, 1) := by decide +kernel
theorem d_242_15 : decode M_242.2.2.1 15 = .ok (.getfield 13, 3) := by decide +kernel
theorem d_242_18 : decode M_242.2.2.1 18 = .ok (.bipush 20, 2) := by decide +kernel
theorem d_242_20 : decode M_242.2.2.1 20 = .ok (.iload_n 1, 1) := by decide +kernel
theorem d_242_21 : decode M_242.2.2.1 21 = .ok (.iadd, 1) := by decide +kernel
theorem d_242_22 : decode M_242.2.2.1 22 = .ok (.iaload, 1) := by decide +kernel
theorem d_242_23 : decode M_242.2.2.1 23 = .ok (.imul, 1) := by decide +kernel
theorem d_242_24 : decode M_242.2.2.1 24 = .ok (.istore_n 3, 1) := by decide +kernel
theorem d_242_25 : decode M_242.2.2.1 25 = .ok (.iload_n 2, 1) := by decide +kernel
theorem d_242_26 : decode M_242.2.2.1 26 = .ok (.iload_n 3, 1) := by decide +kernel
theorem d_242_27 : decode M_242.2.2.1 27 = .ok (.iadd, 1) := by decide +kernel
theorem d_242_28 : decode M_242.2.2.1 28 = .ok (.iconst 1, 1) := by decide +kernel
theorem d_242_29 : decode M_242.2.2.1 29 = .ok (.isub, 1) := by decide +kernel
theorem d_242_30 : decode M_242.2.2.1 30 = .ok (.iload_n 3, 1) := by decide +kernel
theorem d_242_31 : decode M_242.2.2.1 31 = .ok (.idiv, 1) := by decide +kernel
theorem d_242_32 : decode M_242.2.2.1 32 = .ok (.ireturn, 1) := by decide +kernel
/-- HeardBarrelsModel.ripeBy(II)I -/
def M_243 : am_MT := (9, ⟨"HeardBarrelsModel", "ripeBy", "(II)I"⟩, prog_10_method_83_code, 6, some .int, false, 2, (0, 0))
set_option maxRecDepth 8000 in
theorem hM_243 : am_ms[243]? = some M_243 := rfl
theorem d_243_0 : decode M_243.2.2.1 0 = .ok (.aload_n 0, 1) := by decide +kernel
theorem d_243_1 : decode M_243.2.2.1 1 = .ok (.iconst 0, 1) := by decide +kernel
theorem d_243_2 : decode M_243.2.2.1 2 = .ok (.putfield 1, 3) := by decide +kernel
theorem d_243_5 : decode M_243.2.2.1 5 = .ok (.iload_n 2, 1) := by decide +kernel
theorem d_243_6 : decode M_243.2.2.1 6 = .ok (.i2l, 1) := by decide +kernel
theorem d_243_7 : decode M_243.2.2.1 7 = .ok (.lconst 0, 1) := by decide +kernel
theorem d_243_8 : decode M_243.2.2.1 8 = .ok (.ldc2_w 324, 3) := by decide +kernel
theorem d_243_11 : decode M_243.2.2.1 11 = .ok (.invokestatic 152, 3) := by decide +kernel
theorem d_243_14 : decode M_243.2.2.1 14 = .ok (.ifCond .ne 6, 3) := by decide +kernel
theorem d_243_17 : decode M_243.2.2.1 17 = .ok (.bipush (-2), 2) := by decide +kernel
theorem d_243_19 : decode M_243.2.2.1 19 = .ok (.ireturn, 1) := by decide +kernel
theorem d_243_20 : decode M_243.2.2.1 20 = .ok (.iload_n 1, 1) := by decide +kernel
theorem d_243_21 : decode M_243.2.2.1 21 = .ok (.i2l, 1) := by decide +kernel
theorem d_243_22 : decode M_243.2.2.1 22 = .ok (.lconst 1, 1) := by decide +kernel
theorem d_243_23 : decode M_243.2.2.1 23 = .ok (.ldc2_w 326, 3) := by decide +kernel
theorem d_243_26 : decode M_243.2.2.1 26 = .ok (.invokestatic 152, 3) := by decide +kernel
theorem d_243_29 : decode M_243.2.2.1 29 = .ok (.ifCond .ne 6, 3) := by decide +kernel
theorem d_243_32 : decode M_243.2.2.1 32 = .ok (.bipush (-3), 2) := by decide +kernel
theorem d_243_34 : decode M_243.2.2.1 34 = .ok (.ireturn, 1) := by decide +kernel
theorem d_243_35 : decode M_243.2.2.1 35 = .ok (.iconst 0, 1) := by decide +kernel
theorem d_243_36 : decode M_243.2.2.1 36 = .ok (.istore_n 3, 1) := by decide +kernel
theorem d_243_37 : decode M_243.2.2.1 37 = .ok (.iconst 0, 1) := by decide +kernel
theorem d_243_38 : decode M_243.2.2.1 38 = .ok (.istore 4, 2) := by decide +kernel
theorem d_243_40 : decode M_243.2.2.1 40 = .ok (.iload 4, 2) := by decide +kernel
theorem d_243_42 : decode M_243.2.2.1 42 = .ok (.aload_n 0, 1) := by decide +kernel
theorem d_243_43 : decode M_243.2.2.1 43 = .ok (.getfield 13, 3) := by decide +kernel
theorem d_243_46 : decode M_243.2.2.1 46 = .ok (.iconst 0, 1) := by decide +kernel
theorem d_243_47 : decode M_243.2.2.1 47 = .ok (.iaload, 1) := by decide +kernel
theorem d_243_48 : decode M_243.2.2.1 48 = .ok (.if_icmp .ge 104, 3) := by decide +kernel
theorem d_243_51 : decode M_243.2.2.1 51 = .ok (.aload_n 0, 1) := by decide +kernel
theorem d_243_52 : decode M_243.2.2.1 52 = .ok (.iload 4, 2) := by decide +kernel
theorem d_243_54 : decode M_243.2.2.1 54 = .ok (.iconst 0, 1) := by decide +kernel
theorem d_243_55 : decode M_243.2.2.1 55 = .ok (.invokevirtual 196, 3) := by decide +kernel
theorem d_243_58 : decode M_243.2.2.1 58 = .ok (.ifCond .ne 6, 3) := by decide +kernel
theorem d_243_61 : decode M_243.2.2.1 61 = .ok (.goto 85, 3) := by decide +kernel
theorem d_243_64 : decode M_243.2.2.1 64 = .ok (.bipush 100, 2) := by decide +kernel
theorem d_243_66 : decode M_243.2.2.1 66 = .ok (.aload_n 0, 1) := by decide +kernel
theorem d_243_67 : decode M_243.2.2.1 67 = .ok (.getfield 13, 3) := by decide +kernel
theorem d_243_70 : decode M_243.2.2.1 70 = .ok (.bipush 32, 2) := by decide +kernel
theorem d_243_72 : decode M_243.2.2.1 72 = .ok (.iload 4, 2) := by decide +kernel
theorem d_243_74 : decode M_243.2.2.1 74 = .ok (.iadd, 1) := by decide +kernel
theorem d_243_75 : decode M_243.2.2.1 75 = .ok (.iaload, 1) := by decide +kernel
theorem d_243_76 : decode M_243.2.2.1 76 = .ok (.isub, 1) := by decide +kernel
theorem d_243_77 : decode M_243.2.2.1 77 = .ok (.aload_n 0, 1) := by decide +kernel
theorem d_243_78 : decode M_243.2.2.1 78 = .ok (.getfield 13, 3) := by decide +kernel
theorem d_243_81 : decode M_243.2.2.1 81 = .ok (.bipush 20, 2) := by decide +kernel
theorem d_243_83 : decode M_243.2.2.1 83 = .ok (.iload 4, 2) := by decide +kernel
theorem d_243_85 : decode M_243.2.2.1 85 = .ok (.iadd, 1) := by decide +kernel
theorem d_243_86 : decode M_243.2.2.1 86 = .ok (.iaload, 1) := by decide +kernel
theorem d_243_87 : decode M_243.2.2.1 87 = .ok (.iadd, 1) := by decide +kernel
theorem d_243_88 : decode M_243.2.2.1 88 = .ok (.iconst 1, 1) := by decide +kernel
theorem d_243_89 : decode M_243.2.2.1 89 = .ok (.isub, 1) := by decide +kernel
theorem d_243_90 : decode M_243.2.2.1 90 = .ok (.aload_n 0, 1) := by decide +kernel
theorem d_243_91 : decode M_243.2.2.1 91 = .ok (.getfield 13, 3) := by decide +kernel
theorem d_243_94 : decode M_243.2.2.1 94 = .ok (.bipush 20, 2) := by decide +kernel
theorem d_243_96 : decode M_243.2.2.1 96 = .ok (.iload 4, 2) := by decide +kernel
theorem d_243_98 : decode M_243.2.2.1 98 = .ok (.iadd, 1) := by decide +kernel
theorem d_243_99 : decode M_243.2.2.1 99 = .ok (.iaload, 1) := by decide +kernel
theorem d_243_100 : decode M_243.2.2.1 100 = .ok (.idiv, 1) := by decide +kernel
theorem d_243_101 : decode M_243.2.2.1 101 = .ok (.istore 5, 2) := by decide +kernel
theorem d_243_103 : decode M_243.2.2.1 103 = .ok (.aload_n 0, 1) := by decide +kernel
theorem d_243_104 : decode M_243.2.2.1 104 = .ok (.getfield 65, 3) := by decide +kernel
theorem d_243_107 : decode M_243.2.2.1 107 = .ok (.iload 4, 2) := by decide +kernel
theorem d_243_109 : decode M_243.2.2.1 109 = .ok (.iload 5, 2) := by decide +kernel
theorem d_243_111 : decode M_243.2.2.1 111 = .ok (.iload_n 1, 1) := by decide +kernel
theorem d_243_112 : decode M_243.2.2.1 112 = .ok (.if_icmp .le 10, 3) := by decide +kernel
theorem d_243_115 : decode M_243.2.2.1 115 = .ok (.iload 5, 2) := by decide +kernel
theorem d_243_117 : decode M_243.2.2.1 117 = .ok (.iload_n 1, 1) := by decide +kernel
theorem d_243_118 : decode M_243.2.2.1 118 = .ok (.isub, 1) := by decide +kernel
theorem d_243_119 : decode M_243.2.2.1 119 = .ok (.goto 4, 3) := by decide +kernel
theorem d_243_122 : decode M_243.2.2.1 122 = .ok (.iconst 0, 1) := by decide +kernel
theorem d_243_123 : decode M_243.2.2.1 123 = .ok (.iastore, 1) := by decide +kernel
theorem d_243_124 : decode M_243.2.2.1 124 = .ok (.iload_n 3, 1) := by decide +kernel
theorem d_243_125 : decode M_243.2.2.1 125 = .ok (.aload_n 0, 1) := by decide +kernel
theorem d_243_126 : decode M_243.2.2.1 126 = .ok (.getfield 65, 3) := by decide +kernel
theorem d_243_129 : decode M_243.2.2.1 129 = .ok (.iload 4, 2) := by decide +kernel
theorem d_243_131 : decode M_243.2.2.1 131 = .ok (.iaload, 1) := by decide +kernel
theorem d_243_132 : decode M_243.2.2.1 132 = .ok (.iload_n 1, 1) := by decide +kernel
theorem d_243_133 : decode M_243.2.2.1 133 = .ok (.if_icmp .gt 10, 3) := by decide +kernel
theorem d_243_136 : decode M_243.2.2.1 136 = .ok (.iconst 1, 1) := by decide +kernel
theorem d_243_137 : decode M_243.2.2.1 137 = .ok (.iload 4, 2) := by decide +kernel
theorem d_243_139 : decode M_243.2.2.1 139 = .ok (.ishl, 1) := by decide +kernel
theorem d_243_140 : decode M_243.2.2.1 140 = .ok (.goto 4, 3) := by decide +kernel
theorem d_243_143 : decode M_243.2.2.1 143 = .ok (.iconst 0, 1) := by decide +kernel
theorem d_243_144 : decode M_243.2.2.1 144 = .ok (.ior, 1) := by decide +kernel
theorem d_243_145 : decode M_243.2.2.1 145 = .ok (.istore_n 3, 1) := by decide +kernel
theorem d_243_146 : decode M_243.2.2.1 146 = .ok (.iinc 4 1, 3) := by decide +kernel
theorem d_243_149 : decode M_243.2.2.1 149 = .ok (.goto (-109), 3) := by decide +kernel
theorem d_243_152 : decode M_243.2.2.1 152 = .ok (.iconst 0, 1) := by decide +kernel
theorem d_243_153 : decode M_243.2.2.1 153 = .ok (.istore 4, 2) := by decide +kernel
theorem d_243_155 : decode M_243.2.2.1 155 = .ok (.iconst 1, 1) := by decide +kernel
theorem d_243_156 : decode M_243.2.2.1 156 = .ok (.istore 5, 2) := by decide +kernel
theorem d_243_158 : decode M_243.2.2.1 158 = .ok (.iload 5, 2) := by decide +kernel
theorem d_243_160 : decode M_243.2.2.1 160 = .ok (.iload_n 3, 1) := by decide +kernel
theorem d_243_161 : decode M_243.2.2.1 161 = .ok (.if_icmp .gt 87, 3) := by decide +kernel
theorem d_243_164 : decode M_243.2.2.1 164 = .ok (.iload 5, 2) := by decide +kernel
theorem d_243_166 : decode M_243.2.2.1 166 = .ok (.iload_n 3, 1) := by decide +kernel
theorem d_243_167 : decode M_243.2.2.1 167 = .ok (.iconst (-1), 1) := by decide +kernel
theorem d_243_168 : decode M_243.2.2.1 168 = .ok (.ixor, 1) := by decide +kernel
theorem d_243_169 : decode M_243.2.2.1 169 = .ok (.iand, 1) := by decide +kernel
theorem d_243_170 : decode M_243.2.2.1 170 = .ok (.ifCond .ne 72, 3) := by decide +kernel
theorem d_243_173 : decode M_243.2.2.1 173 = .ok (.aload_n 0, 1) := by decide +kernel
theorem d_243_174 : decode M_243.2.2.1 174 = .ok (.iload 5, 2) := by decide +kernel
theorem d_243_176 : decode M_243.2.2.1 176 = .ok (.invokevirtual 328, 3) := by decide +kernel
theorem d_243_179 : decode M_243.2.2.1 179 = .ok (.aload_n 0, 1) := by decide +kernel
theorem d_243_180 : decode M_243.2.2.1 180 = .ok (.getfield 13, 3) := by decide +kernel
theorem d_243_183 : decode M_243.2.2.1 183 = .ok (.iconst 4, 1) := by decide +kernel
theorem d_243_184 : decode M_243.2.2.1 184 = .ok (.iaload, 1) := by decide +kernel
theorem d_243_185 : decode M_243.2.2.1 185 = .ok (.iload_n 1, 1) := by decide +kernel
theorem d_243_186 : decode M_243.2.2.1 186 = .ok (.imul, 1) := by decide +kernel
theorem d_243_187 : decode M_243.2.2.1 187 = .ok (.if_icmp .le 6, 3) := by decide +kernel
theorem d_243_190 : decode M_243.2.2.1 190 = .ok (.goto 52, 3) := by decide +kernel
theorem d_243_193 : decode M_243.2.2.1 193 = .ok (.iload 5, 2) := by decide +kernel
theorem d_243_195 : decode M_243.2.2.1 195 = .ok (.i2l, 1) := by decide +kernel
theorem d_243_196 : decode M_243.2.2.1 196 = .ok (.invokestatic 209, 3) := by decide +kernel
theorem d_243_199 : decode M_243.2.2.1 199 = .ok (.iload 4, 2) := by decide +kernel
theorem d_243_201 : decode M_243.2.2.1 201 = .ok (.i2l, 1) := by decide +kernel
theorem d_243_202 : decode M_243.2.2.1 202 = .ok (.invokestatic 209, 3) := by decide +kernel
theorem d_243_205 : decode M_243.2.2.1 205 = .ok (.if_icmp .gt 33, 3) := by decide +kernel
theorem d_243_208 : decode M_243.2.2.1 208 = .ok (.iload 5, 2) := by decide +kernel
theorem d_243_210 : decode M_243.2.2.1 210 = .ok (.i2l, 1) := by decide +kernel
theorem d_243_211 : decode M_243.2.2.1 211 = .ok (.invokestatic 209, 3) := by decide +kernel
theorem d_243_214 : decode M_243.2.2.1 214 = .ok (.iload 4, 2) := by decide +kernel
theorem d_243_216 : decode M_243.2.2.1 216 = .ok (.i2l, 1) := by decide +kernel
theorem d_243_217 : decode M_243.2.2.1 217 = .ok (.invokestatic 209, 3) := by decide +kernel
theorem d_243_220 : decode M_243.2.2.1 220 = .ok (.if_icmp .ne 22, 3) := by decide +kernel
theorem d_243_223 : decode M_243.2.2.1 223 = .ok (.aload_n 0, 1) := by decide +kernel
theorem d_243_224 : decode M_243.2.2.1 224 = .ok (.iload 5, 2) := by decide +kernel
theorem d_243_226 : decode M_243.2.2.1 226 = .ok (.invokevirtual 328, 3) := by decide +kernel
theorem d_243_229 : decode M_243.2.2.1 229 = .ok (.aload_n 0, 1) := by decide +kernel
theorem d_243_230 : decode M_243.2.2.1 230 = .ok (.iload 4, 2) := by decide +kernel
theorem d_243_232 : decode M_243.2.2.1 232 = .ok (.invokevirtual 328, 3) := by decide +kernel
theorem d_243_235 : decode M_243.2.2.1 235 = .ok (.if_icmp .ge 7, 3) := by decide +kernel
theorem d_243_238 : decode M_243.2.2.1 238 = .ok (.iload 5, 2) := by decide +kernel
theorem d_243_240 : decode M_243.2.2.1 240 = .ok (.istore 4, 2) := by decide +kernel
theorem d_243_242 : decode M_243.2.2.1 242 = .ok (.iinc 5 1, 3) := by decide +kernel
theorem d_243_245 : decode M_243.2.2.1 245 = .ok (.goto (-87), 3) := by decide +kernel
theorem d_243_248 : decode M_243.2.2.1 248 = .ok (.iload_n 2, 1) := by decide +kernel
theorem d_243_249 : decode M_243.2.2.1 249 = .ok (.ifCond .ne 12, 3) := by decide +kernel
theorem d_243_252 : decode M_243.2.2.1 252 = .ok (.iload 4, 2) := by decide +kernel
theorem d_243_254 : decode M_243.2.2.1 254 = .ok (.i2l, 1) := by decide +kernel
theorem d_243_255 : decode M_243.2.2.1 255 = .ok (.invokestatic 209, 3) := by decide +kernel
theorem d_243_258 : decode M_243.2.2.1 258 = .ok (.goto 19, 3) := by decide +kernel
theorem d_243_261 : decode M_243.2.2.1 261 = .ok (.iload_n 2, 1) := by decide +kernel
theorem d_243_262 : decode M_243.2.2.1 262 = .ok (.iconst 1, 1) := by decide +kernel
theorem d_243_263 : decode M_243.2.2.1 263 = .ok (.if_icmp .ne 12, 3) := by decide +kernel
theorem d_243_266 : decode M_243.2.2.1 266 = .ok (.aload_n 0, 1) := by decide +kernel
theorem d_243_267 : decode M_243.2.2.1 267 = .ok (.iload 4, 2) := by decide +kernel
theorem d_243_269 : decode M_243.2.2.1 269 = .ok (.invokevirtual 328, 3) := by decide +kernel
theorem d_243_272 : decode M_243.2.2.1 272 = .ok (.goto 5, 3) := by decide +kernel
theorem d_243_275 : decode M_243.2.2.1 275 = .ok (.iload 4, 2) := by decide +kernel
theorem d_243_277 : decode M_243.2.2.1 277 = .ok (.ireturn, 1) := by decide +kernel
/-- HeardBarrelsModel.turnsOf(I)I -/
def M_244 : am_MT := (9, ⟨"HeardBarrelsModel", "turnsOf", "(I)I"⟩, prog_10_method_82_code, 4, some .int, false, 1, (0, 0))
set_option maxRecDepth 8000 in
theorem hM_244 : am_ms[244]? = some M_244 := rfl
theorem d_244_0 : decode M_244.2.2.1 0 = .ok (.iconst 0, 1) := by decide +kernel
theorem d_244_1 : decode M_244.2.2.1 1 = .ok (.istore_n 2, 1) := by decide +kernel
theorem d_244_2 : decode M_244.2.2.1 2 = .ok (.iconst 0, 1) := by decide +kernel
theorem d_244_3 : decode M_244.2.2.1 3 = .ok (.istore_n 3, 1) := by decide +kernel
theorem d_244_4 : decode M_244.2.2.1 4 = .ok (.iload_n 3, 1) := by decide +kernel
theorem d_244_5 : decode M_244.2.2.1 5 = .ok (.aload_n 0, 1) := by decide +kernel
theorem d_244_6 : decode M_244.2.2.1 6 = .ok (.getfield 13, 3) := by decide +kernel
theorem d_244_9 : decode M_244.2.2.1 9 = .ok (.iconst 0, 1) := by decide +kernel
theorem d_244_10 : decode M_244.2.2.1 10 = .ok (.iaload, 1) := by decide +kernel
theorem d_244_11 : decode M_244.2.2.1 11 = .ok (.if_icmp .ge 31, 3) := by decide +kernel
theorem d_244_14 : decode M_244.2.2.1 14 = .ok (.iload_n 2, 1) := by decide +kernel
theorem d_244_15 : decode M_244.2.2.1 15 = .ok (.iload_n 1, 1) := by decide +kernel
theorem d_244_16 : decode M_244.2.2.1 16 = .ok (.i2l, 1) := by decide +kernel
theorem d_244_17 : decode M_244.2.2.1 17 = .ok (.iload_n 3, 1) := by decide +kernel
theorem d_244_18 : decode M_244.2.2.1 18 = .ok (.invokestatic 183, 3) := by decide +kernel
theorem d_244_21 : decode M_244.2.2.1 21 = .ok (.ifCond .eq 12, 3) := by decide +kernel
theorem d_244_24 : decode M_244.2.2.1 24 = .ok (.aload_n 0, 1) := by decide +kernel
theorem d_244_25 : decode M_244.2.2.1 25 = .ok (.getfield 65, 3) := by decide +kernel
theorem d_244_28 : decode M_244.2.2.1 28 = .ok (.iload_n 3, 1) := by decide +kernel
theorem d_244_29 : decode M_244.2.2.1 29 = .ok (.iaload, 1) := by decide +kernel
theorem d_244_30 : decode M_244.2.2.1 30 = .ok (.goto 4, 3) := by decide +kernel
theorem d_244_33 : decode M_244.2.2.1 33 = .ok (.iconst 0, 1) := by decide +kernel
theorem d_244_34 : decode M_244.2.2.1 34 = .ok (.iadd, 1) := by decide +kernel
theorem d_244_35 : decode M_244.2.2.1 35 = .ok (.istore_n 2, 1) := by decide +kernel
theorem d_244_36 : decode M_244.2.2.1 36 = .ok (.iinc 3 1, 3) := by decide +kernel
theorem d_244_39 : decode M_244.2.2.1 39 = .ok (.goto (-35), 3) := by decide +kernel
theorem d_244_42 : decode M_244.2.2.1 42 = .ok (.iload_n 2, 1) := by decide +kernel
theorem d_244_43 : decode M_244.2.2.1 43 = .ok (.ireturn, 1) := by decide +kernel
/-- HeardBarrelsModel.orders(II)I -/
def M_245 : am_MT := (9, ⟨"HeardBarrelsModel", "orders", "(II)I"⟩, prog_10_method_86_code, 7, some .int, false, 2, (0, 0))
set_option maxRecDepth 8000 in
theorem hM_245 : am_ms[245]? = some M_245 := rfl
theorem d_245_0 : decode M_245.2.2.1 0 = .ok (.aload_n 0, 1) := by decide +kernel
theorem d_245_1 : decode M_245.2.2.1 1 = .ok (.iconst 0, 1) := by decide +kernel
theorem d_245_2 : decode M_245.2.2.1 2 = .ok (.putfield 1, 3) := by decide +kernel
theorem d_245_5 : decode M_245.2.2.1 5 = .ok (.iload_n 1, 1) := by decide +kernel
theorem d_245_6 : decode M_245.2.2.1 6 = .ok (.i2l, 1) := by decide +kernel
theorem d_245_7 : decode M_245.2.2.1 7 = .ok (.lconst 0, 1) := by decide +kernel
theorem d_245_8 : decode M_245.2.2.1 8 = .ok (.ldc2_w 190, 3) := by decide +kernel
theorem d_245_11 : decode M_245.2.2.1 11 = .ok (.invokestatic 152, 3) := by decide +kernel
theorem d_245_14 : decode M_245.2.2.1 14 = .ok (.ifCond .eq 21, 3) := by decide +kernel
theorem d_245_17 : decode M_245.2.2.1 17 = .ok (.iload_n 2, 1) := by decide +kernel
theorem d_245_18 : decode M_245.2.2.1 18 = .ok (.ifCond .eq 20, 3) := by decide +kernel
theorem d_245_21 : decode M_245.2.2.1 21 = .ok (.iload_n 2, 1) := by decide +kernel
theorem d_245_22 : decode M_245.2.2.1 22 = .ok (.i2l, 1) := by decide +kernel
theorem d_245_23 : decode M_245.2.2.1 23 = .ok (.ldc2_w 296, 3) := by decide +kernel
theorem d_245_26 : decode M_245.2.2.1 26 = .ok (.ldc2_w 335, 3) := by decide +kernel
theorem d_245_29 : decode M_245.2.2.1 29 = .ok (.invokestatic 152, 3) := by decide +kernel
theorem d_245_32 : decode M_245.2.2.1 32 = .ok (.ifCond .ne 6, 3) := by decide +kernel
theorem d_245_35 : decode M_245.2.2.1 35 = .ok (.bipush (-2), 2) := by decide +kernel
theorem d_245_37 : decode M_245.2.2.1 37 = .ok (.ireturn, 1) := by decide +kernel
theorem d_245_38 : decode M_245.2.2.1 38 = .ok (.aload_n 0, 1) := by decide +kernel
theorem d_245_39 : decode M_245.2.2.1 39 = .ok (.getfield 78, 3) := by decide +kernel
theorem d_245_42 : decode M_245.2.2.1 42 = .ok (.iload_n 1, 1) := by decide +kernel
theorem d_245_43 : decode M_245.2.2.1 43 = .ok (.iaload, 1) := by decide +kernel
theorem d_245_44 : decode M_245.2.2.1 44 = .ok (.iconst (-1), 1) := by decide +kernel
theorem d_245_45 : decode M_245.2.2.1 45 = .ok (.if_icmp .ne 6, 3) := by decide +kernel
theorem d_245_48 : decode M_245.2.2.1 48 = .ok (.bipush (-6), 2) := by decide +kernel
theorem d_245_50 : decode M_245.2.2.1 50 = .ok (.ireturn, 1) := by decide +kernel
theorem d_245_51 : decode M_245.2.2.1 51 = .ok (.aload_n 0, 1) := by decide +kernel
theorem d_245_52 : decode M_245.2.2.1 52 = .ok (.getfield 81, 3) := by decide +kernel
theorem d_245_55 : decode M_245.2.2.1 55 = .ok (.iload_n 1, 1) := by decide +kernel
theorem d_245_56 : decode M_245.2.2.1 56 = .ok (.iaload, 1) := by decide +kernel
theorem d_245_57 : decode M_245.2.2.1 57 = .ok (.bipush 10, 2) := by decide +kernel
theorem d_245_59 : decode M_245.2.2.1 59 = .ok (.if_icmp .le 6, 3) := by decide +kernel
theorem d_245_62 : decode M_245.2.2.1 62 = .ok (.bipush (-4), 2) := by decide +kernel
theorem d_245_64 : decode M_245.2.2.1 64 = .ok (.ireturn, 1) := by decide +kernel
theorem d_245_65 : decode M_245.2.2.1 65 = .ok (.iconst 0, 1) := by decide +kernel
theorem d_245_66 : decode M_245.2.2.1 66 = .ok (.istore_n 3, 1) := by decide +kernel
theorem d_245_67 : decode M_245.2.2.1 67 = .ok (.iload_n 3, 1) := by decide +kernel
theorem d_245_68 : decode M_245.2.2.1 68 = .ok (.aload_n 0, 1) := by decide +kernel
theorem d_245_69 : decode M_245.2.2.1 69 = .ok (.getfield 81, 3) := by decide +kernel
theorem d_245_72 : decode M_245.2.2.1 72 = .ok (.iload_n 1, 1) := by decide +kernel
theorem d_245_73 : decode M_245.2.2.1 73 = .ok (.iaload, 1) := by decide +kernel
theorem d_245_74 : decode M_245.2.2.1 74 = .ok (.if_icmp .ge 28, 3) := by decide +kernel
theorem d_245_77 : decode M_245.2.2.1 77 = .ok (.aload_n 0, 1) := by decide +kernel
theorem d_245_78 : decode M_245.2.2.1 78 = .ok (.getfield 84, 3) := by decide +kernel
theorem d_245_81 : decode M_245.2.2.1 81 = .ok (.bipush 40, 2) := by decide +kernel
theorem d_245_83 : decode M_245.2.2.1 83 = .ok (.iload_n 1, 1) := by decide +kernel
theorem d_245_84 : decode M_245.2.2.1 84 = .ok (.imul, 1) := by decide +kernel
theorem d_245_85 : decode M_245.2.2.1 85 = .ok (.iload_n 3, 1) := by decide +kernel
theorem d_245_86 : decode M_245.2.2.1 86 = .ok (.iadd, 1) := by decide +kernel
theorem d_245_87 : decode M_245.2.2.1 87 = .ok (.laload, 1) := by decide +kernel
theorem d_245_88 : decode M_245.2.2.1 88 = .ok (.lconst 0, 1) := by decide +kernel
theorem d_245_89 : decode M_245.2.2.1 89 = .ok (.lcmp, 1) := by decide +kernel
theorem d_245_90 : decode M_245.2.2.1 90 = .ok (.ifCond .ge 6, 3) := by decide +kernel
theorem d_245_93 : decode M_245.2.2.1 93 = .ok (.bipush (-3), 2) := by decide +kernel
theorem d_245_95 : decode M_245.2.2.1 95 = .ok (.ireturn, 1) := by decide +kernel
theorem d_245_96 : decode M_245.2.2.1 96 = .ok (.iinc 3 1, 3) := by decide +kernel
theorem d_245_99 : decode M_245.2.2.1 99 = .ok (.goto (-32), 3) := by decide +kernel
theorem d_245_102 : decode M_245.2.2.1 102 = .ok (.aload_n 0, 1) := by decide +kernel
theorem d_245_103 : decode M_245.2.2.1 103 = .ok (.iload_n 1, 1) := by decide +kernel
theorem d_245_104 : decode M_245.2.2.1 104 = .ok (.invokevirtual 337, 3) := by decide +kernel
theorem d_245_107 : decode M_245.2.2.1 107 = .ok (.iload_n 2, 1) := by decide +kernel
theorem d_245_108 : decode M_245.2.2.1 108 = .ok (.ifCond .ne 10, 3) := by decide +kernel
theorem d_245_111 : decode M_245.2.2.1 111 = .ok (.aload_n 0, 1) := by decide +kernel
theorem d_245_112 : decode M_245.2.2.1 112 = .ok (.getfield 69, 3) := by decide +kernel
theorem d_245_115 : decode M_245.2.2.1 115 = .ok (.iconst 0, 1) := by decide +kernel
theorem d_245_116 : decode M_245.2.2.1 116 = .ok (.iaload, 1) := by decide +kernel
theorem d_245_117 : decode M_245.2.2.1 117 = .ok (.ireturn, 1) := by decide +kernel
theorem d_245_118 : decode M_245.2.2.1 118 = .ok (.iconst 0, 1) := by decide +kernel
theorem d_245_119 : decode M_245.2.2.1 119 = .ok (.istore_n 3, 1) := by decide +kernel
theorem d_245_120 : decode M_245.2.2.1 120 = .ok (.iconst 0, 1) := by decide +kernel
theorem d_245_121 : decode M_245.2.2.1 121 = .ok (.istore 4, 2) := by decide +kernel
theorem d_245_123 : decode M_245.2.2.1 123 = .ok (.iload 4, 2) := by decide +kernel
theorem d_245_125 : decode M_245.2.2.1 125 = .ok (.aload_n 0, 1) := by decide +kernel
theorem d_245_126 : decode M_245.2.2.1 126 = .ok (.getfield 81, 3) := by decide +kernel
theorem d_245_129 : decode M_245.2.2.1 129 = .ok (.iload_n 1, 1) := by decide +kernel
theorem d_245_130 : decode M_245.2.2.1 130 = .ok (.iaload, 1) := by decide +kernel
theorem d_245_131 : decode M_245.2.2.1 131 = .ok (.if_icmp .ge 126, 3) := by decide +kernel
theorem d_245_134 : decode M_245.2.2.1 134 = .ok (.iconst (-1), 1) := by decide +kernel
theorem d_245_135 : decode M_245.2.2.1 135 = .ok (.istore 5, 2) := by decide +kernel
theorem d_245_137 : decode M_245.2.2.1 137 = .ok (.aload_n 0, 1) := by decide +kernel
theorem d_245_138 : decode M_245.2.2.1 138 = .ok (.getfield 13, 3) := by decide +kernel
theorem d_245_141 : decode M_245.2.2.1 141 = .ok (.iconst 0, 1) := by decide +kernel
theorem d_245_142 : decode M_245.2.2.1 142 = .ok (.iaload, 1) := by decide +kernel
theorem d_245_143 : decode M_245.2.2.1 143 = .ok (.iconst 1, 1) := by decide +kernel
theorem d_245_144 : decode M_245.2.2.1 144 = .ok (.isub, 1) := by decide +kernel
theorem d_245_145 : decode M_245.2.2.1 145 = .ok (.istore 6, 2) := by decide +kernel
theorem d_245_147 : decode M_245.2.2.1 147 = .ok (.iload 6, 2) := by decide +kernel
theorem d_245_149 : decode M_245.2.2.1 149 = .ok (.ifCond .lt 73, 3) := by decide +kernel
theorem d_245_152 : decode M_245.2.2.1 152 = .ok (.iload_n 3, 1) := by decide +kernel
theorem d_245_153 : decode M_245.2.2.1 153 = .ok (.i2l, 1) := by decide +kernel
theorem d_245_154 : decode M_245.2.2.1 154 = .ok (.iload 6, 2) := by decide +kernel
theorem d_245_156 : decode M_245.2.2.1 156 = .ok (.invokestatic 183, 3) := by decide +kernel
theorem d_245_159 : decode M_245.2.2.1 159 = .ok (.ifCond .ne 57, 3) := by decide +kernel
theorem d_245_162 : decode M_245.2.2.1 162 = .ok (.aload_n 0, 1) := by decide +kernel
theorem d_245_163 : decode M_245.2.2.1 163 = .ok (.iload_n 1, 1) := by decide +kernel
theorem d_245_164 : decode M_245.2.2.1 164 = .ok (.iload 4, 2) := by decide +kernel
theorem d_245_166 : decode M_245.2.2.1 166 = .ok (.iload 6, 2) := by decide +kernel
theorem d_245_168 : decode M_245.2.2.1 168 = .ok (.invokevirtual 331, 3) := by decide +kernel
theorem d_245_171 : decode M_245.2.2.1 171 = .ok (.ifCond .eq 45, 3) := by decide +kernel
theorem d_245_174 : decode M_245.2.2.1 174 = .ok (.iconst 1, 1) := by decide +kernel
theorem d_245_175 : decode M_245.2.2.1 175 = .ok (.aload_n 0, 1) := by decide +kernel
theorem d_245_176 : decode M_245.2.2.1 176 = .ok (.getfield 69, 3) := by decide +kernel
theorem d_245_179 : decode M_245.2.2.1 179 = .ok (.sipush 4096, 3) := by decide +kernel
theorem d_245_182 : decode M_245.2.2.1 182 = .ok (.iload 4, 2) := by decide +kernel
theorem d_245_184 : decode M_245.2.2.1 184 = .ok (.iconst 1, 1) := by decide +kernel
theorem d_245_185 : decode M_245.2.2.1 185 = .ok (.iadd, 1) := by decide +kernel
theorem d_245_186 : decode M_245.2.2.1 186 = .ok (.imul, 1) := by decide +kernel
theorem d_245_187 : decode M_245.2.2.1 187 = .ok (.iload_n 3, 1) := by decide +kernel
theorem d_245_188 : decode M_245.2.2.1 188 = .ok (.iconst 1, 1) := by decide +kernel
theorem d_245_189 : decode M_245.2.2.1 189 = .ok (.iload 6, 2) := by decide +kernel
theorem d_245_191 : decode M_245.2.2.1 191 = .ok (.ishl, 1) := by decide +kernel
theorem d_245_192 : decode M_245.2.2.1 192 = .ok (.ior, 1) := by decide +kernel
theorem d_245_193 : decode M_245.2.2.1 193 = .ok (.iadd, 1) := by decide +kernel
theorem d_245_194 : decode M_245.2.2.1 194 = .ok (.iaload, 1) := by decide +kernel
theorem d_245_195 : decode M_245.2.2.1 195 = .ok (.iadd, 1) := by decide +kernel
theorem d_245_196 : decode M_245.2.2.1 196 = .ok (.aload_n 0, 1) := by decide +kernel
theorem d_245_197 : decode M_245.2.2.1 197 = .ok (.getfield 69, 3) := by decide +kernel
theorem d_245_200 : decode M_245.2.2.1 200 = .ok (.sipush 4096, 3) := by decide +kernel
theorem d_245_203 : decode M_245.2.2.1 203 = .ok (.iload 4, 2) := by decide +kernel
theorem d_245_205 : decode M_245.2.2.1 205 = .ok (.imul, 1) := by decide +kernel
theorem d_245_206 : decode M_245.2.2.1 206 = .ok (.iload_n 3, 1) := by decide +kernel
theorem d_245_207 : decode M_245.2.2.1 207 = .ok (.iadd, 1) := by decide +kernel
theorem d_245_208 : decode M_245.2.2.1 208 = .ok (.iaload, 1) := by decide +kernel
theorem d_245_209 : decode M_245.2.2.1 209 = .ok (.if_icmp .ne 7, 3) := by decide +kernel
theorem d_245_212 : decode M_245.2.2.1 212 = .ok (.iload 6, 2) := by decide +kernel
theorem d_245_214 : decode M_245.2.2.1 214 = .ok (.istore 5, 2) := by decide +kernel
theorem d_245_216 : decode M_245.2.2.1 216 = .ok (.iinc 6 (-1), 3) := by decide +kernel
theorem d_245_219 : decode M_245.2.2.1 219 = .ok (.goto (-72), 3) := by decide +kernel
theorem d_245_222 : decode M_245.2.2.1 222 = .ok (.iload 4, 2) := by decide +kernel
theorem d_245_224 : decode M_245.2.2.1 224 = .ok (.iload_n 2, 1) := by decide +kernel
theorem d_245_225 : decode M_245.2.2.1 225 = .ok (.bipush 10, 2) := by decide +kernel
theorem d_245_227 : decode M_245.2.2.1 227 = .ok (.isub, 1) := by decide +kernel
theorem d_245_228 : decode M_245.2.2.1 228 = .ok (.if_icmp .ne 6, 3) := by decide +kernel
theorem d_245_231 : decode M_245.2.2.1 231 = .ok (.iload 5, 2) := by decide +kernel
theorem d_245_233 : decode M_245.2.2.1 233 = .ok (.ireturn, 1) := by decide +kernel
theorem d_245_234 : decode M_245.2.2.1 234 = .ok (.iload_n 3, 1) := by decide +kernel
theorem d_245_235 : decode M_245.2.2.1 235 = .ok (.iload 5, 2) := by decide +kernel
theorem d_245_237 : decode M_245.2.2.1 237 = .ok (.iconst (-1), 1) := by decide +kernel
theorem d_245_238 : decode M_245.2.2.1 238 = .ok (.if_icmp .ne 7, 3) := by decide +kernel
theorem d_245_241 : decode M_245.2.2.1 241 = .ok (.iconst 0, 1) := by decide +kernel
theorem d_245_242 : decode M_245.2.2.1 242 = .ok (.goto 7, 3) := by decide +kernel
theorem d_245_245 : decode M_245.2.2.1 245 = .ok (.iconst 1, 1) := by decide +kernel
theorem d_245_246 : decode M_245.2.2.1 246 = .ok (.iload 5, 2) := by decide +kernel
theorem d_245_248 : decode M_245.2.2.1 248 = .ok (.ishl, 1) := by decide +kernel
theorem d_245_249 : decode M_245.2.2.1 249 = .ok (.ior, 1) := by decide +kernel
theorem d_245_250 : decode M_245.2.2.1 250 = .ok (.istore_n 3, 1) := by decide +kernel
theorem d_245_251 : decode M_245.2.2.1 251 = .ok (.iinc 4 1, 3) := by decide +kernel
theorem d_245_254 : decode M_245.2.2.1 254 = .ok (.goto (-131), 3) := by decide +kernel
theorem d_245_257 : decode M_245.2.2.1 257 = .ok (.iconst (-1), 1) := by decide +kernel
theorem d_245_258 : decode M_245.2.2.1 258 = .ok (.ireturn, 1) := by decide +kernel
/-- HeardBarrelsModel.laysMet(I)V -/
def M_246 : am_MT := (9, ⟨"HeardBarrelsModel", "laysMet", "(I)V"⟩, prog_10_method_85_code, 7, none, false, 1, (0, 0))
set_option maxRecDepth 8000 in
theorem hM_246 : am_ms[246]? = some M_246 := rfl
theorem d_246_0 : decode M_246.2.2.1 0 = .ok (.aload_n 0, 1) := by decide +kernel
theorem d_246_1 : decode M_246.2.2.1 1 = .ok (.getfield 81, 3) := by decide +kernel
theorem d_246_4 : decode M_246.2.2.1 4 = .ok (.iload_n 1, 1) := by decide +kernel
theorem d_246_5 : decode M_246.2.2.1 5 = .ok (.iaload, 1) := by decide +kernel
theorem d_246_6 : decode M_246.2.2.1 6 = .ok (.istore_n 2, 1) := by decide +kernel
theorem d_246_7 : decode M_246.2.2.1 7 = .ok (.iload_n 2, 1) := by decide +kernel
theorem d_246_8 : decode M_246.2.2.1 8 = .ok (.ifCond .lt 166, 3) := by decide +kernel
theorem d_246_11 : decode M_246.2.2.1 11 = .ok (.iconst 0, 1) := by decide +kernel
theorem d_246_12 : decode M_246.2.2.1 12 = .ok (.istore_n 3, 1) := by decide +kernel
theorem d_246_13 : decode M_246.2.2.1 13 = .ok (.iload_n 3, 1) := by decide +kernel
theorem d_246_14 : decode M_246.2.2.1 14 = .ok (.iconst 1, 1) := by decide +kernel
theorem d_246_15 : decode M_246.2.2.1 15 = .ok (.aload_n 0, 1) := by decide +kernel
theorem d_246_16 : decode M_246.2.2.1 16 = .ok (.getfield 13, 3) := by decide +kernel
theorem d_246_19 : decode M_246.2.2.1 19 = .ok (.iconst 0, 1) := by decide +kernel
theorem d_246_20 : decode M_246.2.2.1 20 = .ok (.iaload, 1) := by decide +kernel
theorem d_246_21 : decode M_246.2.2.1 21 = .ok (.ishl, 1) := by decide +kernel
theorem d_246_22 : decode M_246.2.2.1 22 = .ok (.if_icmp .ge 146, 3) := by decide +kernel
theorem d_246_25 : decode M_246.2.2.1 25 = .ok (.iload_n 2, 1) := by decide +kernel
theorem d_246_26 : decode M_246.2.2.1 26 = .ok (.aload_n 0, 1) := by decide +kernel
theorem d_246_27 : decode M_246.2.2.1 27 = .ok (.getfield 81, 3) := by decide +kernel
theorem d_246_30 : decode M_246.2.2.1 30 = .ok (.iload_n 1, 1) := by decide +kernel
theorem d_246_31 : decode M_246.2.2.1 31 = .ok (.iaload, 1) := by decide +kernel
theorem d_246_32 : decode M_246.2.2.1 32 = .ok (.if_icmp .ne 7, 3) := by decide +kernel
theorem d_246_35 : decode M_246.2.2.1 35 = .ok (.iconst 0, 1) := by decide +kernel
theorem d_246_36 : decode M_246.2.2.1 36 = .ok (.goto 17, 3) := by decide +kernel
theorem d_246_39 : decode M_246.2.2.1 39 = .ok (.aload_n 0, 1) := by decide +kernel
theorem d_246_40 : decode M_246.2.2.1 40 = .ok (.getfield 69, 3) := by decide +kernel
theorem d_246_43 : decode M_246.2.2.1 43 = .ok (.sipush 4096, 3) := by decide +kernel
theorem d_246_46 : decode M_246.2.2.1 46 = .ok (.iload_n 2, 1) := by decide +kernel
theorem d_246_47 : decode M_246.2.2.1 47 = .ok (.iconst 1, 1) := by decide +kernel
theorem d_246_48 : decode M_246.2.2.1 48 = .ok (.iadd, 1) := by decide +kernel
theorem d_246_49 : decode M_246.2.2.1 49 = .ok (.imul, 1) := by decide +kernel
theorem d_246_50 : decode M_246.2.2.1 50 = .ok (.iload_n 3, 1) := by decide +kernel
theorem d_246_51 : decode M_246.2.2.1 51 = .ok (.iadd, 1) := by decide +kernel
theorem d_246_52 : decode M_246.2.2.1 52 = .ok (.iaload, 1) := by decide +kernel
theorem d_246_53 : decode M_246.2.2.1 53 = .ok (.istore 4, 2) := by decide +kernel
theorem d_246_55 : decode M_246.2.2.1 55 = .ok (.iconst 0, 1) := by decide +kernel
theorem d_246_56 : decode M_246.2.2.1 56 = .ok (.istore 5, 2) := by decide +kernel
theorem d_246_58 : decode M_246.2.2.1 58 = .ok (.iload 5, 2) := by decide +kernel
theorem d_246_60 : decode M_246.2.2.1 60 = .ok (.aload_n 0, 1) := by decide +kernel
theorem d_246_61 : decode M_246.2.2.1 61 = .ok (.getfield 13, 3) := by decide +kernel
theorem d_246_64 : decode M_246.2.2.1 64 = .ok (.iconst 0, 1) := by decide +kernel
theorem d_246_65 : decode M_246.2.2.1 65 = .ok (.iaload, 1) := by decide +kernel
theorem d_246_66 : decode M_246.2.2.1 66 = .ok (.if_icmp .ge 82, 3) := by decide +kernel
theorem d_246_69 : decode M_246.2.2.1 69 = .ok (.iload_n 2, 1) := by decide +kernel
theorem d_246_70 : decode M_246.2.2.1 70 = .ok (.aload_n 0, 1) := by decide +kernel
theorem d_246_71 : decode M_246.2.2.1 71 = .ok (.getfield 81, 3) := by decide +kernel
theorem d_246_74 : decode M_246.2.2.1 74 = .ok (.iload_n 1, 1) := by decide +kernel
theorem d_246_75 : decode M_246.2.2.1 75 = .ok (.iaload, 1) := by decide +kernel
theorem d_246_76 : decode M_246.2.2.1 76 = .ok (.if_icmp .ge 72, 3) := by decide +kernel
theorem d_246_79 : decode M_246.2.2.1 79 = .ok (.iload_n 3, 1) := by decide +kernel
theorem d_246_80 : decode M_246.2.2.1 80 = .ok (.i2l, 1) := by decide +kernel
theorem d_246_81 : decode M_246.2.2.1 81 = .ok (.iload 5, 2) := by decide +kernel
theorem d_246_83 : decode M_246.2.2.1 83 = .ok (.invokestatic 183, 3) := by decide +kernel
theorem d_246_86 : decode M_246.2.2.1 86 = .ok (.ifCond .ne 56, 3) := by decide +kernel
theorem d_246_89 : decode M_246.2.2.1 89 = .ok (.aload_n 0, 1) := by decide +kernel
theorem d_246_90 : decode M_246.2.2.1 90 = .ok (.iload_n 1, 1) := by decide +kernel
theorem d_246_91 : decode M_246.2.2.1 91 = .ok (.iload_n 2, 1) := by decide +kernel
theorem d_246_92 : decode M_246.2.2.1 92 = .ok (.iload 5, 2) := by decide +kernel
theorem d_246_94 : decode M_246.2.2.1 94 = .ok (.invokevirtual 331, 3) := by decide +kernel
theorem d_246_97 : decode M_246.2.2.1 97 = .ok (.ifCond .ne 6, 3) := by decide +kernel
theorem d_246_100 : decode M_246.2.2.1 100 = .ok (.goto 42, 3) := by decide +kernel
theorem d_246_103 : decode M_246.2.2.1 103 = .ok (.iconst 1, 1) := by decide +kernel
theorem d_246_104 : decode M_246.2.2.1 104 = .ok (.aload_n 0, 1) := by decide +kernel
theorem d_246_105 : decode M_246.2.2.1 105 = .ok (.getfield 69, 3) := by decide +kernel
theorem d_246_108 : decode M_246.2.2.1 108 = .ok (.sipush 4096, 3) := by decide +kernel
theorem d_246_111 : decode M_246.2.2.1 111 = .ok (.iload_n 2, 1) := by decide +kernel
theorem d_246_112 : decode M_246.2.2.1 112 = .ok (.iconst 1, 1) := by decide +kernel
theorem d_246_113 : decode M_246.2.2.1 113 = .ok (.iadd, 1) := by decide +kernel
theorem d_246_114 : decode M_246.2.2.1 114 = .ok (.imul, 1) := by decide +kernel
theorem d_246_115 : decode M_246.2.2.1 115 = .ok (.iload_n 3, 1) := by decide +kernel
theorem d_246_116 : decode M_246.2.2.1 116 = .ok (.iconst 1, 1) := by decide +kernel
theorem d_246_117 : decode M_246.2.2.1 117 = .ok (.iload 5, 2) := by decide +kernel
theorem d_246_119 : decode M_246.2.2.1 119 = .ok (.ishl, 1) := by decide +kernel
theorem d_246_120 : decode M_246.2.2.1 120 = .ok (.ior, 1) := by decide +kernel
theorem d_246_121 : decode M_246.2.2.1 121 = .ok (.iadd, 1) := by decide +kernel
theorem d_246_122 : decode M_246.2.2.1 122 = .ok (.iaload, 1) := by decide +kernel
theorem d_246_123 : decode M_246.2.2.1 123 = .ok (.iadd, 1) := by decide +kernel
theorem d_246_124 : decode M_246.2.2.1 124 = .ok (.istore 6, 2) := by decide +kernel
theorem d_246_126 : decode M_246.2.2.1 126 = .ok (.iload 6, 2) := by decide +kernel
theorem d_246_128 : decode M_246.2.2.1 128 = .ok (.iload 4, 2) := by decide +kernel
theorem d_246_130 : decode M_246.2.2.1 130 = .ok (.if_icmp .le 8, 3) := by decide +kernel
theorem d_246_133 : decode M_246.2.2.1 133 = .ok (.iload 6, 2) := by decide +kernel
theorem d_246_135 : decode M_246.2.2.1 135 = .ok (.goto 5, 3) := by decide +kernel
theorem d_246_138 : decode M_246.2.2.1 138 = .ok (.iload 4, 2) := by decide +kernel
theorem d_246_140 : decode M_246.2.2.1 140 = .ok (.istore 4, 2) := by decide +kernel
theorem d_246_142 : decode M_246.2.2.1 142 = .ok (.iinc 5 1, 3) := by decide +kernel
theorem d_246_145 : decode M_246.2.2.1 145 = .ok (.goto (-87), 3) := by decide +kernel
theorem d_246_148 : decode M_246.2.2.1 148 = .ok (.aload_n 0, 1) := by decide +kernel
theorem d_246_149 : decode M_246.2.2.1 149 = .ok (.getfield 69, 3) := by decide +kernel
theorem d_246_152 : decode M_246.2.2.1 152 = .ok (.sipush 4096, 3) := by decide +kernel
theorem d_246_155 : decode M_246.2.2.1 155 = .ok (.iload_n 2, 1) := by decide +kernel
theorem d_246_156 : decode M_246.2.2.1 156 = .ok (.imul, 1) := by decide +kernel
theorem d_246_157 : decode M_246.2.2.1 157 = .ok (.iload_n 3, 1) := by decide +kernel
theorem d_246_158 : decode M_246.2.2.1 158 = .ok (.iadd, 1) := by decide +kernel
theorem d_246_159 : decode M_246.2.2.1 159 = .ok (.iload 4, 2) := by decide +kernel
theorem d_246_161 : decode M_246.2.2.1 161 = .ok (.iastore, 1) := by decide +kernel
theorem d_246_162 : decode M_246.2.2.1 162 = .ok (.iinc 3 1, 3) := by decide +kernel
theorem d_246_165 : decode M_246.2.2.1 165 = .ok (.goto (-152), 3) := by decide +kernel
theorem d_246_168 : decode M_246.2.2.1 168 = .ok (.iinc 2 (-1), 3) := by decide +kernel
theorem d_246_171 : decode M_246.2.2.1 171 = .ok (.goto (-164), 3) := by decide +kernel
theorem d_246_174 : decode M_246.2.2.1 174 = .ok (.return_, 1) := by decide +kernel
/-- HeardBarrelsModel.canMeet(III)Z -/
def M_247 : am_MT := (9, ⟨"HeardBarrelsModel", "canMeet", "(III)Z"⟩, prog_10_method_84_code, 4, some .boolean, false, 3, (0, 0))
set_option maxRecDepth 8000 in
theorem hM_247 : am_ms[247]? = some M_247 := rfl
theorem d_247_0 : decode M_247.2.2.1 0 = .ok (.aload_n 0, 1) := by decide +kernel
theorem d_247_1 : decode M_247.2.2.1 1 = .ok (.iload_n 3, 1) := by decide +kernel
theorem d_247_2 : decode M_247.2.2.1 2 = .ok (.iconst 0, 1) := by decide +kernel
theorem d_247_3 : decode M_247.2.2.1 3 = .ok (.invokevirtual 196, 3) := by decide +kernel
theorem d_247_6 : decode M_247.2.2.1 6 = .ok (.ifCond .eq 28, 3) := by decide +kernel
theorem d_247_9 : decode M_247.2.2.1 9 = .ok (.aload_n 0, 1) := by decide +kernel
theorem d_247_10 : decode M_247.2.2.1 10 = .ok (.iload_n 3, 1) := by decide +kernel
theorem d_247_11 : decode M_247.2.2.1 11 = .ok (.invokevirtual 321, 3) := by decide +kernel
theorem d_247_14 : decode M_247.2.2.1 14 = .ok (.i2l, 1) := by decide +kernel
theorem d_247_15 : decode M_247.2.2.1 15 = .ok (.aload_n 0, 1) := by decide +kernel
theorem d_247_16 : decode M_247.2.2.1 16 = .ok (.getfield 84, 3) := by decide +kernel
theorem d_247_19 : decode M_247.2.2.1 19 = .ok (.bipush 40, 2) := by decide +kernel
theorem d_247_21 : decode M_247.2.2.1 21 = .ok (.iload_n 1, 1) := by decide +kernel
theorem d_247_22 : decode M_247.2.2.1 22 = .ok (.imul, 1) := by decide +kernel
theorem d_247_23 : decode M_247.2.2.1 23 = .ok (.iload_n 2, 1) := by decide +kernel
theorem d_247_24 : decode M_247.2.2.1 24 = .ok (.iadd, 1) := by decide +kernel
theorem d_247_25 : decode M_247.2.2.1 25 = .ok (.laload, 1) := by decide +kernel
theorem d_247_26 : decode M_247.2.2.1 26 = .ok (.lcmp, 1) := by decide +kernel
theorem d_247_27 : decode M_247.2.2.1 27 = .ok (.ifCond .gt 7, 3) := by decide +kernel
theorem d_247_30 : decode M_247.2.2.1 30 = .ok (.iconst 1, 1) := by decide +kernel
theorem d_247_31 : decode M_247.2.2.1 31 = .ok (.goto 4, 3) := by decide +kernel
theorem d_247_34 : decode M_247.2.2.1 34 = .ok (.iconst 0, 1) := by decide +kernel
theorem d_247_35 : decode M_247.2.2.1 35 = .ok (.ireturn, 1) := by decide +kernel
/-- HeardBarrelsModel.apart(I)I -/
def M_248 : am_MT := (9, ⟨"HeardBarrelsModel", "apart", "(I)I"⟩, prog_10_method_89_code, 2, some .int, false, 1, (0, 0))
set_option maxRecDepth 8000 in
theorem hM_248 : am_ms[248]? = some M_248 := rfl
theorem d_248_0 : decode M_248.2.2.1 0 = .ok (.aload_n 0, 1) := by decide +kernel
theorem d_248_1 : decode M_248.2.2.1 1 = .ok (.iconst 0, 1) := by decide +kernel
theorem d_248_2 : decode M_248.2.2.1 2 = .ok (.putfield 1, 3) := by decide +kernel
theorem d_248_5 : decode M_248.2.2.1 5 = .ok (.iload_n 1, 1) := by decide +kernel
theorem d_248_6 : decode M_248.2.2.1 6 = .ok (.ifCond .eq 27, 3) := by decide +kernel
theorem d_248_9 : decode M_248.2.2.1 9 = .ok (.iload_n 1, 1) := by decide +kernel
theorem d_248_10 : decode M_248.2.2.1 10 = .ok (.i2l, 1) := by decide +kernel
theorem d_248_11 : decode M_248.2.2.1 11 = .ok (.ldc2_w 296, 3) := by decide +kernel
theorem d_248_14 : decode M_248.2.2.1 14 = .ok (.bipush 9, 2) := by decide +kernel
theorem d_248_16 : decode M_248.2.2.1 16 = .ok (.aload_n 0, 1) := by decide +kernel
theorem d_248_17 : decode M_248.2.2.1 17 = .ok (.getfield 13, 3) := by decide +kernel
theorem d_248_20 : decode M_248.2.2.1 20 = .ok (.iconst 0, 1) := by decide +kernel
theorem d_248_21 : decode M_248.2.2.1 21 = .ok (.iaload, 1) := by decide +kernel
theorem d_248_22 : decode M_248.2.2.1 22 = .ok (.iadd, 1) := by decide +kernel
theorem d_248_23 : decode M_248.2.2.1 23 = .ok (.i2l, 1) := by decide +kernel
theorem d_248_24 : decode M_248.2.2.1 24 = .ok (.invokestatic 152, 3) := by decide +kernel
theorem d_248_27 : decode M_248.2.2.1 27 = .ok (.ifCond .ne 6, 3) := by decide +kernel
theorem d_248_30 : decode M_248.2.2.1 30 = .ok (.bipush (-2), 2) := by decide +kernel
theorem d_248_32 : decode M_248.2.2.1 32 = .ok (.ireturn, 1) := by decide +kernel
theorem d_248_33 : decode M_248.2.2.1 33 = .ok (.aload_n 0, 1) := by decide +kernel
theorem d_248_34 : decode M_248.2.2.1 34 = .ok (.invokevirtual 204, 3) := by decide +kernel
theorem d_248_37 : decode M_248.2.2.1 37 = .ok (.i2l, 1) := by decide +kernel
theorem d_248_38 : decode M_248.2.2.1 38 = .ok (.invokestatic 209, 3) := by decide +kernel
theorem d_248_41 : decode M_248.2.2.1 41 = .ok (.bipush 8, 2) := by decide +kernel
theorem d_248_43 : decode M_248.2.2.1 43 = .ok (.if_icmp .le 6, 3) := by decide +kernel
theorem d_248_46 : decode M_248.2.2.1 46 = .ok (.bipush (-4), 2) := by decide +kernel
theorem d_248_48 : decode M_248.2.2.1 48 = .ok (.ireturn, 1) := by decide +kernel
theorem d_248_49 : decode M_248.2.2.1 49 = .ok (.aload_n 0, 1) := by decide +kernel
theorem d_248_50 : decode M_248.2.2.1 50 = .ok (.iconst 0, 1) := by decide +kernel
theorem d_248_51 : decode M_248.2.2.1 51 = .ok (.putfield 340, 3) := by decide +kernel
theorem d_248_54 : decode M_248.2.2.1 54 = .ok (.aload_n 0, 1) := by decide +kernel
theorem d_248_55 : decode M_248.2.2.1 55 = .ok (.iconst (-1), 1) := by decide +kernel
theorem d_248_56 : decode M_248.2.2.1 56 = .ok (.putfield 344, 3) := by decide +kernel
theorem d_248_59 : decode M_248.2.2.1 59 = .ok (.aload_n 0, 1) := by decide +kernel
theorem d_248_60 : decode M_248.2.2.1 60 = .ok (.iconst 0, 1) := by decide +kernel
theorem d_248_61 : decode M_248.2.2.1 61 = .ok (.iconst 0, 1) := by decide +kernel
theorem d_248_62 : decode M_248.2.2.1 62 = .ok (.sipush 1000, 3) := by decide +kernel
theorem d_248_65 : decode M_248.2.2.1 65 = .ok (.invokevirtual 347, 3) := by decide +kernel
theorem d_248_68 : decode M_248.2.2.1 68 = .ok (.iload_n 1, 1) := by decide +kernel
theorem d_248_69 : decode M_248.2.2.1 69 = .ok (.ifCond .ne 22, 3) := by decide +kernel
theorem d_248_72 : decode M_248.2.2.1 72 = .ok (.aload_n 0, 1) := by decide +kernel
theorem d_248_73 : decode M_248.2.2.1 73 = .ok (.getfield 344, 3) := by decide +kernel
theorem d_248_76 : decode M_248.2.2.1 76 = .ok (.sipush 1000, 3) := by decide +kernel
theorem d_248_79 : decode M_248.2.2.1 79 = .ok (.if_icmp .ne 7, 3) := by decide +kernel
theorem d_248_82 : decode M_248.2.2.1 82 = .ok (.iconst (-1), 1) := by decide +kernel
theorem d_248_83 : decode M_248.2.2.1 83 = .ok (.goto 7, 3) := by decide +kernel
theorem d_248_86 : decode M_248.2.2.1 86 = .ok (.aload_n 0, 1) := by decide +kernel
theorem d_248_87 : decode M_248.2.2.1 87 = .ok (.getfield 344, 3) := by decide +kernel
theorem d_248_90 : decode M_248.2.2.1 90 = .ok (.ireturn, 1) := by decide +kernel
theorem d_248_91 : decode M_248.2.2.1 91 = .ok (.aload_n 0, 1) := by decide +kernel
theorem d_248_92 : decode M_248.2.2.1 92 = .ok (.getfield 75, 3) := by decide +kernel
theorem d_248_95 : decode M_248.2.2.1 95 = .ok (.iload_n 1, 1) := by decide +kernel
theorem d_248_96 : decode M_248.2.2.1 96 = .ok (.bipush 10, 2) := by decide +kernel
theorem d_248_98 : decode M_248.2.2.1 98 = .ok (.isub, 1) := by decide +kernel
theorem d_248_99 : decode M_248.2.2.1 99 = .ok (.iaload, 1) := by decide +kernel
theorem d_248_100 : decode M_248.2.2.1 100 = .ok (.ireturn, 1) := by decide +kernel
/-- HeardBarrelsModel.laysApart(III)V -/
def M_249 : am_MT := (9, ⟨"HeardBarrelsModel", "laysApart", "(III)V"⟩, prog_10_method_88_code, 6, none, false, 3, (0, 0))
set_option maxRecDepth 8000 in
theorem hM_249 : am_ms[249]? = some M_249 := rfl
theorem d_249_0 : decode M_249.2.2.1 0 = .ok (.aload_n 0, 1) := by decide +kernel
theorem d_249_1 : decode M_249.2.2.1 1 = .ok (.getfield 340, 3) := by decide +kernel
theorem d_249_4 : decode M_249.2.2.1 4 = .ok (.ifCond .eq 12, 3) := by decide +kernel
theorem d_249_7 : decode M_249.2.2.1 7 = .ok (.iload_n 3, 1) := by decide +kernel
theorem d_249_8 : decode M_249.2.2.1 8 = .ok (.aload_n 0, 1) := by decide +kernel
theorem d_249_9 : decode M_249.2.2.1 9 = .ok (.getfield 344, 3) := by decide +kernel
theorem d_249_12 : decode M_249.2.2.1 12 = .ok (.if_icmp .gt 4, 3) := by decide +kernel
theorem d_249_15 : decode M_249.2.2.1 15 = .ok (.return_, 1) := by decide +kernel
theorem d_249_16 : decode M_249.2.2.1 16 = .ok (.iload_n 1, 1) := by decide +kernel
theorem d_249_17 : decode M_249.2.2.1 17 = .ok (.aload_n 0, 1) := by decide +kernel
theorem d_249_18 : decode M_249.2.2.1 18 = .ok (.getfield 13, 3) := by decide +kernel
theorem d_249_21 : decode M_249.2.2.1 21 = .ok (.iconst 0, 1) := by decide +kernel
theorem d_249_22 : decode M_249.2.2.1 22 = .ok (.iaload, 1) := by decide +kernel
theorem d_249_23 : decode M_249.2.2.1 23 = .ok (.if_icmp .ne 43, 3) := by decide +kernel
theorem d_249_26 : decode M_249.2.2.1 26 = .ok (.aload_n 0, 1) := by decide +kernel
theorem d_249_27 : decode M_249.2.2.1 27 = .ok (.iconst 1, 1) := by decide +kernel
theorem d_249_28 : decode M_249.2.2.1 28 = .ok (.putfield 340, 3) := by decide +kernel
theorem d_249_31 : decode M_249.2.2.1 31 = .ok (.aload_n 0, 1) := by decide +kernel
theorem d_249_32 : decode M_249.2.2.1 32 = .ok (.iload_n 3, 1) := by decide +kernel
theorem d_249_33 : decode M_249.2.2.1 33 = .ok (.putfield 344, 3) := by decide +kernel
theorem d_249_36 : decode M_249.2.2.1 36 = .ok (.iconst 0, 1) := by decide +kernel
theorem d_249_37 : decode M_249.2.2.1 37 = .ok (.istore 4, 2) := by decide +kernel
theorem d_249_39 : decode M_249.2.2.1 39 = .ok (.iload 4, 2) := by decide +kernel
theorem d_249_41 : decode M_249.2.2.1 41 = .ok (.iload_n 1, 1) := by decide +kernel
theorem d_249_42 : decode M_249.2.2.1 42 = .ok (.if_icmp .ge 23, 3) := by decide +kernel
theorem d_249_45 : decode M_249.2.2.1 45 = .ok (.aload_n 0, 1) := by decide +kernel
theorem d_249_46 : decode M_249.2.2.1 46 = .ok (.getfield 75, 3) := by decide +kernel
theorem d_249_49 : decode M_249.2.2.1 49 = .ok (.iload 4, 2) := by decide +kernel
theorem d_249_51 : decode M_249.2.2.1 51 = .ok (.aload_n 0, 1) := by decide +kernel
theorem d_249_52 : decode M_249.2.2.1 52 = .ok (.getfield 72, 3) := by decide +kernel
theorem d_249_55 : decode M_249.2.2.1 55 = .ok (.iload 4, 2) := by decide +kernel
theorem d_249_57 : decode M_249.2.2.1 57 = .ok (.iaload, 1) := by decide +kernel
theorem d_249_58 : decode M_249.2.2.1 58 = .ok (.iastore, 1) := by decide +kernel
theorem d_249_59 : decode M_249.2.2.1 59 = .ok (.iinc 4 1, 3) := by decide +kernel
theorem d_249_62 : decode M_249.2.2.1 62 = .ok (.goto (-23), 3) := by decide +kernel
theorem d_249_65 : decode M_249.2.2.1 65 = .ok (.return_, 1) := by decide +kernel
theorem d_249_66 : decode M_249.2.2.1 66 = .ok (.aload_n 0, 1) := by decide +kernel
theorem d_249_67 : decode M_249.2.2.1 67 = .ok (.iload_n 1, 1) := by decide +kernel
theorem d_249_68 : decode M_249.2.2.1 68 = .ok (.iconst 3, 1) := by decide +kernel
theorem d_249_69 : decode M_249.2.2.1 69 = .ok (.invokevirtual 196, 3) := by decide +kernel
theorem d_249_72 : decode M_249.2.2.1 72 = .ok (.ifCond .eq 20, 3) := by decide +kernel
theorem d_249_75 : decode M_249.2.2.1 75 = .ok (.aload_n 0, 1) := by decide +kernel
theorem d_249_76 : decode M_249.2.2.1 76 = .ok (.getfield 72, 3) := by decide +kernel
theorem d_249_79 : decode M_249.2.2.1 79 = .ok (.iload_n 1, 1) := by decide +kernel
theorem d_249_80 : decode M_249.2.2.1 80 = .ok (.iconst (-1), 1) := by decide +kernel
theorem d_249_81 : decode M_249.2.2.1 81 = .ok (.iastore, 1) := by decide +kernel
theorem d_249_82 : decode M_249.2.2.1 82 = .ok (.aload_n 0, 1) := by decide +kernel
theorem d_249_83 : decode M_249.2.2.1 83 = .ok (.iload_n 1, 1) := by decide +kernel
theorem d_249_84 : decode M_249.2.2.1 84 = .ok (.iconst 1, 1) := by decide +kernel
theorem d_249_85 : decode M_249.2.2.1 85 = .ok (.iadd, 1) := by decide +kernel
theorem d_249_86 : decode M_249.2.2.1 86 = .ok (.iload_n 2, 1) := by decide +kernel
theorem d_249_87 : decode M_249.2.2.1 87 = .ok (.iload_n 3, 1) := by decide +kernel
theorem d_249_88 : decode M_249.2.2.1 88 = .ok (.invokevirtual 347, 3) := by decide +kernel
theorem d_249_91 : decode M_249.2.2.1 91 = .ok (.return_, 1) := by decide +kernel
theorem d_249_92 : decode M_249.2.2.1 92 = .ok (.iconst 0, 1) := by decide +kernel
theorem d_249_93 : decode M_249.2.2.1 93 = .ok (.istore 4, 2) := by decide +kernel
theorem d_249_95 : decode M_249.2.2.1 95 = .ok (.iload 4, 2) := by decide +kernel
theorem d_249_97 : decode M_249.2.2.1 97 = .ok (.aload_n 0, 1) := by decide +kernel
theorem d_249_98 : decode M_249.2.2.1 98 = .ok (.getfield 13, 3) := by decide +kernel
theorem d_249_101 : decode M_249.2.2.1 101 = .ok (.iconst 0, 1) := by decide +kernel
theorem d_249_102 : decode M_249.2.2.1 102 = .ok (.iaload, 1) := by decide +kernel
theorem d_249_103 : decode M_249.2.2.1 103 = .ok (.if_icmp .ge 72, 3) := by decide +kernel
theorem d_249_106 : decode M_249.2.2.1 106 = .ok (.iload_n 2, 1) := by decide +kernel
theorem d_249_107 : decode M_249.2.2.1 107 = .ok (.i2l, 1) := by decide +kernel
theorem d_249_108 : decode M_249.2.2.1 108 = .ok (.iload 4, 2) := by decide +kernel
theorem d_249_110 : decode M_249.2.2.1 110 = .ok (.invokestatic 183, 3) := by decide +kernel
theorem d_249_113 : decode M_249.2.2.1 113 = .ok (.ifCond .ne 56, 3) := by decide +kernel
theorem d_249_116 : decode M_249.2.2.1 116 = .ok (.aload_n 0, 1) := by decide +kernel
theorem d_249_117 : decode M_249.2.2.1 117 = .ok (.iload 4, 2) := by decide +kernel
theorem d_249_119 : decode M_249.2.2.1 119 = .ok (.iconst 3, 1) := by decide +kernel
theorem d_249_120 : decode M_249.2.2.1 120 = .ok (.invokevirtual 196, 3) := by decide +kernel
theorem d_249_123 : decode M_249.2.2.1 123 = .ok (.ifCond .eq 6, 3) := by decide +kernel
theorem d_249_126 : decode M_249.2.2.1 126 = .ok (.goto 43, 3) := by decide +kernel
theorem d_249_129 : decode M_249.2.2.1 129 = .ok (.aload_n 0, 1) := by decide +kernel
theorem d_249_130 : decode M_249.2.2.1 130 = .ok (.getfield 72, 3) := by decide +kernel
theorem d_249_133 : decode M_249.2.2.1 133 = .ok (.iload_n 1, 1) := by decide +kernel
theorem d_249_134 : decode M_249.2.2.1 134 = .ok (.iload 4, 2) := by decide +kernel
theorem d_249_136 : decode M_249.2.2.1 136 = .ok (.iastore, 1) := by decide +kernel
theorem d_249_137 : decode M_249.2.2.1 137 = .ok (.aload_n 0, 1) := by decide +kernel
theorem d_249_138 : decode M_249.2.2.1 138 = .ok (.iload_n 1, 1) := by decide +kernel
theorem d_249_139 : decode M_249.2.2.1 139 = .ok (.invokevirtual 351, 3) := by decide +kernel
theorem d_249_142 : decode M_249.2.2.1 142 = .ok (.istore 5, 2) := by decide +kernel
theorem d_249_144 : decode M_249.2.2.1 144 = .ok (.aload_n 0, 1) := by decide +kernel
theorem d_249_145 : decode M_249.2.2.1 145 = .ok (.iload_n 1, 1) := by decide +kernel
theorem d_249_146 : decode M_249.2.2.1 146 = .ok (.iconst 1, 1) := by decide +kernel
theorem d_249_147 : decode M_249.2.2.1 147 = .ok (.iadd, 1) := by decide +kernel
theorem d_249_148 : decode M_249.2.2.1 148 = .ok (.iload_n 2, 1) := by decide +kernel
theorem d_249_149 : decode M_249.2.2.1 149 = .ok (.iconst 1, 1) := by decide +kernel
theorem d_249_150 : decode M_249.2.2.1 150 = .ok (.iload 4, 2) := by decide +kernel
theorem d_249_152 : decode M_249.2.2.1 152 = .ok (.ishl, 1) := by decide +kernel
theorem d_249_153 : decode M_249.2.2.1 153 = .ok (.ior, 1) := by decide +kernel
theorem d_249_154 : decode M_249.2.2.1 154 = .ok (.iload 5, 2) := by decide +kernel
theorem d_249_156 : decode M_249.2.2.1 156 = .ok (.iload_n 3, 1) := by decide +kernel
theorem d_249_157 : decode M_249.2.2.1 157 = .ok (.if_icmp .ge 8, 3) := by decide +kernel
theorem d_249_160 : decode M_249.2.2.1 160 = .ok (.iload 5, 2) := by decide +kernel
theorem d_249_162 : decode M_249.2.2.1 162 = .ok (.goto 4, 3) := by decide +kernel
theorem d_249_165 : decode M_249.2.2.1 165 = .ok (.iload_n 3, 1) := by decide +kernel
theorem d_249_166 : decode M_249.2.2.1 166 = .ok (.invokevirtual 347, 3) := by decide +kernel
theorem d_249_169 : decode M_249.2.2.1 169 = .ok (.iinc 4 1, 3) := by decide +kernel
theorem d_249_172 : decode M_249.2.2.1 172 = .ok (.goto (-77), 3) := by decide +kernel
theorem d_249_175 : decode M_249.2.2.1 175 = .ok (.return_, 1) := by decide +kernel
/-- HeardBarrelsModel.apartAt(I)I -/
def M_250 : am_MT := (9, ⟨"HeardBarrelsModel", "apartAt", "(I)I"⟩, prog_10_method_87_code, 3, some .int, false, 1, (0, 0))
set_option maxRecDepth 8000 in
theorem hM_250 : am_ms[250]? = some M_250 := rfl
theorem d_250_0 : decode M_250.2.2.1 0 = .ok (.iload_n 1, 1) := by decide +kernel
theorem d_250_1 : decode M_250.2.2.1 1 = .ok (.ifCond .eq 25, 3) := by decide +kernel
theorem d_250_4 : decode M_250.2.2.1 4 = .ok (.aload_n 0, 1) := by decide +kernel
theorem d_250_5 : decode M_250.2.2.1 5 = .ok (.getfield 72, 3) := by decide +kernel
theorem d_250_8 : decode M_250.2.2.1 8 = .ok (.iload_n 1, 1) := by decide +kernel
theorem d_250_9 : decode M_250.2.2.1 9 = .ok (.iaload, 1) := by decide +kernel
theorem d_250_10 : decode M_250.2.2.1 10 = .ok (.iconst (-1), 1) := by decide +kernel
theorem d_250_11 : decode M_250.2.2.1 11 = .ok (.if_icmp .eq 15, 3) := by decide +kernel
theorem d_250_14 : decode M_250.2.2.1 14 = .ok (.aload_n 0, 1) := by decide +kernel
theorem d_250_15 : decode M_250.2.2.1 15 = .ok (.getfield 72, 3) := by decide +kernel
theorem d_250_18 : decode M_250.2.2.1 18 = .ok (.iload_n 1, 1) := by decide +kernel
theorem d_250_19 : decode M_250.2.2.1 19 = .ok (.iconst 1, 1) := by decide +kernel
theorem d_250_20 : decode M_250.2.2.1 20 = .ok (.isub, 1) := by decide +kernel
theorem d_250_21 : decode M_250.2.2.1 21 = .ok (.iaload, 1) := by decide +kernel
theorem d_250_22 : decode M_250.2.2.1 22 = .ok (.iconst (-1), 1) := by decide +kernel
theorem d_250_23 : decode M_250.2.2.1 23 = .ok (.if_icmp .ne 7, 3) := by decide +kernel
theorem d_250_26 : decode M_250.2.2.1 26 = .ok (.sipush 1000, 3) := by decide +kernel
theorem d_250_29 : decode M_250.2.2.1 29 = .ok (.ireturn, 1) := by decide +kernel
theorem d_250_30 : decode M_250.2.2.1 30 = .ok (.aload_n 0, 1) := by decide +kernel
theorem d_250_31 : decode M_250.2.2.1 31 = .ok (.aload_n 0, 1) := by decide +kernel
theorem d_250_32 : decode M_250.2.2.1 32 = .ok (.getfield 72, 3) := by decide +kernel
theorem d_250_35 : decode M_250.2.2.1 35 = .ok (.iload_n 1, 1) := by decide +kernel
theorem d_250_36 : decode M_250.2.2.1 36 = .ok (.iaload, 1) := by decide +kernel
theorem d_250_37 : decode M_250.2.2.1 37 = .ok (.aload_n 0, 1) := by decide +kernel
theorem d_250_38 : decode M_250.2.2.1 38 = .ok (.aload_n 0, 1) := by decide +kernel
theorem d_250_39 : decode M_250.2.2.1 39 = .ok (.getfield 72, 3) := by decide +kernel
theorem d_250_42 : decode M_250.2.2.1 42 = .ok (.iload_n 1, 1) := by decide +kernel
theorem d_250_43 : decode M_250.2.2.1 43 = .ok (.iaload, 1) := by decide +kernel
theorem d_250_44 : decode M_250.2.2.1 44 = .ok (.iconst 1, 1) := by decide +kernel
theorem d_250_45 : decode M_250.2.2.1 45 = .ok (.invokevirtual 196, 3) := by decide +kernel
theorem d_250_48 : decode M_250.2.2.1 48 = .ok (.invokevirtual 242, 3) := by decide +kernel
theorem d_250_51 : decode M_250.2.2.1 51 = .ok (.aload_n 0, 1) := by decide +kernel
theorem d_250_52 : decode M_250.2.2.1 52 = .ok (.aload_n 0, 1) := by decide +kernel
theorem d_250_53 : decode M_250.2.2.1 53 = .ok (.getfield 72, 3) := by decide +kernel
theorem d_250_56 : decode M_250.2.2.1 56 = .ok (.iload_n 1, 1) := by decide +kernel
theorem d_250_57 : decode M_250.2.2.1 57 = .ok (.iconst 1, 1) := by decide +kernel
theorem d_250_58 : decode M_250.2.2.1 58 = .ok (.isub, 1) := by decide +kernel
theorem d_250_59 : decode M_250.2.2.1 59 = .ok (.iaload, 1) := by decide +kernel
theorem d_250_60 : decode M_250.2.2.1 60 = .ok (.aload_n 0, 1) := by decide +kernel
theorem d_250_61 : decode M_250.2.2.1 61 = .ok (.aload_n 0, 1) := by decide +kernel
theorem d_250_62 : decode M_250.2.2.1 62 = .ok (.getfield 72, 3) := by decide +kernel
theorem d_250_65 : decode M_250.2.2.1 65 = .ok (.iload_n 1, 1) := by decide +kernel
theorem d_250_66 : decode M_250.2.2.1 66 = .ok (.iconst 1, 1) := by decide +kernel
theorem d_250_67 : decode M_250.2.2.1 67 = .ok (.isub, 1) := by decide +kernel
theorem d_250_68 : decode M_250.2.2.1 68 = .ok (.iaload, 1) := by decide +kernel
theorem d_250_69 : decode M_250.2.2.1 69 = .ok (.iconst 1, 1) := by decide +kernel
theorem d_250_70 : decode M_250.2.2.1 70 = .ok (.invokevirtual 196, 3) := by decide +kernel
theorem d_250_73 : decode M_250.2.2.1 73 = .ok (.invokevirtual 242, 3) := by decide +kernel
theorem d_250_76 : decode M_250.2.2.1 76 = .ok (.isub, 1) := by decide +kernel
theorem d_250_77 : decode M_250.2.2.1 77 = .ok (.istore_n 2, 1) := by decide +kernel
theorem d_250_78 : decode M_250.2.2.1 78 = .ok (.iload_n 2, 1) := by decide +kernel
theorem d_250_79 : decode M_250.2.2.1 79 = .ok (.ifCond .ge 8, 3) := by decide +kernel
theorem d_250_82 : decode M_250.2.2.1 82 = .ok (.iload_n 2, 1) := by decide +kernel
theorem d_250_83 : decode M_250.2.2.1 83 = .ok (.ineg, 1) := by decide +kernel
theorem d_250_84 : decode M_250.2.2.1 84 = .ok (.goto 4, 3) := by decide +kernel
theorem d_250_87 : decode M_250.2.2.1 87 = .ok (.iload_n 2, 1) := by decide +kernel
theorem d_250_88 : decode M_250.2.2.1 88 = .ok (.ireturn, 1) := by decide +kernel
/-- HeardBarrelsModel.numbers(III)I -/
def M_251 : am_MT := (9, ⟨"HeardBarrelsModel", "numbers", "(III)I"⟩, prog_10_method_91_code, 5, some .int, false, 3, (0, 0))
set_option maxRecDepth 8000 in
theorem hM_251 : am_ms[251]? = some M_251 := rfl
theorem d_251_0 : decode M_251.2.2.1 0 = .ok (.aload_n 0, 1) := by decide +kernel
theorem d_251_1 : decode M_251.2.2.1 1 = .ok (.iconst 0, 1) := by decide +kernel
theorem d_251_2 : decode M_251.2.2.1 2 = .ok (.putfield 1, 3) := by decide +kernel
theorem d_251_5 : decode M_251.2.2.1 5 = .ok (.iload_n 1, 1) := by decide +kernel
theorem d_251_6 : decode M_251.2.2.1 6 = .ok (.i2l, 1) := by decide +kernel
theorem d_251_7 : decode M_251.2.2.1 7 = .ok (.lconst 0, 1) := by decide +kernel
theorem d_251_8 : decode M_251.2.2.1 8 = .ok (.ldc2_w 190, 3) := by decide +kernel
theorem d_251_11 : decode M_251.2.2.1 11 = .ok (.invokestatic 152, 3) := by decide +kernel
theorem d_251_14 : decode M_251.2.2.1 14 = .ok (.ifCond .eq 15, 3) := by decide +kernel
theorem d_251_17 : decode M_251.2.2.1 17 = .ok (.iload_n 2, 1) := by decide +kernel
theorem d_251_18 : decode M_251.2.2.1 18 = .ok (.i2l, 1) := by decide +kernel
theorem d_251_19 : decode M_251.2.2.1 19 = .ok (.lconst 0, 1) := by decide +kernel
theorem d_251_20 : decode M_251.2.2.1 20 = .ok (.ldc2_w 190, 3) := by decide +kernel
theorem d_251_23 : decode M_251.2.2.1 23 = .ok (.invokestatic 152, 3) := by decide +kernel
theorem d_251_26 : decode M_251.2.2.1 26 = .ok (.ifCond .ne 6, 3) := by decide +kernel
theorem d_251_29 : decode M_251.2.2.1 29 = .ok (.bipush (-2), 2) := by decide +kernel
theorem d_251_31 : decode M_251.2.2.1 31 = .ok (.ireturn, 1) := by decide +kernel
theorem d_251_32 : decode M_251.2.2.1 32 = .ok (.iload_n 3, 1) := by decide +kernel
theorem d_251_33 : decode M_251.2.2.1 33 = .ok (.i2l, 1) := by decide +kernel
theorem d_251_34 : decode M_251.2.2.1 34 = .ok (.lconst 0, 1) := by decide +kernel
theorem d_251_35 : decode M_251.2.2.1 35 = .ok (.ldc2_w 354, 3) := by decide +kernel
theorem d_251_38 : decode M_251.2.2.1 38 = .ok (.invokestatic 152, 3) := by decide +kernel
theorem d_251_41 : decode M_251.2.2.1 41 = .ok (.ifCond .ne 6, 3) := by decide +kernel
theorem d_251_44 : decode M_251.2.2.1 44 = .ok (.bipush (-3), 2) := by decide +kernel
theorem d_251_46 : decode M_251.2.2.1 46 = .ok (.ireturn, 1) := by decide +kernel
theorem d_251_47 : decode M_251.2.2.1 47 = .ok (.aload_n 0, 1) := by decide +kernel
theorem d_251_48 : decode M_251.2.2.1 48 = .ok (.getfield 78, 3) := by decide +kernel
theorem d_251_51 : decode M_251.2.2.1 51 = .ok (.iload_n 1, 1) := by decide +kernel
theorem d_251_52 : decode M_251.2.2.1 52 = .ok (.iload_n 2, 1) := by decide +kernel
theorem d_251_53 : decode M_251.2.2.1 53 = .ok (.iastore, 1) := by decide +kernel
theorem d_251_54 : decode M_251.2.2.1 54 = .ok (.aload_n 0, 1) := by decide +kernel
theorem d_251_55 : decode M_251.2.2.1 55 = .ok (.getfield 81, 3) := by decide +kernel
theorem d_251_58 : decode M_251.2.2.1 58 = .ok (.iload_n 1, 1) := by decide +kernel
theorem d_251_59 : decode M_251.2.2.1 59 = .ok (.iload_n 3, 1) := by decide +kernel
theorem d_251_60 : decode M_251.2.2.1 60 = .ok (.iastore, 1) := by decide +kernel
theorem d_251_61 : decode M_251.2.2.1 61 = .ok (.iconst 0, 1) := by decide +kernel
theorem d_251_62 : decode M_251.2.2.1 62 = .ok (.istore 4, 2) := by decide +kernel
theorem d_251_64 : decode M_251.2.2.1 64 = .ok (.iload 4, 2) := by decide +kernel
theorem d_251_66 : decode M_251.2.2.1 66 = .ok (.iload_n 3, 1) := by decide +kernel
theorem d_251_67 : decode M_251.2.2.1 67 = .ok (.if_icmp .ge 22, 3) := by decide +kernel
theorem d_251_70 : decode M_251.2.2.1 70 = .ok (.aload_n 0, 1) := by decide +kernel
theorem d_251_71 : decode M_251.2.2.1 71 = .ok (.getfield 84, 3) := by decide +kernel
theorem d_251_74 : decode M_251.2.2.1 74 = .ok (.bipush 40, 2) := by decide +kernel
theorem d_251_76 : decode M_251.2.2.1 76 = .ok (.iload_n 1, 1) := by decide +kernel
theorem d_251_77 : decode M_251.2.2.1 77 = .ok (.imul, 1) := by decide +kernel
theorem d_251_78 : decode M_251.2.2.1 78 = .ok (.iload 4, 2) := by decide +kernel
theorem d_251_80 : decode M_251.2.2.1 80 = .ok (.iadd, 1) := by decide +kernel
theorem d_251_81 : decode M_251.2.2.1 81 = .ok (.lconst 0, 1) := by decide +kernel
theorem d_251_82 : decode M_251.2.2.1 82 = .ok (.lastore, 1) := by decide +kernel
theorem d_251_83 : decode M_251.2.2.1 83 = .ok (.iinc 4 1, 3) := by decide +kernel
theorem d_251_86 : decode M_251.2.2.1 86 = .ok (.goto (-22), 3) := by decide +kernel
theorem d_251_89 : decode M_251.2.2.1 89 = .ok (.iconst 0, 1) := by decide +kernel
theorem d_251_90 : decode M_251.2.2.1 90 = .ok (.ireturn, 1) := by decide +kernel
/-- HeardBarrelsModel.write(IIJ)J -/
def M_252 : am_MT := (9, ⟨"HeardBarrelsModel", "write", "(IIJ)J"⟩, prog_10_method_92_code, 5, some .long, false, 3, (0, 0))
set_option maxRecDepth 8000 in
theorem hM_252 : am_ms[252]? = some M_252 := rfl
theorem d_252_0 : decode M_252.2.2.1 0 = .ok (.aload_n 0, 1) := by decide +kernel
theorem d_252_1 : decode M_252.2.2.1 1 = .ok (.iconst 0, 1) := by decide +kernel
theorem d_252_2 : decode M_252.2.2.1 2 = .ok (.putfield 1, 3) := by decide +kernel
theorem d_252_5 : decode M_252.2.2.1 5 = .ok (.iload_n 1, 1) := by decide +kernel
theorem d_252_6 : decode M_252.2.2.1 6 = .ok (.i2l, 1) := by decide +kernel
theorem d_252_7 : decode M_252.2.2.1 7 = .ok (.lconst 0, 1) := by decide +kernel
theorem d_252_8 : decode M_252.2.2.1 8 = .ok (.ldc2_w 190, 3) := by decide +kernel
theorem d_252_11 : decode M_252.2.2.1 11 = .ok (.invokestatic 152, 3) := by decide +kernel
theorem d_252_14 : decode M_252.2.2.1 14 = .ok (.ifCond .ne 7, 3) := by decide +kernel
theorem d_252_17 : decode M_252.2.2.1 17 = .ok (.ldc2_w 356, 3) := by decide +kernel
theorem d_252_20 : decode M_252.2.2.1 20 = .ok (.lreturn, 1) := by decide +kernel
theorem d_252_21 : decode M_252.2.2.1 21 = .ok (.aload_n 0, 1) := by decide +kernel
theorem d_252_22 : decode M_252.2.2.1 22 = .ok (.getfield 78, 3) := by decide +kernel
theorem d_252_25 : decode M_252.2.2.1 25 = .ok (.iload_n 1, 1) := by decide +kernel
theorem d_252_26 : decode M_252.2.2.1 26 = .ok (.iaload, 1) := by decide +kernel
theorem d_252_27 : decode M_252.2.2.1 27 = .ok (.iconst (-1), 1) := by decide +kernel
theorem d_252_28 : decode M_252.2.2.1 28 = .ok (.if_icmp .ne 7, 3) := by decide +kernel
theorem d_252_31 : decode M_252.2.2.1 31 = .ok (.ldc2_w 358, 3) := by decide +kernel
theorem d_252_34 : decode M_252.2.2.1 34 = .ok (.lreturn, 1) := by decide +kernel
theorem d_252_35 : decode M_252.2.2.1 35 = .ok (.iload_n 2, 1) := by decide +kernel
theorem d_252_36 : decode M_252.2.2.1 36 = .ok (.i2l, 1) := by decide +kernel
theorem d_252_37 : decode M_252.2.2.1 37 = .ok (.lconst 0, 1) := by decide +kernel
theorem d_252_38 : decode M_252.2.2.1 38 = .ok (.aload_n 0, 1) := by decide +kernel
theorem d_252_39 : decode M_252.2.2.1 39 = .ok (.getfield 81, 3) := by decide +kernel
theorem d_252_42 : decode M_252.2.2.1 42 = .ok (.iload_n 1, 1) := by decide +kernel
theorem d_252_43 : decode M_252.2.2.1 43 = .ok (.iaload, 1) := by decide +kernel
theorem d_252_44 : decode M_252.2.2.1 44 = .ok (.iconst 1, 1) := by decide +kernel
theorem d_252_45 : decode M_252.2.2.1 45 = .ok (.isub, 1) := by decide +kernel
theorem d_252_46 : decode M_252.2.2.1 46 = .ok (.i2l, 1) := by decide +kernel
theorem d_252_47 : decode M_252.2.2.1 47 = .ok (.invokestatic 152, 3) := by decide +kernel
theorem d_252_50 : decode M_252.2.2.1 50 = .ok (.ifCond .ne 7, 3) := by decide +kernel
theorem d_252_53 : decode M_252.2.2.1 53 = .ok (.ldc2_w 360, 3) := by decide +kernel
theorem d_252_56 : decode M_252.2.2.1 56 = .ok (.lreturn, 1) := by decide +kernel
theorem d_252_57 : decode M_252.2.2.1 57 = .ok (.aload_n 0, 1) := by decide +kernel
theorem d_252_58 : decode M_252.2.2.1 58 = .ok (.getfield 84, 3) := by decide +kernel
theorem d_252_61 : decode M_252.2.2.1 61 = .ok (.bipush 40, 2) := by decide +kernel
theorem d_252_63 : decode M_252.2.2.1 63 = .ok (.iload_n 1, 1) := by decide +kernel
theorem d_252_64 : decode M_252.2.2.1 64 = .ok (.imul, 1) := by decide +kernel
theorem d_252_65 : decode M_252.2.2.1 65 = .ok (.iload_n 2, 1) := by decide +kernel
theorem d_252_66 : decode M_252.2.2.1 66 = .ok (.iadd, 1) := by decide +kernel
theorem d_252_67 : decode M_252.2.2.1 67 = .ok (.lload_n 3, 1) := by decide +kernel
theorem d_252_68 : decode M_252.2.2.1 68 = .ok (.aload_n 0, 1) := by decide +kernel
theorem d_252_69 : decode M_252.2.2.1 69 = .ok (.getfield 78, 3) := by decide +kernel
theorem d_252_72 : decode M_252.2.2.1 72 = .ok (.iload_n 1, 1) := by decide +kernel
theorem d_252_73 : decode M_252.2.2.1 73 = .ok (.iaload, 1) := by decide +kernel
theorem d_252_74 : decode M_252.2.2.1 74 = .ok (.invokestatic 362, 3) := by decide +kernel
theorem d_252_77 : decode M_252.2.2.1 77 = .ok (.lastore, 1) := by decide +kernel
theorem d_252_78 : decode M_252.2.2.1 78 = .ok (.aload_n 0, 1) := by decide +kernel
theorem d_252_79 : decode M_252.2.2.1 79 = .ok (.getfield 84, 3) := by decide +kernel
theorem d_252_82 : decode M_252.2.2.1 82 = .ok (.bipush 40, 2) := by decide +kernel
theorem d_252_84 : decode M_252.2.2.1 84 = .ok (.iload_n 1, 1) := by decide +kernel
theorem d_252_85 : decode M_252.2.2.1 85 = .ok (.imul, 1) := by decide +kernel
theorem d_252_86 : decode M_252.2.2.1 86 = .ok (.iload_n 2, 1) := by decide +kernel
theorem d_252_87 : decode M_252.2.2.1 87 = .ok (.iadd, 1) := by decide +kernel
theorem d_252_88 : decode M_252.2.2.1 88 = .ok (.laload, 1) := by decide +kernel
theorem d_252_89 : decode M_252.2.2.1 89 = .ok (.lreturn, 1) := by decide +kernel
/-- HeardBarrelsModel.cut(JI)J -/
def M_253 : am_MT := (9, ⟨"HeardBarrelsModel", "cut", "(JI)J"⟩, prog_10_method_90_code, 3, some .long, false, 2, (0, 0))
set_option maxRecDepth 8000 in
theorem hM_253 : am_ms[253]? = some M_253 := rfl
theorem d_253_0 : decode M_253.2.2.1 0 = .ok (.iload_n 2, 1) := by decide +kernel
theorem d_253_1 : decode M_253.2.2.1 1 = .ok (.ifCond .ne 10, 3) := by decide +kernel
theorem d_253_4 : decode M_253.2.2.1 4 = .ok (.lload_n 0, 1) := by decide +kernel
theorem d_253_5 : decode M_253.2.2.1 5 = .ok (.l2i, 1) := by decide +kernel
theorem d_253_6 : decode M_253.2.2.1 6 = .ok (.i2b, 1) := by decide +kernel
theorem d_253_7 : decode M_253.2.2.1 7 = .ok (.i2l, 1) := by decide +kernel
theorem d_253_8 : decode M_253.2.2.1 8 = .ok (.goto 27, 3) := by decide +kernel
theorem d_253_11 : decode M_253.2.2.1 11 = .ok (.iload_n 2, 1) := by decide +kernel
theorem d_253_12 : decode M_253.2.2.1 12 = .ok (.iconst 1, 1) := by decide +kernel
theorem d_253_13 : decode M_253.2.2.1 13 = .ok (.if_icmp .ne 10, 3) := by decide +kernel
theorem d_253_16 : decode M_253.2.2.1 16 = .ok (.lload_n 0, 1) := by decide +kernel
theorem d_253_17 : decode M_253.2.2.1 17 = .ok (.l2i, 1) := by decide +kernel
theorem d_253_18 : decode M_253.2.2.1 18 = .ok (.i2s, 1) := by decide +kernel
theorem d_253_19 : decode M_253.2.2.1 19 = .ok (.i2l, 1) := by decide +kernel
theorem d_253_20 : decode M_253.2.2.1 20 = .ok (.goto 15, 3) := by decide +kernel
theorem d_253_23 : decode M_253.2.2.1 23 = .ok (.iload_n 2, 1) := by decide +kernel
theorem d_253_24 : decode M_253.2.2.1 24 = .ok (.iconst 2, 1) := by decide +kernel
theorem d_253_25 : decode M_253.2.2.1 25 = .ok (.if_icmp .ne 9, 3) := by decide +kernel
theorem d_253_28 : decode M_253.2.2.1 28 = .ok (.lload_n 0, 1) := by decide +kernel
theorem d_253_29 : decode M_253.2.2.1 29 = .ok (.l2i, 1) := by decide +kernel
theorem d_253_30 : decode M_253.2.2.1 30 = .ok (.i2l, 1) := by decide +kernel
theorem d_253_31 : decode M_253.2.2.1 31 = .ok (.goto 4, 3) := by decide +kernel
theorem d_253_34 : decode M_253.2.2.1 34 = .ok (.lload_n 0, 1) := by decide +kernel
theorem d_253_35 : decode M_253.2.2.1 35 = .ok (.lreturn, 1) := by decide +kernel
/-- HeardBarrelsModel.copy(II)I -/
def M_254 : am_MT := (9, ⟨"HeardBarrelsModel", "copy", "(II)I"⟩, prog_10_method_93_code, 5, some .int, false, 2, (0, 0))
set_option maxRecDepth 8000 in
theorem hM_254 : am_ms[254]? = some M_254 := rfl
theorem d_254_0 : decode M_254.2.2.1 0 = .ok (.aload_n 0, 1) := by decide +kernel
theorem d_254_1 : decode M_254.2.2.1 1 = .ok (.iconst 0, 1) := by decide +kernel
theorem d_254_2 : decode M_254.2.2.1 2 = .ok (.putfield 1, 3) := by decide +kernel
theorem d_254_5 : decode M_254.2.2.1 5 = .ok (.iload_n 2, 1) := by decide +kernel
theorem d_254_6 : decode M_254.2.2.1 6 = .ok (.i2l, 1) := by decide +kernel
theorem d_254_7 : decode M_254.2.2.1 7 = .ok (.lconst 0, 1) := by decide +kernel
theorem d_254_8 : decode M_254.2.2.1 8 = .ok (.ldc2_w 190, 3) := by decide +kernel
theorem d_254_11 : decode M_254.2.2.1 11 = .ok (.invokestatic 152, 3) := by decide +kernel
theorem d_254_14 : decode M_254.2.2.1 14 = .ok (.ifCond .ne 6, 3) := by decide +kernel
theorem d_254_17 : decode M_254.2.2.1 17 = .ok (.bipush (-2), 2) := by decide +kernel
theorem d_254_19 : decode M_254.2.2.1 19 = .ok (.ireturn, 1) := by decide +kernel
theorem d_254_20 : decode M_254.2.2.1 20 = .ok (.aload_n 0, 1) := by decide +kernel
theorem d_254_21 : decode M_254.2.2.1 21 = .ok (.getfield 78, 3) := by decide +kernel
theorem d_254_24 : decode M_254.2.2.1 24 = .ok (.iload_n 2, 1) := by decide +kernel
theorem d_254_25 : decode M_254.2.2.1 25 = .ok (.iaload, 1) := by decide +kernel
theorem d_254_26 : decode M_254.2.2.1 26 = .ok (.iconst (-1), 1) := by decide +kernel
theorem d_254_27 : decode M_254.2.2.1 27 = .ok (.if_icmp .ne 6, 3) := by decide +kernel
theorem d_254_30 : decode M_254.2.2.1 30 = .ok (.bipush (-6), 2) := by decide +kernel
theorem d_254_32 : decode M_254.2.2.1 32 = .ok (.ireturn, 1) := by decide +kernel
theorem d_254_33 : decode M_254.2.2.1 33 = .ok (.aload_n 0, 1) := by decide +kernel
theorem d_254_34 : decode M_254.2.2.1 34 = .ok (.getfield 81, 3) := by decide +kernel
theorem d_254_37 : decode M_254.2.2.1 37 = .ok (.iload_n 2, 1) := by decide +kernel
theorem d_254_38 : decode M_254.2.2.1 38 = .ok (.iaload, 1) := by decide +kernel
theorem d_254_39 : decode M_254.2.2.1 39 = .ok (.aload_n 0, 1) := by decide +kernel
theorem d_254_40 : decode M_254.2.2.1 40 = .ok (.getfield 13, 3) := by decide +kernel
theorem d_254_43 : decode M_254.2.2.1 43 = .ok (.iconst 0, 1) := by decide +kernel
theorem d_254_44 : decode M_254.2.2.1 44 = .ok (.iaload, 1) := by decide +kernel
theorem d_254_45 : decode M_254.2.2.1 45 = .ok (.if_icmp .ge 6, 3) := by decide +kernel
theorem d_254_48 : decode M_254.2.2.1 48 = .ok (.bipush (-7), 2) := by decide +kernel
theorem d_254_50 : decode M_254.2.2.1 50 = .ok (.ireturn, 1) := by decide +kernel
theorem d_254_51 : decode M_254.2.2.1 51 = .ok (.iload_n 1, 1) := by decide +kernel
theorem d_254_52 : decode M_254.2.2.1 52 = .ok (.i2l, 1) := by decide +kernel
theorem d_254_53 : decode M_254.2.2.1 53 = .ok (.lconst 0, 1) := by decide +kernel
theorem d_254_54 : decode M_254.2.2.1 54 = .ok (.iconst 1, 1) := by decide +kernel
theorem d_254_55 : decode M_254.2.2.1 55 = .ok (.aload_n 0, 1) := by decide +kernel
theorem d_254_56 : decode M_254.2.2.1 56 = .ok (.getfield 13, 3) := by decide +kernel
theorem d_254_59 : decode M_254.2.2.1 59 = .ok (.iconst 0, 1) := by decide +kernel
theorem d_254_60 : decode M_254.2.2.1 60 = .ok (.iaload, 1) := by decide +kernel
theorem d_254_61 : decode M_254.2.2.1 61 = .ok (.ishl, 1) := by decide +kernel
theorem d_254_62 : decode M_254.2.2.1 62 = .ok (.iconst 1, 1) := by decide +kernel
theorem d_254_63 : decode M_254.2.2.1 63 = .ok (.isub, 1) := by decide +kernel
theorem d_254_64 : decode M_254.2.2.1 64 = .ok (.i2l, 1) := by decide +kernel
theorem d_254_65 : decode M_254.2.2.1 65 = .ok (.invokestatic 152, 3) := by decide +kernel
theorem d_254_68 : decode M_254.2.2.1 68 = .ok (.ifCond .ne 6, 3) := by decide +kernel
theorem d_254_71 : decode M_254.2.2.1 71 = .ok (.bipush (-3), 2) := by decide +kernel
theorem d_254_73 : decode M_254.2.2.1 73 = .ok (.ireturn, 1) := by decide +kernel
theorem d_254_74 : decode M_254.2.2.1 74 = .ok (.aload_n 0, 1) := by decide +kernel
theorem d_254_75 : decode M_254.2.2.1 75 = .ok (.iconst 1, 1) := by decide +kernel
theorem d_254_76 : decode M_254.2.2.1 76 = .ok (.invokevirtual 187, 3) := by decide +kernel
theorem d_254_79 : decode M_254.2.2.1 79 = .ok (.istore_n 3, 1) := by decide +kernel
theorem d_254_80 : decode M_254.2.2.1 80 = .ok (.iconst 0, 1) := by decide +kernel
theorem d_254_81 : decode M_254.2.2.1 81 = .ok (.istore 4, 2) := by decide +kernel
theorem d_254_83 : decode M_254.2.2.1 83 = .ok (.iload 4, 2) := by decide +kernel
theorem d_254_85 : decode M_254.2.2.1 85 = .ok (.aload_n 0, 1) := by decide +kernel
theorem d_254_86 : decode M_254.2.2.1 86 = .ok (.getfield 13, 3) := by decide +kernel
theorem d_254_89 : decode M_254.2.2.1 89 = .ok (.iconst 0, 1) := by decide +kernel
theorem d_254_90 : decode M_254.2.2.1 90 = .ok (.iaload, 1) := by decide +kernel
theorem d_254_91 : decode M_254.2.2.1 91 = .ok (.if_icmp .ge 64, 3) := by decide +kernel
theorem d_254_94 : decode M_254.2.2.1 94 = .ok (.aload_n 0, 1) := by decide +kernel
theorem d_254_95 : decode M_254.2.2.1 95 = .ok (.getfield 84, 3) := by decide +kernel
theorem d_254_98 : decode M_254.2.2.1 98 = .ok (.bipush 40, 2) := by decide +kernel
theorem d_254_100 : decode M_254.2.2.1 100 = .ok (.iload_n 2, 1) := by decide +kernel
theorem d_254_101 : decode M_254.2.2.1 101 = .ok (.imul, 1) := by decide +kernel
theorem d_254_102 : decode M_254.2.2.1 102 = .ok (.iload 4, 2) := by decide +kernel
theorem d_254_104 : decode M_254.2.2.1 104 = .ok (.iadd, 1) := by decide +kernel
theorem d_254_105 : decode M_254.2.2.1 105 = .ok (.iload_n 1, 1) := by decide +kernel
theorem d_254_106 : decode M_254.2.2.1 106 = .ok (.i2l, 1) := by decide +kernel
theorem d_254_107 : decode M_254.2.2.1 107 = .ok (.iload 4, 2) := by decide +kernel
theorem d_254_109 : decode M_254.2.2.1 109 = .ok (.invokestatic 183, 3) := by decide +kernel
theorem d_254_112 : decode M_254.2.2.1 112 = .ok (.ifCond .eq 24, 3) := by decide +kernel
theorem d_254_115 : decode M_254.2.2.1 115 = .ok (.aload_n 0, 1) := by decide +kernel
theorem d_254_116 : decode M_254.2.2.1 116 = .ok (.iload 4, 2) := by decide +kernel
theorem d_254_118 : decode M_254.2.2.1 118 = .ok (.iconst 3, 1) := by decide +kernel
theorem d_254_119 : decode M_254.2.2.1 119 = .ok (.invokevirtual 196, 3) := by decide +kernel
theorem d_254_122 : decode M_254.2.2.1 122 = .ok (.ifCond .ne 14, 3) := by decide +kernel
theorem d_254_125 : decode M_254.2.2.1 125 = .ok (.aload_n 0, 1) := by decide +kernel
theorem d_254_126 : decode M_254.2.2.1 126 = .ok (.iload 4, 2) := by decide +kernel
theorem d_254_128 : decode M_254.2.2.1 128 = .ok (.iload_n 3, 1) := by decide +kernel
theorem d_254_129 : decode M_254.2.2.1 129 = .ok (.invokevirtual 246, 3) := by decide +kernel
theorem d_254_132 : decode M_254.2.2.1 132 = .ok (.i2l, 1) := by decide +kernel
theorem d_254_133 : decode M_254.2.2.1 133 = .ok (.goto 6, 3) := by decide +kernel
theorem d_254_136 : decode M_254.2.2.1 136 = .ok (.ldc2_w 249, 3) := by decide +kernel
theorem d_254_139 : decode M_254.2.2.1 139 = .ok (.aload_n 0, 1) := by decide +kernel
theorem d_254_140 : decode M_254.2.2.1 140 = .ok (.getfield 78, 3) := by decide +kernel
theorem d_254_143 : decode M_254.2.2.1 143 = .ok (.iload_n 2, 1) := by decide +kernel
theorem d_254_144 : decode M_254.2.2.1 144 = .ok (.iaload, 1) := by decide +kernel
theorem d_254_145 : decode M_254.2.2.1 145 = .ok (.invokestatic 362, 3) := by decide +kernel
theorem d_254_148 : decode M_254.2.2.1 148 = .ok (.lastore, 1) := by decide +kernel
theorem d_254_149 : decode M_254.2.2.1 149 = .ok (.iinc 4 1, 3) := by decide +kernel
theorem d_254_152 : decode M_254.2.2.1 152 = .ok (.goto (-69), 3) := by decide +kernel
theorem d_254_155 : decode M_254.2.2.1 155 = .ok (.aload_n 0, 1) := by decide +kernel
theorem d_254_156 : decode M_254.2.2.1 156 = .ok (.getfield 13, 3) := by decide +kernel
theorem d_254_159 : decode M_254.2.2.1 159 = .ok (.iconst 0, 1) := by decide +kernel
theorem d_254_160 : decode M_254.2.2.1 160 = .ok (.iaload, 1) := by decide +kernel
theorem d_254_161 : decode M_254.2.2.1 161 = .ok (.ireturn, 1) := by decide +kernel
/-- HeardBarrelsModel.image(I)I -/
def M_255 : am_MT := (9, ⟨"HeardBarrelsModel", "image", "(I)I"⟩, prog_10_method_94_code, 3, some .int, false, 1, (0, 0))
set_option maxRecDepth 8000 in
theorem hM_255 : am_ms[255]? = some M_255 := rfl
theorem d_255_0 : decode M_255.2.2.1 0 = .ok (.aload_n 0, 1) := by decide +kernel
theorem d_255_1 : decode M_255.2.2.1 1 = .ok (.iconst 0, 1) := by decide +kernel
theorem d_255_2 : decode M_255.2.2.1 2 = .ok (.putfield 1, 3) := by decide +kernel
theorem d_255_5 : decode M_255.2.2.1 5 = .ok (.iload_n 1, 1) := by decide +kernel
theorem d_255_6 : decode M_255.2.2.1 6 = .ok (.i2l, 1) := by decide +kernel
theorem d_255_7 : decode M_255.2.2.1 7 = .ok (.lconst 0, 1) := by decide +kernel
theorem d_255_8 : decode M_255.2.2.1 8 = .ok (.lconst 1, 1) := by decide +kernel
theorem d_255_9 : decode M_255.2.2.1 9 = .ok (.invokestatic 152, 3) := by decide +kernel
theorem d_255_12 : decode M_255.2.2.1 12 = .ok (.ifCond .ne 6, 3) := by decide +kernel
theorem d_255_15 : decode M_255.2.2.1 15 = .ok (.bipush (-2), 2) := by decide +kernel
theorem d_255_17 : decode M_255.2.2.1 17 = .ok (.ireturn, 1) := by decide +kernel
theorem d_255_18 : decode M_255.2.2.1 18 = .ok (.iconst 0, 1) := by decide +kernel
theorem d_255_19 : decode M_255.2.2.1 19 = .ok (.istore_n 2, 1) := by decide +kernel
theorem d_255_20 : decode M_255.2.2.1 20 = .ok (.iload_n 2, 1) := by decide +kernel
theorem d_255_21 : decode M_255.2.2.1 21 = .ok (.bipush 56, 2) := by decide +kernel
theorem d_255_23 : decode M_255.2.2.1 23 = .ok (.if_icmp .ge 28, 3) := by decide +kernel
theorem d_255_26 : decode M_255.2.2.1 26 = .ok (.aload_n 0, 1) := by decide +kernel
theorem d_255_27 : decode M_255.2.2.1 27 = .ok (.getfield 13, 3) := by decide +kernel
theorem d_255_30 : decode M_255.2.2.1 30 = .ok (.bipush 56, 2) := by decide +kernel
theorem d_255_32 : decode M_255.2.2.1 32 = .ok (.iload_n 1, 1) := by decide +kernel
theorem d_255_33 : decode M_255.2.2.1 33 = .ok (.iconst 1, 1) := by decide +kernel
theorem d_255_34 : decode M_255.2.2.1 34 = .ok (.iadd, 1) := by decide +kernel
theorem d_255_35 : decode M_255.2.2.1 35 = .ok (.imul, 1) := by decide +kernel
theorem d_255_36 : decode M_255.2.2.1 36 = .ok (.iload_n 2, 1) := by decide +kernel
theorem d_255_37 : decode M_255.2.2.1 37 = .ok (.iadd, 1) := by decide +kernel
theorem d_255_38 : decode M_255.2.2.1 38 = .ok (.aload_n 0, 1) := by decide +kernel
theorem d_255_39 : decode M_255.2.2.1 39 = .ok (.getfield 13, 3) := by decide +kernel
theorem d_255_42 : decode M_255.2.2.1 42 = .ok (.iload_n 2, 1) := by decide +kernel
theorem d_255_43 : decode M_255.2.2.1 43 = .ok (.iaload, 1) := by decide +kernel
theorem d_255_44 : decode M_255.2.2.1 44 = .ok (.iastore, 1) := by decide +kernel
theorem d_255_45 : decode M_255.2.2.1 45 = .ok (.iinc 2 1, 3) := by decide +kernel
theorem d_255_48 : decode M_255.2.2.1 48 = .ok (.goto (-28), 3) := by decide +kernel
theorem d_255_51 : decode M_255.2.2.1 51 = .ok (.aload_n 0, 1) := by decide +kernel
theorem d_255_52 : decode M_255.2.2.1 52 = .ok (.getfield 17, 3) := by decide +kernel
theorem d_255_55 : decode M_255.2.2.1 55 = .ok (.iload_n 1, 1) := by decide +kernel
theorem d_255_56 : decode M_255.2.2.1 56 = .ok (.iconst 1, 1) := by decide +kernel
theorem d_255_57 : decode M_255.2.2.1 57 = .ok (.bastore, 1) := by decide +kernel
theorem d_255_58 : decode M_255.2.2.1 58 = .ok (.iconst 0, 1) := by decide +kernel
theorem d_255_59 : decode M_255.2.2.1 59 = .ok (.ireturn, 1) := by decide +kernel
/-- HeardBarrelsModel.restore(I)I -/
def M_256 : am_MT := (9, ⟨"HeardBarrelsModel", "restore", "(I)I"⟩, prog_10_method_95_code, 3, some .int, false, 1, (0, 0))
set_option maxRecDepth 8000 in
theorem hM_256 : am_ms[256]? = some M_256 := rfl
theorem d_256_0 : decode M_256.2.2.1 0 = .ok (.aload_n 0, 1) := by decide +kernel
theorem d_256_1 : decode M_256.2.2.1 1 = .ok (.iconst 0, 1) := by decide +kernel
theorem d_256_2 : decode M_256.2.2.1 2 = .ok (.putfield 1, 3) := by decide +kernel
theorem d_256_5 : decode M_256.2.2.1 5 = .ok (.iload_n 1, 1) := by decide +kernel
theorem d_256_6 : decode M_256.2.2.1 6 = .ok (.i2l, 1) := by decide +kernel
theorem d_256_7 : decode M_256.2.2.1 7 = .ok (.lconst 0, 1) := by decide +kernel
theorem d_256_8 : decode M_256.2.2.1 8 = .ok (.lconst 1, 1) := by decide +kernel
theorem d_256_9 : decode M_256.2.2.1 9 = .ok (.invokestatic 152, 3) := by decide +kernel
theorem d_256_12 : decode M_256.2.2.1 12 = .ok (.ifCond .ne 6, 3) := by decide +kernel
theorem d_256_15 : decode M_256.2.2.1 15 = .ok (.bipush (-2), 2) := by decide +kernel
theorem d_256_17 : decode M_256.2.2.1 17 = .ok (.ireturn, 1) := by decide +kernel
theorem d_256_18 : decode M_256.2.2.1 18 = .ok (.aload_n 0, 1) := by decide +kernel
theorem d_256_19 : decode M_256.2.2.1 19 = .ok (.getfield 17, 3) := by decide +kernel
theorem d_256_22 : decode M_256.2.2.1 22 = .ok (.iload_n 1, 1) := by decide +kernel
theorem d_256_23 : decode M_256.2.2.1 23 = .ok (.baload, 1) := by decide +kernel
theorem d_256_24 : decode M_256.2.2.1 24 = .ok (.ifCond .ne 6, 3) := by decide +kernel
theorem d_256_27 : decode M_256.2.2.1 27 = .ok (.bipush (-5), 2) := by decide +kernel
theorem d_256_29 : decode M_256.2.2.1 29 = .ok (.ireturn, 1) := by decide +kernel
theorem d_256_30 : decode M_256.2.2.1 30 = .ok (.iconst 0, 1) := by decide +kernel
theorem d_256_31 : decode M_256.2.2.1 31 = .ok (.istore_n 2, 1) := by decide +kernel
theorem d_256_32 : decode M_256.2.2.1 32 = .ok (.iload_n 2, 1) := by decide +kernel
theorem d_256_33 : decode M_256.2.2.1 33 = .ok (.bipush 56, 2) := by decide +kernel
theorem d_256_35 : decode M_256.2.2.1 35 = .ok (.if_icmp .ge 28, 3) := by decide +kernel
theorem d_256_38 : decode M_256.2.2.1 38 = .ok (.aload_n 0, 1) := by decide +kernel
theorem d_256_39 : decode M_256.2.2.1 39 = .ok (.getfield 13, 3) := by decide +kernel
theorem d_256_42 : decode M_256.2.2.1 42 = .ok (.iload_n 2, 1) := by decide +kernel
theorem d_256_43 : decode M_256.2.2.1 43 = .ok (.aload_n 0, 1) := by decide +kernel
theorem d_256_44 : decode M_256.2.2.1 44 = .ok (.getfield 13, 3) := by decide +kernel
theorem d_256_47 : decode M_256.2.2.1 47 = .ok (.bipush 56, 2) := by decide +kernel
theorem d_256_49 : decode M_256.2.2.1 49 = .ok (.iload_n 1, 1) := by decide +kernel
theorem d_256_50 : decode M_256.2.2.1 50 = .ok (.iconst 1, 1) := by decide +kernel
theorem d_256_51 : decode M_256.2.2.1 51 = .ok (.iadd, 1) := by decide +kernel
theorem d_256_52 : decode M_256.2.2.1 52 = .ok (.imul, 1) := by decide +kernel
theorem d_256_53 : decode M_256.2.2.1 53 = .ok (.iload_n 2, 1) := by decide +kernel
theorem d_256_54 : decode M_256.2.2.1 54 = .ok (.iadd, 1) := by decide +kernel
theorem d_256_55 : decode M_256.2.2.1 55 = .ok (.iaload, 1) := by decide +kernel
theorem d_256_56 : decode M_256.2.2.1 56 = .ok (.iastore, 1) := by decide +kernel
theorem d_256_57 : decode M_256.2.2.1 57 = .ok (.iinc 2 1, 3) := by decide +kernel
theorem d_256_60 : decode M_256.2.2.1 60 = .ok (.goto (-28), 3) := by decide +kernel
theorem d_256_63 : decode M_256.2.2.1 63 = .ok (.iconst 0, 1) := by decide +kernel
theorem d_256_64 : decode M_256.2.2.1 64 = .ok (.ireturn, 1) := by decide +kernel
/-- HeardBarrelsModel.count(I)I -/
def M_257 : am_MT := (9, ⟨"HeardBarrelsModel", "count", "(I)I"⟩, prog_10_method_97_code, 2, some .int, false, 1, (0, 0))
set_option maxRecDepth 8000 in
theorem hM_257 : am_ms[257]? = some M_257 := rfl
theorem d_257_0 : decode M_257.2.2.1 0 = .ok (.aload_n 0, 1) := by decide +kernel
theorem d_257_1 : decode M_257.2.2.1 1 = .ok (.iconst 0, 1) := by decide +kernel
theorem d_257_2 : decode M_257.2.2.1 2 = .ok (.putfield 1, 3) := by decide +kernel
theorem d_257_5 : decode M_257.2.2.1 5 = .ok (.iload_n 1, 1) := by decide +kernel
theorem d_257_6 : decode M_257.2.2.1 6 = .ok (.tableswitch 159 0 12 #[66, 73, 82, 92, 98, 105, 112, 119, 127, 132, 140, 147, 154], 66) := by decide +kernel
theorem d_257_72 : decode M_257.2.2.1 72 = .ok (.aload_n 0, 1) := by decide +kernel
theorem d_257_73 : decode M_257.2.2.1 73 = .ok (.getfield 13, 3) := by decide +kernel
theorem d_257_76 : decode M_257.2.2.1 76 = .ok (.iconst 0, 1) := by decide +kernel
theorem d_257_77 : decode M_257.2.2.1 77 = .ok (.iaload, 1) := by decide +kernel
theorem d_257_78 : decode M_257.2.2.1 78 = .ok (.ireturn, 1) := by decide +kernel
theorem d_257_79 : decode M_257.2.2.1 79 = .ok (.aload_n 0, 1) := by decide +kernel
theorem d_257_80 : decode M_257.2.2.1 80 = .ok (.invokevirtual 204, 3) := by decide +kernel
theorem d_257_83 : decode M_257.2.2.1 83 = .ok (.i2l, 1) := by decide +kernel
theorem d_257_84 : decode M_257.2.2.1 84 = .ok (.invokestatic 209, 3) := by decide +kernel
theorem d_257_87 : decode M_257.2.2.1 87 = .ok (.ireturn, 1) := by decide +kernel
theorem d_257_88 : decode M_257.2.2.1 88 = .ok (.aload_n 0, 1) := by decide +kernel
theorem d_257_89 : decode M_257.2.2.1 89 = .ok (.iconst 0, 1) := by decide +kernel
theorem d_257_90 : decode M_257.2.2.1 90 = .ok (.invokevirtual 187, 3) := by decide +kernel
theorem d_257_93 : decode M_257.2.2.1 93 = .ok (.i2l, 1) := by decide +kernel
theorem d_257_94 : decode M_257.2.2.1 94 = .ok (.invokestatic 209, 3) := by decide +kernel
theorem d_257_97 : decode M_257.2.2.1 97 = .ok (.ireturn, 1) := by decide +kernel
theorem d_257_98 : decode M_257.2.2.1 98 = .ok (.aload_n 0, 1) := by decide +kernel
theorem d_257_99 : decode M_257.2.2.1 99 = .ok (.iconst 1, 1) := by decide +kernel
theorem d_257_100 : decode M_257.2.2.1 100 = .ok (.invokevirtual 187, 3) := by decide +kernel
theorem d_257_103 : decode M_257.2.2.1 103 = .ok (.ireturn, 1) := by decide +kernel
theorem d_257_104 : decode M_257.2.2.1 104 = .ok (.aload_n 0, 1) := by decide +kernel
theorem d_257_105 : decode M_257.2.2.1 105 = .ok (.getfield 13, 3) := by decide +kernel
theorem d_257_108 : decode M_257.2.2.1 108 = .ok (.iconst 1, 1) := by decide +kernel
theorem d_257_109 : decode M_257.2.2.1 109 = .ok (.iaload, 1) := by decide +kernel
theorem d_257_110 : decode M_257.2.2.1 110 = .ok (.ireturn, 1) := by decide +kernel
theorem d_257_111 : decode M_257.2.2.1 111 = .ok (.aload_n 0, 1) := by decide +kernel
theorem d_257_112 : decode M_257.2.2.1 112 = .ok (.getfield 13, 3) := by decide +kernel
theorem d_257_115 : decode M_257.2.2.1 115 = .ok (.iconst 4, 1) := by decide +kernel
theorem d_257_116 : decode M_257.2.2.1 116 = .ok (.iaload, 1) := by decide +kernel
theorem d_257_117 : decode M_257.2.2.1 117 = .ok (.ireturn, 1) := by decide +kernel
theorem d_257_118 : decode M_257.2.2.1 118 = .ok (.aload_n 0, 1) := by decide +kernel
theorem d_257_119 : decode M_257.2.2.1 119 = .ok (.getfield 13, 3) := by decide +kernel
theorem d_257_122 : decode M_257.2.2.1 122 = .ok (.iconst 5, 1) := by decide +kernel
theorem d_257_123 : decode M_257.2.2.1 123 = .ok (.iaload, 1) := by decide +kernel
theorem d_257_124 : decode M_257.2.2.1 124 = .ok (.ireturn, 1) := by decide +kernel
theorem d_257_125 : decode M_257.2.2.1 125 = .ok (.aload_n 0, 1) := by decide +kernel
theorem d_257_126 : decode M_257.2.2.1 126 = .ok (.getfield 13, 3) := by decide +kernel
theorem d_257_129 : decode M_257.2.2.1 129 = .ok (.bipush 6, 2) := by decide +kernel
theorem d_257_131 : decode M_257.2.2.1 131 = .ok (.iaload, 1) := by decide +kernel
theorem d_257_132 : decode M_257.2.2.1 132 = .ok (.ireturn, 1) := by decide +kernel
theorem d_257_133 : decode M_257.2.2.1 133 = .ok (.aload_n 0, 1) := by decide +kernel
theorem d_257_134 : decode M_257.2.2.1 134 = .ok (.getfield 92, 3) := by decide +kernel
theorem d_257_137 : decode M_257.2.2.1 137 = .ok (.ireturn, 1) := by decide +kernel
theorem d_257_138 : decode M_257.2.2.1 138 = .ok (.aload_n 0, 1) := by decide +kernel
theorem d_257_139 : decode M_257.2.2.1 139 = .ok (.getfield 13, 3) := by decide +kernel
theorem d_257_142 : decode M_257.2.2.1 142 = .ok (.bipush 7, 2) := by decide +kernel
theorem d_257_144 : decode M_257.2.2.1 144 = .ok (.iaload, 1) := by decide +kernel
theorem d_257_145 : decode M_257.2.2.1 145 = .ok (.ireturn, 1) := by decide +kernel
theorem d_257_146 : decode M_257.2.2.1 146 = .ok (.aload_n 0, 1) := by decide +kernel
theorem d_257_147 : decode M_257.2.2.1 147 = .ok (.getfield 13, 3) := by decide +kernel
theorem d_257_150 : decode M_257.2.2.1 150 = .ok (.iconst 2, 1) := by decide +kernel
theorem d_257_151 : decode M_257.2.2.1 151 = .ok (.iaload, 1) := by decide +kernel
theorem d_257_152 : decode M_257.2.2.1 152 = .ok (.ireturn, 1) := by decide +kernel
theorem d_257_153 : decode M_257.2.2.1 153 = .ok (.aload_n 0, 1) := by decide +kernel
theorem d_257_154 : decode M_257.2.2.1 154 = .ok (.getfield 13, 3) := by decide +kernel
theorem d_257_157 : decode M_257.2.2.1 157 = .ok (.iconst 3, 1) := by decide +kernel
theorem d_257_158 : decode M_257.2.2.1 158 = .ok (.iaload, 1) := by decide +kernel
theorem d_257_159 : decode M_257.2.2.1 159 = .ok (.ireturn, 1) := by decide +kernel
theorem d_257_160 : decode M_257.2.2.1 160 = .ok (.aload_n 0, 1) := by decide +kernel
theorem d_257_161 : decode M_257.2.2.1 161 = .ok (.invokevirtual 366, 3) := by decide +kernel
theorem d_257_164 : decode M_257.2.2.1 164 = .ok (.ireturn, 1) := by decide +kernel
theorem d_257_165 : decode M_257.2.2.1 165 = .ok (.iconst (-1), 1) := by decide +kernel
theorem d_257_166 : decode M_257.2.2.1 166 = .ok (.ireturn, 1) := by decide +kernel
/-- HeardBarrelsModel.ripeAll()I -/
def M_258 : am_MT := (9, ⟨"HeardBarrelsModel", "ripeAll", "()I"⟩, prog_10_method_96_code, 3, some .int, false, 0, (0, 0))
set_option maxRecDepth 8000 in
theorem hM_258 : am_ms[258]? = some M_258 := rfl
theorem d_258_0 : decode M_258.2.2.1 0 = .ok (.iconst 0, 1) := by decide +kernel
theorem d_258_1 : decode M_258.2.2.1 1 = .ok (.istore_n 1, 1) := by decide +kernel
theorem d_258_2 : decode M_258.2.2.1 2 = .ok (.iconst 0, 1) := by decide +kernel
theorem d_258_3 : decode M_258.2.2.1 3 = .ok (.istore_n 2, 1) := by decide +kernel
theorem d_258_4 : decode M_258.2.2.1 4 = .ok (.iload_n 2, 1) := by decide +kernel
theorem d_258_5 : decode M_258.2.2.1 5 = .ok (.aload_n 0, 1) := by decide +kernel
theorem d_258_6 : decode M_258.2.2.1 6 = .ok (.getfield 13, 3) := by decide +kernel
theorem d_258_9 : decode M_258.2.2.1 9 = .ok (.iconst 0, 1) := by decide +kernel
theorem d_258_10 : decode M_258.2.2.1 10 = .ok (.iaload, 1) := by decide +kernel
theorem d_258_11 : decode M_258.2.2.1 11 = .ok (.if_icmp .ge 21, 3) := by decide +kernel
theorem d_258_14 : decode M_258.2.2.1 14 = .ok (.iload_n 1, 1) := by decide +kernel
theorem d_258_15 : decode M_258.2.2.1 15 = .ok (.aload_n 0, 1) := by decide +kernel
theorem d_258_16 : decode M_258.2.2.1 16 = .ok (.getfield 13, 3) := by decide +kernel
theorem d_258_19 : decode M_258.2.2.1 19 = .ok (.bipush 32, 2) := by decide +kernel
theorem d_258_21 : decode M_258.2.2.1 21 = .ok (.iload_n 2, 1) := by decide +kernel
theorem d_258_22 : decode M_258.2.2.1 22 = .ok (.iadd, 1) := by decide +kernel
theorem d_258_23 : decode M_258.2.2.1 23 = .ok (.iaload, 1) := by decide +kernel
theorem d_258_24 : decode M_258.2.2.1 24 = .ok (.iadd, 1) := by decide +kernel
theorem d_258_25 : decode M_258.2.2.1 25 = .ok (.istore_n 1, 1) := by decide +kernel
theorem d_258_26 : decode M_258.2.2.1 26 = .ok (.iinc 2 1, 3) := by decide +kernel
theorem d_258_29 : decode M_258.2.2.1 29 = .ok (.goto (-25), 3) := by decide +kernel
theorem d_258_32 : decode M_258.2.2.1 32 = .ok (.iload_n 1, 1) := by decide +kernel
theorem d_258_33 : decode M_258.2.2.1 33 = .ok (.ireturn, 1) := by decide +kernel
