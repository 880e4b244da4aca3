/-- HeardBarrels.<init>()V -/
def M_1 : am_MT := (1, ⟨"HeardBarrels", "<init>", "()V"⟩, prog_1_method_1_code, 2, none, true, 0, (52, 17350))
theorem hM_1 : am_ms[1]? = some M_1 := rfl
theorem d_1_0 : decode M_1.2.2.1 0 = .ok (.aload_n 0, 1) := by decide +kernel
theorem d_1_1 : decode M_1.2.2.1 1 = .ok (.invokespecial 1, 3) := by decide +kernel
theorem d_1_4 : decode M_1.2.2.1 4 = .ok (.aload_n 0, 1) := by decide +kernel
theorem d_1_5 : decode M_1.2.2.1 5 = .ok (.sipush 900, 3) := by decide +kernel
theorem d_1_8 : decode M_1.2.2.1 8 = .ok (.newarray .byte, 2) := by decide +kernel
theorem d_1_10 : decode M_1.2.2.1 10 = .ok (.putfield 9, 3) := by decide +kernel
theorem d_1_13 : decode M_1.2.2.1 13 = .ok (.aload_n 0, 1) := by decide +kernel
theorem d_1_14 : decode M_1.2.2.1 14 = .ok (.new 13, 3) := by decide +kernel
theorem d_1_17 : decode M_1.2.2.1 17 = .ok (.dup, 1) := by decide +kernel
theorem d_1_18 : decode M_1.2.2.1 18 = .ok (.invokespecial 15, 3) := by decide +kernel
theorem d_1_21 : decode M_1.2.2.1 21 = .ok (.putfield 16, 3) := by decide +kernel
theorem d_1_24 : decode M_1.2.2.1 24 = .ok (.aload_n 0, 1) := by decide +kernel
theorem d_1_25 : decode M_1.2.2.1 25 = .ok (.new 13, 3) := by decide +kernel
theorem d_1_28 : decode M_1.2.2.1 28 = .ok (.dup, 1) := by decide +kernel
theorem d_1_29 : decode M_1.2.2.1 29 = .ok (.invokespecial 15, 3) := by decide +kernel
theorem d_1_32 : decode M_1.2.2.1 32 = .ok (.putfield 20, 3) := by decide +kernel
theorem d_1_35 : decode M_1.2.2.1 35 = .ok (.aload_n 0, 1) := by decide +kernel
theorem d_1_36 : decode M_1.2.2.1 36 = .ok (.iconst 2, 1) := by decide +kernel
theorem d_1_37 : decode M_1.2.2.1 37 = .ok (.anewarray 13, 3) := by decide +kernel
theorem d_1_40 : decode M_1.2.2.1 40 = .ok (.putfield 23, 3) := by decide +kernel
theorem d_1_43 : decode M_1.2.2.1 43 = .ok (.aload_n 0, 1) := by decide +kernel
theorem d_1_44 : decode M_1.2.2.1 44 = .ok (.iconst 2, 1) := by decide +kernel
theorem d_1_45 : decode M_1.2.2.1 45 = .ok (.newarray .boolean, 2) := by decide +kernel
theorem d_1_47 : decode M_1.2.2.1 47 = .ok (.putfield 27, 3) := by decide +kernel
theorem d_1_50 : decode M_1.2.2.1 50 = .ok (.aload_n 0, 1) := by decide +kernel
theorem d_1_51 : decode M_1.2.2.1 51 = .ok (.iconst 4, 1) := by decide +kernel
theorem d_1_52 : decode M_1.2.2.1 52 = .ok (.anewarray 31, 3) := by decide +kernel
theorem d_1_55 : decode M_1.2.2.1 55 = .ok (.putfield 33, 3) := by decide +kernel
theorem d_1_58 : decode M_1.2.2.1 58 = .ok (.iconst 0, 1) := by decide +kernel
theorem d_1_59 : decode M_1.2.2.1 59 = .ok (.istore_n 1, 1) := by decide +kernel
theorem d_1_60 : decode M_1.2.2.1 60 = .ok (.iload_n 1, 1) := by decide +kernel
theorem d_1_61 : decode M_1.2.2.1 61 = .ok (.iconst 2, 1) := by decide +kernel
theorem d_1_62 : decode M_1.2.2.1 62 = .ok (.if_icmp .ge 22, 3) := by decide +kernel
theorem d_1_65 : decode M_1.2.2.1 65 = .ok (.aload_n 0, 1) := by decide +kernel
theorem d_1_66 : decode M_1.2.2.1 66 = .ok (.getfield 23, 3) := by decide +kernel
theorem d_1_69 : decode M_1.2.2.1 69 = .ok (.iload_n 1, 1) := by decide +kernel
theorem d_1_70 : decode M_1.2.2.1 70 = .ok (.new 13, 3) := by decide +kernel
theorem d_1_73 : decode M_1.2.2.1 73 = .ok (.dup, 1) := by decide +kernel
theorem d_1_74 : decode M_1.2.2.1 74 = .ok (.invokespecial 15, 3) := by decide +kernel
theorem d_1_77 : decode M_1.2.2.1 77 = .ok (.aastore, 1) := by decide +kernel
theorem d_1_78 : decode M_1.2.2.1 78 = .ok (.iinc 1 1, 3) := by decide +kernel
theorem d_1_81 : decode M_1.2.2.1 81 = .ok (.goto (-21), 3) := by decide +kernel
theorem d_1_84 : decode M_1.2.2.1 84 = .ok (.iconst 0, 1) := by decide +kernel
theorem d_1_85 : decode M_1.2.2.1 85 = .ok (.istore_n 1, 1) := by decide +kernel
theorem d_1_86 : decode M_1.2.2.1 86 = .ok (.iload_n 1, 1) := by decide +kernel
theorem d_1_87 : decode M_1.2.2.1 87 = .ok (.iconst 4, 1) := by decide +kernel
theorem d_1_88 : decode M_1.2.2.1 88 = .ok (.if_icmp .ge 22, 3) := by decide +kernel
theorem d_1_91 : decode M_1.2.2.1 91 = .ok (.aload_n 0, 1) := by decide +kernel
theorem d_1_92 : decode M_1.2.2.1 92 = .ok (.getfield 33, 3) := by decide +kernel
theorem d_1_95 : decode M_1.2.2.1 95 = .ok (.iload_n 1, 1) := by decide +kernel
theorem d_1_96 : decode M_1.2.2.1 96 = .ok (.new 31, 3) := by decide +kernel
theorem d_1_99 : decode M_1.2.2.1 99 = .ok (.dup, 1) := by decide +kernel
theorem d_1_100 : decode M_1.2.2.1 100 = .ok (.invokespecial 37, 3) := by decide +kernel
theorem d_1_103 : decode M_1.2.2.1 103 = .ok (.aastore, 1) := by decide +kernel
theorem d_1_104 : decode M_1.2.2.1 104 = .ok (.iinc 1 1, 3) := by decide +kernel
theorem d_1_107 : decode M_1.2.2.1 107 = .ok (.goto (-21), 3) := by decide +kernel
theorem d_1_110 : decode M_1.2.2.1 110 = .ok (.aload_n 0, 1) := by decide +kernel
theorem d_1_111 : decode M_1.2.2.1 111 = .ok (.new 38, 3) := by decide +kernel
theorem d_1_114 : decode M_1.2.2.1 114 = .ok (.dup, 1) := by decide +kernel
theorem d_1_115 : decode M_1.2.2.1 115 = .ok (.aload_n 0, 1) := by decide +kernel
theorem d_1_116 : decode M_1.2.2.1 116 = .ok (.getfield 9, 3) := by decide +kernel
theorem d_1_119 : decode M_1.2.2.1 119 = .ok (.aload_n 0, 1) := by decide +kernel
theorem d_1_120 : decode M_1.2.2.1 120 = .ok (.getfield 20, 3) := by decide +kernel
theorem d_1_123 : decode M_1.2.2.1 123 = .ok (.invokespecial 40, 3) := by decide +kernel
theorem d_1_126 : decode M_1.2.2.1 126 = .ok (.putfield 43, 3) := by decide +kernel
theorem d_1_129 : decode M_1.2.2.1 129 = .ok (.aload_n 0, 1) := by decide +kernel
theorem d_1_130 : decode M_1.2.2.1 130 = .ok (.new 47, 3) := by decide +kernel
theorem d_1_133 : decode M_1.2.2.1 133 = .ok (.dup, 1) := by decide +kernel
theorem d_1_134 : decode M_1.2.2.1 134 = .ok (.aload_n 0, 1) := by decide +kernel
theorem d_1_135 : decode M_1.2.2.1 135 = .ok (.getfield 16, 3) := by decide +kernel
theorem d_1_138 : decode M_1.2.2.1 138 = .ok (.invokespecial 49, 3) := by decide +kernel
theorem d_1_141 : decode M_1.2.2.1 141 = .ok (.putfield 52, 3) := by decide +kernel
theorem d_1_144 : decode M_1.2.2.1 144 = .ok (.aload_n 0, 1) := by decide +kernel
theorem d_1_145 : decode M_1.2.2.1 145 = .ok (.new 56, 3) := by decide +kernel
theorem d_1_148 : decode M_1.2.2.1 148 = .ok (.dup, 1) := by decide +kernel
theorem d_1_149 : decode M_1.2.2.1 149 = .ok (.aload_n 0, 1) := by decide +kernel
theorem d_1_150 : decode M_1.2.2.1 150 = .ok (.getfield 16, 3) := by decide +kernel
theorem d_1_153 : decode M_1.2.2.1 153 = .ok (.invokespecial 58, 3) := by decide +kernel
theorem d_1_156 : decode M_1.2.2.1 156 = .ok (.putfield 59, 3) := by decide +kernel
theorem d_1_159 : decode M_1.2.2.1 159 = .ok (.aload_n 0, 1) := by decide +kernel
theorem d_1_160 : decode M_1.2.2.1 160 = .ok (.new 63, 3) := by decide +kernel
theorem d_1_163 : decode M_1.2.2.1 163 = .ok (.dup, 1) := by decide +kernel
theorem d_1_164 : decode M_1.2.2.1 164 = .ok (.aload_n 0, 1) := by decide +kernel
theorem d_1_165 : decode M_1.2.2.1 165 = .ok (.getfield 16, 3) := by decide +kernel
theorem d_1_168 : decode M_1.2.2.1 168 = .ok (.invokespecial 65, 3) := by decide +kernel
theorem d_1_171 : decode M_1.2.2.1 171 = .ok (.putfield 66, 3) := by decide +kernel
theorem d_1_174 : decode M_1.2.2.1 174 = .ok (.aload_n 0, 1) := by decide +kernel
theorem d_1_175 : decode M_1.2.2.1 175 = .ok (.new 70, 3) := by decide +kernel
theorem d_1_178 : decode M_1.2.2.1 178 = .ok (.dup, 1) := by decide +kernel
theorem d_1_179 : decode M_1.2.2.1 179 = .ok (.aload_n 0, 1) := by decide +kernel
theorem d_1_180 : decode M_1.2.2.1 180 = .ok (.getfield 16, 3) := by decide +kernel
theorem d_1_183 : decode M_1.2.2.1 183 = .ok (.invokespecial 72, 3) := by decide +kernel
theorem d_1_186 : decode M_1.2.2.1 186 = .ok (.putfield 73, 3) := by decide +kernel
theorem d_1_189 : decode M_1.2.2.1 189 = .ok (.return_, 1) := by decide +kernel
/-- HeardBarrels.feed(IIIII)I -/
def M_10 : am_MT := (1, ⟨"HeardBarrels", "feed", "(IIIII)I"⟩, prog_1_method_2_code, 6, some .int, false, 5, (0, 0))
theorem hM_10 : am_ms[10]? = some M_10 := rfl
theorem d_10_0 : decode M_10.2.2.1 0 = .ok (.aload_n 0, 1) := by decide +kernel
theorem d_10_1 : decode M_10.2.2.1 1 = .ok (.getfield 77, 3) := by decide +kernel
theorem d_10_4 : decode M_10.2.2.1 4 = .ok (.sipush 880, 3) := by decide +kernel
theorem d_10_7 : decode M_10.2.2.1 7 = .ok (.if_icmp .le 6, 3) := by decide +kernel
theorem d_10_10 : decode M_10.2.2.1 10 = .ok (.bipush (-5), 2) := by decide +kernel
theorem d_10_12 : decode M_10.2.2.1 12 = .ok (.ireturn, 1) := by decide +kernel
theorem d_10_13 : decode M_10.2.2.1 13 = .ok (.aload_n 0, 1) := by decide +kernel
theorem d_10_14 : decode M_10.2.2.1 14 = .ok (.iload_n 1, 1) := by decide +kernel
theorem d_10_15 : decode M_10.2.2.1 15 = .ok (.invokevirtual 81, 3) := by decide +kernel
theorem d_10_18 : decode M_10.2.2.1 18 = .ok (.aload_n 0, 1) := by decide +kernel
theorem d_10_19 : decode M_10.2.2.1 19 = .ok (.iload_n 2, 1) := by decide +kernel
theorem d_10_20 : decode M_10.2.2.1 20 = .ok (.invokevirtual 81, 3) := by decide +kernel
theorem d_10_23 : decode M_10.2.2.1 23 = .ok (.aload_n 0, 1) := by decide +kernel
theorem d_10_24 : decode M_10.2.2.1 24 = .ok (.iload_n 3, 1) := by decide +kernel
theorem d_10_25 : decode M_10.2.2.1 25 = .ok (.invokevirtual 81, 3) := by decide +kernel
theorem d_10_28 : decode M_10.2.2.1 28 = .ok (.aload_n 0, 1) := by decide +kernel
theorem d_10_29 : decode M_10.2.2.1 29 = .ok (.iload 4, 2) := by decide +kernel
theorem d_10_31 : decode M_10.2.2.1 31 = .ok (.invokevirtual 81, 3) := by decide +kernel
theorem d_10_34 : decode M_10.2.2.1 34 = .ok (.aload_n 0, 1) := by decide +kernel
theorem d_10_35 : decode M_10.2.2.1 35 = .ok (.iload 5, 2) := by decide +kernel
theorem d_10_37 : decode M_10.2.2.1 37 = .ok (.invokevirtual 81, 3) := by decide +kernel
theorem d_10_40 : decode M_10.2.2.1 40 = .ok (.aload_n 0, 1) := by decide +kernel
theorem d_10_41 : decode M_10.2.2.1 41 = .ok (.getfield 77, 3) := by decide +kernel
theorem d_10_44 : decode M_10.2.2.1 44 = .ok (.ireturn, 1) := by decide +kernel
/-- HeardBarrels.append(I)V -/
def M_11 : am_MT := (1, ⟨"HeardBarrels", "append", "(I)V"⟩, prog_1_method_3_code, 3, none, false, 1, (0, 0))
theorem hM_11 : am_ms[11]? = some M_11 := rfl
theorem d_11_0 : decode M_11.2.2.1 0 = .ok (.bipush 24, 2) := by decide +kernel
theorem d_11_2 : decode M_11.2.2.1 2 = .ok (.istore_n 2, 1) := by decide +kernel
theorem d_11_3 : decode M_11.2.2.1 3 = .ok (.iload_n 2, 1) := by decide +kernel
theorem d_11_4 : decode M_11.2.2.1 4 = .ok (.ifCond .lt 42, 3) := by decide +kernel
theorem d_11_7 : decode M_11.2.2.1 7 = .ok (.aload_n 0, 1) := by decide +kernel
theorem d_11_8 : decode M_11.2.2.1 8 = .ok (.getfield 77, 3) := by decide +kernel
theorem d_11_11 : decode M_11.2.2.1 11 = .ok (.sipush 900, 3) := by decide +kernel
theorem d_11_14 : decode M_11.2.2.1 14 = .ok (.if_icmp .ge 32, 3) := by decide +kernel
theorem d_11_17 : decode M_11.2.2.1 17 = .ok (.aload_n 0, 1) := by decide +kernel
theorem d_11_18 : decode M_11.2.2.1 18 = .ok (.getfield 9, 3) := by decide +kernel
theorem d_11_21 : decode M_11.2.2.1 21 = .ok (.aload_n 0, 1) := by decide +kernel
theorem d_11_22 : decode M_11.2.2.1 22 = .ok (.getfield 77, 3) := by decide +kernel
theorem d_11_25 : decode M_11.2.2.1 25 = .ok (.iload_n 1, 1) := by decide +kernel
theorem d_11_26 : decode M_11.2.2.1 26 = .ok (.iload_n 2, 1) := by decide +kernel
theorem d_11_27 : decode M_11.2.2.1 27 = .ok (.iushr, 1) := by decide +kernel
theorem d_11_28 : decode M_11.2.2.1 28 = .ok (.i2b, 1) := by decide +kernel
theorem d_11_29 : decode M_11.2.2.1 29 = .ok (.bastore, 1) := by decide +kernel
theorem d_11_30 : decode M_11.2.2.1 30 = .ok (.aload_n 0, 1) := by decide +kernel
theorem d_11_31 : decode M_11.2.2.1 31 = .ok (.dup, 1) := by decide +kernel
theorem d_11_32 : decode M_11.2.2.1 32 = .ok (.getfield 77, 3) := by decide +kernel
theorem d_11_35 : decode M_11.2.2.1 35 = .ok (.iconst 1, 1) := by decide +kernel
theorem d_11_36 : decode M_11.2.2.1 36 = .ok (.iadd, 1) := by decide +kernel
theorem d_11_37 : decode M_11.2.2.1 37 = .ok (.putfield 77, 3) := by decide +kernel
theorem d_11_40 : decode M_11.2.2.1 40 = .ok (.iinc 2 (-8), 3) := by decide +kernel
theorem d_11_43 : decode M_11.2.2.1 43 = .ok (.goto (-40), 3) := by decide +kernel
theorem d_11_46 : decode M_11.2.2.1 46 = .ok (.return_, 1) := by decide +kernel
/-- HeardBarrels.house(I)I -/
def M_12 : am_MT := (1, ⟨"HeardBarrels", "house", "(I)I"⟩, prog_1_method_4_code, 2, some .int, false, 1, (0, 0))
theorem hM_12 : am_ms[12]? = some M_12 := rfl
theorem d_12_0 : decode M_12.2.2.1 0 = .ok (.iload_n 1, 1) := by decide +kernel
theorem d_12_1 : decode M_12.2.2.1 1 = .ok (.ifCond .lt 11, 3) := by decide +kernel
theorem d_12_4 : decode M_12.2.2.1 4 = .ok (.iload_n 1, 1) := by decide +kernel
theorem d_12_5 : decode M_12.2.2.1 5 = .ok (.aload_n 0, 1) := by decide +kernel
theorem d_12_6 : decode M_12.2.2.1 6 = .ok (.getfield 77, 3) := by decide +kernel
theorem d_12_9 : decode M_12.2.2.1 9 = .ok (.if_icmp .le 6, 3) := by decide +kernel
theorem d_12_12 : decode M_12.2.2.1 12 = .ok (.bipush (-3), 2) := by decide +kernel
theorem d_12_14 : decode M_12.2.2.1 14 = .ok (.ireturn, 1) := by decide +kernel
theorem d_12_15 : decode M_12.2.2.1 15 = .ok (.aload_n 0, 1) := by decide +kernel
theorem d_12_16 : decode M_12.2.2.1 16 = .ok (.iconst 0, 1) := by decide +kernel
theorem d_12_17 : decode M_12.2.2.1 17 = .ok (.putfield 77, 3) := by decide +kernel
theorem d_12_20 : decode M_12.2.2.1 20 = .ok (.aload_n 0, 1) := by decide +kernel
theorem d_12_21 : decode M_12.2.2.1 21 = .ok (.getfield 43, 3) := by decide +kernel
theorem d_12_24 : decode M_12.2.2.1 24 = .ok (.iload_n 1, 1) := by decide +kernel
theorem d_12_25 : decode M_12.2.2.1 25 = .ok (.invokevirtual 85, 3) := by decide +kernel
theorem d_12_28 : decode M_12.2.2.1 28 = .ok (.ifCond .ne 14, 3) := by decide +kernel
theorem d_12_31 : decode M_12.2.2.1 31 = .ok (.bipush (-30), 2) := by decide +kernel
theorem d_12_33 : decode M_12.2.2.1 33 = .ok (.aload_n 0, 1) := by decide +kernel
theorem d_12_34 : decode M_12.2.2.1 34 = .ok (.getfield 43, 3) := by decide +kernel
theorem d_12_37 : decode M_12.2.2.1 37 = .ok (.getfield 89, 3) := by decide +kernel
theorem d_12_40 : decode M_12.2.2.1 40 = .ok (.isub, 1) := by decide +kernel
theorem d_12_41 : decode M_12.2.2.1 41 = .ok (.ireturn, 1) := by decide +kernel
theorem d_12_42 : decode M_12.2.2.1 42 = .ok (.aload_n 0, 1) := by decide +kernel
theorem d_12_43 : decode M_12.2.2.1 43 = .ok (.getfield 16, 3) := by decide +kernel
theorem d_12_46 : decode M_12.2.2.1 46 = .ok (.aload_n 0, 1) := by decide +kernel
theorem d_12_47 : decode M_12.2.2.1 47 = .ok (.getfield 20, 3) := by decide +kernel
theorem d_12_50 : decode M_12.2.2.1 50 = .ok (.invokevirtual 92, 3) := by decide +kernel
theorem d_12_53 : decode M_12.2.2.1 53 = .ok (.aload_n 0, 1) := by decide +kernel
theorem d_12_54 : decode M_12.2.2.1 54 = .ok (.getfield 16, 3) := by decide +kernel
theorem d_12_57 : decode M_12.2.2.1 57 = .ok (.getfield 95, 3) := by decide +kernel
theorem d_12_60 : decode M_12.2.2.1 60 = .ok (.ireturn, 1) := by decide +kernel
/-- HeardBarrels.fault(I)I -/
def M_38 : am_MT := (1, ⟨"HeardBarrels", "fault", "(I)I"⟩, prog_1_method_5_code, 2, some .int, false, 1, (0, 0))
theorem hM_38 : am_ms[38]? = some M_38 := rfl
theorem d_38_0 : decode M_38.2.2.1 0 = .ok (.iload_n 1, 1) := by decide +kernel
theorem d_38_1 : decode M_38.2.2.1 1 = .ok (.lookupswitch 43 #[(0, 27), (1, 35)], 27) := by decide +kernel
theorem d_38_28 : decode M_38.2.2.1 28 = .ok (.aload_n 0, 1) := by decide +kernel
theorem d_38_29 : decode M_38.2.2.1 29 = .ok (.getfield 43, 3) := by decide +kernel
theorem d_38_32 : decode M_38.2.2.1 32 = .ok (.getfield 89, 3) := by decide +kernel
theorem d_38_35 : decode M_38.2.2.1 35 = .ok (.ireturn, 1) := by decide +kernel
theorem d_38_36 : decode M_38.2.2.1 36 = .ok (.aload_n 0, 1) := by decide +kernel
theorem d_38_37 : decode M_38.2.2.1 37 = .ok (.getfield 43, 3) := by decide +kernel
theorem d_38_40 : decode M_38.2.2.1 40 = .ok (.getfield 98, 3) := by decide +kernel
theorem d_38_43 : decode M_38.2.2.1 43 = .ok (.ireturn, 1) := by decide +kernel
theorem d_38_44 : decode M_38.2.2.1 44 = .ok (.iconst (-1), 1) := by decide +kernel
theorem d_38_45 : decode M_38.2.2.1 45 = .ok (.ireturn, 1) := by decide +kernel
/-- HeardBarrels.barrel(II)I -/
def M_39 : am_MT := (1, ⟨"HeardBarrels", "barrel", "(II)I"⟩, prog_1_method_6_code, 3, some .int, false, 2, (0, 0))
theorem hM_39 : am_ms[39]? = some M_39 := rfl
theorem d_39_0 : decode M_39.2.2.1 0 = .ok (.aload_n 0, 1) := by decide +kernel
theorem d_39_1 : decode M_39.2.2.1 1 = .ok (.getfield 16, 3) := by decide +kernel
theorem d_39_4 : decode M_39.2.2.1 4 = .ok (.iload_n 1, 1) := by decide +kernel
theorem d_39_5 : decode M_39.2.2.1 5 = .ok (.invokevirtual 101, 3) := by decide +kernel
theorem d_39_8 : decode M_39.2.2.1 8 = .ok (.ifCond .ne 6, 3) := by decide +kernel
theorem d_39_11 : decode M_39.2.2.1 11 = .ok (.bipush (-2), 2) := by decide +kernel
theorem d_39_13 : decode M_39.2.2.1 13 = .ok (.ireturn, 1) := by decide +kernel
theorem d_39_14 : decode M_39.2.2.1 14 = .ok (.iload_n 2, 1) := by decide +kernel
theorem d_39_15 : decode M_39.2.2.1 15 = .ok (.tableswitch 69 0 3 #[29, 39, 49, 59], 29) := by decide +kernel
theorem d_39_44 : decode M_39.2.2.1 44 = .ok (.aload_n 0, 1) := by decide +kernel
theorem d_39_45 : decode M_39.2.2.1 45 = .ok (.getfield 16, 3) := by decide +kernel
theorem d_39_48 : decode M_39.2.2.1 48 = .ok (.getfield 104, 3) := by decide +kernel
theorem d_39_51 : decode M_39.2.2.1 51 = .ok (.iload_n 1, 1) := by decide +kernel
theorem d_39_52 : decode M_39.2.2.1 52 = .ok (.iaload, 1) := by decide +kernel
theorem d_39_53 : decode M_39.2.2.1 53 = .ok (.ireturn, 1) := by decide +kernel
theorem d_39_54 : decode M_39.2.2.1 54 = .ok (.aload_n 0, 1) := by decide +kernel
theorem d_39_55 : decode M_39.2.2.1 55 = .ok (.getfield 16, 3) := by decide +kernel
theorem d_39_58 : decode M_39.2.2.1 58 = .ok (.getfield 108, 3) := by decide +kernel
theorem d_39_61 : decode M_39.2.2.1 61 = .ok (.iload_n 1, 1) := by decide +kernel
theorem d_39_62 : decode M_39.2.2.1 62 = .ok (.iaload, 1) := by decide +kernel
theorem d_39_63 : decode M_39.2.2.1 63 = .ok (.ireturn, 1) := by decide +kernel
theorem d_39_64 : decode M_39.2.2.1 64 = .ok (.aload_n 0, 1) := by decide +kernel
theorem d_39_65 : decode M_39.2.2.1 65 = .ok (.getfield 16, 3) := by decide +kernel
theorem d_39_68 : decode M_39.2.2.1 68 = .ok (.getfield 111, 3) := by decide +kernel
theorem d_39_71 : decode M_39.2.2.1 71 = .ok (.iload_n 1, 1) := by decide +kernel
theorem d_39_72 : decode M_39.2.2.1 72 = .ok (.iaload, 1) := by decide +kernel
theorem d_39_73 : decode M_39.2.2.1 73 = .ok (.ireturn, 1) := by decide +kernel
theorem d_39_74 : decode M_39.2.2.1 74 = .ok (.aload_n 0, 1) := by decide +kernel
theorem d_39_75 : decode M_39.2.2.1 75 = .ok (.getfield 16, 3) := by decide +kernel
theorem d_39_78 : decode M_39.2.2.1 78 = .ok (.getfield 114, 3) := by decide +kernel
theorem d_39_81 : decode M_39.2.2.1 81 = .ok (.iload_n 1, 1) := by decide +kernel
theorem d_39_82 : decode M_39.2.2.1 82 = .ok (.iaload, 1) := by decide +kernel
theorem d_39_83 : decode M_39.2.2.1 83 = .ok (.ireturn, 1) := by decide +kernel
theorem d_39_84 : decode M_39.2.2.1 84 = .ok (.bipush (-2), 2) := by decide +kernel
theorem d_39_86 : decode M_39.2.2.1 86 = .ok (.ireturn, 1) := by decide +kernel
/-- HeardBarrels.swap(II)I -/
def M_41 : am_MT := (1, ⟨"HeardBarrels", "swap", "(II)I"⟩, prog_1_method_7_code, 3, some .int, false, 2, (0, 0))
theorem hM_41 : am_ms[41]? = some M_41 := rfl
theorem d_41_0 : decode M_41.2.2.1 0 = .ok (.aload_n 0, 1) := by decide +kernel
theorem d_41_1 : decode M_41.2.2.1 1 = .ok (.getfield 16, 3) := by decide +kernel
theorem d_41_4 : decode M_41.2.2.1 4 = .ok (.iload_n 1, 1) := by decide +kernel
theorem d_41_5 : decode M_41.2.2.1 5 = .ok (.invokevirtual 101, 3) := by decide +kernel
theorem d_41_8 : decode M_41.2.2.1 8 = .ok (.ifCond .eq 14, 3) := by decide +kernel
theorem d_41_11 : decode M_41.2.2.1 11 = .ok (.aload_n 0, 1) := by decide +kernel
theorem d_41_12 : decode M_41.2.2.1 12 = .ok (.getfield 16, 3) := by decide +kernel
theorem d_41_15 : decode M_41.2.2.1 15 = .ok (.iload_n 2, 1) := by decide +kernel
theorem d_41_16 : decode M_41.2.2.1 16 = .ok (.invokevirtual 101, 3) := by decide +kernel
theorem d_41_19 : decode M_41.2.2.1 19 = .ok (.ifCond .ne 6, 3) := by decide +kernel
theorem d_41_22 : decode M_41.2.2.1 22 = .ok (.bipush (-2), 2) := by decide +kernel
theorem d_41_24 : decode M_41.2.2.1 24 = .ok (.ireturn, 1) := by decide +kernel
theorem d_41_25 : decode M_41.2.2.1 25 = .ok (.aload_n 0, 1) := by decide +kernel
theorem d_41_26 : decode M_41.2.2.1 26 = .ok (.getfield 16, 3) := by decide +kernel
theorem d_41_29 : decode M_41.2.2.1 29 = .ok (.iload_n 1, 1) := by decide +kernel
theorem d_41_30 : decode M_41.2.2.1 30 = .ok (.iload_n 2, 1) := by decide +kernel
theorem d_41_31 : decode M_41.2.2.1 31 = .ok (.invokevirtual 117, 3) := by decide +kernel
theorem d_41_34 : decode M_41.2.2.1 34 = .ok (.iconst 0, 1) := by decide +kernel
theorem d_41_35 : decode M_41.2.2.1 35 = .ok (.ireturn, 1) := by decide +kernel
/-- HeardBarrels.sell(I)I -/
def M_43 : am_MT := (1, ⟨"HeardBarrels", "sell", "(I)I"⟩, prog_1_method_8_code, 3, some .int, false, 1, (0, 0))
theorem hM_43 : am_ms[43]? = some M_43 := rfl
theorem d_43_0 : decode M_43.2.2.1 0 = .ok (.aload_n 0, 1) := by decide +kernel
theorem d_43_1 : decode M_43.2.2.1 1 = .ok (.getfield 16, 3) := by decide +kernel
theorem d_43_4 : decode M_43.2.2.1 4 = .ok (.iload_n 1, 1) := by decide +kernel
theorem d_43_5 : decode M_43.2.2.1 5 = .ok (.invokevirtual 101, 3) := by decide +kernel
theorem d_43_8 : decode M_43.2.2.1 8 = .ok (.ifCond .ne 6, 3) := by decide +kernel
theorem d_43_11 : decode M_43.2.2.1 11 = .ok (.bipush (-2), 2) := by decide +kernel
theorem d_43_13 : decode M_43.2.2.1 13 = .ok (.ireturn, 1) := by decide +kernel
theorem d_43_14 : decode M_43.2.2.1 14 = .ok (.aload_n 0, 1) := by decide +kernel
theorem d_43_15 : decode M_43.2.2.1 15 = .ok (.getfield 16, 3) := by decide +kernel
theorem d_43_18 : decode M_43.2.2.1 18 = .ok (.getfield 104, 3) := by decide +kernel
theorem d_43_21 : decode M_43.2.2.1 21 = .ok (.iload_n 1, 1) := by decide +kernel
theorem d_43_22 : decode M_43.2.2.1 22 = .ok (.iaload, 1) := by decide +kernel
theorem d_43_23 : decode M_43.2.2.1 23 = .ok (.ifCond .ne 17, 3) := by decide +kernel
theorem d_43_26 : decode M_43.2.2.1 26 = .ok (.aload_n 0, 1) := by decide +kernel
theorem d_43_27 : decode M_43.2.2.1 27 = .ok (.getfield 16, 3) := by decide +kernel
theorem d_43_30 : decode M_43.2.2.1 30 = .ok (.getfield 111, 3) := by decide +kernel
theorem d_43_33 : decode M_43.2.2.1 33 = .ok (.iload_n 1, 1) := by decide +kernel
theorem d_43_34 : decode M_43.2.2.1 34 = .ok (.iaload, 1) := by decide +kernel
theorem d_43_35 : decode M_43.2.2.1 35 = .ok (.bipush 100, 2) := by decide +kernel
theorem d_43_37 : decode M_43.2.2.1 37 = .ok (.if_icmp .eq 6, 3) := by decide +kernel
theorem d_43_40 : decode M_43.2.2.1 40 = .ok (.bipush (-5), 2) := by decide +kernel
theorem d_43_42 : decode M_43.2.2.1 42 = .ok (.ireturn, 1) := by decide +kernel
theorem d_43_43 : decode M_43.2.2.1 43 = .ok (.aload_n 0, 1) := by decide +kernel
theorem d_43_44 : decode M_43.2.2.1 44 = .ok (.getfield 16, 3) := by decide +kernel
theorem d_43_47 : decode M_43.2.2.1 47 = .ok (.getfield 108, 3) := by decide +kernel
theorem d_43_50 : decode M_43.2.2.1 50 = .ok (.iload_n 1, 1) := by decide +kernel
theorem d_43_51 : decode M_43.2.2.1 51 = .ok (.iaload, 1) := by decide +kernel
theorem d_43_52 : decode M_43.2.2.1 52 = .ok (.istore_n 2, 1) := by decide +kernel
theorem d_43_53 : decode M_43.2.2.1 53 = .ok (.aload_n 0, 1) := by decide +kernel
theorem d_43_54 : decode M_43.2.2.1 54 = .ok (.getfield 16, 3) := by decide +kernel
theorem d_43_57 : decode M_43.2.2.1 57 = .ok (.iload_n 1, 1) := by decide +kernel
theorem d_43_58 : decode M_43.2.2.1 58 = .ok (.iconst 3, 1) := by decide +kernel
theorem d_43_59 : decode M_43.2.2.1 59 = .ok (.iconst 0, 1) := by decide +kernel
theorem d_43_60 : decode M_43.2.2.1 60 = .ok (.iconst 0, 1) := by decide +kernel
theorem d_43_61 : decode M_43.2.2.1 61 = .ok (.iconst 0, 1) := by decide +kernel
theorem d_43_62 : decode M_43.2.2.1 62 = .ok (.invokevirtual 121, 3) := by decide +kernel
theorem d_43_65 : decode M_43.2.2.1 65 = .ok (.iload_n 2, 1) := by decide +kernel
theorem d_43_66 : decode M_43.2.2.1 66 = .ok (.ireturn, 1) := by decide +kernel
/-- HeardBarrels.put(II)I -/
def M_44 : am_MT := (1, ⟨"HeardBarrels", "put", "(II)I"⟩, prog_1_method_9_code, 3, some .int, false, 2, (0, 0))
theorem hM_44 : am_ms[44]? = some M_44 := rfl
theorem d_44_0 : decode M_44.2.2.1 0 = .ok (.aload_n 0, 1) := by decide +kernel
theorem d_44_1 : decode M_44.2.2.1 1 = .ok (.getfield 16, 3) := by decide +kernel
theorem d_44_4 : decode M_44.2.2.1 4 = .ok (.iload_n 1, 1) := by decide +kernel
theorem d_44_5 : decode M_44.2.2.1 5 = .ok (.invokevirtual 101, 3) := by decide +kernel
theorem d_44_8 : decode M_44.2.2.1 8 = .ok (.ifCond .ne 6, 3) := by decide +kernel
theorem d_44_11 : decode M_44.2.2.1 11 = .ok (.bipush (-2), 2) := by decide +kernel
theorem d_44_13 : decode M_44.2.2.1 13 = .ok (.ireturn, 1) := by decide +kernel
theorem d_44_14 : decode M_44.2.2.1 14 = .ok (.aload_n 0, 1) := by decide +kernel
theorem d_44_15 : decode M_44.2.2.1 15 = .ok (.getfield 16, 3) := by decide +kernel
theorem d_44_18 : decode M_44.2.2.1 18 = .ok (.getfield 104, 3) := by decide +kernel
theorem d_44_21 : decode M_44.2.2.1 21 = .ok (.iload_n 1, 1) := by decide +kernel
theorem d_44_22 : decode M_44.2.2.1 22 = .ok (.iaload, 1) := by decide +kernel
theorem d_44_23 : decode M_44.2.2.1 23 = .ok (.iconst 3, 1) := by decide +kernel
theorem d_44_24 : decode M_44.2.2.1 24 = .ok (.if_icmp .eq 6, 3) := by decide +kernel
theorem d_44_27 : decode M_44.2.2.1 27 = .ok (.bipush (-5), 2) := by decide +kernel
theorem d_44_29 : decode M_44.2.2.1 29 = .ok (.ireturn, 1) := by decide +kernel
theorem d_44_30 : decode M_44.2.2.1 30 = .ok (.iload_n 2, 1) := by decide +kernel
theorem d_44_31 : decode M_44.2.2.1 31 = .ok (.iconst 1, 1) := by decide +kernel
theorem d_44_32 : decode M_44.2.2.1 32 = .ok (.if_icmp .lt 9, 3) := by decide +kernel
theorem d_44_35 : decode M_44.2.2.1 35 = .ok (.iload_n 2, 1) := by decide +kernel
theorem d_44_36 : decode M_44.2.2.1 36 = .ok (.bipush 9, 2) := by decide +kernel
theorem d_44_38 : decode M_44.2.2.1 38 = .ok (.if_icmp .le 6, 3) := by decide +kernel
theorem d_44_41 : decode M_44.2.2.1 41 = .ok (.bipush (-3), 2) := by decide +kernel
theorem d_44_43 : decode M_44.2.2.1 43 = .ok (.ireturn, 1) := by decide +kernel
theorem d_44_44 : decode M_44.2.2.1 44 = .ok (.aload_n 0, 1) := by decide +kernel
theorem d_44_45 : decode M_44.2.2.1 45 = .ok (.getfield 16, 3) := by decide +kernel
theorem d_44_48 : decode M_44.2.2.1 48 = .ok (.iload_n 1, 1) := by decide +kernel
theorem d_44_49 : decode M_44.2.2.1 49 = .ok (.iconst 0, 1) := by decide +kernel
theorem d_44_50 : decode M_44.2.2.1 50 = .ok (.iload_n 2, 1) := by decide +kernel
theorem d_44_51 : decode M_44.2.2.1 51 = .ok (.iconst 0, 1) := by decide +kernel
theorem d_44_52 : decode M_44.2.2.1 52 = .ok (.iconst 0, 1) := by decide +kernel
theorem d_44_53 : decode M_44.2.2.1 53 = .ok (.invokevirtual 121, 3) := by decide +kernel
theorem d_44_56 : decode M_44.2.2.1 56 = .ok (.iconst 0, 1) := by decide +kernel
theorem d_44_57 : decode M_44.2.2.1 57 = .ok (.ireturn, 1) := by decide +kernel
/-- HeardBarrels.day(I)I -/
def M_45 : am_MT := (1, ⟨"HeardBarrels", "day", "(I)I"⟩, prog_1_method_10_code, 2, some .int, false, 1, (0, 0))
theorem hM_45 : am_ms[45]? = some M_45 := rfl
theorem d_45_0 : decode M_45.2.2.1 0 = .ok (.aload_n 0, 1) := by decide +kernel
theorem d_45_1 : decode M_45.2.2.1 1 = .ok (.getfield 16, 3) := by decide +kernel
theorem d_45_4 : decode M_45.2.2.1 4 = .ok (.iload_n 1, 1) := by decide +kernel
theorem d_45_5 : decode M_45.2.2.1 5 = .ok (.i2l, 1) := by decide +kernel
theorem d_45_6 : decode M_45.2.2.1 6 = .ok (.invokevirtual 125, 3) := by decide +kernel
theorem d_45_9 : decode M_45.2.2.1 9 = .ok (.tableswitch 42 0 2 #[27, 36, 39], 27) := by decide +kernel
theorem d_45_36 : decode M_45.2.2.1 36 = .ok (.aload_n 0, 1) := by decide +kernel
theorem d_45_37 : decode M_45.2.2.1 37 = .ok (.getfield 16, 3) := by decide +kernel
theorem d_45_40 : decode M_45.2.2.1 40 = .ok (.iload_n 1, 1) := by decide +kernel
theorem d_45_41 : decode M_45.2.2.1 41 = .ok (.invokevirtual 129, 3) := by decide +kernel
theorem d_45_44 : decode M_45.2.2.1 44 = .ok (.ireturn, 1) := by decide +kernel
theorem d_45_45 : decode M_45.2.2.1 45 = .ok (.bipush (-3), 2) := by decide +kernel
theorem d_45_47 : decode M_45.2.2.1 47 = .ok (.ireturn, 1) := by decide +kernel
theorem d_45_48 : decode M_45.2.2.1 48 = .ok (.bipush (-4), 2) := by decide +kernel
theorem d_45_50 : decode M_45.2.2.1 50 = .ok (.ireturn, 1) := by decide +kernel
theorem d_45_51 : decode M_45.2.2.1 51 = .ok (.bipush (-5), 2) := by decide +kernel
theorem d_45_53 : decode M_45.2.2.1 53 = .ok (.ireturn, 1) := by decide +kernel
/-- HeardBarrels.judge(II)I -/
def M_52 : am_MT := (1, ⟨"HeardBarrels", "judge", "(II)I"⟩, prog_1_method_11_code, 6, some .int, false, 2, (0, 0))
theorem hM_52 : am_ms[52]? = some M_52 := rfl
theorem d_52_0 : decode M_52.2.2.1 0 = .ok (.iload_n 1, 1) := by decide +kernel
theorem d_52_1 : decode M_52.2.2.1 1 = .ok (.invokestatic 133, 3) := by decide +kernel
theorem d_52_4 : decode M_52.2.2.1 4 = .ok (.ifCond .eq 12, 3) := by decide +kernel
theorem d_52_7 : decode M_52.2.2.1 7 = .ok (.iload_n 2, 1) := by decide +kernel
theorem d_52_8 : decode M_52.2.2.1 8 = .ok (.ifCond .lt 8, 3) := by decide +kernel
theorem d_52_11 : decode M_52.2.2.1 11 = .ok (.iload_n 2, 1) := by decide +kernel
theorem d_52_12 : decode M_52.2.2.1 12 = .ok (.iconst 3, 1) := by decide +kernel
theorem d_52_13 : decode M_52.2.2.1 13 = .ok (.if_icmp .le 6, 3) := by decide +kernel
theorem d_52_16 : decode M_52.2.2.1 16 = .ok (.bipush (-2), 2) := by decide +kernel
theorem d_52_18 : decode M_52.2.2.1 18 = .ok (.ireturn, 1) := by decide +kernel
theorem d_52_19 : decode M_52.2.2.1 19 = .ok (.aload_n 0, 1) := by decide +kernel
theorem d_52_20 : decode M_52.2.2.1 20 = .ok (.getfield 33, 3) := by decide +kernel
theorem d_52_23 : decode M_52.2.2.1 23 = .ok (.iload_n 1, 1) := by decide +kernel
theorem d_52_24 : decode M_52.2.2.1 24 = .ok (.aaload, 1) := by decide +kernel
theorem d_52_25 : decode M_52.2.2.1 25 = .ok (.astore_n 3, 1) := by decide +kernel
theorem d_52_26 : decode M_52.2.2.1 26 = .ok (.aload_n 3, 1) := by decide +kernel
theorem d_52_27 : decode M_52.2.2.1 27 = .ok (.invokevirtual 136, 3) := by decide +kernel
theorem d_52_30 : decode M_52.2.2.1 30 = .ok (.ifCond .eq 6, 3) := by decide +kernel
theorem d_52_33 : decode M_52.2.2.1 33 = .ok (.bipush (-6), 2) := by decide +kernel
theorem d_52_35 : decode M_52.2.2.1 35 = .ok (.ireturn, 1) := by decide +kernel
theorem d_52_36 : decode M_52.2.2.1 36 = .ok (.aload_n 0, 1) := by decide +kernel
theorem d_52_37 : decode M_52.2.2.1 37 = .ok (.getfield 20, 3) := by decide +kernel
theorem d_52_40 : decode M_52.2.2.1 40 = .ok (.aload_n 0, 1) := by decide +kernel
theorem d_52_41 : decode M_52.2.2.1 41 = .ok (.getfield 16, 3) := by decide +kernel
theorem d_52_44 : decode M_52.2.2.1 44 = .ok (.invokevirtual 92, 3) := by decide +kernel
theorem d_52_47 : decode M_52.2.2.1 47 = .ok (.aload_n 0, 1) := by decide +kernel
theorem d_52_48 : decode M_52.2.2.1 48 = .ok (.getfield 20, 3) := by decide +kernel
theorem d_52_51 : decode M_52.2.2.1 51 = .ok (.aload_n 3, 1) := by decide +kernel
theorem d_52_52 : decode M_52.2.2.1 52 = .ok (.invokestatic 140, 3) := by decide +kernel
theorem d_52_55 : decode M_52.2.2.1 55 = .ok (.istore 4, 2) := by decide +kernel
theorem d_52_57 : decode M_52.2.2.1 57 = .ok (.iload 4, 2) := by decide +kernel
theorem d_52_59 : decode M_52.2.2.1 59 = .ok (.aload_n 3, 1) := by decide +kernel
theorem d_52_60 : decode M_52.2.2.1 60 = .ok (.getfield 144, 3) := by decide +kernel
theorem d_52_63 : decode M_52.2.2.1 63 = .ok (.if_icmp .ne 7, 3) := by decide +kernel
theorem d_52_66 : decode M_52.2.2.1 66 = .ok (.iconst 1, 1) := by decide +kernel
theorem d_52_67 : decode M_52.2.2.1 67 = .ok (.goto 4, 3) := by decide +kernel
theorem d_52_70 : decode M_52.2.2.1 70 = .ok (.iconst 0, 1) := by decide +kernel
theorem d_52_71 : decode M_52.2.2.1 71 = .ok (.istore 5, 2) := by decide +kernel
theorem d_52_73 : decode M_52.2.2.1 73 = .ok (.iload_n 2, 1) := by decide +kernel
theorem d_52_74 : decode M_52.2.2.1 74 = .ok (.tableswitch 70 0 2 #[26, 38, 61], 26) := by decide +kernel
theorem d_52_100 : decode M_52.2.2.1 100 = .ok (.iload 5, 2) := by decide +kernel
theorem d_52_102 : decode M_52.2.2.1 102 = .ok (.ifCond .eq 7, 3) := by decide +kernel
theorem d_52_105 : decode M_52.2.2.1 105 = .ok (.iconst (-1), 1) := by decide +kernel
theorem d_52_106 : decode M_52.2.2.1 106 = .ok (.goto 5, 3) := by decide +kernel
theorem d_52_109 : decode M_52.2.2.1 109 = .ok (.iload 4, 2) := by decide +kernel
theorem d_52_111 : decode M_52.2.2.1 111 = .ok (.ireturn, 1) := by decide +kernel
theorem d_52_112 : decode M_52.2.2.1 112 = .ok (.iload 5, 2) := by decide +kernel
theorem d_52_114 : decode M_52.2.2.1 114 = .ok (.ifCond .eq 7, 3) := by decide +kernel
theorem d_52_117 : decode M_52.2.2.1 117 = .ok (.iconst 0, 1) := by decide +kernel
theorem d_52_118 : decode M_52.2.2.1 118 = .ok (.goto 16, 3) := by decide +kernel
theorem d_52_121 : decode M_52.2.2.1 121 = .ok (.aload_n 0, 1) := by decide +kernel
theorem d_52_122 : decode M_52.2.2.1 122 = .ok (.getfield 20, 3) := by decide +kernel
theorem d_52_125 : decode M_52.2.2.1 125 = .ok (.aload_n 3, 1) := by decide +kernel
theorem d_52_126 : decode M_52.2.2.1 126 = .ok (.iload 4, 2) := by decide +kernel
theorem d_52_128 : decode M_52.2.2.1 128 = .ok (.invokevirtual 147, 3) := by decide +kernel
theorem d_52_131 : decode M_52.2.2.1 131 = .ok (.invokevirtual 125, 3) := by decide +kernel
theorem d_52_134 : decode M_52.2.2.1 134 = .ok (.ireturn, 1) := by decide +kernel
theorem d_52_135 : decode M_52.2.2.1 135 = .ok (.aload_n 0, 1) := by decide +kernel
theorem d_52_136 : decode M_52.2.2.1 136 = .ok (.getfield 20, 3) := by decide +kernel
theorem d_52_139 : decode M_52.2.2.1 139 = .ok (.iconst 1, 1) := by decide +kernel
theorem d_52_140 : decode M_52.2.2.1 140 = .ok (.invokevirtual 151, 3) := by decide +kernel
theorem d_52_143 : decode M_52.2.2.1 143 = .ok (.ireturn, 1) := by decide +kernel
theorem d_52_144 : decode M_52.2.2.1 144 = .ok (.aload_n 3, 1) := by decide +kernel
theorem d_52_145 : decode M_52.2.2.1 145 = .ok (.iload 4, 2) := by decide +kernel
theorem d_52_147 : decode M_52.2.2.1 147 = .ok (.invokestatic 154, 3) := by decide +kernel
theorem d_52_150 : decode M_52.2.2.1 150 = .ok (.ireturn, 1) := by decide +kernel
/-- HeardBarrels.isRow(I)Z -/
def M_53 : am_MT := (1, ⟨"HeardBarrels", "isRow", "(I)Z"⟩, prog_1_method_44_code, 1, some .boolean, false, 1, (0, 0))
theorem hM_53 : am_ms[53]? = some M_53 := rfl
theorem d_53_0 : decode M_53.2.2.1 0 = .ok (.iload_n 0, 1) := by decide +kernel
theorem d_53_1 : decode M_53.2.2.1 1 = .ok (.ifCond .lt 12, 3) := by decide +kernel
theorem d_53_4 : decode M_53.2.2.1 4 = .ok (.iload_n 0, 1) := by decide +kernel
theorem d_53_5 : decode M_53.2.2.1 5 = .ok (.iconst 4, 1) := by decide +kernel
theorem d_53_6 : decode M_53.2.2.1 6 = .ok (.if_icmp .ge 7, 3) := by decide +kernel
theorem d_53_9 : decode M_53.2.2.1 9 = .ok (.iconst 1, 1) := by decide +kernel
theorem d_53_10 : decode M_53.2.2.1 10 = .ok (.goto 4, 3) := by decide +kernel
theorem d_53_13 : decode M_53.2.2.1 13 = .ok (.iconst 0, 1) := by decide +kernel
theorem d_53_14 : decode M_53.2.2.1 14 = .ok (.ireturn, 1) := by decide +kernel
/-- HeardBarrels.passTold(LHeardBarrels$Shelf;LHeardBarrels$Row;)I -/
def M_55 : am_MT := (1, ⟨"HeardBarrels", "passTold", "(LHeardBarrels$Shelf;LHeardBarrels$Row;)I"⟩, prog_1_method_13_code, 3, some .int, false, 2, (0, 0))
theorem hM_55 : am_ms[55]? = some M_55 := rfl
theorem d_55_0 : decode M_55.2.2.1 0 = .ok (.iconst 0, 1) := by decide +kernel
theorem d_55_1 : decode M_55.2.2.1 1 = .ok (.istore_n 2, 1) := by decide +kernel
theorem d_55_2 : decode M_55.2.2.1 2 = .ok (.iload_n 2, 1) := by decide +kernel
theorem d_55_3 : decode M_55.2.2.1 3 = .ok (.aload_n 1, 1) := by decide +kernel
theorem d_55_4 : decode M_55.2.2.1 4 = .ok (.getfield 144, 3) := by decide +kernel
theorem d_55_7 : decode M_55.2.2.1 7 = .ok (.if_icmp .ge 32, 3) := by decide +kernel
theorem d_55_10 : decode M_55.2.2.1 10 = .ok (.aload_n 0, 1) := by decide +kernel
theorem d_55_11 : decode M_55.2.2.1 11 = .ok (.aload_n 1, 1) := by decide +kernel
theorem d_55_12 : decode M_55.2.2.1 12 = .ok (.iload_n 2, 1) := by decide +kernel
theorem d_55_13 : decode M_55.2.2.1 13 = .ok (.invokevirtual 147, 3) := by decide +kernel
theorem d_55_16 : decode M_55.2.2.1 16 = .ok (.invokevirtual 125, 3) := by decide +kernel
theorem d_55_19 : decode M_55.2.2.1 19 = .ok (.ifCond .ne 20, 3) := by decide +kernel
theorem d_55_22 : decode M_55.2.2.1 22 = .ok (.aload_n 0, 1) := by decide +kernel
theorem d_55_23 : decode M_55.2.2.1 23 = .ok (.aload_n 1, 1) := by decide +kernel
theorem d_55_24 : decode M_55.2.2.1 24 = .ok (.iload_n 2, 1) := by decide +kernel
theorem d_55_25 : decode M_55.2.2.1 25 = .ok (.invokevirtual 147, 3) := by decide +kernel
theorem d_55_28 : decode M_55.2.2.1 28 = .ok (.l2i, 1) := by decide +kernel
theorem d_55_29 : decode M_55.2.2.1 29 = .ok (.invokevirtual 129, 3) := by decide +kernel
theorem d_55_32 : decode M_55.2.2.1 32 = .ok (.pop, 1) := by decide +kernel
theorem d_55_33 : decode M_55.2.2.1 33 = .ok (.iinc 2 1, 3) := by decide +kernel
theorem d_55_36 : decode M_55.2.2.1 36 = .ok (.goto (-34), 3) := by decide +kernel
theorem d_55_39 : decode M_55.2.2.1 39 = .ok (.iload_n 2, 1) := by decide +kernel
theorem d_55_40 : decode M_55.2.2.1 40 = .ok (.ireturn, 1) := by decide +kernel
/-- HeardBarrels.turnsOfFirst(LHeardBarrels$Row;I)I -/
def M_57 : am_MT := (1, ⟨"HeardBarrels", "turnsOfFirst", "(LHeardBarrels$Row;I)I"⟩, prog_1_method_14_code, 4, some .int, false, 2, (0, 0))
theorem hM_57 : am_ms[57]? = some M_57 := rfl
theorem d_57_0 : decode M_57.2.2.1 0 = .ok (.iconst 0, 1) := by decide +kernel
theorem d_57_1 : decode M_57.2.2.1 1 = .ok (.istore_n 2, 1) := by decide +kernel
theorem d_57_2 : decode M_57.2.2.1 2 = .ok (.iconst 0, 1) := by decide +kernel
theorem d_57_3 : decode M_57.2.2.1 3 = .ok (.istore_n 3, 1) := by decide +kernel
theorem d_57_4 : decode M_57.2.2.1 4 = .ok (.iload_n 3, 1) := by decide +kernel
theorem d_57_5 : decode M_57.2.2.1 5 = .ok (.iload_n 1, 1) := by decide +kernel
theorem d_57_6 : decode M_57.2.2.1 6 = .ok (.if_icmp .ge 20, 3) := by decide +kernel
theorem d_57_9 : decode M_57.2.2.1 9 = .ok (.iload_n 2, 1) := by decide +kernel
theorem d_57_10 : decode M_57.2.2.1 10 = .ok (.aload_n 0, 1) := by decide +kernel
theorem d_57_11 : decode M_57.2.2.1 11 = .ok (.iload_n 3, 1) := by decide +kernel
theorem d_57_12 : decode M_57.2.2.1 12 = .ok (.invokevirtual 147, 3) := by decide +kernel
theorem d_57_15 : decode M_57.2.2.1 15 = .ok (.invokestatic 161, 3) := by decide +kernel
theorem d_57_18 : decode M_57.2.2.1 18 = .ok (.iadd, 1) := by decide +kernel
theorem d_57_19 : decode M_57.2.2.1 19 = .ok (.istore_n 2, 1) := by decide +kernel
theorem d_57_20 : decode M_57.2.2.1 20 = .ok (.iinc 3 1, 3) := by decide +kernel
theorem d_57_23 : decode M_57.2.2.1 23 = .ok (.goto (-19), 3) := by decide +kernel
theorem d_57_26 : decode M_57.2.2.1 26 = .ok (.iload_n 2, 1) := by decide +kernel
theorem d_57_27 : decode M_57.2.2.1 27 = .ok (.ireturn, 1) := by decide +kernel
/-- HeardBarrels.perform(I)I -/
def M_58 : am_MT := (1, ⟨"HeardBarrels", "perform", "(I)I"⟩, prog_1_method_12_code, 3, some .int, false, 1, (0, 0))
theorem hM_58 : am_ms[58]? = some M_58 := rfl
theorem d_58_0 : decode M_58.2.2.1 0 = .ok (.aload_n 0, 1) := by decide +kernel
theorem d_58_1 : decode M_58.2.2.1 1 = .ok (.iload_n 1, 1) := by decide +kernel
theorem d_58_2 : decode M_58.2.2.1 2 = .ok (.invokevirtual 158, 3) := by decide +kernel
theorem d_58_5 : decode M_58.2.2.1 5 = .ok (.istore_n 2, 1) := by decide +kernel
theorem d_58_6 : decode M_58.2.2.1 6 = .ok (.iload_n 2, 1) := by decide +kernel
theorem d_58_7 : decode M_58.2.2.1 7 = .ok (.ifCond .eq 7, 3) := by decide +kernel
theorem d_58_10 : decode M_58.2.2.1 10 = .ok (.iload_n 2, 1) := by decide +kernel
theorem d_58_11 : decode M_58.2.2.1 11 = .ok (.goto 16, 3) := by decide +kernel
theorem d_58_14 : decode M_58.2.2.1 14 = .ok (.aload_n 0, 1) := by decide +kernel
theorem d_58_15 : decode M_58.2.2.1 15 = .ok (.getfield 16, 3) := by decide +kernel
theorem d_58_18 : decode M_58.2.2.1 18 = .ok (.aload_n 0, 1) := by decide +kernel
theorem d_58_19 : decode M_58.2.2.1 19 = .ok (.getfield 33, 3) := by decide +kernel
theorem d_58_22 : decode M_58.2.2.1 22 = .ok (.iload_n 1, 1) := by decide +kernel
theorem d_58_23 : decode M_58.2.2.1 23 = .ok (.aaload, 1) := by decide +kernel
theorem d_58_24 : decode M_58.2.2.1 24 = .ok (.invokestatic 140, 3) := by decide +kernel
theorem d_58_27 : decode M_58.2.2.1 27 = .ok (.ireturn, 1) := by decide +kernel
/-- HeardBarrels.rowRefusal(I)I -/
def M_59 : am_MT := (1, ⟨"HeardBarrels", "rowRefusal", "(I)I"⟩, prog_1_method_45_code, 2, some .int, false, 1, (0, 0))
theorem hM_59 : am_ms[59]? = some M_59 := rfl
theorem d_59_0 : decode M_59.2.2.1 0 = .ok (.iload_n 1, 1) := by decide +kernel
theorem d_59_1 : decode M_59.2.2.1 1 = .ok (.invokestatic 133, 3) := by decide +kernel
theorem d_59_4 : decode M_59.2.2.1 4 = .ok (.ifCond .ne 6, 3) := by decide +kernel
theorem d_59_7 : decode M_59.2.2.1 7 = .ok (.bipush (-2), 2) := by decide +kernel
theorem d_59_9 : decode M_59.2.2.1 9 = .ok (.ireturn, 1) := by decide +kernel
theorem d_59_10 : decode M_59.2.2.1 10 = .ok (.aload_n 0, 1) := by decide +kernel
theorem d_59_11 : decode M_59.2.2.1 11 = .ok (.getfield 33, 3) := by decide +kernel
theorem d_59_14 : decode M_59.2.2.1 14 = .ok (.iload_n 1, 1) := by decide +kernel
theorem d_59_15 : decode M_59.2.2.1 15 = .ok (.aaload, 1) := by decide +kernel
theorem d_59_16 : decode M_59.2.2.1 16 = .ok (.invokevirtual 136, 3) := by decide +kernel
theorem d_59_19 : decode M_59.2.2.1 19 = .ok (.ifCond .eq 8, 3) := by decide +kernel
theorem d_59_22 : decode M_59.2.2.1 22 = .ok (.bipush (-6), 2) := by decide +kernel
theorem d_59_24 : decode M_59.2.2.1 24 = .ok (.goto 4, 3) := by decide +kernel
theorem d_59_27 : decode M_59.2.2.1 27 = .ok (.iconst 0, 1) := by decide +kernel
theorem d_59_28 : decode M_59.2.2.1 28 = .ok (.ireturn, 1) := by decide +kernel
/-- HeardBarrels.week(II)I -/
def M_60 : am_MT := (1, ⟨"HeardBarrels", "week", "(II)I"⟩, prog_1_method_15_code, 9, some .int, false, 2, (0, 0))
theorem hM_60 : am_ms[60]? = some M_60 := rfl
theorem d_60_0 : decode M_60.2.2.1 0 = .ok (.iload_n 2, 1) := by decide +kernel
theorem d_60_1 : decode M_60.2.2.1 1 = .ok (.iconst 1, 1) := by decide +kernel
theorem d_60_2 : decode M_60.2.2.1 2 = .ok (.if_icmp .lt 9, 3) := by decide +kernel
theorem d_60_5 : decode M_60.2.2.1 5 = .ok (.iload_n 2, 1) := by decide +kernel
theorem d_60_6 : decode M_60.2.2.1 6 = .ok (.bipush 30, 2) := by decide +kernel
theorem d_60_8 : decode M_60.2.2.1 8 = .ok (.if_icmp .le 6, 3) := by decide +kernel
theorem d_60_11 : decode M_60.2.2.1 11 = .ok (.bipush (-3), 2) := by decide +kernel
theorem d_60_13 : decode M_60.2.2.1 13 = .ok (.ireturn, 1) := by decide +kernel
theorem d_60_14 : decode M_60.2.2.1 14 = .ok (.aload_n 0, 1) := by decide +kernel
theorem d_60_15 : decode M_60.2.2.1 15 = .ok (.getfield 16, 3) := by decide +kernel
theorem d_60_18 : decode M_60.2.2.1 18 = .ok (.getfield 166, 3) := by decide +kernel
theorem d_60_21 : decode M_60.2.2.1 21 = .ok (.iload_n 2, 1) := by decide +kernel
theorem d_60_22 : decode M_60.2.2.1 22 = .ok (.iadd, 1) := by decide +kernel
theorem d_60_23 : decode M_60.2.2.1 23 = .ok (.sipush 9999, 3) := by decide +kernel
theorem d_60_26 : decode M_60.2.2.1 26 = .ok (.if_icmp .le 6, 3) := by decide +kernel
theorem d_60_29 : decode M_60.2.2.1 29 = .ok (.bipush (-5), 2) := by decide +kernel
theorem d_60_31 : decode M_60.2.2.1 31 = .ok (.ireturn, 1) := by decide +kernel
theorem d_60_32 : decode M_60.2.2.1 32 = .ok (.iload_n 1, 1) := by decide +kernel
theorem d_60_33 : decode M_60.2.2.1 33 = .ok (.istore_n 3, 1) := by decide +kernel
theorem d_60_34 : decode M_60.2.2.1 34 = .ok (.iconst 0, 1) := by decide +kernel
theorem d_60_35 : decode M_60.2.2.1 35 = .ok (.istore 4, 2) := by decide +kernel
theorem d_60_37 : decode M_60.2.2.1 37 = .ok (.iconst 0, 1) := by decide +kernel
theorem d_60_38 : decode M_60.2.2.1 38 = .ok (.istore 5, 2) := by decide +kernel
theorem d_60_40 : decode M_60.2.2.1 40 = .ok (.iload 5, 2) := by decide +kernel
theorem d_60_42 : decode M_60.2.2.1 42 = .ok (.iload_n 2, 1) := by decide +kernel
theorem d_60_43 : decode M_60.2.2.1 43 = .ok (.if_icmp .ge 109, 3) := by decide +kernel
theorem d_60_46 : decode M_60.2.2.1 46 = .ok (.iconst 0, 1) := by decide +kernel
theorem d_60_47 : decode M_60.2.2.1 47 = .ok (.istore 6, 2) := by decide +kernel
theorem d_60_49 : decode M_60.2.2.1 49 = .ok (.aload_n 0, 1) := by decide +kernel
theorem d_60_50 : decode M_60.2.2.1 50 = .ok (.getfield 16, 3) := by decide +kernel
theorem d_60_53 : decode M_60.2.2.1 53 = .ok (.getfield 169, 3) := by decide +kernel
theorem d_60_56 : decode M_60.2.2.1 56 = .ok (.istore 7, 2) := by decide +kernel
theorem d_60_58 : decode M_60.2.2.1 58 = .ok (.iconst 0, 1) := by decide +kernel
theorem d_60_59 : decode M_60.2.2.1 59 = .ok (.istore 8, 2) := by decide +kernel
theorem d_60_61 : decode M_60.2.2.1 61 = .ok (.iload 8, 2) := by decide +kernel
theorem d_60_63 : decode M_60.2.2.1 63 = .ok (.aload_n 0, 1) := by decide +kernel
theorem d_60_64 : decode M_60.2.2.1 64 = .ok (.getfield 16, 3) := by decide +kernel
theorem d_60_67 : decode M_60.2.2.1 67 = .ok (.getfield 172, 3) := by decide +kernel
theorem d_60_70 : decode M_60.2.2.1 70 = .ok (.if_icmp .ge 62, 3) := by decide +kernel
theorem d_60_73 : decode M_60.2.2.1 73 = .ok (.iload 7, 2) := by decide +kernel
theorem d_60_75 : decode M_60.2.2.1 75 = .ok (.ifCond .le 57, 3) := by decide +kernel
theorem d_60_78 : decode M_60.2.2.1 78 = .ok (.aload_n 0, 1) := by decide +kernel
theorem d_60_79 : decode M_60.2.2.1 79 = .ok (.getfield 16, 3) := by decide +kernel
theorem d_60_82 : decode M_60.2.2.1 82 = .ok (.getfield 104, 3) := by decide +kernel
theorem d_60_85 : decode M_60.2.2.1 85 = .ok (.iload 8, 2) := by decide +kernel
theorem d_60_87 : decode M_60.2.2.1 87 = .ok (.iaload, 1) := by decide +kernel
theorem d_60_88 : decode M_60.2.2.1 88 = .ok (.iconst 3, 1) := by decide +kernel
theorem d_60_89 : decode M_60.2.2.1 89 = .ok (.if_icmp .ne 6, 3) := by decide +kernel
theorem d_60_92 : decode M_60.2.2.1 92 = .ok (.goto 34, 3) := by decide +kernel
theorem d_60_95 : decode M_60.2.2.1 95 = .ok (.ldc 175, 2) := by decide +kernel
theorem d_60_97 : decode M_60.2.2.1 97 = .ok (.iload_n 3, 1) := by decide +kernel
theorem d_60_98 : decode M_60.2.2.1 98 = .ok (.imul, 1) := by decide +kernel
theorem d_60_99 : decode M_60.2.2.1 99 = .ok (.sipush 12345, 3) := by decide +kernel
theorem d_60_102 : decode M_60.2.2.1 102 = .ok (.iadd, 1) := by decide +kernel
theorem d_60_103 : decode M_60.2.2.1 103 = .ok (.istore_n 3, 1) := by decide +kernel
theorem d_60_104 : decode M_60.2.2.1 104 = .ok (.iload_n 3, 1) := by decide +kernel
theorem d_60_105 : decode M_60.2.2.1 105 = .ok (.bipush 16, 2) := by decide +kernel
theorem d_60_107 : decode M_60.2.2.1 107 = .ok (.iushr, 1) := by decide +kernel
theorem d_60_108 : decode M_60.2.2.1 108 = .ok (.iconst 2, 1) := by decide +kernel
theorem d_60_109 : decode M_60.2.2.1 109 = .ok (.irem, 1) := by decide +kernel
theorem d_60_110 : decode M_60.2.2.1 110 = .ok (.iconst 1, 1) := by decide +kernel
theorem d_60_111 : decode M_60.2.2.1 111 = .ok (.if_icmp .ne 15, 3) := by decide +kernel
theorem d_60_114 : decode M_60.2.2.1 114 = .ok (.iload 6, 2) := by decide +kernel
theorem d_60_116 : decode M_60.2.2.1 116 = .ok (.iconst 1, 1) := by decide +kernel
theorem d_60_117 : decode M_60.2.2.1 117 = .ok (.iload 8, 2) := by decide +kernel
theorem d_60_119 : decode M_60.2.2.1 119 = .ok (.ishl, 1) := by decide +kernel
theorem d_60_120 : decode M_60.2.2.1 120 = .ok (.ior, 1) := by decide +kernel
theorem d_60_121 : decode M_60.2.2.1 121 = .ok (.istore 6, 2) := by decide +kernel
theorem d_60_123 : decode M_60.2.2.1 123 = .ok (.iinc 7 (-1), 3) := by decide +kernel
theorem d_60_126 : decode M_60.2.2.1 126 = .ok (.iinc 8 1, 3) := by decide +kernel
theorem d_60_129 : decode M_60.2.2.1 129 = .ok (.goto (-68), 3) := by decide +kernel
theorem d_60_132 : decode M_60.2.2.1 132 = .ok (.iload 4, 2) := by decide +kernel
theorem d_60_134 : decode M_60.2.2.1 134 = .ok (.aload_n 0, 1) := by decide +kernel
theorem d_60_135 : decode M_60.2.2.1 135 = .ok (.getfield 16, 3) := by decide +kernel
theorem d_60_138 : decode M_60.2.2.1 138 = .ok (.iload 6, 2) := by decide +kernel
theorem d_60_140 : decode M_60.2.2.1 140 = .ok (.invokevirtual 129, 3) := by decide +kernel
theorem d_60_143 : decode M_60.2.2.1 143 = .ok (.iadd, 1) := by decide +kernel
theorem d_60_144 : decode M_60.2.2.1 144 = .ok (.istore 4, 2) := by decide +kernel
theorem d_60_146 : decode M_60.2.2.1 146 = .ok (.iinc 5 1, 3) := by decide +kernel
theorem d_60_149 : decode M_60.2.2.1 149 = .ok (.goto (-109), 3) := by decide +kernel
theorem d_60_152 : decode M_60.2.2.1 152 = .ok (.iload 4, 2) := by decide +kernel
theorem d_60_154 : decode M_60.2.2.1 154 = .ok (.ireturn, 1) := by decide +kernel
/-- HeardBarrels.leftAlone(I)I -/
def M_61 : am_MT := (1, ⟨"HeardBarrels", "leftAlone", "(I)I"⟩, prog_1_method_16_code, 3, some .int, false, 1, (0, 0))
theorem hM_61 : am_ms[61]? = some M_61 := rfl
theorem d_61_0 : decode M_61.2.2.1 0 = .ok (.iload_n 1, 1) := by decide +kernel
theorem d_61_1 : decode M_61.2.2.1 1 = .ok (.ifCond .lt 9, 3) := by decide +kernel
theorem d_61_4 : decode M_61.2.2.1 4 = .ok (.iload_n 1, 1) := by decide +kernel
theorem d_61_5 : decode M_61.2.2.1 5 = .ok (.bipush 30, 2) := by decide +kernel
theorem d_61_7 : decode M_61.2.2.1 7 = .ok (.if_icmp .le 6, 3) := by decide +kernel
theorem d_61_10 : decode M_61.2.2.1 10 = .ok (.bipush (-3), 2) := by decide +kernel
theorem d_61_12 : decode M_61.2.2.1 12 = .ok (.ireturn, 1) := by decide +kernel
theorem d_61_13 : decode M_61.2.2.1 13 = .ok (.aload_n 0, 1) := by decide +kernel
theorem d_61_14 : decode M_61.2.2.1 14 = .ok (.getfield 20, 3) := by decide +kernel
theorem d_61_17 : decode M_61.2.2.1 17 = .ok (.aload_n 0, 1) := by decide +kernel
theorem d_61_18 : decode M_61.2.2.1 18 = .ok (.getfield 16, 3) := by decide +kernel
theorem d_61_21 : decode M_61.2.2.1 21 = .ok (.invokevirtual 92, 3) := by decide +kernel
theorem d_61_24 : decode M_61.2.2.1 24 = .ok (.iconst 0, 1) := by decide +kernel
theorem d_61_25 : decode M_61.2.2.1 25 = .ok (.istore_n 2, 1) := by decide +kernel
theorem d_61_26 : decode M_61.2.2.1 26 = .ok (.iload_n 2, 1) := by decide +kernel
theorem d_61_27 : decode M_61.2.2.1 27 = .ok (.iload_n 1, 1) := by decide +kernel
theorem d_61_28 : decode M_61.2.2.1 28 = .ok (.if_icmp .ge 18, 3) := by decide +kernel
theorem d_61_31 : decode M_61.2.2.1 31 = .ok (.aload_n 0, 1) := by decide +kernel
theorem d_61_32 : decode M_61.2.2.1 32 = .ok (.getfield 20, 3) := by decide +kernel
theorem d_61_35 : decode M_61.2.2.1 35 = .ok (.iconst 0, 1) := by decide +kernel
theorem d_61_36 : decode M_61.2.2.1 36 = .ok (.invokevirtual 129, 3) := by decide +kernel
theorem d_61_39 : decode M_61.2.2.1 39 = .ok (.pop, 1) := by decide +kernel
theorem d_61_40 : decode M_61.2.2.1 40 = .ok (.iinc 2 1, 3) := by decide +kernel
theorem d_61_43 : decode M_61.2.2.1 43 = .ok (.goto (-17), 3) := by decide +kernel
theorem d_61_46 : decode M_61.2.2.1 46 = .ok (.aload_n 0, 1) := by decide +kernel
theorem d_61_47 : decode M_61.2.2.1 47 = .ok (.getfield 20, 3) := by decide +kernel
theorem d_61_50 : decode M_61.2.2.1 50 = .ok (.iconst 1, 1) := by decide +kernel
theorem d_61_51 : decode M_61.2.2.1 51 = .ok (.invokevirtual 151, 3) := by decide +kernel
theorem d_61_54 : decode M_61.2.2.1 54 = .ok (.ireturn, 1) := by decide +kernel
/-- HeardBarrels.missed(II)I -/
def M_62 : am_MT := (1, ⟨"HeardBarrels", "missed", "(II)I"⟩, prog_1_method_17_code, 7, some .int, false, 2, (0, 0))
theorem hM_62 : am_ms[62]? = some M_62 := rfl
theorem d_62_0 : decode M_62.2.2.1 0 = .ok (.aload_n 0, 1) := by decide +kernel
theorem d_62_1 : decode M_62.2.2.1 1 = .ok (.iload_n 1, 1) := by decide +kernel
theorem d_62_2 : decode M_62.2.2.1 2 = .ok (.invokevirtual 158, 3) := by decide +kernel
theorem d_62_5 : decode M_62.2.2.1 5 = .ok (.istore_n 3, 1) := by decide +kernel
theorem d_62_6 : decode M_62.2.2.1 6 = .ok (.iload_n 3, 1) := by decide +kernel
theorem d_62_7 : decode M_62.2.2.1 7 = .ok (.ifCond .eq 5, 3) := by decide +kernel
theorem d_62_10 : decode M_62.2.2.1 10 = .ok (.iload_n 3, 1) := by decide +kernel
theorem d_62_11 : decode M_62.2.2.1 11 = .ok (.ireturn, 1) := by decide +kernel
theorem d_62_12 : decode M_62.2.2.1 12 = .ok (.aload_n 0, 1) := by decide +kernel
theorem d_62_13 : decode M_62.2.2.1 13 = .ok (.getfield 33, 3) := by decide +kernel
theorem d_62_16 : decode M_62.2.2.1 16 = .ok (.iload_n 1, 1) := by decide +kernel
theorem d_62_17 : decode M_62.2.2.1 17 = .ok (.aaload, 1) := by decide +kernel
theorem d_62_18 : decode M_62.2.2.1 18 = .ok (.astore 4, 2) := by decide +kernel
theorem d_62_20 : decode M_62.2.2.1 20 = .ok (.aload 4, 2) := by decide +kernel
theorem d_62_22 : decode M_62.2.2.1 22 = .ok (.getfield 144, 3) := by decide +kernel
theorem d_62_25 : decode M_62.2.2.1 25 = .ok (.bipush 12, 2) := by decide +kernel
theorem d_62_27 : decode M_62.2.2.1 27 = .ok (.if_icmp .le 6, 3) := by decide +kernel
theorem d_62_30 : decode M_62.2.2.1 30 = .ok (.bipush (-4), 2) := by decide +kernel
theorem d_62_32 : decode M_62.2.2.1 32 = .ok (.ireturn, 1) := by decide +kernel
theorem d_62_33 : decode M_62.2.2.1 33 = .ok (.aload_n 0, 1) := by decide +kernel
theorem d_62_34 : decode M_62.2.2.1 34 = .ok (.getfield 20, 3) := by decide +kernel
theorem d_62_37 : decode M_62.2.2.1 37 = .ok (.aload_n 0, 1) := by decide +kernel
theorem d_62_38 : decode M_62.2.2.1 38 = .ok (.getfield 16, 3) := by decide +kernel
theorem d_62_41 : decode M_62.2.2.1 41 = .ok (.invokevirtual 92, 3) := by decide +kernel
theorem d_62_44 : decode M_62.2.2.1 44 = .ok (.aload_n 0, 1) := by decide +kernel
theorem d_62_45 : decode M_62.2.2.1 45 = .ok (.getfield 20, 3) := by decide +kernel
theorem d_62_48 : decode M_62.2.2.1 48 = .ok (.aload 4, 2) := by decide +kernel
theorem d_62_50 : decode M_62.2.2.1 50 = .ok (.invokestatic 140, 3) := by decide +kernel
theorem d_62_53 : decode M_62.2.2.1 53 = .ok (.aload 4, 2) := by decide +kernel
theorem d_62_55 : decode M_62.2.2.1 55 = .ok (.getfield 144, 3) := by decide +kernel
theorem d_62_58 : decode M_62.2.2.1 58 = .ok (.if_icmp .ge 6, 3) := by decide +kernel
theorem d_62_61 : decode M_62.2.2.1 61 = .ok (.bipush (-5), 2) := by decide +kernel
theorem d_62_63 : decode M_62.2.2.1 63 = .ok (.ireturn, 1) := by decide +kernel
theorem d_62_64 : decode M_62.2.2.1 64 = .ok (.aload_n 0, 1) := by decide +kernel
theorem d_62_65 : decode M_62.2.2.1 65 = .ok (.getfield 16, 3) := by decide +kernel
theorem d_62_68 : decode M_62.2.2.1 68 = .ok (.iload_n 2, 1) := by decide +kernel
theorem d_62_69 : decode M_62.2.2.1 69 = .ok (.invokevirtual 176, 3) := by decide +kernel
theorem d_62_72 : decode M_62.2.2.1 72 = .ok (.ifCond .ne 6, 3) := by decide +kernel
theorem d_62_75 : decode M_62.2.2.1 75 = .ok (.bipush (-3), 2) := by decide +kernel
theorem d_62_77 : decode M_62.2.2.1 77 = .ok (.ireturn, 1) := by decide +kernel
theorem d_62_78 : decode M_62.2.2.1 78 = .ok (.iconst 0, 1) := by decide +kernel
theorem d_62_79 : decode M_62.2.2.1 79 = .ok (.istore 5, 2) := by decide +kernel
theorem d_62_81 : decode M_62.2.2.1 81 = .ok (.iconst 0, 1) := by decide +kernel
theorem d_62_82 : decode M_62.2.2.1 82 = .ok (.istore 6, 2) := by decide +kernel
theorem d_62_84 : decode M_62.2.2.1 84 = .ok (.iload 6, 2) := by decide +kernel
theorem d_62_86 : decode M_62.2.2.1 86 = .ok (.aload 4, 2) := by decide +kernel
theorem d_62_88 : decode M_62.2.2.1 88 = .ok (.getfield 144, 3) := by decide +kernel
theorem d_62_91 : decode M_62.2.2.1 91 = .ok (.if_icmp .ge 30, 3) := by decide +kernel
theorem d_62_94 : decode M_62.2.2.1 94 = .ok (.aload_n 0, 1) := by decide +kernel
theorem d_62_95 : decode M_62.2.2.1 95 = .ok (.aload 4, 2) := by decide +kernel
theorem d_62_97 : decode M_62.2.2.1 97 = .ok (.iload 6, 2) := by decide +kernel
theorem d_62_99 : decode M_62.2.2.1 99 = .ok (.invokevirtual 179, 3) := by decide +kernel
theorem d_62_102 : decode M_62.2.2.1 102 = .ok (.iload_n 2, 1) := by decide +kernel
theorem d_62_103 : decode M_62.2.2.1 103 = .ok (.if_icmp .ne 12, 3) := by decide +kernel
theorem d_62_106 : decode M_62.2.2.1 106 = .ok (.iload 5, 2) := by decide +kernel
theorem d_62_108 : decode M_62.2.2.1 108 = .ok (.iconst 1, 1) := by decide +kernel
theorem d_62_109 : decode M_62.2.2.1 109 = .ok (.iload 6, 2) := by decide +kernel
theorem d_62_111 : decode M_62.2.2.1 111 = .ok (.ishl, 1) := by decide +kernel
theorem d_62_112 : decode M_62.2.2.1 112 = .ok (.ior, 1) := by decide +kernel
theorem d_62_113 : decode M_62.2.2.1 113 = .ok (.istore 5, 2) := by decide +kernel
theorem d_62_115 : decode M_62.2.2.1 115 = .ok (.iinc 6 1, 3) := by decide +kernel
theorem d_62_118 : decode M_62.2.2.1 118 = .ok (.goto (-34), 3) := by decide +kernel
theorem d_62_121 : decode M_62.2.2.1 121 = .ok (.iload 5, 2) := by decide +kernel
theorem d_62_123 : decode M_62.2.2.1 123 = .ok (.ireturn, 1) := by decide +kernel
/-- HeardBarrels.badWithout(LHeardBarrels$Row;I)I -/
def M_64 : am_MT := (1, ⟨"HeardBarrels", "badWithout", "(LHeardBarrels$Row;I)I"⟩, prog_1_method_18_code, 4, some .int, false, 2, (0, 0))
theorem hM_64 : am_ms[64]? = some M_64 := rfl
theorem d_64_0 : decode M_64.2.2.1 0 = .ok (.aload_n 0, 1) := by decide +kernel
theorem d_64_1 : decode M_64.2.2.1 1 = .ok (.getfield 20, 3) := by decide +kernel
theorem d_64_4 : decode M_64.2.2.1 4 = .ok (.aload_n 0, 1) := by decide +kernel
theorem d_64_5 : decode M_64.2.2.1 5 = .ok (.getfield 16, 3) := by decide +kernel
theorem d_64_8 : decode M_64.2.2.1 8 = .ok (.invokevirtual 92, 3) := by decide +kernel
theorem d_64_11 : decode M_64.2.2.1 11 = .ok (.iconst 0, 1) := by decide +kernel
theorem d_64_12 : decode M_64.2.2.1 12 = .ok (.istore_n 3, 1) := by decide +kernel
theorem d_64_13 : decode M_64.2.2.1 13 = .ok (.iload_n 3, 1) := by decide +kernel
theorem d_64_14 : decode M_64.2.2.1 14 = .ok (.aload_n 1, 1) := by decide +kernel
theorem d_64_15 : decode M_64.2.2.1 15 = .ok (.getfield 144, 3) := by decide +kernel
theorem d_64_18 : decode M_64.2.2.1 18 = .ok (.if_icmp .ge 32, 3) := by decide +kernel
theorem d_64_21 : decode M_64.2.2.1 21 = .ok (.aload_n 0, 1) := by decide +kernel
theorem d_64_22 : decode M_64.2.2.1 22 = .ok (.getfield 20, 3) := by decide +kernel
theorem d_64_25 : decode M_64.2.2.1 25 = .ok (.iload_n 3, 1) := by decide +kernel
theorem d_64_26 : decode M_64.2.2.1 26 = .ok (.iload_n 2, 1) := by decide +kernel
theorem d_64_27 : decode M_64.2.2.1 27 = .ok (.if_icmp .ne 7, 3) := by decide +kernel
theorem d_64_30 : decode M_64.2.2.1 30 = .ok (.iconst 0, 1) := by decide +kernel
theorem d_64_31 : decode M_64.2.2.1 31 = .ok (.goto 9, 3) := by decide +kernel
theorem d_64_34 : decode M_64.2.2.1 34 = .ok (.aload_n 1, 1) := by decide +kernel
theorem d_64_35 : decode M_64.2.2.1 35 = .ok (.iload_n 3, 1) := by decide +kernel
theorem d_64_36 : decode M_64.2.2.1 36 = .ok (.invokevirtual 147, 3) := by decide +kernel
theorem d_64_39 : decode M_64.2.2.1 39 = .ok (.l2i, 1) := by decide +kernel
theorem d_64_40 : decode M_64.2.2.1 40 = .ok (.invokevirtual 129, 3) := by decide +kernel
theorem d_64_43 : decode M_64.2.2.1 43 = .ok (.pop, 1) := by decide +kernel
theorem d_64_44 : decode M_64.2.2.1 44 = .ok (.iinc 3 1, 3) := by decide +kernel
theorem d_64_47 : decode M_64.2.2.1 47 = .ok (.goto (-34), 3) := by decide +kernel
theorem d_64_50 : decode M_64.2.2.1 50 = .ok (.aload_n 0, 1) := by decide +kernel
theorem d_64_51 : decode M_64.2.2.1 51 = .ok (.getfield 20, 3) := by decide +kernel
theorem d_64_54 : decode M_64.2.2.1 54 = .ok (.iconst 1, 1) := by decide +kernel
theorem d_64_55 : decode M_64.2.2.1 55 = .ok (.invokevirtual 151, 3) := by decide +kernel
theorem d_64_58 : decode M_64.2.2.1 58 = .ok (.ireturn, 1) := by decide +kernel
/-- HeardBarrels.leak(II)I -/
def M_65 : am_MT := (1, ⟨"HeardBarrels", "leak", "(II)I"⟩, prog_1_method_19_code, 5, some .int, false, 2, (0, 0))
theorem hM_65 : am_ms[65]? = some M_65 := rfl
theorem d_65_0 : decode M_65.2.2.1 0 = .ok (.aload_n 0, 1) := by decide +kernel
theorem d_65_1 : decode M_65.2.2.1 1 = .ok (.getfield 16, 3) := by decide +kernel
theorem d_65_4 : decode M_65.2.2.1 4 = .ok (.iload_n 1, 1) := by decide +kernel
theorem d_65_5 : decode M_65.2.2.1 5 = .ok (.invokevirtual 101, 3) := by decide +kernel
theorem d_65_8 : decode M_65.2.2.1 8 = .ok (.ifCond .ne 6, 3) := by decide +kernel
theorem d_65_11 : decode M_65.2.2.1 11 = .ok (.bipush (-2), 2) := by decide +kernel
theorem d_65_13 : decode M_65.2.2.1 13 = .ok (.ireturn, 1) := by decide +kernel
theorem d_65_14 : decode M_65.2.2.1 14 = .ok (.iload_n 2, 1) := by decide +kernel
theorem d_65_15 : decode M_65.2.2.1 15 = .ok (.iconst 1, 1) := by decide +kernel
theorem d_65_16 : decode M_65.2.2.1 16 = .ok (.if_icmp .lt 9, 3) := by decide +kernel
theorem d_65_19 : decode M_65.2.2.1 19 = .ok (.iload_n 2, 1) := by decide +kernel
theorem d_65_20 : decode M_65.2.2.1 20 = .ok (.bipush 12, 2) := by decide +kernel
theorem d_65_22 : decode M_65.2.2.1 22 = .ok (.if_icmp .le 6, 3) := by decide +kernel
theorem d_65_25 : decode M_65.2.2.1 25 = .ok (.bipush (-3), 2) := by decide +kernel
theorem d_65_27 : decode M_65.2.2.1 27 = .ok (.ireturn, 1) := by decide +kernel
theorem d_65_28 : decode M_65.2.2.1 28 = .ok (.iconst 0, 1) := by decide +kernel
theorem d_65_29 : decode M_65.2.2.1 29 = .ok (.istore_n 3, 1) := by decide +kernel
theorem d_65_30 : decode M_65.2.2.1 30 = .ok (.iload_n 1, 1) := by decide +kernel
theorem d_65_31 : decode M_65.2.2.1 31 = .ok (.istore 4, 2) := by decide +kernel
theorem d_65_33 : decode M_65.2.2.1 33 = .ok (.iload 4, 2) := by decide +kernel
theorem d_65_35 : decode M_65.2.2.1 35 = .ok (.iload_n 1, 1) := by decide +kernel
theorem d_65_36 : decode M_65.2.2.1 36 = .ok (.iload_n 2, 1) := by decide +kernel
theorem d_65_37 : decode M_65.2.2.1 37 = .ok (.iadd, 1) := by decide +kernel
theorem d_65_38 : decode M_65.2.2.1 38 = .ok (.if_icmp .ge 80, 3) := by decide +kernel
theorem d_65_41 : decode M_65.2.2.1 41 = .ok (.aload_n 0, 1) := by decide +kernel
theorem d_65_42 : decode M_65.2.2.1 42 = .ok (.getfield 16, 3) := by decide +kernel
theorem d_65_45 : decode M_65.2.2.1 45 = .ok (.iload 4, 2) := by decide +kernel
theorem d_65_47 : decode M_65.2.2.1 47 = .ok (.invokevirtual 101, 3) := by decide +kernel
theorem d_65_50 : decode M_65.2.2.1 50 = .ok (.ifCond .eq 68, 3) := by decide +kernel
theorem d_65_53 : decode M_65.2.2.1 53 = .ok (.aload_n 0, 1) := by decide +kernel
theorem d_65_54 : decode M_65.2.2.1 54 = .ok (.getfield 16, 3) := by decide +kernel
theorem d_65_57 : decode M_65.2.2.1 57 = .ok (.getfield 104, 3) := by decide +kernel
theorem d_65_60 : decode M_65.2.2.1 60 = .ok (.iload 4, 2) := by decide +kernel
theorem d_65_62 : decode M_65.2.2.1 62 = .ok (.iaload, 1) := by decide +kernel
theorem d_65_63 : decode M_65.2.2.1 63 = .ok (.iconst 3, 1) := by decide +kernel
theorem d_65_64 : decode M_65.2.2.1 64 = .ok (.if_icmp .eq 54, 3) := by decide +kernel
theorem d_65_67 : decode M_65.2.2.1 67 = .ok (.aload_n 0, 1) := by decide +kernel
theorem d_65_68 : decode M_65.2.2.1 68 = .ok (.getfield 16, 3) := by decide +kernel
theorem d_65_71 : decode M_65.2.2.1 71 = .ok (.getfield 104, 3) := by decide +kernel
theorem d_65_74 : decode M_65.2.2.1 74 = .ok (.iload 4, 2) := by decide +kernel
theorem d_65_76 : decode M_65.2.2.1 76 = .ok (.iaload, 1) := by decide +kernel
theorem d_65_77 : decode M_65.2.2.1 77 = .ok (.ifCond .ne 35, 3) := by decide +kernel
theorem d_65_80 : decode M_65.2.2.1 80 = .ok (.aload_n 0, 1) := by decide +kernel
theorem d_65_81 : decode M_65.2.2.1 81 = .ok (.getfield 16, 3) := by decide +kernel
theorem d_65_84 : decode M_65.2.2.1 84 = .ok (.getfield 108, 3) := by decide +kernel
theorem d_65_87 : decode M_65.2.2.1 87 = .ok (.iload 4, 2) := by decide +kernel
theorem d_65_89 : decode M_65.2.2.1 89 = .ok (.iaload, 1) := by decide +kernel
theorem d_65_90 : decode M_65.2.2.1 90 = .ok (.bipush 9, 2) := by decide +kernel
theorem d_65_92 : decode M_65.2.2.1 92 = .ok (.if_icmp .ge 20, 3) := by decide +kernel
theorem d_65_95 : decode M_65.2.2.1 95 = .ok (.aload_n 0, 1) := by decide +kernel
theorem d_65_96 : decode M_65.2.2.1 96 = .ok (.getfield 16, 3) := by decide +kernel
theorem d_65_99 : decode M_65.2.2.1 99 = .ok (.getfield 108, 3) := by decide +kernel
theorem d_65_102 : decode M_65.2.2.1 102 = .ok (.iload 4, 2) := by decide +kernel
theorem d_65_104 : decode M_65.2.2.1 104 = .ok (.dup2, 1) := by decide +kernel
theorem d_65_105 : decode M_65.2.2.1 105 = .ok (.iaload, 1) := by decide +kernel
theorem d_65_106 : decode M_65.2.2.1 106 = .ok (.iconst 1, 1) := by decide +kernel
theorem d_65_107 : decode M_65.2.2.1 107 = .ok (.iadd, 1) := by decide +kernel
theorem d_65_108 : decode M_65.2.2.1 108 = .ok (.iastore, 1) := by decide +kernel
theorem d_65_109 : decode M_65.2.2.1 109 = .ok (.iinc 3 1, 3) := by decide +kernel
theorem d_65_112 : decode M_65.2.2.1 112 = .ok (.iinc 4 1, 3) := by decide +kernel
theorem d_65_115 : decode M_65.2.2.1 115 = .ok (.goto (-82), 3) := by decide +kernel
theorem d_65_118 : decode M_65.2.2.1 118 = .ok (.iload_n 3, 1) := by decide +kernel
theorem d_65_119 : decode M_65.2.2.1 119 = .ok (.ireturn, 1) := by decide +kernel
/-- HeardBarrels.tone(I)I -/
def M_66 : am_MT := (1, ⟨"HeardBarrels", "tone", "(I)I"⟩, prog_1_method_20_code, 2, some .int, false, 1, (0, 0))
theorem hM_66 : am_ms[66]? = some M_66 := rfl
theorem d_66_0 : decode M_66.2.2.1 0 = .ok (.aload_n 0, 1) := by decide +kernel
theorem d_66_1 : decode M_66.2.2.1 1 = .ok (.getfield 16, 3) := by decide +kernel
theorem d_66_4 : decode M_66.2.2.1 4 = .ok (.iload_n 1, 1) := by decide +kernel
theorem d_66_5 : decode M_66.2.2.1 5 = .ok (.invokevirtual 101, 3) := by decide +kernel
theorem d_66_8 : decode M_66.2.2.1 8 = .ok (.ifCond .ne 6, 3) := by decide +kernel
theorem d_66_11 : decode M_66.2.2.1 11 = .ok (.bipush (-2), 2) := by decide +kernel
theorem d_66_13 : decode M_66.2.2.1 13 = .ok (.ireturn, 1) := by decide +kernel
theorem d_66_14 : decode M_66.2.2.1 14 = .ok (.aload_n 0, 1) := by decide +kernel
theorem d_66_15 : decode M_66.2.2.1 15 = .ok (.getfield 16, 3) := by decide +kernel
theorem d_66_18 : decode M_66.2.2.1 18 = .ok (.getfield 104, 3) := by decide +kernel
theorem d_66_21 : decode M_66.2.2.1 21 = .ok (.iload_n 1, 1) := by decide +kernel
theorem d_66_22 : decode M_66.2.2.1 22 = .ok (.iaload, 1) := by decide +kernel
theorem d_66_23 : decode M_66.2.2.1 23 = .ok (.iconst 3, 1) := by decide +kernel
theorem d_66_24 : decode M_66.2.2.1 24 = .ok (.if_icmp .ne 8, 3) := by decide +kernel
theorem d_66_27 : decode M_66.2.2.1 27 = .ok (.bipush (-5), 2) := by decide +kernel
theorem d_66_29 : decode M_66.2.2.1 29 = .ok (.goto 11, 3) := by decide +kernel
theorem d_66_32 : decode M_66.2.2.1 32 = .ok (.aload_n 0, 1) := by decide +kernel
theorem d_66_33 : decode M_66.2.2.1 33 = .ok (.getfield 16, 3) := by decide +kernel
theorem d_66_36 : decode M_66.2.2.1 36 = .ok (.iload_n 1, 1) := by decide +kernel
theorem d_66_37 : decode M_66.2.2.1 37 = .ok (.invokevirtual 182, 3) := by decide +kernel
theorem d_66_40 : decode M_66.2.2.1 40 = .ok (.ireturn, 1) := by decide +kernel
/-- HeardBarrels.knock(I)I -/
def M_70 : am_MT := (1, ⟨"HeardBarrels", "knock", "(I)I"⟩, prog_1_method_21_code, 2, some .int, false, 1, (0, 0))
theorem hM_70 : am_ms[70]? = some M_70 := rfl
theorem d_70_0 : decode M_70.2.2.1 0 = .ok (.aload_n 0, 1) := by decide +kernel
theorem d_70_1 : decode M_70.2.2.1 1 = .ok (.getfield 16, 3) := by decide +kernel
theorem d_70_4 : decode M_70.2.2.1 4 = .ok (.iload_n 1, 1) := by decide +kernel
theorem d_70_5 : decode M_70.2.2.1 5 = .ok (.invokevirtual 185, 3) := by decide +kernel
theorem d_70_8 : decode M_70.2.2.1 8 = .ok (.ifCond .eq 22, 3) := by decide +kernel
theorem d_70_11 : decode M_70.2.2.1 11 = .ok (.aload_n 0, 1) := by decide +kernel
theorem d_70_12 : decode M_70.2.2.1 12 = .ok (.getfield 16, 3) := by decide +kernel
theorem d_70_15 : decode M_70.2.2.1 15 = .ok (.iload_n 1, 1) := by decide +kernel
theorem d_70_16 : decode M_70.2.2.1 16 = .ok (.aload_n 0, 1) := by decide +kernel
theorem d_70_17 : decode M_70.2.2.1 17 = .ok (.getfield 16, 3) := by decide +kernel
theorem d_70_20 : decode M_70.2.2.1 20 = .ok (.iconst 1, 1) := by decide +kernel
theorem d_70_21 : decode M_70.2.2.1 21 = .ok (.invokevirtual 151, 3) := by decide +kernel
theorem d_70_24 : decode M_70.2.2.1 24 = .ok (.invokevirtual 188, 3) := by decide +kernel
theorem d_70_27 : decode M_70.2.2.1 27 = .ok (.goto 6, 3) := by decide +kernel
theorem d_70_30 : decode M_70.2.2.1 30 = .ok (.sipush (-1000), 3) := by decide +kernel
theorem d_70_33 : decode M_70.2.2.1 33 = .ok (.ireturn, 1) := by decide +kernel
/-- HeardBarrels.heard(II)I -/
def M_76 : am_MT := (1, ⟨"HeardBarrels", "heard", "(II)I"⟩, prog_1_method_22_code, 3, some .int, false, 2, (0, 0))
theorem hM_76 : am_ms[76]? = some M_76 := rfl
theorem d_76_0 : decode M_76.2.2.1 0 = .ok (.aload_n 0, 1) := by decide +kernel
theorem d_76_1 : decode M_76.2.2.1 1 = .ok (.getfield 16, 3) := by decide +kernel
theorem d_76_4 : decode M_76.2.2.1 4 = .ok (.iload_n 1, 1) := by decide +kernel
theorem d_76_5 : decode M_76.2.2.1 5 = .ok (.invokevirtual 185, 3) := by decide +kernel
theorem d_76_8 : decode M_76.2.2.1 8 = .ok (.ifCond .eq 14, 3) := by decide +kernel
theorem d_76_11 : decode M_76.2.2.1 11 = .ok (.aload_n 0, 1) := by decide +kernel
theorem d_76_12 : decode M_76.2.2.1 12 = .ok (.getfield 16, 3) := by decide +kernel
theorem d_76_15 : decode M_76.2.2.1 15 = .ok (.iload_n 2, 1) := by decide +kernel
theorem d_76_16 : decode M_76.2.2.1 16 = .ok (.invokevirtual 192, 3) := by decide +kernel
theorem d_76_19 : decode M_76.2.2.1 19 = .ok (.ifCond .ne 7, 3) := by decide +kernel
theorem d_76_22 : decode M_76.2.2.1 22 = .ok (.sipush (-1000), 3) := by decide +kernel
theorem d_76_25 : decode M_76.2.2.1 25 = .ok (.ireturn, 1) := by decide +kernel
theorem d_76_26 : decode M_76.2.2.1 26 = .ok (.aload_n 0, 1) := by decide +kernel
theorem d_76_27 : decode M_76.2.2.1 27 = .ok (.getfield 16, 3) := by decide +kernel
theorem d_76_30 : decode M_76.2.2.1 30 = .ok (.iload_n 1, 1) := by decide +kernel
theorem d_76_31 : decode M_76.2.2.1 31 = .ok (.iload_n 2, 1) := by decide +kernel
theorem d_76_32 : decode M_76.2.2.1 32 = .ok (.invokevirtual 188, 3) := by decide +kernel
theorem d_76_35 : decode M_76.2.2.1 35 = .ok (.ireturn, 1) := by decide +kernel
/-- HeardBarrels.fit(I)I -/
def M_79 : am_MT := (1, ⟨"HeardBarrels", "fit", "(I)I"⟩, prog_1_method_23_code, 3, some .int, false, 1, (0, 0))
theorem hM_79 : am_ms[79]? = some M_79 := rfl
theorem d_79_0 : decode M_79.2.2.1 0 = .ok (.aload_n 0, 1) := by decide +kernel
theorem d_79_1 : decode M_79.2.2.1 1 = .ok (.iload_n 1, 1) := by decide +kernel
theorem d_79_2 : decode M_79.2.2.1 2 = .ok (.invokevirtual 195, 3) := by decide +kernel
theorem d_79_5 : decode M_79.2.2.1 5 = .ok (.istore_n 2, 1) := by decide +kernel
theorem d_79_6 : decode M_79.2.2.1 6 = .ok (.iload_n 2, 1) := by decide +kernel
theorem d_79_7 : decode M_79.2.2.1 7 = .ok (.ifCond .eq 7, 3) := by decide +kernel
theorem d_79_10 : decode M_79.2.2.1 10 = .ok (.iload_n 2, 1) := by decide +kernel
theorem d_79_11 : decode M_79.2.2.1 11 = .ok (.goto 16, 3) := by decide +kernel
theorem d_79_14 : decode M_79.2.2.1 14 = .ok (.aload_n 0, 1) := by decide +kernel
theorem d_79_15 : decode M_79.2.2.1 15 = .ok (.getfield 52, 3) := by decide +kernel
theorem d_79_18 : decode M_79.2.2.1 18 = .ok (.aload_n 0, 1) := by decide +kernel
theorem d_79_19 : decode M_79.2.2.1 19 = .ok (.getfield 33, 3) := by decide +kernel
theorem d_79_22 : decode M_79.2.2.1 22 = .ok (.iload_n 1, 1) := by decide +kernel
theorem d_79_23 : decode M_79.2.2.1 23 = .ok (.aaload, 1) := by decide +kernel
theorem d_79_24 : decode M_79.2.2.1 24 = .ok (.invokevirtual 198, 3) := by decide +kernel
theorem d_79_27 : decode M_79.2.2.1 27 = .ok (.ireturn, 1) := by decide +kernel
/-- HeardBarrels.knocksRefusal(I)I -/
def M_80 : am_MT := (1, ⟨"HeardBarrels", "knocksRefusal", "(I)I"⟩, prog_1_method_46_code, 3, some .int, false, 1, (0, 0))
theorem hM_80 : am_ms[80]? = some M_80 := rfl
theorem d_80_0 : decode M_80.2.2.1 0 = .ok (.aload_n 0, 1) := by decide +kernel
theorem d_80_1 : decode M_80.2.2.1 1 = .ok (.iload_n 1, 1) := by decide +kernel
theorem d_80_2 : decode M_80.2.2.1 2 = .ok (.invokevirtual 158, 3) := by decide +kernel
theorem d_80_5 : decode M_80.2.2.1 5 = .ok (.istore_n 2, 1) := by decide +kernel
theorem d_80_6 : decode M_80.2.2.1 6 = .ok (.iload_n 2, 1) := by decide +kernel
theorem d_80_7 : decode M_80.2.2.1 7 = .ok (.ifCond .eq 5, 3) := by decide +kernel
theorem d_80_10 : decode M_80.2.2.1 10 = .ok (.iload_n 2, 1) := by decide +kernel
theorem d_80_11 : decode M_80.2.2.1 11 = .ok (.ireturn, 1) := by decide +kernel
theorem d_80_12 : decode M_80.2.2.1 12 = .ok (.aload_n 0, 1) := by decide +kernel
theorem d_80_13 : decode M_80.2.2.1 13 = .ok (.getfield 33, 3) := by decide +kernel
theorem d_80_16 : decode M_80.2.2.1 16 = .ok (.iload_n 1, 1) := by decide +kernel
theorem d_80_17 : decode M_80.2.2.1 17 = .ok (.aaload, 1) := by decide +kernel
theorem d_80_18 : decode M_80.2.2.1 18 = .ok (.getfield 144, 3) := by decide +kernel
theorem d_80_21 : decode M_80.2.2.1 21 = .ok (.aload_n 0, 1) := by decide +kernel
theorem d_80_22 : decode M_80.2.2.1 22 = .ok (.getfield 16, 3) := by decide +kernel
theorem d_80_25 : decode M_80.2.2.1 25 = .ok (.getfield 172, 3) := by decide +kernel
theorem d_80_28 : decode M_80.2.2.1 28 = .ok (.if_icmp .ne 7, 3) := by decide +kernel
theorem d_80_31 : decode M_80.2.2.1 31 = .ok (.iconst 0, 1) := by decide +kernel
theorem d_80_32 : decode M_80.2.2.1 32 = .ok (.goto 5, 3) := by decide +kernel
theorem d_80_35 : decode M_80.2.2.1 35 = .ok (.bipush (-7), 2) := by decide +kernel
theorem d_80_37 : decode M_80.2.2.1 37 = .ok (.ireturn, 1) := by decide +kernel
/-- HeardBarrels.fitting(II)I -/
def M_89 : am_MT := (1, ⟨"HeardBarrels", "fitting", "(II)I"⟩, prog_1_method_24_code, 4, some .int, false, 2, (0, 0))
theorem hM_89 : am_ms[89]? = some M_89 := rfl
theorem d_89_0 : decode M_89.2.2.1 0 = .ok (.aload_n 0, 1) := by decide +kernel
theorem d_89_1 : decode M_89.2.2.1 1 = .ok (.iload_n 1, 1) := by decide +kernel
theorem d_89_2 : decode M_89.2.2.1 2 = .ok (.invokevirtual 195, 3) := by decide +kernel
theorem d_89_5 : decode M_89.2.2.1 5 = .ok (.istore_n 3, 1) := by decide +kernel
theorem d_89_6 : decode M_89.2.2.1 6 = .ok (.iload_n 3, 1) := by decide +kernel
theorem d_89_7 : decode M_89.2.2.1 7 = .ok (.ifCond .eq 7, 3) := by decide +kernel
theorem d_89_10 : decode M_89.2.2.1 10 = .ok (.iload_n 3, 1) := by decide +kernel
theorem d_89_11 : decode M_89.2.2.1 11 = .ok (.goto 17, 3) := by decide +kernel
theorem d_89_14 : decode M_89.2.2.1 14 = .ok (.aload_n 0, 1) := by decide +kernel
theorem d_89_15 : decode M_89.2.2.1 15 = .ok (.getfield 52, 3) := by decide +kernel
theorem d_89_18 : decode M_89.2.2.1 18 = .ok (.aload_n 0, 1) := by decide +kernel
theorem d_89_19 : decode M_89.2.2.1 19 = .ok (.getfield 33, 3) := by decide +kernel
theorem d_89_22 : decode M_89.2.2.1 22 = .ok (.iload_n 1, 1) := by decide +kernel
theorem d_89_23 : decode M_89.2.2.1 23 = .ok (.aaload, 1) := by decide +kernel
theorem d_89_24 : decode M_89.2.2.1 24 = .ok (.iload_n 2, 1) := by decide +kernel
theorem d_89_25 : decode M_89.2.2.1 25 = .ok (.invokevirtual 202, 3) := by decide +kernel
theorem d_89_28 : decode M_89.2.2.1 28 = .ok (.ireturn, 1) := by decide +kernel
/-- HeardBarrels.sure(IZ)I -/
def M_91 : am_MT := (1, ⟨"HeardBarrels", "sure", "(IZ)I"⟩, prog_1_method_25_code, 4, some .int, false, 2, (0, 0))
theorem hM_91 : am_ms[91]? = some M_91 := rfl
theorem d_91_0 : decode M_91.2.2.1 0 = .ok (.aload_n 0, 1) := by decide +kernel
theorem d_91_1 : decode M_91.2.2.1 1 = .ok (.iload_n 1, 1) := by decide +kernel
theorem d_91_2 : decode M_91.2.2.1 2 = .ok (.invokevirtual 195, 3) := by decide +kernel
theorem d_91_5 : decode M_91.2.2.1 5 = .ok (.istore_n 3, 1) := by decide +kernel
theorem d_91_6 : decode M_91.2.2.1 6 = .ok (.iload_n 3, 1) := by decide +kernel
theorem d_91_7 : decode M_91.2.2.1 7 = .ok (.ifCond .eq 7, 3) := by decide +kernel
theorem d_91_10 : decode M_91.2.2.1 10 = .ok (.iload_n 3, 1) := by decide +kernel
theorem d_91_11 : decode M_91.2.2.1 11 = .ok (.goto 17, 3) := by decide +kernel
theorem d_91_14 : decode M_91.2.2.1 14 = .ok (.aload_n 0, 1) := by decide +kernel
theorem d_91_15 : decode M_91.2.2.1 15 = .ok (.getfield 52, 3) := by decide +kernel
theorem d_91_18 : decode M_91.2.2.1 18 = .ok (.aload_n 0, 1) := by decide +kernel
theorem d_91_19 : decode M_91.2.2.1 19 = .ok (.getfield 33, 3) := by decide +kernel
theorem d_91_22 : decode M_91.2.2.1 22 = .ok (.iload_n 1, 1) := by decide +kernel
theorem d_91_23 : decode M_91.2.2.1 23 = .ok (.aaload, 1) := by decide +kernel
theorem d_91_24 : decode M_91.2.2.1 24 = .ok (.iload_n 2, 1) := by decide +kernel
theorem d_91_25 : decode M_91.2.2.1 25 = .ok (.invokevirtual 205, 3) := by decide +kernel
theorem d_91_28 : decode M_91.2.2.1 28 = .ok (.ireturn, 1) := by decide +kernel
/-- HeardBarrels.next(I)I -/
def M_93 : am_MT := (1, ⟨"HeardBarrels", "next", "(I)I"⟩, prog_1_method_26_code, 3, some .int, false, 1, (0, 0))
theorem hM_93 : am_ms[93]? = some M_93 := rfl
theorem d_93_0 : decode M_93.2.2.1 0 = .ok (.aload_n 0, 1) := by decide +kernel
theorem d_93_1 : decode M_93.2.2.1 1 = .ok (.iload_n 1, 1) := by decide +kernel
theorem d_93_2 : decode M_93.2.2.1 2 = .ok (.invokevirtual 195, 3) := by decide +kernel
theorem d_93_5 : decode M_93.2.2.1 5 = .ok (.istore_n 2, 1) := by decide +kernel
theorem d_93_6 : decode M_93.2.2.1 6 = .ok (.iload_n 2, 1) := by decide +kernel
theorem d_93_7 : decode M_93.2.2.1 7 = .ok (.ifCond .eq 7, 3) := by decide +kernel
theorem d_93_10 : decode M_93.2.2.1 10 = .ok (.iload_n 2, 1) := by decide +kernel
theorem d_93_11 : decode M_93.2.2.1 11 = .ok (.goto 16, 3) := by decide +kernel
theorem d_93_14 : decode M_93.2.2.1 14 = .ok (.aload_n 0, 1) := by decide +kernel
theorem d_93_15 : decode M_93.2.2.1 15 = .ok (.getfield 52, 3) := by decide +kernel
theorem d_93_18 : decode M_93.2.2.1 18 = .ok (.aload_n 0, 1) := by decide +kernel
theorem d_93_19 : decode M_93.2.2.1 19 = .ok (.getfield 33, 3) := by decide +kernel
theorem d_93_22 : decode M_93.2.2.1 22 = .ok (.iload_n 1, 1) := by decide +kernel
theorem d_93_23 : decode M_93.2.2.1 23 = .ok (.aaload, 1) := by decide +kernel
theorem d_93_24 : decode M_93.2.2.1 24 = .ok (.invokevirtual 209, 3) := by decide +kernel
theorem d_93_27 : decode M_93.2.2.1 27 = .ok (.ireturn, 1) := by decide +kernel
/-- HeardBarrels.worst(I)I -/
def M_98 : am_MT := (1, ⟨"HeardBarrels", "worst", "(I)I"⟩, prog_1_method_27_code, 3, some .int, false, 1, (0, 0))
theorem hM_98 : am_ms[98]? = some M_98 := rfl
theorem d_98_0 : decode M_98.2.2.1 0 = .ok (.aload_n 0, 1) := by decide +kernel
theorem d_98_1 : decode M_98.2.2.1 1 = .ok (.iload_n 1, 1) := by decide +kernel
theorem d_98_2 : decode M_98.2.2.1 2 = .ok (.invokevirtual 195, 3) := by decide +kernel
theorem d_98_5 : decode M_98.2.2.1 5 = .ok (.istore_n 2, 1) := by decide +kernel
theorem d_98_6 : decode M_98.2.2.1 6 = .ok (.iload_n 2, 1) := by decide +kernel
theorem d_98_7 : decode M_98.2.2.1 7 = .ok (.ifCond .eq 5, 3) := by decide +kernel
theorem d_98_10 : decode M_98.2.2.1 10 = .ok (.iload_n 2, 1) := by decide +kernel
theorem d_98_11 : decode M_98.2.2.1 11 = .ok (.ireturn, 1) := by decide +kernel
theorem d_98_12 : decode M_98.2.2.1 12 = .ok (.aload_n 0, 1) := by decide +kernel
theorem d_98_13 : decode M_98.2.2.1 13 = .ok (.getfield 52, 3) := by decide +kernel
theorem d_98_16 : decode M_98.2.2.1 16 = .ok (.aload_n 0, 1) := by decide +kernel
theorem d_98_17 : decode M_98.2.2.1 17 = .ok (.getfield 33, 3) := by decide +kernel
theorem d_98_20 : decode M_98.2.2.1 20 = .ok (.iload_n 1, 1) := by decide +kernel
theorem d_98_21 : decode M_98.2.2.1 21 = .ok (.aaload, 1) := by decide +kernel
theorem d_98_22 : decode M_98.2.2.1 22 = .ok (.invokevirtual 209, 3) := by decide +kernel
theorem d_98_25 : decode M_98.2.2.1 25 = .ok (.iconst (-1), 1) := by decide +kernel
theorem d_98_26 : decode M_98.2.2.1 26 = .ok (.if_icmp .ne 7, 3) := by decide +kernel
theorem d_98_29 : decode M_98.2.2.1 29 = .ok (.iconst (-1), 1) := by decide +kernel
theorem d_98_30 : decode M_98.2.2.1 30 = .ok (.goto 10, 3) := by decide +kernel
theorem d_98_33 : decode M_98.2.2.1 33 = .ok (.aload_n 0, 1) := by decide +kernel
theorem d_98_34 : decode M_98.2.2.1 34 = .ok (.getfield 52, 3) := by decide +kernel
theorem d_98_37 : decode M_98.2.2.1 37 = .ok (.getfield 212, 3) := by decide +kernel
theorem d_98_40 : decode M_98.2.2.1 40 = .ok (.ireturn, 1) := by decide +kernel
/-- HeardBarrels.ways(II)I -/
def M_99 : am_MT := (1, ⟨"HeardBarrels", "ways", "(II)I"⟩, prog_1_method_28_code, 3, some .int, false, 2, (0, 0))
theorem hM_99 : am_ms[99]? = some M_99 := rfl
theorem d_99_0 : decode M_99.2.2.1 0 = .ok (.aload_n 0, 1) := by decide +kernel
theorem d_99_1 : decode M_99.2.2.1 1 = .ok (.getfield 16, 3) := by decide +kernel
theorem d_99_4 : decode M_99.2.2.1 4 = .ok (.iload_n 1, 1) := by decide +kernel
theorem d_99_5 : decode M_99.2.2.1 5 = .ok (.invokevirtual 185, 3) := by decide +kernel
theorem d_99_8 : decode M_99.2.2.1 8 = .ok (.ifCond .eq 15, 3) := by decide +kernel
theorem d_99_11 : decode M_99.2.2.1 11 = .ok (.aload_n 0, 1) := by decide +kernel
theorem d_99_12 : decode M_99.2.2.1 12 = .ok (.getfield 52, 3) := by decide +kernel
theorem d_99_15 : decode M_99.2.2.1 15 = .ok (.iload_n 1, 1) := by decide +kernel
theorem d_99_16 : decode M_99.2.2.1 16 = .ok (.iload_n 2, 1) := by decide +kernel
theorem d_99_17 : decode M_99.2.2.1 17 = .ok (.invokevirtual 215, 3) := by decide +kernel
theorem d_99_20 : decode M_99.2.2.1 20 = .ok (.goto 5, 3) := by decide +kernel
theorem d_99_23 : decode M_99.2.2.1 23 = .ok (.bipush (-2), 2) := by decide +kernel
theorem d_99_25 : decode M_99.2.2.1 25 = .ok (.ireturn, 1) := by decide +kernel
/-- HeardBarrels.alike(I)I -/
def M_102 : am_MT := (1, ⟨"HeardBarrels", "alike", "(I)I"⟩, prog_1_method_29_code, 2, some .int, false, 1, (0, 0))
theorem hM_102 : am_ms[102]? = some M_102 := rfl
theorem d_102_0 : decode M_102.2.2.1 0 = .ok (.aload_n 0, 1) := by decide +kernel
theorem d_102_1 : decode M_102.2.2.1 1 = .ok (.getfield 16, 3) := by decide +kernel
theorem d_102_4 : decode M_102.2.2.1 4 = .ok (.iload_n 1, 1) := by decide +kernel
theorem d_102_5 : decode M_102.2.2.1 5 = .ok (.invokevirtual 192, 3) := by decide +kernel
theorem d_102_8 : decode M_102.2.2.1 8 = .ok (.ifCond .eq 14, 3) := by decide +kernel
theorem d_102_11 : decode M_102.2.2.1 11 = .ok (.aload_n 0, 1) := by decide +kernel
theorem d_102_12 : decode M_102.2.2.1 12 = .ok (.getfield 52, 3) := by decide +kernel
theorem d_102_15 : decode M_102.2.2.1 15 = .ok (.iload_n 1, 1) := by decide +kernel
theorem d_102_16 : decode M_102.2.2.1 16 = .ok (.invokevirtual 218, 3) := by decide +kernel
theorem d_102_19 : decode M_102.2.2.1 19 = .ok (.goto 5, 3) := by decide +kernel
theorem d_102_22 : decode M_102.2.2.1 22 = .ok (.bipush (-3), 2) := by decide +kernel
theorem d_102_24 : decode M_102.2.2.1 24 = .ok (.ireturn, 1) := by decide +kernel
/-- HeardBarrels.enough()I -/
def M_104 : am_MT := (1, ⟨"HeardBarrels", "enough", "()I"⟩, prog_1_method_30_code, 1, some .int, false, 0, (0, 0))
theorem hM_104 : am_ms[104]? = some M_104 := rfl
theorem d_104_0 : decode M_104.2.2.1 0 = .ok (.aload_n 0, 1) := by decide +kernel
theorem d_104_1 : decode M_104.2.2.1 1 = .ok (.getfield 52, 3) := by decide +kernel
theorem d_104_4 : decode M_104.2.2.1 4 = .ok (.invokevirtual 221, 3) := by decide +kernel
theorem d_104_7 : decode M_104.2.2.1 7 = .ok (.ireturn, 1) := by decide +kernel
/-- HeardBarrels.needed(I)I -/
def M_110 : am_MT := (1, ⟨"HeardBarrels", "needed", "(I)I"⟩, prog_1_method_31_code, 3, some .int, false, 1, (0, 0))
theorem hM_110 : am_ms[110]? = some M_110 := rfl
theorem d_110_0 : decode M_110.2.2.1 0 = .ok (.aload_n 0, 1) := by decide +kernel
theorem d_110_1 : decode M_110.2.2.1 1 = .ok (.iload_n 1, 1) := by decide +kernel
theorem d_110_2 : decode M_110.2.2.1 2 = .ok (.invokevirtual 195, 3) := by decide +kernel
theorem d_110_5 : decode M_110.2.2.1 5 = .ok (.istore_n 2, 1) := by decide +kernel
theorem d_110_6 : decode M_110.2.2.1 6 = .ok (.iload_n 2, 1) := by decide +kernel
theorem d_110_7 : decode M_110.2.2.1 7 = .ok (.ifCond .eq 7, 3) := by decide +kernel
theorem d_110_10 : decode M_110.2.2.1 10 = .ok (.iload_n 2, 1) := by decide +kernel
theorem d_110_11 : decode M_110.2.2.1 11 = .ok (.goto 16, 3) := by decide +kernel
theorem d_110_14 : decode M_110.2.2.1 14 = .ok (.aload_n 0, 1) := by decide +kernel
theorem d_110_15 : decode M_110.2.2.1 15 = .ok (.getfield 52, 3) := by decide +kernel
theorem d_110_18 : decode M_110.2.2.1 18 = .ok (.aload_n 0, 1) := by decide +kernel
theorem d_110_19 : decode M_110.2.2.1 19 = .ok (.getfield 33, 3) := by decide +kernel
theorem d_110_22 : decode M_110.2.2.1 22 = .ok (.iload_n 1, 1) := by decide +kernel
theorem d_110_23 : decode M_110.2.2.1 23 = .ok (.aaload, 1) := by decide +kernel
theorem d_110_24 : decode M_110.2.2.1 24 = .ok (.invokevirtual 225, 3) := by decide +kernel
theorem d_110_27 : decode M_110.2.2.1 27 = .ok (.ireturn, 1) := by decide +kernel
/-- HeardBarrels.kept(II)I -/
def M_114 : am_MT := (1, ⟨"HeardBarrels", "kept", "(II)I"⟩, prog_1_method_32_code, 3, some .int, false, 2, (0, 0))
theorem hM_114 : am_ms[114]? = some M_114 := rfl
theorem d_114_0 : decode M_114.2.2.1 0 = .ok (.iload_n 2, 1) := by decide +kernel
theorem d_114_1 : decode M_114.2.2.1 1 = .ok (.ifCond .eq 18, 3) := by decide +kernel
theorem d_114_4 : decode M_114.2.2.1 4 = .ok (.iload_n 2, 1) := by decide +kernel
theorem d_114_5 : decode M_114.2.2.1 5 = .ok (.bipush 10, 2) := by decide +kernel
theorem d_114_7 : decode M_114.2.2.1 7 = .ok (.if_icmp .lt 9, 3) := by decide +kernel
theorem d_114_10 : decode M_114.2.2.1 10 = .ok (.iload_n 2, 1) := by decide +kernel
theorem d_114_11 : decode M_114.2.2.1 11 = .ok (.bipush 17, 2) := by decide +kernel
theorem d_114_13 : decode M_114.2.2.1 13 = .ok (.if_icmp .le 6, 3) := by decide +kernel
theorem d_114_16 : decode M_114.2.2.1 16 = .ok (.bipush (-2), 2) := by decide +kernel
theorem d_114_18 : decode M_114.2.2.1 18 = .ok (.ireturn, 1) := by decide +kernel
theorem d_114_19 : decode M_114.2.2.1 19 = .ok (.iload_n 1, 1) := by decide +kernel
theorem d_114_20 : decode M_114.2.2.1 20 = .ok (.iconst 1, 1) := by decide +kernel
theorem d_114_21 : decode M_114.2.2.1 21 = .ok (.if_icmp .lt 9, 3) := by decide +kernel
theorem d_114_24 : decode M_114.2.2.1 24 = .ok (.iload_n 1, 1) := by decide +kernel
theorem d_114_25 : decode M_114.2.2.1 25 = .ok (.bipush 8, 2) := by decide +kernel
theorem d_114_27 : decode M_114.2.2.1 27 = .ok (.if_icmp .le 6, 3) := by decide +kernel
theorem d_114_30 : decode M_114.2.2.1 30 = .ok (.bipush (-3), 2) := by decide +kernel
theorem d_114_32 : decode M_114.2.2.1 32 = .ok (.ireturn, 1) := by decide +kernel
theorem d_114_33 : decode M_114.2.2.1 33 = .ok (.aload_n 0, 1) := by decide +kernel
theorem d_114_34 : decode M_114.2.2.1 34 = .ok (.getfield 59, 3) := by decide +kernel
theorem d_114_37 : decode M_114.2.2.1 37 = .ok (.invokevirtual 228, 3) := by decide +kernel
theorem d_114_40 : decode M_114.2.2.1 40 = .ok (.ifCond .ne 6, 3) := by decide +kernel
theorem d_114_43 : decode M_114.2.2.1 43 = .ok (.bipush (-4), 2) := by decide +kernel
theorem d_114_45 : decode M_114.2.2.1 45 = .ok (.ireturn, 1) := by decide +kernel
theorem d_114_46 : decode M_114.2.2.1 46 = .ok (.iload_n 2, 1) := by decide +kernel
theorem d_114_47 : decode M_114.2.2.1 47 = .ok (.ifCond .ne 14, 3) := by decide +kernel
theorem d_114_50 : decode M_114.2.2.1 50 = .ok (.aload_n 0, 1) := by decide +kernel
theorem d_114_51 : decode M_114.2.2.1 51 = .ok (.getfield 59, 3) := by decide +kernel
theorem d_114_54 : decode M_114.2.2.1 54 = .ok (.iload_n 1, 1) := by decide +kernel
theorem d_114_55 : decode M_114.2.2.1 55 = .ok (.invokevirtual 231, 3) := by decide +kernel
theorem d_114_58 : decode M_114.2.2.1 58 = .ok (.goto 15, 3) := by decide +kernel
theorem d_114_61 : decode M_114.2.2.1 61 = .ok (.aload_n 0, 1) := by decide +kernel
theorem d_114_62 : decode M_114.2.2.1 62 = .ok (.getfield 59, 3) := by decide +kernel
theorem d_114_65 : decode M_114.2.2.1 65 = .ok (.iload_n 1, 1) := by decide +kernel
theorem d_114_66 : decode M_114.2.2.1 66 = .ok (.iload_n 2, 1) := by decide +kernel
theorem d_114_67 : decode M_114.2.2.1 67 = .ok (.bipush 10, 2) := by decide +kernel
theorem d_114_69 : decode M_114.2.2.1 69 = .ok (.isub, 1) := by decide +kernel
theorem d_114_70 : decode M_114.2.2.1 70 = .ok (.invokevirtual 234, 3) := by decide +kernel
theorem d_114_73 : decode M_114.2.2.1 73 = .ok (.ireturn, 1) := by decide +kernel
/-- HeardBarrels.longest()I -/
def M_128 : am_MT := (1, ⟨"HeardBarrels", "longest", "()I"⟩, prog_1_method_33_code, 1, some .int, false, 0, (0, 0))
theorem hM_128 : am_ms[128]? = some M_128 := rfl
theorem d_128_0 : decode M_128.2.2.1 0 = .ok (.aload_n 0, 1) := by decide +kernel
theorem d_128_1 : decode M_128.2.2.1 1 = .ok (.getfield 59, 3) := by decide +kernel
theorem d_128_4 : decode M_128.2.2.1 4 = .ok (.invokevirtual 228, 3) := by decide +kernel
theorem d_128_7 : decode M_128.2.2.1 7 = .ok (.ifCond .eq 13, 3) := by decide +kernel
theorem d_128_10 : decode M_128.2.2.1 10 = .ok (.aload_n 0, 1) := by decide +kernel
theorem d_128_11 : decode M_128.2.2.1 11 = .ok (.getfield 59, 3) := by decide +kernel
theorem d_128_14 : decode M_128.2.2.1 14 = .ok (.invokevirtual 237, 3) := by decide +kernel
theorem d_128_17 : decode M_128.2.2.1 17 = .ok (.goto 5, 3) := by decide +kernel
theorem d_128_20 : decode M_128.2.2.1 20 = .ok (.bipush (-4), 2) := by decide +kernel
theorem d_128_22 : decode M_128.2.2.1 22 = .ok (.ireturn, 1) := by decide +kernel
/-- HeardBarrels.ripeIn(I)I -/
def M_131 : am_MT := (1, ⟨"HeardBarrels", "ripeIn", "(I)I"⟩, prog_1_method_34_code, 2, some .int, false, 1, (0, 0))
theorem hM_131 : am_ms[131]? = some M_131 := rfl
theorem d_131_0 : decode M_131.2.2.1 0 = .ok (.aload_n 0, 1) := by decide +kernel
theorem d_131_1 : decode M_131.2.2.1 1 = .ok (.getfield 16, 3) := by decide +kernel
theorem d_131_4 : decode M_131.2.2.1 4 = .ok (.iload_n 1, 1) := by decide +kernel
theorem d_131_5 : decode M_131.2.2.1 5 = .ok (.invokevirtual 101, 3) := by decide +kernel
theorem d_131_8 : decode M_131.2.2.1 8 = .ok (.ifCond .eq 14, 3) := by decide +kernel
theorem d_131_11 : decode M_131.2.2.1 11 = .ok (.aload_n 0, 1) := by decide +kernel
theorem d_131_12 : decode M_131.2.2.1 12 = .ok (.getfield 16, 3) := by decide +kernel
theorem d_131_15 : decode M_131.2.2.1 15 = .ok (.iload_n 1, 1) := by decide +kernel
theorem d_131_16 : decode M_131.2.2.1 16 = .ok (.invokevirtual 240, 3) := by decide +kernel
theorem d_131_19 : decode M_131.2.2.1 19 = .ok (.goto 5, 3) := by decide +kernel
theorem d_131_22 : decode M_131.2.2.1 22 = .ok (.bipush (-2), 2) := by decide +kernel
theorem d_131_24 : decode M_131.2.2.1 24 = .ok (.ireturn, 1) := by decide +kernel
/-- HeardBarrels.ripeBy(II)I -/
def M_133 : am_MT := (1, ⟨"HeardBarrels", "ripeBy", "(II)I"⟩, prog_1_method_35_code, 4, some .int, false, 2, (0, 0))
theorem hM_133 : am_ms[133]? = some M_133 := rfl
theorem d_133_0 : decode M_133.2.2.1 0 = .ok (.iload_n 2, 1) := by decide +kernel
theorem d_133_1 : decode M_133.2.2.1 1 = .ok (.ifCond .lt 8, 3) := by decide +kernel
theorem d_133_4 : decode M_133.2.2.1 4 = .ok (.iload_n 2, 1) := by decide +kernel
theorem d_133_5 : decode M_133.2.2.1 5 = .ok (.iconst 2, 1) := by decide +kernel
theorem d_133_6 : decode M_133.2.2.1 6 = .ok (.if_icmp .le 6, 3) := by decide +kernel
theorem d_133_9 : decode M_133.2.2.1 9 = .ok (.bipush (-2), 2) := by decide +kernel
theorem d_133_11 : decode M_133.2.2.1 11 = .ok (.ireturn, 1) := by decide +kernel
theorem d_133_12 : decode M_133.2.2.1 12 = .ok (.iload_n 1, 1) := by decide +kernel
theorem d_133_13 : decode M_133.2.2.1 13 = .ok (.iconst 1, 1) := by decide +kernel
theorem d_133_14 : decode M_133.2.2.1 14 = .ok (.if_icmp .lt 9, 3) := by decide +kernel
theorem d_133_17 : decode M_133.2.2.1 17 = .ok (.iload_n 1, 1) := by decide +kernel
theorem d_133_18 : decode M_133.2.2.1 18 = .ok (.bipush 60, 2) := by decide +kernel
theorem d_133_20 : decode M_133.2.2.1 20 = .ok (.if_icmp .le 6, 3) := by decide +kernel
theorem d_133_23 : decode M_133.2.2.1 23 = .ok (.bipush (-3), 2) := by decide +kernel
theorem d_133_25 : decode M_133.2.2.1 25 = .ok (.ireturn, 1) := by decide +kernel
theorem d_133_26 : decode M_133.2.2.1 26 = .ok (.aload_n 0, 1) := by decide +kernel
theorem d_133_27 : decode M_133.2.2.1 27 = .ok (.getfield 66, 3) := by decide +kernel
theorem d_133_30 : decode M_133.2.2.1 30 = .ok (.iload_n 1, 1) := by decide +kernel
theorem d_133_31 : decode M_133.2.2.1 31 = .ok (.invokevirtual 243, 3) := by decide +kernel
theorem d_133_34 : decode M_133.2.2.1 34 = .ok (.istore_n 3, 1) := by decide +kernel
theorem d_133_35 : decode M_133.2.2.1 35 = .ok (.iload_n 2, 1) := by decide +kernel
theorem d_133_36 : decode M_133.2.2.1 36 = .ok (.lookupswitch 41 #[(0, 28), (1, 33)], 28) := by decide +kernel
theorem d_133_64 : decode M_133.2.2.1 64 = .ok (.iload_n 3, 1) := by decide +kernel
theorem d_133_65 : decode M_133.2.2.1 65 = .ok (.invokestatic 246, 3) := by decide +kernel
theorem d_133_68 : decode M_133.2.2.1 68 = .ok (.ireturn, 1) := by decide +kernel
theorem d_133_69 : decode M_133.2.2.1 69 = .ok (.aload_n 0, 1) := by decide +kernel
theorem d_133_70 : decode M_133.2.2.1 70 = .ok (.getfield 66, 3) := by decide +kernel
theorem d_133_73 : decode M_133.2.2.1 73 = .ok (.getfield 250, 3) := by decide +kernel
theorem d_133_76 : decode M_133.2.2.1 76 = .ok (.ireturn, 1) := by decide +kernel
theorem d_133_77 : decode M_133.2.2.1 77 = .ok (.iload_n 3, 1) := by decide +kernel
theorem d_133_78 : decode M_133.2.2.1 78 = .ok (.ireturn, 1) := by decide +kernel
/-- HeardBarrels.orders(II)I -/
def M_136 : am_MT := (1, ⟨"HeardBarrels", "orders", "(II)I"⟩, prog_1_method_36_code, 5, some .int, false, 2, (0, 0))
theorem hM_136 : am_ms[136]? = some M_136 := rfl
theorem d_136_0 : decode M_136.2.2.1 0 = .ok (.iload_n 1, 1) := by decide +kernel
theorem d_136_1 : decode M_136.2.2.1 1 = .ok (.invokestatic 133, 3) := by decide +kernel
theorem d_136_4 : decode M_136.2.2.1 4 = .ok (.ifCond .eq 19, 3) := by decide +kernel
theorem d_136_7 : decode M_136.2.2.1 7 = .ok (.iload_n 2, 1) := by decide +kernel
theorem d_136_8 : decode M_136.2.2.1 8 = .ok (.ifCond .eq 18, 3) := by decide +kernel
theorem d_136_11 : decode M_136.2.2.1 11 = .ok (.iload_n 2, 1) := by decide +kernel
theorem d_136_12 : decode M_136.2.2.1 12 = .ok (.bipush 10, 2) := by decide +kernel
theorem d_136_14 : decode M_136.2.2.1 14 = .ok (.if_icmp .lt 9, 3) := by decide +kernel
theorem d_136_17 : decode M_136.2.2.1 17 = .ok (.iload_n 2, 1) := by decide +kernel
theorem d_136_18 : decode M_136.2.2.1 18 = .ok (.bipush 19, 2) := by decide +kernel
theorem d_136_20 : decode M_136.2.2.1 20 = .ok (.if_icmp .le 6, 3) := by decide +kernel
theorem d_136_23 : decode M_136.2.2.1 23 = .ok (.bipush (-2), 2) := by decide +kernel
theorem d_136_25 : decode M_136.2.2.1 25 = .ok (.ireturn, 1) := by decide +kernel
theorem d_136_26 : decode M_136.2.2.1 26 = .ok (.aload_n 0, 1) := by decide +kernel
theorem d_136_27 : decode M_136.2.2.1 27 = .ok (.getfield 33, 3) := by decide +kernel
theorem d_136_30 : decode M_136.2.2.1 30 = .ok (.iload_n 1, 1) := by decide +kernel
theorem d_136_31 : decode M_136.2.2.1 31 = .ok (.aaload, 1) := by decide +kernel
theorem d_136_32 : decode M_136.2.2.1 32 = .ok (.astore_n 3, 1) := by decide +kernel
theorem d_136_33 : decode M_136.2.2.1 33 = .ok (.aload_n 3, 1) := by decide +kernel
theorem d_136_34 : decode M_136.2.2.1 34 = .ok (.invokevirtual 136, 3) := by decide +kernel
theorem d_136_37 : decode M_136.2.2.1 37 = .ok (.ifCond .eq 6, 3) := by decide +kernel
theorem d_136_40 : decode M_136.2.2.1 40 = .ok (.bipush (-6), 2) := by decide +kernel
theorem d_136_42 : decode M_136.2.2.1 42 = .ok (.ireturn, 1) := by decide +kernel
theorem d_136_43 : decode M_136.2.2.1 43 = .ok (.aload_n 3, 1) := by decide +kernel
theorem d_136_44 : decode M_136.2.2.1 44 = .ok (.getfield 144, 3) := by decide +kernel
theorem d_136_47 : decode M_136.2.2.1 47 = .ok (.bipush 10, 2) := by decide +kernel
theorem d_136_49 : decode M_136.2.2.1 49 = .ok (.if_icmp .le 6, 3) := by decide +kernel
theorem d_136_52 : decode M_136.2.2.1 52 = .ok (.bipush (-4), 2) := by decide +kernel
theorem d_136_54 : decode M_136.2.2.1 54 = .ok (.ireturn, 1) := by decide +kernel
theorem d_136_55 : decode M_136.2.2.1 55 = .ok (.iconst 0, 1) := by decide +kernel
theorem d_136_56 : decode M_136.2.2.1 56 = .ok (.istore 4, 2) := by decide +kernel
theorem d_136_58 : decode M_136.2.2.1 58 = .ok (.iload 4, 2) := by decide +kernel
theorem d_136_60 : decode M_136.2.2.1 60 = .ok (.aload_n 3, 1) := by decide +kernel
theorem d_136_61 : decode M_136.2.2.1 61 = .ok (.getfield 144, 3) := by decide +kernel
theorem d_136_64 : decode M_136.2.2.1 64 = .ok (.if_icmp .ge 23, 3) := by decide +kernel
theorem d_136_67 : decode M_136.2.2.1 67 = .ok (.aload_n 3, 1) := by decide +kernel
theorem d_136_68 : decode M_136.2.2.1 68 = .ok (.iload 4, 2) := by decide +kernel
theorem d_136_70 : decode M_136.2.2.1 70 = .ok (.invokevirtual 147, 3) := by decide +kernel
theorem d_136_73 : decode M_136.2.2.1 73 = .ok (.lconst 0, 1) := by decide +kernel
theorem d_136_74 : decode M_136.2.2.1 74 = .ok (.lcmp, 1) := by decide +kernel
theorem d_136_75 : decode M_136.2.2.1 75 = .ok (.ifCond .ge 6, 3) := by decide +kernel
theorem d_136_78 : decode M_136.2.2.1 78 = .ok (.bipush (-3), 2) := by decide +kernel
theorem d_136_80 : decode M_136.2.2.1 80 = .ok (.ireturn, 1) := by decide +kernel
theorem d_136_81 : decode M_136.2.2.1 81 = .ok (.iinc 4 1, 3) := by decide +kernel
theorem d_136_84 : decode M_136.2.2.1 84 = .ok (.goto (-26), 3) := by decide +kernel
theorem d_136_87 : decode M_136.2.2.1 87 = .ok (.iload_n 2, 1) := by decide +kernel
theorem d_136_88 : decode M_136.2.2.1 88 = .ok (.ifCond .ne 14, 3) := by decide +kernel
theorem d_136_91 : decode M_136.2.2.1 91 = .ok (.aload_n 0, 1) := by decide +kernel
theorem d_136_92 : decode M_136.2.2.1 92 = .ok (.getfield 66, 3) := by decide +kernel
theorem d_136_95 : decode M_136.2.2.1 95 = .ok (.aload_n 3, 1) := by decide +kernel
theorem d_136_96 : decode M_136.2.2.1 96 = .ok (.invokevirtual 253, 3) := by decide +kernel
theorem d_136_99 : decode M_136.2.2.1 99 = .ok (.goto 15, 3) := by decide +kernel
theorem d_136_102 : decode M_136.2.2.1 102 = .ok (.aload_n 0, 1) := by decide +kernel
theorem d_136_103 : decode M_136.2.2.1 103 = .ok (.getfield 66, 3) := by decide +kernel
theorem d_136_106 : decode M_136.2.2.1 106 = .ok (.aload_n 3, 1) := by decide +kernel
theorem d_136_107 : decode M_136.2.2.1 107 = .ok (.iload_n 2, 1) := by decide +kernel
theorem d_136_108 : decode M_136.2.2.1 108 = .ok (.bipush 10, 2) := by decide +kernel
theorem d_136_110 : decode M_136.2.2.1 110 = .ok (.isub, 1) := by decide +kernel
theorem d_136_111 : decode M_136.2.2.1 111 = .ok (.invokevirtual 256, 3) := by decide +kernel
theorem d_136_114 : decode M_136.2.2.1 114 = .ok (.ireturn, 1) := by decide +kernel
/-- HeardBarrels.apart(I)I -/
def M_144 : am_MT := (1, ⟨"HeardBarrels", "apart", "(I)I"⟩, prog_1_method_37_code, 2, some .int, false, 1, (0, 0))
theorem hM_144 : am_ms[144]? = some M_144 := rfl
theorem d_144_0 : decode M_144.2.2.1 0 = .ok (.iload_n 1, 1) := by decide +kernel
theorem d_144_1 : decode M_144.2.2.1 1 = .ok (.ifCond .eq 26, 3) := by decide +kernel
theorem d_144_4 : decode M_144.2.2.1 4 = .ok (.iload_n 1, 1) := by decide +kernel
theorem d_144_5 : decode M_144.2.2.1 5 = .ok (.bipush 10, 2) := by decide +kernel
theorem d_144_7 : decode M_144.2.2.1 7 = .ok (.if_icmp .lt 17, 3) := by decide +kernel
theorem d_144_10 : decode M_144.2.2.1 10 = .ok (.iload_n 1, 1) := by decide +kernel
theorem d_144_11 : decode M_144.2.2.1 11 = .ok (.bipush 10, 2) := by decide +kernel
theorem d_144_13 : decode M_144.2.2.1 13 = .ok (.aload_n 0, 1) := by decide +kernel
theorem d_144_14 : decode M_144.2.2.1 14 = .ok (.getfield 16, 3) := by decide +kernel
theorem d_144_17 : decode M_144.2.2.1 17 = .ok (.getfield 172, 3) := by decide +kernel
theorem d_144_20 : decode M_144.2.2.1 20 = .ok (.iadd, 1) := by decide +kernel
theorem d_144_21 : decode M_144.2.2.1 21 = .ok (.if_icmp .lt 6, 3) := by decide +kernel
theorem d_144_24 : decode M_144.2.2.1 24 = .ok (.bipush (-2), 2) := by decide +kernel
theorem d_144_26 : decode M_144.2.2.1 26 = .ok (.ireturn, 1) := by decide +kernel
theorem d_144_27 : decode M_144.2.2.1 27 = .ok (.aload_n 0, 1) := by decide +kernel
theorem d_144_28 : decode M_144.2.2.1 28 = .ok (.getfield 73, 3) := by decide +kernel
theorem d_144_31 : decode M_144.2.2.1 31 = .ok (.invokevirtual 259, 3) := by decide +kernel
theorem d_144_34 : decode M_144.2.2.1 34 = .ok (.ifCond .ne 6, 3) := by decide +kernel
theorem d_144_37 : decode M_144.2.2.1 37 = .ok (.bipush (-4), 2) := by decide +kernel
theorem d_144_39 : decode M_144.2.2.1 39 = .ok (.ireturn, 1) := by decide +kernel
theorem d_144_40 : decode M_144.2.2.1 40 = .ok (.iload_n 1, 1) := by decide +kernel
theorem d_144_41 : decode M_144.2.2.1 41 = .ok (.ifCond .ne 13, 3) := by decide +kernel
theorem d_144_44 : decode M_144.2.2.1 44 = .ok (.aload_n 0, 1) := by decide +kernel
theorem d_144_45 : decode M_144.2.2.1 45 = .ok (.getfield 73, 3) := by decide +kernel
theorem d_144_48 : decode M_144.2.2.1 48 = .ok (.invokevirtual 260, 3) := by decide +kernel
theorem d_144_51 : decode M_144.2.2.1 51 = .ok (.goto 14, 3) := by decide +kernel
theorem d_144_54 : decode M_144.2.2.1 54 = .ok (.aload_n 0, 1) := by decide +kernel
theorem d_144_55 : decode M_144.2.2.1 55 = .ok (.getfield 73, 3) := by decide +kernel
theorem d_144_58 : decode M_144.2.2.1 58 = .ok (.iload_n 1, 1) := by decide +kernel
theorem d_144_59 : decode M_144.2.2.1 59 = .ok (.bipush 10, 2) := by decide +kernel
theorem d_144_61 : decode M_144.2.2.1 61 = .ok (.isub, 1) := by decide +kernel
theorem d_144_62 : decode M_144.2.2.1 62 = .ok (.invokevirtual 263, 3) := by decide +kernel
theorem d_144_65 : decode M_144.2.2.1 65 = .ok (.ireturn, 1) := by decide +kernel
/-- HeardBarrels.numbers(III)I -/
def M_153 : am_MT := (1, ⟨"HeardBarrels", "numbers", "(III)I"⟩, prog_1_method_38_code, 4, some .int, false, 3, (0, 0))
theorem hM_153 : am_ms[153]? = some M_153 := rfl
theorem d_153_0 : decode M_153.2.2.1 0 = .ok (.iload_n 1, 1) := by decide +kernel
theorem d_153_1 : decode M_153.2.2.1 1 = .ok (.invokestatic 133, 3) := by decide +kernel
theorem d_153_4 : decode M_153.2.2.1 4 = .ok (.ifCond .eq 12, 3) := by decide +kernel
theorem d_153_7 : decode M_153.2.2.1 7 = .ok (.iload_n 2, 1) := by decide +kernel
theorem d_153_8 : decode M_153.2.2.1 8 = .ok (.ifCond .lt 8, 3) := by decide +kernel
theorem d_153_11 : decode M_153.2.2.1 11 = .ok (.iload_n 2, 1) := by decide +kernel
theorem d_153_12 : decode M_153.2.2.1 12 = .ok (.iconst 3, 1) := by decide +kernel
theorem d_153_13 : decode M_153.2.2.1 13 = .ok (.if_icmp .le 6, 3) := by decide +kernel
theorem d_153_16 : decode M_153.2.2.1 16 = .ok (.bipush (-2), 2) := by decide +kernel
theorem d_153_18 : decode M_153.2.2.1 18 = .ok (.ireturn, 1) := by decide +kernel
theorem d_153_19 : decode M_153.2.2.1 19 = .ok (.iload_n 3, 1) := by decide +kernel
theorem d_153_20 : decode M_153.2.2.1 20 = .ok (.ifCond .lt 9, 3) := by decide +kernel
theorem d_153_23 : decode M_153.2.2.1 23 = .ok (.iload_n 3, 1) := by decide +kernel
theorem d_153_24 : decode M_153.2.2.1 24 = .ok (.bipush 40, 2) := by decide +kernel
theorem d_153_26 : decode M_153.2.2.1 26 = .ok (.if_icmp .le 6, 3) := by decide +kernel
theorem d_153_29 : decode M_153.2.2.1 29 = .ok (.bipush (-3), 2) := by decide +kernel
theorem d_153_31 : decode M_153.2.2.1 31 = .ok (.ireturn, 1) := by decide +kernel
theorem d_153_32 : decode M_153.2.2.1 32 = .ok (.aload_n 0, 1) := by decide +kernel
theorem d_153_33 : decode M_153.2.2.1 33 = .ok (.getfield 33, 3) := by decide +kernel
theorem d_153_36 : decode M_153.2.2.1 36 = .ok (.iload_n 1, 1) := by decide +kernel
theorem d_153_37 : decode M_153.2.2.1 37 = .ok (.aaload, 1) := by decide +kernel
theorem d_153_38 : decode M_153.2.2.1 38 = .ok (.iload_n 2, 1) := by decide +kernel
theorem d_153_39 : decode M_153.2.2.1 39 = .ok (.iload_n 3, 1) := by decide +kernel
theorem d_153_40 : decode M_153.2.2.1 40 = .ok (.invokevirtual 266, 3) := by decide +kernel
theorem d_153_43 : decode M_153.2.2.1 43 = .ok (.iconst 0, 1) := by decide +kernel
theorem d_153_44 : decode M_153.2.2.1 44 = .ok (.ireturn, 1) := by decide +kernel
/-- HeardBarrels.write(IIJ)J -/
def M_156 : am_MT := (1, ⟨"HeardBarrels", "write", "(IIJ)J"⟩, prog_1_method_39_code, 6, some .long, false, 3, (0, 0))
theorem hM_156 : am_ms[156]? = some M_156 := rfl
theorem d_156_0 : decode M_156.2.2.1 0 = .ok (.aload_n 0, 1) := by decide +kernel
theorem d_156_1 : decode M_156.2.2.1 1 = .ok (.iload_n 1, 1) := by decide +kernel
theorem d_156_2 : decode M_156.2.2.1 2 = .ok (.invokevirtual 158, 3) := by decide +kernel
theorem d_156_5 : decode M_156.2.2.1 5 = .ok (.istore 5, 2) := by decide +kernel
theorem d_156_7 : decode M_156.2.2.1 7 = .ok (.iload 5, 2) := by decide +kernel
theorem d_156_9 : decode M_156.2.2.1 9 = .ok (.ifCond .eq 7, 3) := by decide +kernel
theorem d_156_12 : decode M_156.2.2.1 12 = .ok (.iload 5, 2) := by decide +kernel
theorem d_156_14 : decode M_156.2.2.1 14 = .ok (.i2l, 1) := by decide +kernel
theorem d_156_15 : decode M_156.2.2.1 15 = .ok (.lreturn, 1) := by decide +kernel
theorem d_156_16 : decode M_156.2.2.1 16 = .ok (.iload_n 2, 1) := by decide +kernel
theorem d_156_17 : decode M_156.2.2.1 17 = .ok (.ifCond .lt 16, 3) := by decide +kernel
theorem d_156_20 : decode M_156.2.2.1 20 = .ok (.iload_n 2, 1) := by decide +kernel
theorem d_156_21 : decode M_156.2.2.1 21 = .ok (.aload_n 0, 1) := by decide +kernel
theorem d_156_22 : decode M_156.2.2.1 22 = .ok (.getfield 33, 3) := by decide +kernel
theorem d_156_25 : decode M_156.2.2.1 25 = .ok (.iload_n 1, 1) := by decide +kernel
theorem d_156_26 : decode M_156.2.2.1 26 = .ok (.aaload, 1) := by decide +kernel
theorem d_156_27 : decode M_156.2.2.1 27 = .ok (.getfield 144, 3) := by decide +kernel
theorem d_156_30 : decode M_156.2.2.1 30 = .ok (.if_icmp .lt 7, 3) := by decide +kernel
theorem d_156_33 : decode M_156.2.2.1 33 = .ok (.ldc2_w 269, 3) := by decide +kernel
theorem d_156_36 : decode M_156.2.2.1 36 = .ok (.lreturn, 1) := by decide +kernel
theorem d_156_37 : decode M_156.2.2.1 37 = .ok (.aload_n 0, 1) := by decide +kernel
theorem d_156_38 : decode M_156.2.2.1 38 = .ok (.getfield 33, 3) := by decide +kernel
theorem d_156_41 : decode M_156.2.2.1 41 = .ok (.iload_n 1, 1) := by decide +kernel
theorem d_156_42 : decode M_156.2.2.1 42 = .ok (.aaload, 1) := by decide +kernel
theorem d_156_43 : decode M_156.2.2.1 43 = .ok (.iload_n 2, 1) := by decide +kernel
theorem d_156_44 : decode M_156.2.2.1 44 = .ok (.lload_n 3, 1) := by decide +kernel
theorem d_156_45 : decode M_156.2.2.1 45 = .ok (.invokevirtual 271, 3) := by decide +kernel
theorem d_156_48 : decode M_156.2.2.1 48 = .ok (.aload_n 0, 1) := by decide +kernel
theorem d_156_49 : decode M_156.2.2.1 49 = .ok (.getfield 33, 3) := by decide +kernel
theorem d_156_52 : decode M_156.2.2.1 52 = .ok (.iload_n 1, 1) := by decide +kernel
theorem d_156_53 : decode M_156.2.2.1 53 = .ok (.aaload, 1) := by decide +kernel
theorem d_156_54 : decode M_156.2.2.1 54 = .ok (.iload_n 2, 1) := by decide +kernel
theorem d_156_55 : decode M_156.2.2.1 55 = .ok (.invokevirtual 147, 3) := by decide +kernel
theorem d_156_58 : decode M_156.2.2.1 58 = .ok (.lreturn, 1) := by decide +kernel
/-- HeardBarrels.copy(II)I -/
def M_158 : am_MT := (1, ⟨"HeardBarrels", "copy", "(II)I"⟩, prog_1_method_40_code, 8, some .int, false, 2, (0, 0))
theorem hM_158 : am_ms[158]? = some M_158 := rfl
theorem d_158_0 : decode M_158.2.2.1 0 = .ok (.aload_n 0, 1) := by decide +kernel
theorem d_158_1 : decode M_158.2.2.1 1 = .ok (.iload_n 2, 1) := by decide +kernel
theorem d_158_2 : decode M_158.2.2.1 2 = .ok (.invokevirtual 158, 3) := by decide +kernel
theorem d_158_5 : decode M_158.2.2.1 5 = .ok (.istore_n 3, 1) := by decide +kernel
theorem d_158_6 : decode M_158.2.2.1 6 = .ok (.iload_n 3, 1) := by decide +kernel
theorem d_158_7 : decode M_158.2.2.1 7 = .ok (.ifCond .eq 5, 3) := by decide +kernel
theorem d_158_10 : decode M_158.2.2.1 10 = .ok (.iload_n 3, 1) := by decide +kernel
theorem d_158_11 : decode M_158.2.2.1 11 = .ok (.ireturn, 1) := by decide +kernel
theorem d_158_12 : decode M_158.2.2.1 12 = .ok (.aload_n 0, 1) := by decide +kernel
theorem d_158_13 : decode M_158.2.2.1 13 = .ok (.getfield 33, 3) := by decide +kernel
theorem d_158_16 : decode M_158.2.2.1 16 = .ok (.iload_n 2, 1) := by decide +kernel
theorem d_158_17 : decode M_158.2.2.1 17 = .ok (.aaload, 1) := by decide +kernel
theorem d_158_18 : decode M_158.2.2.1 18 = .ok (.astore 4, 2) := by decide +kernel
theorem d_158_20 : decode M_158.2.2.1 20 = .ok (.aload 4, 2) := by decide +kernel
theorem d_158_22 : decode M_158.2.2.1 22 = .ok (.getfield 144, 3) := by decide +kernel
theorem d_158_25 : decode M_158.2.2.1 25 = .ok (.aload_n 0, 1) := by decide +kernel
theorem d_158_26 : decode M_158.2.2.1 26 = .ok (.getfield 16, 3) := by decide +kernel
theorem d_158_29 : decode M_158.2.2.1 29 = .ok (.getfield 172, 3) := by decide +kernel
theorem d_158_32 : decode M_158.2.2.1 32 = .ok (.if_icmp .ge 6, 3) := by decide +kernel
theorem d_158_35 : decode M_158.2.2.1 35 = .ok (.bipush (-7), 2) := by decide +kernel
theorem d_158_37 : decode M_158.2.2.1 37 = .ok (.ireturn, 1) := by decide +kernel
theorem d_158_38 : decode M_158.2.2.1 38 = .ok (.aload_n 0, 1) := by decide +kernel
theorem d_158_39 : decode M_158.2.2.1 39 = .ok (.getfield 16, 3) := by decide +kernel
theorem d_158_42 : decode M_158.2.2.1 42 = .ok (.iload_n 1, 1) := by decide +kernel
theorem d_158_43 : decode M_158.2.2.1 43 = .ok (.invokevirtual 176, 3) := by decide +kernel
theorem d_158_46 : decode M_158.2.2.1 46 = .ok (.ifCond .ne 6, 3) := by decide +kernel
theorem d_158_49 : decode M_158.2.2.1 49 = .ok (.bipush (-3), 2) := by decide +kernel
theorem d_158_51 : decode M_158.2.2.1 51 = .ok (.ireturn, 1) := by decide +kernel
theorem d_158_52 : decode M_158.2.2.1 52 = .ok (.aload_n 0, 1) := by decide +kernel
theorem d_158_53 : decode M_158.2.2.1 53 = .ok (.getfield 16, 3) := by decide +kernel
theorem d_158_56 : decode M_158.2.2.1 56 = .ok (.iconst 1, 1) := by decide +kernel
theorem d_158_57 : decode M_158.2.2.1 57 = .ok (.invokevirtual 151, 3) := by decide +kernel
theorem d_158_60 : decode M_158.2.2.1 60 = .ok (.istore 5, 2) := by decide +kernel
theorem d_158_62 : decode M_158.2.2.1 62 = .ok (.iload_n 1, 1) := by decide +kernel
theorem d_158_63 : decode M_158.2.2.1 63 = .ok (.aload_n 0, 1) := by decide +kernel
theorem d_158_64 : decode M_158.2.2.1 64 = .ok (.getfield 16, 3) := by decide +kernel
theorem d_158_67 : decode M_158.2.2.1 67 = .ok (.invokevirtual 275, 3) := by decide +kernel
theorem d_158_70 : decode M_158.2.2.1 70 = .ok (.iand, 1) := by decide +kernel
theorem d_158_71 : decode M_158.2.2.1 71 = .ok (.istore 6, 2) := by decide +kernel
theorem d_158_73 : decode M_158.2.2.1 73 = .ok (.iconst 0, 1) := by decide +kernel
theorem d_158_74 : decode M_158.2.2.1 74 = .ok (.istore 7, 2) := by decide +kernel
theorem d_158_76 : decode M_158.2.2.1 76 = .ok (.iload 7, 2) := by decide +kernel
theorem d_158_78 : decode M_158.2.2.1 78 = .ok (.aload_n 0, 1) := by decide +kernel
theorem d_158_79 : decode M_158.2.2.1 79 = .ok (.getfield 16, 3) := by decide +kernel
theorem d_158_82 : decode M_158.2.2.1 82 = .ok (.getfield 172, 3) := by decide +kernel
theorem d_158_85 : decode M_158.2.2.1 85 = .ok (.if_icmp .ge 44, 3) := by decide +kernel
theorem d_158_88 : decode M_158.2.2.1 88 = .ok (.aload 4, 2) := by decide +kernel
theorem d_158_90 : decode M_158.2.2.1 90 = .ok (.iload 7, 2) := by decide +kernel
theorem d_158_92 : decode M_158.2.2.1 92 = .ok (.iload 6, 2) := by decide +kernel
theorem d_158_94 : decode M_158.2.2.1 94 = .ok (.iload 7, 2) := by decide +kernel
theorem d_158_96 : decode M_158.2.2.1 96 = .ok (.ishr, 1) := by decide +kernel
theorem d_158_97 : decode M_158.2.2.1 97 = .ok (.iconst 1, 1) := by decide +kernel
theorem d_158_98 : decode M_158.2.2.1 98 = .ok (.iand, 1) := by decide +kernel
theorem d_158_99 : decode M_158.2.2.1 99 = .ok (.ifCond .eq 18, 3) := by decide +kernel
theorem d_158_102 : decode M_158.2.2.1 102 = .ok (.aload_n 0, 1) := by decide +kernel
theorem d_158_103 : decode M_158.2.2.1 103 = .ok (.getfield 16, 3) := by decide +kernel
theorem d_158_106 : decode M_158.2.2.1 106 = .ok (.iload 7, 2) := by decide +kernel
theorem d_158_108 : decode M_158.2.2.1 108 = .ok (.iload 5, 2) := by decide +kernel
theorem d_158_110 : decode M_158.2.2.1 110 = .ok (.invokevirtual 188, 3) := by decide +kernel
theorem d_158_113 : decode M_158.2.2.1 113 = .ok (.i2l, 1) := by decide +kernel
theorem d_158_114 : decode M_158.2.2.1 114 = .ok (.goto 6, 3) := by decide +kernel
theorem d_158_117 : decode M_158.2.2.1 117 = .ok (.ldc2_w 278, 3) := by decide +kernel
theorem d_158_120 : decode M_158.2.2.1 120 = .ok (.invokevirtual 271, 3) := by decide +kernel
theorem d_158_123 : decode M_158.2.2.1 123 = .ok (.iinc 7 1, 3) := by decide +kernel
theorem d_158_126 : decode M_158.2.2.1 126 = .ok (.goto (-50), 3) := by decide +kernel
theorem d_158_129 : decode M_158.2.2.1 129 = .ok (.aload_n 0, 1) := by decide +kernel
theorem d_158_130 : decode M_158.2.2.1 130 = .ok (.getfield 16, 3) := by decide +kernel
theorem d_158_133 : decode M_158.2.2.1 133 = .ok (.getfield 172, 3) := by decide +kernel
theorem d_158_136 : decode M_158.2.2.1 136 = .ok (.ireturn, 1) := by decide +kernel
/-- HeardBarrels.image(I)I -/
def M_159 : am_MT := (1, ⟨"HeardBarrels", "image", "(I)I"⟩, prog_1_method_41_code, 2, some .int, false, 1, (0, 0))
theorem hM_159 : am_ms[159]? = some M_159 := rfl
theorem d_159_0 : decode M_159.2.2.1 0 = .ok (.iload_n 1, 1) := by decide +kernel
theorem d_159_1 : decode M_159.2.2.1 1 = .ok (.ifCond .lt 8, 3) := by decide +kernel
theorem d_159_4 : decode M_159.2.2.1 4 = .ok (.iload_n 1, 1) := by decide +kernel
theorem d_159_5 : decode M_159.2.2.1 5 = .ok (.iconst 2, 1) := by decide +kernel
theorem d_159_6 : decode M_159.2.2.1 6 = .ok (.if_icmp .lt 6, 3) := by decide +kernel
theorem d_159_9 : decode M_159.2.2.1 9 = .ok (.bipush (-2), 2) := by decide +kernel
theorem d_159_11 : decode M_159.2.2.1 11 = .ok (.ireturn, 1) := by decide +kernel
theorem d_159_12 : decode M_159.2.2.1 12 = .ok (.aload_n 0, 1) := by decide +kernel
theorem d_159_13 : decode M_159.2.2.1 13 = .ok (.getfield 23, 3) := by decide +kernel
theorem d_159_16 : decode M_159.2.2.1 16 = .ok (.iload_n 1, 1) := by decide +kernel
theorem d_159_17 : decode M_159.2.2.1 17 = .ok (.aaload, 1) := by decide +kernel
theorem d_159_18 : decode M_159.2.2.1 18 = .ok (.aload_n 0, 1) := by decide +kernel
theorem d_159_19 : decode M_159.2.2.1 19 = .ok (.getfield 16, 3) := by decide +kernel
theorem d_159_22 : decode M_159.2.2.1 22 = .ok (.invokevirtual 92, 3) := by decide +kernel
theorem d_159_25 : decode M_159.2.2.1 25 = .ok (.aload_n 0, 1) := by decide +kernel
theorem d_159_26 : decode M_159.2.2.1 26 = .ok (.getfield 27, 3) := by decide +kernel
theorem d_159_29 : decode M_159.2.2.1 29 = .ok (.iload_n 1, 1) := by decide +kernel
theorem d_159_30 : decode M_159.2.2.1 30 = .ok (.iconst 1, 1) := by decide +kernel
theorem d_159_31 : decode M_159.2.2.1 31 = .ok (.bastore, 1) := by decide +kernel
theorem d_159_32 : decode M_159.2.2.1 32 = .ok (.iconst 0, 1) := by decide +kernel
theorem d_159_33 : decode M_159.2.2.1 33 = .ok (.ireturn, 1) := by decide +kernel
/-- HeardBarrels.restore(I)I -/
def M_160 : am_MT := (1, ⟨"HeardBarrels", "restore", "(I)I"⟩, prog_1_method_42_code, 2, some .int, false, 1, (0, 0))
theorem hM_160 : am_ms[160]? = some M_160 := rfl
theorem d_160_0 : decode M_160.2.2.1 0 = .ok (.iload_n 1, 1) := by decide +kernel
theorem d_160_1 : decode M_160.2.2.1 1 = .ok (.ifCond .lt 8, 3) := by decide +kernel
theorem d_160_4 : decode M_160.2.2.1 4 = .ok (.iload_n 1, 1) := by decide +kernel
theorem d_160_5 : decode M_160.2.2.1 5 = .ok (.iconst 2, 1) := by decide +kernel
theorem d_160_6 : decode M_160.2.2.1 6 = .ok (.if_icmp .lt 6, 3) := by decide +kernel
theorem d_160_9 : decode M_160.2.2.1 9 = .ok (.bipush (-2), 2) := by decide +kernel
theorem d_160_11 : decode M_160.2.2.1 11 = .ok (.ireturn, 1) := by decide +kernel
theorem d_160_12 : decode M_160.2.2.1 12 = .ok (.aload_n 0, 1) := by decide +kernel
theorem d_160_13 : decode M_160.2.2.1 13 = .ok (.getfield 27, 3) := by decide +kernel
theorem d_160_16 : decode M_160.2.2.1 16 = .ok (.iload_n 1, 1) := by decide +kernel
theorem d_160_17 : decode M_160.2.2.1 17 = .ok (.baload, 1) := by decide +kernel
theorem d_160_18 : decode M_160.2.2.1 18 = .ok (.ifCond .ne 6, 3) := by decide +kernel
theorem d_160_21 : decode M_160.2.2.1 21 = .ok (.bipush (-5), 2) := by decide +kernel
theorem d_160_23 : decode M_160.2.2.1 23 = .ok (.ireturn, 1) := by decide +kernel
theorem d_160_24 : decode M_160.2.2.1 24 = .ok (.aload_n 0, 1) := by decide +kernel
theorem d_160_25 : decode M_160.2.2.1 25 = .ok (.getfield 16, 3) := by decide +kernel
theorem d_160_28 : decode M_160.2.2.1 28 = .ok (.aload_n 0, 1) := by decide +kernel
theorem d_160_29 : decode M_160.2.2.1 29 = .ok (.getfield 23, 3) := by decide +kernel
theorem d_160_32 : decode M_160.2.2.1 32 = .ok (.iload_n 1, 1) := by decide +kernel
theorem d_160_33 : decode M_160.2.2.1 33 = .ok (.aaload, 1) := by decide +kernel
theorem d_160_34 : decode M_160.2.2.1 34 = .ok (.invokevirtual 92, 3) := by decide +kernel
theorem d_160_37 : decode M_160.2.2.1 37 = .ok (.iconst 0, 1) := by decide +kernel
theorem d_160_38 : decode M_160.2.2.1 38 = .ok (.ireturn, 1) := by decide +kernel
/-- HeardBarrels.count(I)I -/
def M_161 : am_MT := (1, ⟨"HeardBarrels", "count", "(I)I"⟩, prog_1_method_43_code, 2, some .int, false, 1, (0, 0))
theorem hM_161 : am_ms[161]? = some M_161 := rfl
theorem d_161_0 : decode M_161.2.2.1 0 = .ok (.iload_n 1, 1) := by decide +kernel
theorem d_161_1 : decode M_161.2.2.1 1 = .ok (.tableswitch 176 0 12 #[67, 75, 86, 98, 107, 115, 123, 131, 139, 144, 152, 160, 168], 67) := by decide +kernel
theorem d_161_68 : decode M_161.2.2.1 68 = .ok (.aload_n 0, 1) := by decide +kernel
theorem d_161_69 : decode M_161.2.2.1 69 = .ok (.getfield 16, 3) := by decide +kernel
theorem d_161_72 : decode M_161.2.2.1 72 = .ok (.getfield 172, 3) := by decide +kernel
theorem d_161_75 : decode M_161.2.2.1 75 = .ok (.ireturn, 1) := by decide +kernel
theorem d_161_76 : decode M_161.2.2.1 76 = .ok (.aload_n 0, 1) := by decide +kernel
theorem d_161_77 : decode M_161.2.2.1 77 = .ok (.getfield 16, 3) := by decide +kernel
theorem d_161_80 : decode M_161.2.2.1 80 = .ok (.invokevirtual 275, 3) := by decide +kernel
theorem d_161_83 : decode M_161.2.2.1 83 = .ok (.invokestatic 246, 3) := by decide +kernel
theorem d_161_86 : decode M_161.2.2.1 86 = .ok (.ireturn, 1) := by decide +kernel
theorem d_161_87 : decode M_161.2.2.1 87 = .ok (.aload_n 0, 1) := by decide +kernel
theorem d_161_88 : decode M_161.2.2.1 88 = .ok (.getfield 16, 3) := by decide +kernel
theorem d_161_91 : decode M_161.2.2.1 91 = .ok (.iconst 0, 1) := by decide +kernel
theorem d_161_92 : decode M_161.2.2.1 92 = .ok (.invokevirtual 151, 3) := by decide +kernel
theorem d_161_95 : decode M_161.2.2.1 95 = .ok (.invokestatic 246, 3) := by decide +kernel
theorem d_161_98 : decode M_161.2.2.1 98 = .ok (.ireturn, 1) := by decide +kernel
theorem d_161_99 : decode M_161.2.2.1 99 = .ok (.aload_n 0, 1) := by decide +kernel
theorem d_161_100 : decode M_161.2.2.1 100 = .ok (.getfield 16, 3) := by decide +kernel
theorem d_161_103 : decode M_161.2.2.1 103 = .ok (.iconst 1, 1) := by decide +kernel
theorem d_161_104 : decode M_161.2.2.1 104 = .ok (.invokevirtual 151, 3) := by decide +kernel
theorem d_161_107 : decode M_161.2.2.1 107 = .ok (.ireturn, 1) := by decide +kernel
theorem d_161_108 : decode M_161.2.2.1 108 = .ok (.aload_n 0, 1) := by decide +kernel
theorem d_161_109 : decode M_161.2.2.1 109 = .ok (.getfield 16, 3) := by decide +kernel
theorem d_161_112 : decode M_161.2.2.1 112 = .ok (.getfield 166, 3) := by decide +kernel
theorem d_161_115 : decode M_161.2.2.1 115 = .ok (.ireturn, 1) := by decide +kernel
theorem d_161_116 : decode M_161.2.2.1 116 = .ok (.aload_n 0, 1) := by decide +kernel
theorem d_161_117 : decode M_161.2.2.1 117 = .ok (.getfield 16, 3) := by decide +kernel
theorem d_161_120 : decode M_161.2.2.1 120 = .ok (.getfield 169, 3) := by decide +kernel
theorem d_161_123 : decode M_161.2.2.1 123 = .ok (.ireturn, 1) := by decide +kernel
theorem d_161_124 : decode M_161.2.2.1 124 = .ok (.aload_n 0, 1) := by decide +kernel
theorem d_161_125 : decode M_161.2.2.1 125 = .ok (.getfield 16, 3) := by decide +kernel
theorem d_161_128 : decode M_161.2.2.1 128 = .ok (.getfield 280, 3) := by decide +kernel
theorem d_161_131 : decode M_161.2.2.1 131 = .ok (.ireturn, 1) := by decide +kernel
theorem d_161_132 : decode M_161.2.2.1 132 = .ok (.aload_n 0, 1) := by decide +kernel
theorem d_161_133 : decode M_161.2.2.1 133 = .ok (.getfield 16, 3) := by decide +kernel
theorem d_161_136 : decode M_161.2.2.1 136 = .ok (.getfield 283, 3) := by decide +kernel
theorem d_161_139 : decode M_161.2.2.1 139 = .ok (.ireturn, 1) := by decide +kernel
theorem d_161_140 : decode M_161.2.2.1 140 = .ok (.aload_n 0, 1) := by decide +kernel
theorem d_161_141 : decode M_161.2.2.1 141 = .ok (.getfield 77, 3) := by decide +kernel
theorem d_161_144 : decode M_161.2.2.1 144 = .ok (.ireturn, 1) := by decide +kernel
theorem d_161_145 : decode M_161.2.2.1 145 = .ok (.aload_n 0, 1) := by decide +kernel
theorem d_161_146 : decode M_161.2.2.1 146 = .ok (.getfield 16, 3) := by decide +kernel
theorem d_161_149 : decode M_161.2.2.1 149 = .ok (.getfield 95, 3) := by decide +kernel
theorem d_161_152 : decode M_161.2.2.1 152 = .ok (.ireturn, 1) := by decide +kernel
theorem d_161_153 : decode M_161.2.2.1 153 = .ok (.aload_n 0, 1) := by decide +kernel
theorem d_161_154 : decode M_161.2.2.1 154 = .ok (.getfield 16, 3) := by decide +kernel
theorem d_161_157 : decode M_161.2.2.1 157 = .ok (.getfield 286, 3) := by decide +kernel
theorem d_161_160 : decode M_161.2.2.1 160 = .ok (.ireturn, 1) := by decide +kernel
theorem d_161_161 : decode M_161.2.2.1 161 = .ok (.aload_n 0, 1) := by decide +kernel
theorem d_161_162 : decode M_161.2.2.1 162 = .ok (.getfield 16, 3) := by decide +kernel
theorem d_161_165 : decode M_161.2.2.1 165 = .ok (.getfield 289, 3) := by decide +kernel
theorem d_161_168 : decode M_161.2.2.1 168 = .ok (.ireturn, 1) := by decide +kernel
theorem d_161_169 : decode M_161.2.2.1 169 = .ok (.aload_n 0, 1) := by decide +kernel
theorem d_161_170 : decode M_161.2.2.1 170 = .ok (.getfield 16, 3) := by decide +kernel
theorem d_161_173 : decode M_161.2.2.1 173 = .ok (.invokevirtual 292, 3) := by decide +kernel
theorem d_161_176 : decode M_161.2.2.1 176 = .ok (.ireturn, 1) := by decide +kernel
theorem d_161_177 : decode M_161.2.2.1 177 = .ok (.iconst (-1), 1) := by decide +kernel
theorem d_161_178 : decode M_161.2.2.1 178 = .ok (.ireturn, 1) := by decide +kernel
