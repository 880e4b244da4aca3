/-- HeardBarrels$Shelf.<init>()V -/
def M_2 : am_MT := (8, ⟨"HeardBarrels$Shelf", "<init>", "()V"⟩, prog_8_method_1_code, 1, none, true, 0, (4, 48))
theorem hM_2 : am_ms[2]? = some M_2 := rfl
theorem d_2_0 : decode M_2.2.2.1 0 = .ok (.aload_n 0, 1) := by decide +kernel
theorem d_2_1 : decode M_2.2.2.1 1 = .ok (.invokespecial 3, 3) := by decide +kernel
theorem d_2_4 : decode M_2.2.2.1 4 = .ok (.aload_n 0, 1) := by decide +kernel
theorem d_2_5 : decode M_2.2.2.1 5 = .ok (.bipush 12, 2) := by decide +kernel
theorem d_2_7 : decode M_2.2.2.1 7 = .ok (.newarray .int, 2) := by decide +kernel
theorem d_2_9 : decode M_2.2.2.1 9 = .ok (.putfield 9, 3) := by decide +kernel
theorem d_2_12 : decode M_2.2.2.1 12 = .ok (.aload_n 0, 1) := by decide +kernel
theorem d_2_13 : decode M_2.2.2.1 13 = .ok (.bipush 12, 2) := by decide +kernel
theorem d_2_15 : decode M_2.2.2.1 15 = .ok (.newarray .int, 2) := by decide +kernel
theorem d_2_17 : decode M_2.2.2.1 17 = .ok (.putfield 15, 3) := by decide +kernel
theorem d_2_20 : decode M_2.2.2.1 20 = .ok (.aload_n 0, 1) := by decide +kernel
theorem d_2_21 : decode M_2.2.2.1 21 = .ok (.bipush 12, 2) := by decide +kernel
theorem d_2_23 : decode M_2.2.2.1 23 = .ok (.newarray .int, 2) := by decide +kernel
theorem d_2_25 : decode M_2.2.2.1 25 = .ok (.putfield 18, 3) := by decide +kernel
theorem d_2_28 : decode M_2.2.2.1 28 = .ok (.aload_n 0, 1) := by decide +kernel
theorem d_2_29 : decode M_2.2.2.1 29 = .ok (.bipush 12, 2) := by decide +kernel
theorem d_2_31 : decode M_2.2.2.1 31 = .ok (.newarray .int, 2) := by decide +kernel
theorem d_2_33 : decode M_2.2.2.1 33 = .ok (.putfield 21, 3) := by decide +kernel
theorem d_2_36 : decode M_2.2.2.1 36 = .ok (.aload_n 0, 1) := by decide +kernel
theorem d_2_37 : decode M_2.2.2.1 37 = .ok (.invokevirtual 24, 3) := by decide +kernel
theorem d_2_40 : decode M_2.2.2.1 40 = .ok (.return_, 1) := by decide +kernel
/-- HeardBarrels$Shelf.clear()V -/
def M_3 : am_MT := (8, ⟨"HeardBarrels$Shelf", "clear", "()V"⟩, prog_8_method_2_code, 1, none, false, 0, (0, 0))
theorem hM_3 : am_ms[3]? = some M_3 := rfl
theorem d_3_0 : decode M_3.2.2.1 0 = .ok (.aload_n 0, 1) := by decide +kernel
theorem d_3_1 : decode M_3.2.2.1 1 = .ok (.iconst 0, 1) := by decide +kernel
theorem d_3_2 : decode M_3.2.2.1 2 = .ok (.putfield 27, 3) := by decide +kernel
theorem d_3_5 : decode M_3.2.2.1 5 = .ok (.aload_n 0, 1) := by decide +kernel
theorem d_3_6 : decode M_3.2.2.1 6 = .ok (.bipush 15, 2) := by decide +kernel
theorem d_3_8 : decode M_3.2.2.1 8 = .ok (.putfield 31, 3) := by decide +kernel
theorem d_3_11 : decode M_3.2.2.1 11 = .ok (.aload_n 0, 1) := by decide +kernel
theorem d_3_12 : decode M_3.2.2.1 12 = .ok (.iconst 4, 1) := by decide +kernel
theorem d_3_13 : decode M_3.2.2.1 13 = .ok (.putfield 34, 3) := by decide +kernel
theorem d_3_16 : decode M_3.2.2.1 16 = .ok (.aload_n 0, 1) := by decide +kernel
theorem d_3_17 : decode M_3.2.2.1 17 = .ok (.bipush 12, 2) := by decide +kernel
theorem d_3_19 : decode M_3.2.2.1 19 = .ok (.putfield 37, 3) := by decide +kernel
theorem d_3_22 : decode M_3.2.2.1 22 = .ok (.aload_n 0, 1) := by decide +kernel
theorem d_3_23 : decode M_3.2.2.1 23 = .ok (.iconst 3, 1) := by decide +kernel
theorem d_3_24 : decode M_3.2.2.1 24 = .ok (.putfield 40, 3) := by decide +kernel
theorem d_3_27 : decode M_3.2.2.1 27 = .ok (.aload_n 0, 1) := by decide +kernel
theorem d_3_28 : decode M_3.2.2.1 28 = .ok (.iconst 0, 1) := by decide +kernel
theorem d_3_29 : decode M_3.2.2.1 29 = .ok (.putfield 43, 3) := by decide +kernel
theorem d_3_32 : decode M_3.2.2.1 32 = .ok (.aload_n 0, 1) := by decide +kernel
theorem d_3_33 : decode M_3.2.2.1 33 = .ok (.iconst 0, 1) := by decide +kernel
theorem d_3_34 : decode M_3.2.2.1 34 = .ok (.putfield 46, 3) := by decide +kernel
theorem d_3_37 : decode M_3.2.2.1 37 = .ok (.aload_n 0, 1) := by decide +kernel
theorem d_3_38 : decode M_3.2.2.1 38 = .ok (.iconst 0, 1) := by decide +kernel
theorem d_3_39 : decode M_3.2.2.1 39 = .ok (.putfield 49, 3) := by decide +kernel
theorem d_3_42 : decode M_3.2.2.1 42 = .ok (.return_, 1) := by decide +kernel
/-- HeardBarrels$Row.<init>()V -/
def M_4 : am_MT := (7, ⟨"HeardBarrels$Row", "<init>", "()V"⟩, prog_7_method_1_code, 1, none, true, 0, (1, 40))
theorem hM_4 : am_ms[4]? = some M_4 := rfl
theorem d_4_0 : decode M_4.2.2.1 0 = .ok (.aload_n 0, 1) := by decide +kernel
theorem d_4_1 : decode M_4.2.2.1 1 = .ok (.invokespecial 3, 3) := by decide +kernel
theorem d_4_4 : decode M_4.2.2.1 4 = .ok (.aload_n 0, 1) := by decide +kernel
theorem d_4_5 : decode M_4.2.2.1 5 = .ok (.bipush 40, 2) := by decide +kernel
theorem d_4_7 : decode M_4.2.2.1 7 = .ok (.newarray .long, 2) := by decide +kernel
theorem d_4_9 : decode M_4.2.2.1 9 = .ok (.putfield 9, 3) := by decide +kernel
theorem d_4_12 : decode M_4.2.2.1 12 = .ok (.aload_n 0, 1) := by decide +kernel
theorem d_4_13 : decode M_4.2.2.1 13 = .ok (.iconst (-1), 1) := by decide +kernel
theorem d_4_14 : decode M_4.2.2.1 14 = .ok (.putfield 15, 3) := by decide +kernel
theorem d_4_17 : decode M_4.2.2.1 17 = .ok (.return_, 1) := by decide +kernel
/-- HeardBarrels$Reader.<init>([BLHeardBarrels$Shelf;)V -/
def M_5 : am_MT := (6, ⟨"HeardBarrels$Reader", "<init>", "([BLHeardBarrels$Shelf;)V"⟩, prog_6_method_1_code, 3, none, true, 2, (0, 0))
theorem hM_5 : am_ms[5]? = some M_5 := rfl
theorem d_5_0 : decode M_5.2.2.1 0 = .ok (.aload_n 0, 1) := by decide +kernel
theorem d_5_1 : decode M_5.2.2.1 1 = .ok (.invokespecial 3, 3) := by decide +kernel
theorem d_5_4 : decode M_5.2.2.1 4 = .ok (.aload_n 0, 1) := by decide +kernel
theorem d_5_5 : decode M_5.2.2.1 5 = .ok (.iconst (-1), 1) := by decide +kernel
theorem d_5_6 : decode M_5.2.2.1 6 = .ok (.putfield 9, 3) := by decide +kernel
theorem d_5_9 : decode M_5.2.2.1 9 = .ok (.aload_n 0, 1) := by decide +kernel
theorem d_5_10 : decode M_5.2.2.1 10 = .ok (.aload_n 1, 1) := by decide +kernel
theorem d_5_11 : decode M_5.2.2.1 11 = .ok (.putfield 15, 3) := by decide +kernel
theorem d_5_14 : decode M_5.2.2.1 14 = .ok (.aload_n 0, 1) := by decide +kernel
theorem d_5_15 : decode M_5.2.2.1 15 = .ok (.aload_n 2, 1) := by decide +kernel
theorem d_5_16 : decode M_5.2.2.1 16 = .ok (.putfield 19, 3) := by decide +kernel
theorem d_5_19 : decode M_5.2.2.1 19 = .ok (.return_, 1) := by decide +kernel
/-- HeardBarrels$Ears.<init>(LHeardBarrels$Shelf;)V -/
def M_6 : am_MT := (3, ⟨"HeardBarrels$Ears", "<init>", "(LHeardBarrels$Shelf;)V"⟩, prog_3_method_1_code, 2, none, true, 1, (8, 5710))
theorem hM_6 : am_ms[6]? = some M_6 := rfl
theorem d_6_0 : decode M_6.2.2.1 0 = .ok (.aload_n 0, 1) := by decide +kernel
theorem d_6_1 : decode M_6.2.2.1 1 = .ok (.invokespecial 3, 3) := by decide +kernel
theorem d_6_4 : decode M_6.2.2.1 4 = .ok (.aload_n 0, 1) := by decide +kernel
theorem d_6_5 : decode M_6.2.2.1 5 = .ok (.bipush 96, 2) := by decide +kernel
theorem d_6_7 : decode M_6.2.2.1 7 = .ok (.newarray .int, 2) := by decide +kernel
theorem d_6_9 : decode M_6.2.2.1 9 = .ok (.putfield 11, 3) := by decide +kernel
theorem d_6_12 : decode M_6.2.2.1 12 = .ok (.aload_n 0, 1) := by decide +kernel
theorem d_6_13 : decode M_6.2.2.1 13 = .ok (.bipush 12, 2) := by decide +kernel
theorem d_6_15 : decode M_6.2.2.1 15 = .ok (.newarray .int, 2) := by decide +kernel
theorem d_6_17 : decode M_6.2.2.1 17 = .ok (.putfield 15, 3) := by decide +kernel
theorem d_6_20 : decode M_6.2.2.1 20 = .ok (.aload_n 0, 1) := by decide +kernel
theorem d_6_21 : decode M_6.2.2.1 21 = .ok (.bipush 96, 2) := by decide +kernel
theorem d_6_23 : decode M_6.2.2.1 23 = .ok (.newarray .int, 2) := by decide +kernel
theorem d_6_25 : decode M_6.2.2.1 25 = .ok (.putfield 18, 3) := by decide +kernel
theorem d_6_28 : decode M_6.2.2.1 28 = .ok (.aload_n 0, 1) := by decide +kernel
theorem d_6_29 : decode M_6.2.2.1 29 = .ok (.bipush 10, 2) := by decide +kernel
theorem d_6_31 : decode M_6.2.2.1 31 = .ok (.newarray .int, 2) := by decide +kernel
theorem d_6_33 : decode M_6.2.2.1 33 = .ok (.putfield 21, 3) := by decide +kernel
theorem d_6_36 : decode M_6.2.2.1 36 = .ok (.aload_n 0, 1) := by decide +kernel
theorem d_6_37 : decode M_6.2.2.1 37 = .ok (.bipush 120, 2) := by decide +kernel
theorem d_6_39 : decode M_6.2.2.1 39 = .ok (.newarray .int, 2) := by decide +kernel
theorem d_6_41 : decode M_6.2.2.1 41 = .ok (.putfield 24, 3) := by decide +kernel
theorem d_6_44 : decode M_6.2.2.1 44 = .ok (.aload_n 0, 1) := by decide +kernel
theorem d_6_45 : decode M_6.2.2.1 45 = .ok (.sipush 1024, 3) := by decide +kernel
theorem d_6_48 : decode M_6.2.2.1 48 = .ok (.newarray .int, 2) := by decide +kernel
theorem d_6_50 : decode M_6.2.2.1 50 = .ok (.putfield 27, 3) := by decide +kernel
theorem d_6_53 : decode M_6.2.2.1 53 = .ok (.aload_n 0, 1) := by decide +kernel
theorem d_6_54 : decode M_6.2.2.1 54 = .ok (.sipush 256, 3) := by decide +kernel
theorem d_6_57 : decode M_6.2.2.1 57 = .ok (.newarray .long, 2) := by decide +kernel
theorem d_6_59 : decode M_6.2.2.1 59 = .ok (.putfield 30, 3) := by decide +kernel
theorem d_6_62 : decode M_6.2.2.1 62 = .ok (.aload_n 0, 1) := by decide +kernel
theorem d_6_63 : decode M_6.2.2.1 63 = .ok (.sipush 4096, 3) := by decide +kernel
theorem d_6_66 : decode M_6.2.2.1 66 = .ok (.newarray .boolean, 2) := by decide +kernel
theorem d_6_68 : decode M_6.2.2.1 68 = .ok (.putfield 34, 3) := by decide +kernel
theorem d_6_71 : decode M_6.2.2.1 71 = .ok (.aload_n 0, 1) := by decide +kernel
theorem d_6_72 : decode M_6.2.2.1 72 = .ok (.aload_n 1, 1) := by decide +kernel
theorem d_6_73 : decode M_6.2.2.1 73 = .ok (.putfield 38, 3) := by decide +kernel
theorem d_6_76 : decode M_6.2.2.1 76 = .ok (.return_, 1) := by decide +kernel
/-- HeardBarrels$Keeper.<init>(LHeardBarrels$Shelf;)V -/
def M_7 : am_MT := (4, ⟨"HeardBarrels$Keeper", "<init>", "(LHeardBarrels$Shelf;)V"⟩, prog_4_method_1_code, 2, none, true, 1, (2, 8197))
theorem hM_7 : am_ms[7]? = some M_7 := rfl
theorem d_7_0 : decode M_7.2.2.1 0 = .ok (.aload_n 0, 1) := by decide +kernel
theorem d_7_1 : decode M_7.2.2.1 1 = .ok (.invokespecial 3, 3) := by decide +kernel
theorem d_7_4 : decode M_7.2.2.1 4 = .ok (.aload_n 0, 1) := by decide +kernel
theorem d_7_5 : decode M_7.2.2.1 5 = .ok (.iconst 5, 1) := by decide +kernel
theorem d_7_6 : decode M_7.2.2.1 6 = .ok (.newarray .int, 2) := by decide +kernel
theorem d_7_8 : decode M_7.2.2.1 8 = .ok (.putfield 11, 3) := by decide +kernel
theorem d_7_11 : decode M_7.2.2.1 11 = .ok (.aload_n 0, 1) := by decide +kernel
theorem d_7_12 : decode M_7.2.2.1 12 = .ok (.sipush 8192, 3) := by decide +kernel
theorem d_7_15 : decode M_7.2.2.1 15 = .ok (.newarray .int, 2) := by decide +kernel
theorem d_7_17 : decode M_7.2.2.1 17 = .ok (.putfield 15, 3) := by decide +kernel
theorem d_7_20 : decode M_7.2.2.1 20 = .ok (.aload_n 0, 1) := by decide +kernel
theorem d_7_21 : decode M_7.2.2.1 21 = .ok (.aload_n 1, 1) := by decide +kernel
theorem d_7_22 : decode M_7.2.2.1 22 = .ok (.putfield 18, 3) := by decide +kernel
theorem d_7_25 : decode M_7.2.2.1 25 = .ok (.return_, 1) := by decide +kernel
/-- HeardBarrels$Buyers.<init>(LHeardBarrels$Shelf;)V -/
def M_8 : am_MT := (2, ⟨"HeardBarrels$Buyers", "<init>", "(LHeardBarrels$Shelf;)V"⟩, prog_2_method_1_code, 2, none, true, 1, (2, 22))
theorem hM_8 : am_ms[8]? = some M_8 := rfl
theorem d_8_0 : decode M_8.2.2.1 0 = .ok (.aload_n 0, 1) := by decide +kernel
theorem d_8_1 : decode M_8.2.2.1 1 = .ok (.invokespecial 3, 3) := by decide +kernel
theorem d_8_4 : decode M_8.2.2.1 4 = .ok (.aload_n 0, 1) := by decide +kernel
theorem d_8_5 : decode M_8.2.2.1 5 = .ok (.bipush 12, 2) := by decide +kernel
theorem d_8_7 : decode M_8.2.2.1 7 = .ok (.newarray .int, 2) := by decide +kernel
theorem d_8_9 : decode M_8.2.2.1 9 = .ok (.putfield 9, 3) := by decide +kernel
theorem d_8_12 : decode M_8.2.2.1 12 = .ok (.aload_n 0, 1) := by decide +kernel
theorem d_8_13 : decode M_8.2.2.1 13 = .ok (.bipush 10, 2) := by decide +kernel
theorem d_8_15 : decode M_8.2.2.1 15 = .ok (.newarray .int, 2) := by decide +kernel
theorem d_8_17 : decode M_8.2.2.1 17 = .ok (.putfield 15, 3) := by decide +kernel
theorem d_8_20 : decode M_8.2.2.1 20 = .ok (.aload_n 0, 1) := by decide +kernel
theorem d_8_21 : decode M_8.2.2.1 21 = .ok (.aload_n 1, 1) := by decide +kernel
theorem d_8_22 : decode M_8.2.2.1 22 = .ok (.putfield 18, 3) := by decide +kernel
theorem d_8_25 : decode M_8.2.2.1 25 = .ok (.return_, 1) := by decide +kernel
/-- HeardBarrels$Layer.<init>(LHeardBarrels$Shelf;)V -/
def M_9 : am_MT := (5, ⟨"HeardBarrels$Layer", "<init>", "(LHeardBarrels$Shelf;)V"⟩, prog_5_method_1_code, 2, none, true, 1, (3, 2064))
theorem hM_9 : am_ms[9]? = some M_9 := rfl
theorem d_9_0 : decode M_9.2.2.1 0 = .ok (.aload_n 0, 1) := by decide +kernel
theorem d_9_1 : decode M_9.2.2.1 1 = .ok (.invokespecial 3, 3) := by decide +kernel
theorem d_9_4 : decode M_9.2.2.1 4 = .ok (.aload_n 0, 1) := by decide +kernel
theorem d_9_5 : decode M_9.2.2.1 5 = .ok (.bipush 8, 2) := by decide +kernel
theorem d_9_7 : decode M_9.2.2.1 7 = .ok (.newarray .int, 2) := by decide +kernel
theorem d_9_9 : decode M_9.2.2.1 9 = .ok (.putfield 11, 3) := by decide +kernel
theorem d_9_12 : decode M_9.2.2.1 12 = .ok (.aload_n 0, 1) := by decide +kernel
theorem d_9_13 : decode M_9.2.2.1 13 = .ok (.bipush 8, 2) := by decide +kernel
theorem d_9_15 : decode M_9.2.2.1 15 = .ok (.newarray .int, 2) := by decide +kernel
theorem d_9_17 : decode M_9.2.2.1 17 = .ok (.putfield 15, 3) := by decide +kernel
theorem d_9_20 : decode M_9.2.2.1 20 = .ok (.aload_n 0, 1) := by decide +kernel
theorem d_9_21 : decode M_9.2.2.1 21 = .ok (.sipush 2048, 3) := by decide +kernel
theorem d_9_24 : decode M_9.2.2.1 24 = .ok (.newarray .int, 2) := by decide +kernel
theorem d_9_26 : decode M_9.2.2.1 26 = .ok (.putfield 18, 3) := by decide +kernel
theorem d_9_29 : decode M_9.2.2.1 29 = .ok (.aload_n 0, 1) := by decide +kernel
theorem d_9_30 : decode M_9.2.2.1 30 = .ok (.aload_n 1, 1) := by decide +kernel
theorem d_9_31 : decode M_9.2.2.1 31 = .ok (.putfield 21, 3) := by decide +kernel
theorem d_9_34 : decode M_9.2.2.1 34 = .ok (.return_, 1) := by decide +kernel
/-- HeardBarrels$Reader.reads(I)Z -/
def M_13 : am_MT := (6, ⟨"HeardBarrels$Reader", "reads", "(I)Z"⟩, prog_6_method_2_code, 3, some .boolean, false, 1, (0, 0))
theorem hM_13 : am_ms[13]? = some M_13 := rfl
theorem d_13_0 : decode M_13.2.2.1 0 = .ok (.aload_n 0, 1) := by decide +kernel
theorem d_13_1 : decode M_13.2.2.1 1 = .ok (.iload_n 1, 1) := by decide +kernel
theorem d_13_2 : decode M_13.2.2.1 2 = .ok (.aload_n 0, 1) := by decide +kernel
theorem d_13_3 : decode M_13.2.2.1 3 = .ok (.getfield 15, 3) := by decide +kernel
theorem d_13_6 : decode M_13.2.2.1 6 = .ok (.arraylength, 1) := by decide +kernel
theorem d_13_7 : decode M_13.2.2.1 7 = .ok (.invokestatic 23, 3) := by decide +kernel
theorem d_13_10 : decode M_13.2.2.1 10 = .ok (.putfield 29, 3) := by decide +kernel
theorem d_13_13 : decode M_13.2.2.1 13 = .ok (.aload_n 0, 1) := by decide +kernel
theorem d_13_14 : decode M_13.2.2.1 14 = .ok (.iconst 0, 1) := by decide +kernel
theorem d_13_15 : decode M_13.2.2.1 15 = .ok (.putfield 32, 3) := by decide +kernel
theorem d_13_18 : decode M_13.2.2.1 18 = .ok (.aload_n 0, 1) := by decide +kernel
theorem d_13_19 : decode M_13.2.2.1 19 = .ok (.iconst 0, 1) := by decide +kernel
theorem d_13_20 : decode M_13.2.2.1 20 = .ok (.putfield 35, 3) := by decide +kernel
theorem d_13_23 : decode M_13.2.2.1 23 = .ok (.aload_n 0, 1) := by decide +kernel
theorem d_13_24 : decode M_13.2.2.1 24 = .ok (.iconst (-1), 1) := by decide +kernel
theorem d_13_25 : decode M_13.2.2.1 25 = .ok (.putfield 9, 3) := by decide +kernel
theorem d_13_28 : decode M_13.2.2.1 28 = .ok (.aload_n 0, 1) := by decide +kernel
theorem d_13_29 : decode M_13.2.2.1 29 = .ok (.getfield 19, 3) := by decide +kernel
theorem d_13_32 : decode M_13.2.2.1 32 = .ok (.invokevirtual 38, 3) := by decide +kernel
theorem d_13_35 : decode M_13.2.2.1 35 = .ok (.aload_n 0, 1) := by decide +kernel
theorem d_13_36 : decode M_13.2.2.1 36 = .ok (.invokevirtual 43, 3) := by decide +kernel
theorem d_13_39 : decode M_13.2.2.1 39 = .ok (.iconst 0, 1) := by decide +kernel
theorem d_13_40 : decode M_13.2.2.1 40 = .ok (.istore_n 2, 1) := by decide +kernel
theorem d_13_41 : decode M_13.2.2.1 41 = .ok (.iload_n 2, 1) := by decide +kernel
theorem d_13_42 : decode M_13.2.2.1 42 = .ok (.aload_n 0, 1) := by decide +kernel
theorem d_13_43 : decode M_13.2.2.1 43 = .ok (.getfield 29, 3) := by decide +kernel
theorem d_13_46 : decode M_13.2.2.1 46 = .ok (.if_icmp .gt 38, 3) := by decide +kernel
theorem d_13_49 : decode M_13.2.2.1 49 = .ok (.aload_n 0, 1) := by decide +kernel
theorem d_13_50 : decode M_13.2.2.1 50 = .ok (.getfield 46, 3) := by decide +kernel
theorem d_13_53 : decode M_13.2.2.1 53 = .ok (.ifCond .eq 31, 3) := by decide +kernel
theorem d_13_56 : decode M_13.2.2.1 56 = .ok (.aload_n 0, 1) := by decide +kernel
theorem d_13_57 : decode M_13.2.2.1 57 = .ok (.invokevirtual 49, 3) := by decide +kernel
theorem d_13_60 : decode M_13.2.2.1 60 = .ok (.ifCond .ne 5, 3) := by decide +kernel
theorem d_13_63 : decode M_13.2.2.1 63 = .ok (.iconst 0, 1) := by decide +kernel
theorem d_13_64 : decode M_13.2.2.1 64 = .ok (.ireturn, 1) := by decide +kernel
theorem d_13_65 : decode M_13.2.2.1 65 = .ok (.aload_n 0, 1) := by decide +kernel
theorem d_13_66 : decode M_13.2.2.1 66 = .ok (.getfield 19, 3) := by decide +kernel
theorem d_13_69 : decode M_13.2.2.1 69 = .ok (.dup, 1) := by decide +kernel
theorem d_13_70 : decode M_13.2.2.1 70 = .ok (.getfield 53, 3) := by decide +kernel
theorem d_13_73 : decode M_13.2.2.1 73 = .ok (.iconst 1, 1) := by decide +kernel
theorem d_13_74 : decode M_13.2.2.1 74 = .ok (.iadd, 1) := by decide +kernel
theorem d_13_75 : decode M_13.2.2.1 75 = .ok (.putfield 53, 3) := by decide +kernel
theorem d_13_78 : decode M_13.2.2.1 78 = .ok (.iinc 2 1, 3) := by decide +kernel
theorem d_13_81 : decode M_13.2.2.1 81 = .ok (.goto (-40), 3) := by decide +kernel
theorem d_13_84 : decode M_13.2.2.1 84 = .ok (.iconst 1, 1) := by decide +kernel
theorem d_13_85 : decode M_13.2.2.1 85 = .ok (.ireturn, 1) := by decide +kernel
/-- HeardBarrels$Reader.step()V -/
def M_15 : am_MT := (6, ⟨"HeardBarrels$Reader", "step", "()V"⟩, prog_6_method_11_code, 1, none, false, 0, (0, 0))
theorem hM_15 : am_ms[15]? = some M_15 := rfl
theorem d_15_0 : decode M_15.2.2.1 0 = .ok (.aload_n 0, 1) := by decide +kernel
theorem d_15_1 : decode M_15.2.2.1 1 = .ok (.getfield 32, 3) := by decide +kernel
theorem d_15_4 : decode M_15.2.2.1 4 = .ok (.aload_n 0, 1) := by decide +kernel
theorem d_15_5 : decode M_15.2.2.1 5 = .ok (.getfield 29, 3) := by decide +kernel
theorem d_15_8 : decode M_15.2.2.1 8 = .ok (.if_icmp .ge 44, 3) := by decide +kernel
theorem d_15_11 : decode M_15.2.2.1 11 = .ok (.aload_n 0, 1) := by decide +kernel
theorem d_15_12 : decode M_15.2.2.1 12 = .ok (.getfield 15, 3) := by decide +kernel
theorem d_15_15 : decode M_15.2.2.1 15 = .ok (.aload_n 0, 1) := by decide +kernel
theorem d_15_16 : decode M_15.2.2.1 16 = .ok (.getfield 32, 3) := by decide +kernel
theorem d_15_19 : decode M_15.2.2.1 19 = .ok (.baload, 1) := by decide +kernel
theorem d_15_20 : decode M_15.2.2.1 20 = .ok (.bipush 10, 2) := by decide +kernel
theorem d_15_22 : decode M_15.2.2.1 22 = .ok (.if_icmp .eq 17, 3) := by decide +kernel
theorem d_15_25 : decode M_15.2.2.1 25 = .ok (.aload_n 0, 1) := by decide +kernel
theorem d_15_26 : decode M_15.2.2.1 26 = .ok (.getfield 15, 3) := by decide +kernel
theorem d_15_29 : decode M_15.2.2.1 29 = .ok (.aload_n 0, 1) := by decide +kernel
theorem d_15_30 : decode M_15.2.2.1 30 = .ok (.getfield 32, 3) := by decide +kernel
theorem d_15_33 : decode M_15.2.2.1 33 = .ok (.baload, 1) := by decide +kernel
theorem d_15_34 : decode M_15.2.2.1 34 = .ok (.bipush 32, 2) := by decide +kernel
theorem d_15_36 : decode M_15.2.2.1 36 = .ok (.if_icmp .ne 16, 3) := by decide +kernel
theorem d_15_39 : decode M_15.2.2.1 39 = .ok (.aload_n 0, 1) := by decide +kernel
theorem d_15_40 : decode M_15.2.2.1 40 = .ok (.dup, 1) := by decide +kernel
theorem d_15_41 : decode M_15.2.2.1 41 = .ok (.getfield 32, 3) := by decide +kernel
theorem d_15_44 : decode M_15.2.2.1 44 = .ok (.iconst 1, 1) := by decide +kernel
theorem d_15_45 : decode M_15.2.2.1 45 = .ok (.iadd, 1) := by decide +kernel
theorem d_15_46 : decode M_15.2.2.1 46 = .ok (.putfield 32, 3) := by decide +kernel
theorem d_15_49 : decode M_15.2.2.1 49 = .ok (.goto (-49), 3) := by decide +kernel
theorem d_15_52 : decode M_15.2.2.1 52 = .ok (.aload_n 0, 1) := by decide +kernel
theorem d_15_53 : decode M_15.2.2.1 53 = .ok (.aload_n 0, 1) := by decide +kernel
theorem d_15_54 : decode M_15.2.2.1 54 = .ok (.getfield 32, 3) := by decide +kernel
theorem d_15_57 : decode M_15.2.2.1 57 = .ok (.putfield 114, 3) := by decide +kernel
theorem d_15_60 : decode M_15.2.2.1 60 = .ok (.aload_n 0, 1) := by decide +kernel
theorem d_15_61 : decode M_15.2.2.1 61 = .ok (.getfield 32, 3) := by decide +kernel
theorem d_15_64 : decode M_15.2.2.1 64 = .ok (.aload_n 0, 1) := by decide +kernel
theorem d_15_65 : decode M_15.2.2.1 65 = .ok (.getfield 29, 3) := by decide +kernel
theorem d_15_68 : decode M_15.2.2.1 68 = .ok (.if_icmp .lt 11, 3) := by decide +kernel
theorem d_15_71 : decode M_15.2.2.1 71 = .ok (.aload_n 0, 1) := by decide +kernel
theorem d_15_72 : decode M_15.2.2.1 72 = .ok (.iconst 0, 1) := by decide +kernel
theorem d_15_73 : decode M_15.2.2.1 73 = .ok (.putfield 46, 3) := by decide +kernel
theorem d_15_76 : decode M_15.2.2.1 76 = .ok (.goto 85, 3) := by decide +kernel
theorem d_15_79 : decode M_15.2.2.1 79 = .ok (.aload_n 0, 1) := by decide +kernel
theorem d_15_80 : decode M_15.2.2.1 80 = .ok (.getfield 15, 3) := by decide +kernel
theorem d_15_83 : decode M_15.2.2.1 83 = .ok (.aload_n 0, 1) := by decide +kernel
theorem d_15_84 : decode M_15.2.2.1 84 = .ok (.getfield 32, 3) := by decide +kernel
theorem d_15_87 : decode M_15.2.2.1 87 = .ok (.baload, 1) := by decide +kernel
theorem d_15_88 : decode M_15.2.2.1 88 = .ok (.invokestatic 117, 3) := by decide +kernel
theorem d_15_91 : decode M_15.2.2.1 91 = .ok (.ifCond .eq 15, 3) := by decide +kernel
theorem d_15_94 : decode M_15.2.2.1 94 = .ok (.aload_n 0, 1) := by decide +kernel
theorem d_15_95 : decode M_15.2.2.1 95 = .ok (.iconst 1, 1) := by decide +kernel
theorem d_15_96 : decode M_15.2.2.1 96 = .ok (.putfield 46, 3) := by decide +kernel
theorem d_15_99 : decode M_15.2.2.1 99 = .ok (.aload_n 0, 1) := by decide +kernel
theorem d_15_100 : decode M_15.2.2.1 100 = .ok (.invokevirtual 120, 3) := by decide +kernel
theorem d_15_103 : decode M_15.2.2.1 103 = .ok (.goto 58, 3) := by decide +kernel
theorem d_15_106 : decode M_15.2.2.1 106 = .ok (.aload_n 0, 1) := by decide +kernel
theorem d_15_107 : decode M_15.2.2.1 107 = .ok (.getfield 15, 3) := by decide +kernel
theorem d_15_110 : decode M_15.2.2.1 110 = .ok (.aload_n 0, 1) := by decide +kernel
theorem d_15_111 : decode M_15.2.2.1 111 = .ok (.getfield 32, 3) := by decide +kernel
theorem d_15_114 : decode M_15.2.2.1 114 = .ok (.baload, 1) := by decide +kernel
theorem d_15_115 : decode M_15.2.2.1 115 = .ok (.invokestatic 123, 3) := by decide +kernel
theorem d_15_118 : decode M_15.2.2.1 118 = .ok (.ifCond .eq 10, 3) := by decide +kernel
theorem d_15_121 : decode M_15.2.2.1 121 = .ok (.aload_n 0, 1) := by decide +kernel
theorem d_15_122 : decode M_15.2.2.1 122 = .ok (.invokevirtual 126, 3) := by decide +kernel
theorem d_15_125 : decode M_15.2.2.1 125 = .ok (.goto 36, 3) := by decide +kernel
theorem d_15_128 : decode M_15.2.2.1 128 = .ok (.aload_n 0, 1) := by decide +kernel
theorem d_15_129 : decode M_15.2.2.1 129 = .ok (.aload_n 0, 1) := by decide +kernel
theorem d_15_130 : decode M_15.2.2.1 130 = .ok (.getfield 15, 3) := by decide +kernel
theorem d_15_133 : decode M_15.2.2.1 133 = .ok (.aload_n 0, 1) := by decide +kernel
theorem d_15_134 : decode M_15.2.2.1 134 = .ok (.getfield 32, 3) := by decide +kernel
theorem d_15_137 : decode M_15.2.2.1 137 = .ok (.baload, 1) := by decide +kernel
theorem d_15_138 : decode M_15.2.2.1 138 = .ok (.bipush 59, 2) := by decide +kernel
theorem d_15_140 : decode M_15.2.2.1 140 = .ok (.if_icmp .ne 7, 3) := by decide +kernel
theorem d_15_143 : decode M_15.2.2.1 143 = .ok (.iconst 3, 1) := by decide +kernel
theorem d_15_144 : decode M_15.2.2.1 144 = .ok (.goto 4, 3) := by decide +kernel
theorem d_15_147 : decode M_15.2.2.1 147 = .ok (.iconst 4, 1) := by decide +kernel
theorem d_15_148 : decode M_15.2.2.1 148 = .ok (.putfield 46, 3) := by decide +kernel
theorem d_15_151 : decode M_15.2.2.1 151 = .ok (.aload_n 0, 1) := by decide +kernel
theorem d_15_152 : decode M_15.2.2.1 152 = .ok (.dup, 1) := by decide +kernel
theorem d_15_153 : decode M_15.2.2.1 153 = .ok (.getfield 32, 3) := by decide +kernel
theorem d_15_156 : decode M_15.2.2.1 156 = .ok (.iconst 1, 1) := by decide +kernel
theorem d_15_157 : decode M_15.2.2.1 157 = .ok (.iadd, 1) := by decide +kernel
theorem d_15_158 : decode M_15.2.2.1 158 = .ok (.putfield 32, 3) := by decide +kernel
theorem d_15_161 : decode M_15.2.2.1 161 = .ok (.return_, 1) := by decide +kernel
/-- HeardBarrels$Reader.isLetter(I)Z -/
def M_16 : am_MT := (6, ⟨"HeardBarrels$Reader", "isLetter", "(I)Z"⟩, prog_6_method_16_code, 1, some .boolean, false, 1, (0, 0))
theorem hM_16 : am_ms[16]? = some M_16 := rfl
theorem d_16_0 : decode M_16.2.2.1 0 = .ok (.iload_n 0, 1) := by decide +kernel
theorem d_16_1 : decode M_16.2.2.1 1 = .ok (.bipush 97, 2) := by decide +kernel
theorem d_16_3 : decode M_16.2.2.1 3 = .ok (.if_icmp .lt 13, 3) := by decide +kernel
theorem d_16_6 : decode M_16.2.2.1 6 = .ok (.iload_n 0, 1) := by decide +kernel
theorem d_16_7 : decode M_16.2.2.1 7 = .ok (.bipush 122, 2) := by decide +kernel
theorem d_16_9 : decode M_16.2.2.1 9 = .ok (.if_icmp .gt 7, 3) := by decide +kernel
theorem d_16_12 : decode M_16.2.2.1 12 = .ok (.iconst 1, 1) := by decide +kernel
theorem d_16_13 : decode M_16.2.2.1 13 = .ok (.goto 4, 3) := by decide +kernel
theorem d_16_16 : decode M_16.2.2.1 16 = .ok (.iconst 0, 1) := by decide +kernel
theorem d_16_17 : decode M_16.2.2.1 17 = .ok (.ireturn, 1) := by decide +kernel
/-- HeardBarrels$Reader.stepOverWord()V -/
def M_17 : am_MT := (6, ⟨"HeardBarrels$Reader", "stepOverWord", "()V"⟩, prog_6_method_12_code, 1, none, false, 0, (0, 0))
theorem hM_17 : am_ms[17]? = some M_17 := rfl
theorem d_17_0 : decode M_17.2.2.1 0 = .ok (.aload_n 0, 1) := by decide +kernel
theorem d_17_1 : decode M_17.2.2.1 1 = .ok (.getfield 32, 3) := by decide +kernel
theorem d_17_4 : decode M_17.2.2.1 4 = .ok (.aload_n 0, 1) := by decide +kernel
theorem d_17_5 : decode M_17.2.2.1 5 = .ok (.getfield 29, 3) := by decide +kernel
theorem d_17_8 : decode M_17.2.2.1 8 = .ok (.if_icmp .ge 31, 3) := by decide +kernel
theorem d_17_11 : decode M_17.2.2.1 11 = .ok (.aload_n 0, 1) := by decide +kernel
theorem d_17_12 : decode M_17.2.2.1 12 = .ok (.getfield 15, 3) := by decide +kernel
theorem d_17_15 : decode M_17.2.2.1 15 = .ok (.aload_n 0, 1) := by decide +kernel
theorem d_17_16 : decode M_17.2.2.1 16 = .ok (.getfield 32, 3) := by decide +kernel
theorem d_17_19 : decode M_17.2.2.1 19 = .ok (.baload, 1) := by decide +kernel
theorem d_17_20 : decode M_17.2.2.1 20 = .ok (.invokestatic 117, 3) := by decide +kernel
theorem d_17_23 : decode M_17.2.2.1 23 = .ok (.ifCond .eq 16, 3) := by decide +kernel
theorem d_17_26 : decode M_17.2.2.1 26 = .ok (.aload_n 0, 1) := by decide +kernel
theorem d_17_27 : decode M_17.2.2.1 27 = .ok (.dup, 1) := by decide +kernel
theorem d_17_28 : decode M_17.2.2.1 28 = .ok (.getfield 32, 3) := by decide +kernel
theorem d_17_31 : decode M_17.2.2.1 31 = .ok (.iconst 1, 1) := by decide +kernel
theorem d_17_32 : decode M_17.2.2.1 32 = .ok (.iadd, 1) := by decide +kernel
theorem d_17_33 : decode M_17.2.2.1 33 = .ok (.putfield 32, 3) := by decide +kernel
theorem d_17_36 : decode M_17.2.2.1 36 = .ok (.goto (-36), 3) := by decide +kernel
theorem d_17_39 : decode M_17.2.2.1 39 = .ok (.return_, 1) := by decide +kernel
/-- HeardBarrels$Reader.spelling(I)Ljava/lang/String; -/
def M_18 : am_MT := (6, ⟨"HeardBarrels$Reader", "spelling", "(I)Ljava/lang/String;"⟩, prog_6_method_15_code, 1, some (.object "java/lang/String"), false, 1, (0, 0))
theorem hM_18 : am_ms[18]? = some M_18 := rfl
theorem d_18_0 : decode M_18.2.2.1 0 = .ok (.iload_n 0, 1) := by decide +kernel
theorem d_18_1 : decode M_18.2.2.1 1 = .ok (.tableswitch 85 0 9 #[55, 58, 61, 64, 67, 70, 73, 76, 79, 82], 55) := by decide +kernel
theorem d_18_56 : decode M_18.2.2.1 56 = .ok (.ldc 141, 2) := by decide +kernel
theorem d_18_58 : decode M_18.2.2.1 58 = .ok (.areturn, 1) := by decide +kernel
theorem d_18_59 : decode M_18.2.2.1 59 = .ok (.ldc 142, 2) := by decide +kernel
theorem d_18_61 : decode M_18.2.2.1 61 = .ok (.areturn, 1) := by decide +kernel
theorem d_18_62 : decode M_18.2.2.1 62 = .ok (.ldc 143, 2) := by decide +kernel
theorem d_18_64 : decode M_18.2.2.1 64 = .ok (.areturn, 1) := by decide +kernel
theorem d_18_65 : decode M_18.2.2.1 65 = .ok (.ldc 144, 2) := by decide +kernel
theorem d_18_67 : decode M_18.2.2.1 67 = .ok (.areturn, 1) := by decide +kernel
theorem d_18_68 : decode M_18.2.2.1 68 = .ok (.ldc 145, 2) := by decide +kernel
theorem d_18_70 : decode M_18.2.2.1 70 = .ok (.areturn, 1) := by decide +kernel
theorem d_18_71 : decode M_18.2.2.1 71 = .ok (.ldc 146, 2) := by decide +kernel
theorem d_18_73 : decode M_18.2.2.1 73 = .ok (.areturn, 1) := by decide +kernel
theorem d_18_74 : decode M_18.2.2.1 74 = .ok (.ldc 148, 2) := by decide +kernel
theorem d_18_76 : decode M_18.2.2.1 76 = .ok (.areturn, 1) := by decide +kernel
theorem d_18_77 : decode M_18.2.2.1 77 = .ok (.ldc 150, 2) := by decide +kernel
theorem d_18_79 : decode M_18.2.2.1 79 = .ok (.areturn, 1) := by decide +kernel
theorem d_18_80 : decode M_18.2.2.1 80 = .ok (.ldc 152, 2) := by decide +kernel
theorem d_18_82 : decode M_18.2.2.1 82 = .ok (.areturn, 1) := by decide +kernel
theorem d_18_83 : decode M_18.2.2.1 83 = .ok (.ldc 154, 2) := by decide +kernel
theorem d_18_85 : decode M_18.2.2.1 85 = .ok (.areturn, 1) := by decide +kernel
theorem d_18_86 : decode M_18.2.2.1 86 = .ok (.ldc 156, 2) := by decide +kernel
theorem d_18_88 : decode M_18.2.2.1 88 = .ok (.areturn, 1) := by decide +kernel
/-- HeardBarrels$Reader.isWord(I)Z -/
def M_19 : am_MT := (6, ⟨"HeardBarrels$Reader", "isWord", "(I)Z"⟩, prog_6_method_14_code, 4, some .boolean, false, 1, (0, 0))
theorem hM_19 : am_ms[19]? = some M_19 := rfl
theorem d_19_0 : decode M_19.2.2.1 0 = .ok (.iload_n 1, 1) := by decide +kernel
theorem d_19_1 : decode M_19.2.2.1 1 = .ok (.invokestatic 129, 3) := by decide +kernel
theorem d_19_4 : decode M_19.2.2.1 4 = .ok (.astore_n 2, 1) := by decide +kernel
theorem d_19_5 : decode M_19.2.2.1 5 = .ok (.aload_n 0, 1) := by decide +kernel
theorem d_19_6 : decode M_19.2.2.1 6 = .ok (.getfield 46, 3) := by decide +kernel
theorem d_19_9 : decode M_19.2.2.1 9 = .ok (.iconst 1, 1) := by decide +kernel
theorem d_19_10 : decode M_19.2.2.1 10 = .ok (.if_icmp .ne 19, 3) := by decide +kernel
theorem d_19_13 : decode M_19.2.2.1 13 = .ok (.aload_n 0, 1) := by decide +kernel
theorem d_19_14 : decode M_19.2.2.1 14 = .ok (.getfield 32, 3) := by decide +kernel
theorem d_19_17 : decode M_19.2.2.1 17 = .ok (.aload_n 0, 1) := by decide +kernel
theorem d_19_18 : decode M_19.2.2.1 18 = .ok (.getfield 114, 3) := by decide +kernel
theorem d_19_21 : decode M_19.2.2.1 21 = .ok (.isub, 1) := by decide +kernel
theorem d_19_22 : decode M_19.2.2.1 22 = .ok (.aload_n 2, 1) := by decide +kernel
theorem d_19_23 : decode M_19.2.2.1 23 = .ok (.invokevirtual 133, 3) := by decide +kernel
theorem d_19_26 : decode M_19.2.2.1 26 = .ok (.if_icmp .eq 5, 3) := by decide +kernel
theorem d_19_29 : decode M_19.2.2.1 29 = .ok (.iconst 0, 1) := by decide +kernel
theorem d_19_30 : decode M_19.2.2.1 30 = .ok (.ireturn, 1) := by decide +kernel
theorem d_19_31 : decode M_19.2.2.1 31 = .ok (.iconst 0, 1) := by decide +kernel
theorem d_19_32 : decode M_19.2.2.1 32 = .ok (.istore_n 3, 1) := by decide +kernel
theorem d_19_33 : decode M_19.2.2.1 33 = .ok (.iload_n 3, 1) := by decide +kernel
theorem d_19_34 : decode M_19.2.2.1 34 = .ok (.aload_n 2, 1) := by decide +kernel
theorem d_19_35 : decode M_19.2.2.1 35 = .ok (.invokevirtual 133, 3) := by decide +kernel
theorem d_19_38 : decode M_19.2.2.1 38 = .ok (.if_icmp .ge 30, 3) := by decide +kernel
theorem d_19_41 : decode M_19.2.2.1 41 = .ok (.aload_n 0, 1) := by decide +kernel
theorem d_19_42 : decode M_19.2.2.1 42 = .ok (.getfield 15, 3) := by decide +kernel
theorem d_19_45 : decode M_19.2.2.1 45 = .ok (.aload_n 0, 1) := by decide +kernel
theorem d_19_46 : decode M_19.2.2.1 46 = .ok (.getfield 114, 3) := by decide +kernel
theorem d_19_49 : decode M_19.2.2.1 49 = .ok (.iload_n 3, 1) := by decide +kernel
theorem d_19_50 : decode M_19.2.2.1 50 = .ok (.iadd, 1) := by decide +kernel
theorem d_19_51 : decode M_19.2.2.1 51 = .ok (.baload, 1) := by decide +kernel
theorem d_19_52 : decode M_19.2.2.1 52 = .ok (.aload_n 2, 1) := by decide +kernel
theorem d_19_53 : decode M_19.2.2.1 53 = .ok (.iload_n 3, 1) := by decide +kernel
theorem d_19_54 : decode M_19.2.2.1 54 = .ok (.invokevirtual 137, 3) := by decide +kernel
theorem d_19_57 : decode M_19.2.2.1 57 = .ok (.if_icmp .eq 5, 3) := by decide +kernel
theorem d_19_60 : decode M_19.2.2.1 60 = .ok (.iconst 0, 1) := by decide +kernel
theorem d_19_61 : decode M_19.2.2.1 61 = .ok (.ireturn, 1) := by decide +kernel
theorem d_19_62 : decode M_19.2.2.1 62 = .ok (.iinc 3 1, 3) := by decide +kernel
theorem d_19_65 : decode M_19.2.2.1 65 = .ok (.goto (-32), 3) := by decide +kernel
theorem d_19_68 : decode M_19.2.2.1 68 = .ok (.iconst 1, 1) := by decide +kernel
theorem d_19_69 : decode M_19.2.2.1 69 = .ok (.ireturn, 1) := by decide +kernel
/-- HeardBarrels$Reader.isDigit(I)Z -/
def M_27 : am_MT := (6, ⟨"HeardBarrels$Reader", "isDigit", "(I)Z"⟩, prog_6_method_17_code, 1, some .boolean, false, 1, (0, 0))
theorem hM_27 : am_ms[27]? = some M_27 := rfl
theorem d_27_0 : decode M_27.2.2.1 0 = .ok (.iload_n 0, 1) := by decide +kernel
theorem d_27_1 : decode M_27.2.2.1 1 = .ok (.bipush 48, 2) := by decide +kernel
theorem d_27_3 : decode M_27.2.2.1 3 = .ok (.if_icmp .lt 13, 3) := by decide +kernel
theorem d_27_6 : decode M_27.2.2.1 6 = .ok (.iload_n 0, 1) := by decide +kernel
theorem d_27_7 : decode M_27.2.2.1 7 = .ok (.bipush 57, 2) := by decide +kernel
theorem d_27_9 : decode M_27.2.2.1 9 = .ok (.if_icmp .gt 7, 3) := by decide +kernel
theorem d_27_12 : decode M_27.2.2.1 12 = .ok (.iconst 1, 1) := by decide +kernel
theorem d_27_13 : decode M_27.2.2.1 13 = .ok (.goto 4, 3) := by decide +kernel
theorem d_27_16 : decode M_27.2.2.1 16 = .ok (.iconst 0, 1) := by decide +kernel
theorem d_27_17 : decode M_27.2.2.1 17 = .ok (.ireturn, 1) := by decide +kernel
/-- HeardBarrels$Reader.stepOverDigits()V -/
def M_28 : am_MT := (6, ⟨"HeardBarrels$Reader", "stepOverDigits", "()V"⟩, prog_6_method_13_code, 2, none, false, 0, (0, 0))
theorem hM_28 : am_ms[28]? = some M_28 := rfl
theorem d_28_0 : decode M_28.2.2.1 0 = .ok (.iconst 0, 1) := by decide +kernel
theorem d_28_1 : decode M_28.2.2.1 1 = .ok (.istore_n 1, 1) := by decide +kernel
theorem d_28_2 : decode M_28.2.2.1 2 = .ok (.aload_n 0, 1) := by decide +kernel
theorem d_28_3 : decode M_28.2.2.1 3 = .ok (.getfield 32, 3) := by decide +kernel
theorem d_28_6 : decode M_28.2.2.1 6 = .ok (.aload_n 0, 1) := by decide +kernel
theorem d_28_7 : decode M_28.2.2.1 7 = .ok (.getfield 29, 3) := by decide +kernel
theorem d_28_10 : decode M_28.2.2.1 10 = .ok (.if_icmp .ge 55, 3) := by decide +kernel
theorem d_28_13 : decode M_28.2.2.1 13 = .ok (.aload_n 0, 1) := by decide +kernel
theorem d_28_14 : decode M_28.2.2.1 14 = .ok (.getfield 15, 3) := by decide +kernel
theorem d_28_17 : decode M_28.2.2.1 17 = .ok (.aload_n 0, 1) := by decide +kernel
theorem d_28_18 : decode M_28.2.2.1 18 = .ok (.getfield 32, 3) := by decide +kernel
theorem d_28_21 : decode M_28.2.2.1 21 = .ok (.baload, 1) := by decide +kernel
theorem d_28_22 : decode M_28.2.2.1 22 = .ok (.invokestatic 123, 3) := by decide +kernel
theorem d_28_25 : decode M_28.2.2.1 25 = .ok (.ifCond .eq 40, 3) := by decide +kernel
theorem d_28_28 : decode M_28.2.2.1 28 = .ok (.sipush 1000, 3) := by decide +kernel
theorem d_28_31 : decode M_28.2.2.1 31 = .ok (.iload_n 1, 1) := by decide +kernel
theorem d_28_32 : decode M_28.2.2.1 32 = .ok (.bipush 10, 2) := by decide +kernel
theorem d_28_34 : decode M_28.2.2.1 34 = .ok (.imul, 1) := by decide +kernel
theorem d_28_35 : decode M_28.2.2.1 35 = .ok (.aload_n 0, 1) := by decide +kernel
theorem d_28_36 : decode M_28.2.2.1 36 = .ok (.getfield 15, 3) := by decide +kernel
theorem d_28_39 : decode M_28.2.2.1 39 = .ok (.aload_n 0, 1) := by decide +kernel
theorem d_28_40 : decode M_28.2.2.1 40 = .ok (.getfield 32, 3) := by decide +kernel
theorem d_28_43 : decode M_28.2.2.1 43 = .ok (.baload, 1) := by decide +kernel
theorem d_28_44 : decode M_28.2.2.1 44 = .ok (.iadd, 1) := by decide +kernel
theorem d_28_45 : decode M_28.2.2.1 45 = .ok (.bipush 48, 2) := by decide +kernel
theorem d_28_47 : decode M_28.2.2.1 47 = .ok (.isub, 1) := by decide +kernel
theorem d_28_48 : decode M_28.2.2.1 48 = .ok (.invokestatic 23, 3) := by decide +kernel
theorem d_28_51 : decode M_28.2.2.1 51 = .ok (.istore_n 1, 1) := by decide +kernel
theorem d_28_52 : decode M_28.2.2.1 52 = .ok (.aload_n 0, 1) := by decide +kernel
theorem d_28_53 : decode M_28.2.2.1 53 = .ok (.dup, 1) := by decide +kernel
theorem d_28_54 : decode M_28.2.2.1 54 = .ok (.getfield 32, 3) := by decide +kernel
theorem d_28_57 : decode M_28.2.2.1 57 = .ok (.iconst 1, 1) := by decide +kernel
theorem d_28_58 : decode M_28.2.2.1 58 = .ok (.iadd, 1) := by decide +kernel
theorem d_28_59 : decode M_28.2.2.1 59 = .ok (.putfield 32, 3) := by decide +kernel
theorem d_28_62 : decode M_28.2.2.1 62 = .ok (.goto (-60), 3) := by decide +kernel
theorem d_28_65 : decode M_28.2.2.1 65 = .ok (.aload_n 0, 1) := by decide +kernel
theorem d_28_66 : decode M_28.2.2.1 66 = .ok (.aload_n 0, 1) := by decide +kernel
theorem d_28_67 : decode M_28.2.2.1 67 = .ok (.getfield 32, 3) := by decide +kernel
theorem d_28_70 : decode M_28.2.2.1 70 = .ok (.aload_n 0, 1) := by decide +kernel
theorem d_28_71 : decode M_28.2.2.1 71 = .ok (.getfield 114, 3) := by decide +kernel
theorem d_28_74 : decode M_28.2.2.1 74 = .ok (.isub, 1) := by decide +kernel
theorem d_28_75 : decode M_28.2.2.1 75 = .ok (.iconst 3, 1) := by decide +kernel
theorem d_28_76 : decode M_28.2.2.1 76 = .ok (.if_icmp .le 7, 3) := by decide +kernel
theorem d_28_79 : decode M_28.2.2.1 79 = .ok (.iconst 4, 1) := by decide +kernel
theorem d_28_80 : decode M_28.2.2.1 80 = .ok (.goto 4, 3) := by decide +kernel
theorem d_28_83 : decode M_28.2.2.1 83 = .ok (.iconst 2, 1) := by decide +kernel
theorem d_28_84 : decode M_28.2.2.1 84 = .ok (.putfield 46, 3) := by decide +kernel
theorem d_28_87 : decode M_28.2.2.1 87 = .ok (.aload_n 0, 1) := by decide +kernel
theorem d_28_88 : decode M_28.2.2.1 88 = .ok (.iload_n 1, 1) := by decide +kernel
theorem d_28_89 : decode M_28.2.2.1 89 = .ok (.putfield 111, 3) := by decide +kernel
theorem d_28_92 : decode M_28.2.2.1 92 = .ok (.return_, 1) := by decide +kernel
/-- HeardBarrels$Reader.readsLine()Z -/
def M_29 : am_MT := (6, ⟨"HeardBarrels$Reader", "readsLine", "()Z"⟩, prog_6_method_3_code, 3, some .boolean, false, 0, (0, 0))
theorem hM_29 : am_ms[29]? = some M_29 := rfl
theorem d_29_0 : decode M_29.2.2.1 0 = .ok (.aload_n 0, 1) := by decide +kernel
theorem d_29_1 : decode M_29.2.2.1 1 = .ok (.invokevirtual 56, 3) := by decide +kernel
theorem d_29_4 : decode M_29.2.2.1 4 = .ok (.istore_n 1, 1) := by decide +kernel
theorem d_29_5 : decode M_29.2.2.1 5 = .ok (.iload_n 1, 1) := by decide +kernel
theorem d_29_6 : decode M_29.2.2.1 6 = .ok (.iconst (-1), 1) := by decide +kernel
theorem d_29_7 : decode M_29.2.2.1 7 = .ok (.if_icmp .ne 9, 3) := by decide +kernel
theorem d_29_10 : decode M_29.2.2.1 10 = .ok (.aload_n 0, 1) := by decide +kernel
theorem d_29_11 : decode M_29.2.2.1 11 = .ok (.iconst 2, 1) := by decide +kernel
theorem d_29_12 : decode M_29.2.2.1 12 = .ok (.invokevirtual 60, 3) := by decide +kernel
theorem d_29_15 : decode M_29.2.2.1 15 = .ok (.ireturn, 1) := by decide +kernel
theorem d_29_16 : decode M_29.2.2.1 16 = .ok (.iload_n 1, 1) := by decide +kernel
theorem d_29_17 : decode M_29.2.2.1 17 = .ok (.iconst 5, 1) := by decide +kernel
theorem d_29_18 : decode M_29.2.2.1 18 = .ok (.if_icmp .lt 21, 3) := by decide +kernel
theorem d_29_21 : decode M_29.2.2.1 21 = .ok (.aload_n 0, 1) := by decide +kernel
theorem d_29_22 : decode M_29.2.2.1 22 = .ok (.getfield 19, 3) := by decide +kernel
theorem d_29_25 : decode M_29.2.2.1 25 = .ok (.getfield 64, 3) := by decide +kernel
theorem d_29_28 : decode M_29.2.2.1 28 = .ok (.bipush 12, 2) := by decide +kernel
theorem d_29_30 : decode M_29.2.2.1 30 = .ok (.if_icmp .lt 9, 3) := by decide +kernel
theorem d_29_33 : decode M_29.2.2.1 33 = .ok (.aload_n 0, 1) := by decide +kernel
theorem d_29_34 : decode M_29.2.2.1 34 = .ok (.iconst 4, 1) := by decide +kernel
theorem d_29_35 : decode M_29.2.2.1 35 = .ok (.invokevirtual 60, 3) := by decide +kernel
theorem d_29_38 : decode M_29.2.2.1 38 = .ok (.ireturn, 1) := by decide +kernel
theorem d_29_39 : decode M_29.2.2.1 39 = .ok (.aload_n 0, 1) := by decide +kernel
theorem d_29_40 : decode M_29.2.2.1 40 = .ok (.invokevirtual 43, 3) := by decide +kernel
theorem d_29_43 : decode M_29.2.2.1 43 = .ok (.iload_n 1, 1) := by decide +kernel
theorem d_29_44 : decode M_29.2.2.1 44 = .ok (.iconst 5, 1) := by decide +kernel
theorem d_29_45 : decode M_29.2.2.1 45 = .ok (.if_icmp .ne 10, 3) := by decide +kernel
theorem d_29_48 : decode M_29.2.2.1 48 = .ok (.aload_n 0, 1) := by decide +kernel
theorem d_29_49 : decode M_29.2.2.1 49 = .ok (.invokevirtual 67, 3) := by decide +kernel
theorem d_29_52 : decode M_29.2.2.1 52 = .ok (.goto 21, 3) := by decide +kernel
theorem d_29_55 : decode M_29.2.2.1 55 = .ok (.iload_n 1, 1) := by decide +kernel
theorem d_29_56 : decode M_29.2.2.1 56 = .ok (.bipush 6, 2) := by decide +kernel
theorem d_29_58 : decode M_29.2.2.1 58 = .ok (.if_icmp .ne 10, 3) := by decide +kernel
theorem d_29_61 : decode M_29.2.2.1 61 = .ok (.aload_n 0, 1) := by decide +kernel
theorem d_29_62 : decode M_29.2.2.1 62 = .ok (.invokevirtual 70, 3) := by decide +kernel
theorem d_29_65 : decode M_29.2.2.1 65 = .ok (.goto 8, 3) := by decide +kernel
theorem d_29_68 : decode M_29.2.2.1 68 = .ok (.aload_n 0, 1) := by decide +kernel
theorem d_29_69 : decode M_29.2.2.1 69 = .ok (.iload_n 1, 1) := by decide +kernel
theorem d_29_70 : decode M_29.2.2.1 70 = .ok (.invokevirtual 73, 3) := by decide +kernel
theorem d_29_73 : decode M_29.2.2.1 73 = .ok (.istore_n 2, 1) := by decide +kernel
theorem d_29_74 : decode M_29.2.2.1 74 = .ok (.iload_n 2, 1) := by decide +kernel
theorem d_29_75 : decode M_29.2.2.1 75 = .ok (.ifCond .ne 5, 3) := by decide +kernel
theorem d_29_78 : decode M_29.2.2.1 78 = .ok (.iconst 0, 1) := by decide +kernel
theorem d_29_79 : decode M_29.2.2.1 79 = .ok (.ireturn, 1) := by decide +kernel
theorem d_29_80 : decode M_29.2.2.1 80 = .ok (.aload_n 0, 1) := by decide +kernel
theorem d_29_81 : decode M_29.2.2.1 81 = .ok (.getfield 46, 3) := by decide +kernel
theorem d_29_84 : decode M_29.2.2.1 84 = .ok (.iconst 3, 1) := by decide +kernel
theorem d_29_85 : decode M_29.2.2.1 85 = .ok (.if_icmp .eq 9, 3) := by decide +kernel
theorem d_29_88 : decode M_29.2.2.1 88 = .ok (.aload_n 0, 1) := by decide +kernel
theorem d_29_89 : decode M_29.2.2.1 89 = .ok (.iconst 2, 1) := by decide +kernel
theorem d_29_90 : decode M_29.2.2.1 90 = .ok (.invokevirtual 60, 3) := by decide +kernel
theorem d_29_93 : decode M_29.2.2.1 93 = .ok (.ireturn, 1) := by decide +kernel
theorem d_29_94 : decode M_29.2.2.1 94 = .ok (.aload_n 0, 1) := by decide +kernel
theorem d_29_95 : decode M_29.2.2.1 95 = .ok (.invokevirtual 43, 3) := by decide +kernel
theorem d_29_98 : decode M_29.2.2.1 98 = .ok (.iconst 1, 1) := by decide +kernel
theorem d_29_99 : decode M_29.2.2.1 99 = .ok (.ireturn, 1) := by decide +kernel
/-- HeardBarrels$Reader.refuses(I)Z -/
def M_30 : am_MT := (6, ⟨"HeardBarrels$Reader", "refuses", "(I)Z"⟩, prog_6_method_10_code, 2, some .boolean, false, 1, (0, 0))
theorem hM_30 : am_ms[30]? = some M_30 := rfl
theorem d_30_0 : decode M_30.2.2.1 0 = .ok (.aload_n 0, 1) := by decide +kernel
theorem d_30_1 : decode M_30.2.2.1 1 = .ok (.aload_n 0, 1) := by decide +kernel
theorem d_30_2 : decode M_30.2.2.1 2 = .ok (.getfield 46, 3) := by decide +kernel
theorem d_30_5 : decode M_30.2.2.1 5 = .ok (.iconst 4, 1) := by decide +kernel
theorem d_30_6 : decode M_30.2.2.1 6 = .ok (.if_icmp .ne 7, 3) := by decide +kernel
theorem d_30_9 : decode M_30.2.2.1 9 = .ok (.iconst 1, 1) := by decide +kernel
theorem d_30_10 : decode M_30.2.2.1 10 = .ok (.goto 4, 3) := by decide +kernel
theorem d_30_13 : decode M_30.2.2.1 13 = .ok (.iload_n 1, 1) := by decide +kernel
theorem d_30_14 : decode M_30.2.2.1 14 = .ok (.putfield 35, 3) := by decide +kernel
theorem d_30_17 : decode M_30.2.2.1 17 = .ok (.aload_n 0, 1) := by decide +kernel
theorem d_30_18 : decode M_30.2.2.1 18 = .ok (.aload_n 0, 1) := by decide +kernel
theorem d_30_19 : decode M_30.2.2.1 19 = .ok (.getfield 114, 3) := by decide +kernel
theorem d_30_22 : decode M_30.2.2.1 22 = .ok (.putfield 9, 3) := by decide +kernel
theorem d_30_25 : decode M_30.2.2.1 25 = .ok (.iconst 0, 1) := by decide +kernel
theorem d_30_26 : decode M_30.2.2.1 26 = .ok (.ireturn, 1) := by decide +kernel
/-- HeardBarrels$Reader.readsBarrel()Z -/
def M_31 : am_MT := (6, ⟨"HeardBarrels$Reader", "readsBarrel", "()Z"⟩, prog_6_method_6_code, 5, some .boolean, false, 0, (0, 0))
theorem hM_31 : am_ms[31]? = some M_31 := rfl
theorem d_31_0 : decode M_31.2.2.1 0 = .ok (.aload_n 0, 1) := by decide +kernel
theorem d_31_1 : decode M_31.2.2.1 1 = .ok (.iconst 1, 1) := by decide +kernel
theorem d_31_2 : decode M_31.2.2.1 2 = .ok (.bipush 9, 2) := by decide +kernel
theorem d_31_4 : decode M_31.2.2.1 4 = .ok (.invokevirtual 83, 3) := by decide +kernel
theorem d_31_7 : decode M_31.2.2.1 7 = .ok (.istore_n 1, 1) := by decide +kernel
theorem d_31_8 : decode M_31.2.2.1 8 = .ok (.iload_n 1, 1) := by decide +kernel
theorem d_31_9 : decode M_31.2.2.1 9 = .ok (.ifCond .ge 5, 3) := by decide +kernel
theorem d_31_12 : decode M_31.2.2.1 12 = .ok (.iconst 0, 1) := by decide +kernel
theorem d_31_13 : decode M_31.2.2.1 13 = .ok (.ireturn, 1) := by decide +kernel
theorem d_31_14 : decode M_31.2.2.1 14 = .ok (.aload_n 0, 1) := by decide +kernel
theorem d_31_15 : decode M_31.2.2.1 15 = .ok (.bipush 7, 2) := by decide +kernel
theorem d_31_17 : decode M_31.2.2.1 17 = .ok (.invokevirtual 86, 3) := by decide +kernel
theorem d_31_20 : decode M_31.2.2.1 20 = .ok (.ifCond .eq 13, 3) := by decide +kernel
theorem d_31_23 : decode M_31.2.2.1 23 = .ok (.aload_n 0, 1) := by decide +kernel
theorem d_31_24 : decode M_31.2.2.1 24 = .ok (.iconst 0, 1) := by decide +kernel
theorem d_31_25 : decode M_31.2.2.1 25 = .ok (.bipush 100, 2) := by decide +kernel
theorem d_31_27 : decode M_31.2.2.1 27 = .ok (.invokevirtual 83, 3) := by decide +kernel
theorem d_31_30 : decode M_31.2.2.1 30 = .ok (.goto 4, 3) := by decide +kernel
theorem d_31_33 : decode M_31.2.2.1 33 = .ok (.iconst 0, 1) := by decide +kernel
theorem d_31_34 : decode M_31.2.2.1 34 = .ok (.istore_n 2, 1) := by decide +kernel
theorem d_31_35 : decode M_31.2.2.1 35 = .ok (.iload_n 2, 1) := by decide +kernel
theorem d_31_36 : decode M_31.2.2.1 36 = .ok (.ifCond .ge 5, 3) := by decide +kernel
theorem d_31_39 : decode M_31.2.2.1 39 = .ok (.iconst 0, 1) := by decide +kernel
theorem d_31_40 : decode M_31.2.2.1 40 = .ok (.ireturn, 1) := by decide +kernel
theorem d_31_41 : decode M_31.2.2.1 41 = .ok (.aload_n 0, 1) := by decide +kernel
theorem d_31_42 : decode M_31.2.2.1 42 = .ok (.bipush 8, 2) := by decide +kernel
theorem d_31_44 : decode M_31.2.2.1 44 = .ok (.invokevirtual 86, 3) := by decide +kernel
theorem d_31_47 : decode M_31.2.2.1 47 = .ok (.ifCond .eq 13, 3) := by decide +kernel
theorem d_31_50 : decode M_31.2.2.1 50 = .ok (.aload_n 0, 1) := by decide +kernel
theorem d_31_51 : decode M_31.2.2.1 51 = .ok (.iconst 0, 1) := by decide +kernel
theorem d_31_52 : decode M_31.2.2.1 52 = .ok (.bipush 9, 2) := by decide +kernel
theorem d_31_54 : decode M_31.2.2.1 54 = .ok (.invokevirtual 83, 3) := by decide +kernel
theorem d_31_57 : decode M_31.2.2.1 57 = .ok (.goto 4, 3) := by decide +kernel
theorem d_31_60 : decode M_31.2.2.1 60 = .ok (.iconst 0, 1) := by decide +kernel
theorem d_31_61 : decode M_31.2.2.1 61 = .ok (.istore_n 3, 1) := by decide +kernel
theorem d_31_62 : decode M_31.2.2.1 62 = .ok (.iload_n 3, 1) := by decide +kernel
theorem d_31_63 : decode M_31.2.2.1 63 = .ok (.ifCond .ge 5, 3) := by decide +kernel
theorem d_31_66 : decode M_31.2.2.1 66 = .ok (.iconst 0, 1) := by decide +kernel
theorem d_31_67 : decode M_31.2.2.1 67 = .ok (.ireturn, 1) := by decide +kernel
theorem d_31_68 : decode M_31.2.2.1 68 = .ok (.aload_n 0, 1) := by decide +kernel
theorem d_31_69 : decode M_31.2.2.1 69 = .ok (.bipush 9, 2) := by decide +kernel
theorem d_31_71 : decode M_31.2.2.1 71 = .ok (.invokevirtual 86, 3) := by decide +kernel
theorem d_31_74 : decode M_31.2.2.1 74 = .ok (.ifCond .eq 7, 3) := by decide +kernel
theorem d_31_77 : decode M_31.2.2.1 77 = .ok (.iconst 1, 1) := by decide +kernel
theorem d_31_78 : decode M_31.2.2.1 78 = .ok (.goto 17, 3) := by decide +kernel
theorem d_31_81 : decode M_31.2.2.1 81 = .ok (.aload_n 0, 1) := by decide +kernel
theorem d_31_82 : decode M_31.2.2.1 82 = .ok (.bipush 10, 2) := by decide +kernel
theorem d_31_84 : decode M_31.2.2.1 84 = .ok (.invokevirtual 86, 3) := by decide +kernel
theorem d_31_87 : decode M_31.2.2.1 87 = .ok (.ifCond .eq 7, 3) := by decide +kernel
theorem d_31_90 : decode M_31.2.2.1 90 = .ok (.iconst 2, 1) := by decide +kernel
theorem d_31_91 : decode M_31.2.2.1 91 = .ok (.goto 4, 3) := by decide +kernel
theorem d_31_94 : decode M_31.2.2.1 94 = .ok (.iconst 0, 1) := by decide +kernel
theorem d_31_95 : decode M_31.2.2.1 95 = .ok (.istore 4, 2) := by decide +kernel
theorem d_31_97 : decode M_31.2.2.1 97 = .ok (.aload_n 0, 1) := by decide +kernel
theorem d_31_98 : decode M_31.2.2.1 98 = .ok (.getfield 19, 3) := by decide +kernel
theorem d_31_101 : decode M_31.2.2.1 101 = .ok (.aload_n 0, 1) := by decide +kernel
theorem d_31_102 : decode M_31.2.2.1 102 = .ok (.getfield 19, 3) := by decide +kernel
theorem d_31_105 : decode M_31.2.2.1 105 = .ok (.getfield 64, 3) := by decide +kernel
theorem d_31_108 : decode M_31.2.2.1 108 = .ok (.iload 4, 2) := by decide +kernel
theorem d_31_110 : decode M_31.2.2.1 110 = .ok (.iload_n 1, 1) := by decide +kernel
theorem d_31_111 : decode M_31.2.2.1 111 = .ok (.iload_n 2, 1) := by decide +kernel
theorem d_31_112 : decode M_31.2.2.1 112 = .ok (.iload_n 3, 1) := by decide +kernel
theorem d_31_113 : decode M_31.2.2.1 113 = .ok (.invokevirtual 79, 3) := by decide +kernel
theorem d_31_116 : decode M_31.2.2.1 116 = .ok (.aload_n 0, 1) := by decide +kernel
theorem d_31_117 : decode M_31.2.2.1 117 = .ok (.getfield 19, 3) := by decide +kernel
theorem d_31_120 : decode M_31.2.2.1 120 = .ok (.dup, 1) := by decide +kernel
theorem d_31_121 : decode M_31.2.2.1 121 = .ok (.getfield 64, 3) := by decide +kernel
theorem d_31_124 : decode M_31.2.2.1 124 = .ok (.iconst 1, 1) := by decide +kernel
theorem d_31_125 : decode M_31.2.2.1 125 = .ok (.iadd, 1) := by decide +kernel
theorem d_31_126 : decode M_31.2.2.1 126 = .ok (.putfield 64, 3) := by decide +kernel
theorem d_31_129 : decode M_31.2.2.1 129 = .ok (.iconst 1, 1) := by decide +kernel
theorem d_31_130 : decode M_31.2.2.1 130 = .ok (.ireturn, 1) := by decide +kernel
/-- HeardBarrels$Reader.numberWithin(II)I -/
def M_32 : am_MT := (6, ⟨"HeardBarrels$Reader", "numberWithin", "(II)I"⟩, prog_6_method_9_code, 4, some .int, false, 2, (0, 0))
theorem hM_32 : am_ms[32]? = some M_32 := rfl
theorem d_32_0 : decode M_32.2.2.1 0 = .ok (.aload_n 0, 1) := by decide +kernel
theorem d_32_1 : decode M_32.2.2.1 1 = .ok (.getfield 111, 3) := by decide +kernel
theorem d_32_4 : decode M_32.2.2.1 4 = .ok (.istore_n 3, 1) := by decide +kernel
theorem d_32_5 : decode M_32.2.2.1 5 = .ok (.aload_n 0, 1) := by decide +kernel
theorem d_32_6 : decode M_32.2.2.1 6 = .ok (.getfield 46, 3) := by decide +kernel
theorem d_32_9 : decode M_32.2.2.1 9 = .ok (.iconst 2, 1) := by decide +kernel
theorem d_32_10 : decode M_32.2.2.1 10 = .ok (.if_icmp .eq 11, 3) := by decide +kernel
theorem d_32_13 : decode M_32.2.2.1 13 = .ok (.aload_n 0, 1) := by decide +kernel
theorem d_32_14 : decode M_32.2.2.1 14 = .ok (.iconst 2, 1) := by decide +kernel
theorem d_32_15 : decode M_32.2.2.1 15 = .ok (.invokevirtual 60, 3) := by decide +kernel
theorem d_32_18 : decode M_32.2.2.1 18 = .ok (.pop, 1) := by decide +kernel
theorem d_32_19 : decode M_32.2.2.1 19 = .ok (.iconst (-1), 1) := by decide +kernel
theorem d_32_20 : decode M_32.2.2.1 20 = .ok (.ireturn, 1) := by decide +kernel
theorem d_32_21 : decode M_32.2.2.1 21 = .ok (.iload_n 3, 1) := by decide +kernel
theorem d_32_22 : decode M_32.2.2.1 22 = .ok (.iload_n 1, 1) := by decide +kernel
theorem d_32_23 : decode M_32.2.2.1 23 = .ok (.if_icmp .lt 8, 3) := by decide +kernel
theorem d_32_26 : decode M_32.2.2.1 26 = .ok (.iload_n 3, 1) := by decide +kernel
theorem d_32_27 : decode M_32.2.2.1 27 = .ok (.iload_n 2, 1) := by decide +kernel
theorem d_32_28 : decode M_32.2.2.1 28 = .ok (.if_icmp .le 11, 3) := by decide +kernel
theorem d_32_31 : decode M_32.2.2.1 31 = .ok (.aload_n 0, 1) := by decide +kernel
theorem d_32_32 : decode M_32.2.2.1 32 = .ok (.iconst 3, 1) := by decide +kernel
theorem d_32_33 : decode M_32.2.2.1 33 = .ok (.invokevirtual 60, 3) := by decide +kernel
theorem d_32_36 : decode M_32.2.2.1 36 = .ok (.pop, 1) := by decide +kernel
theorem d_32_37 : decode M_32.2.2.1 37 = .ok (.iconst (-1), 1) := by decide +kernel
theorem d_32_38 : decode M_32.2.2.1 38 = .ok (.ireturn, 1) := by decide +kernel
theorem d_32_39 : decode M_32.2.2.1 39 = .ok (.aload_n 0, 1) := by decide +kernel
theorem d_32_40 : decode M_32.2.2.1 40 = .ok (.invokevirtual 43, 3) := by decide +kernel
theorem d_32_43 : decode M_32.2.2.1 43 = .ok (.iload_n 3, 1) := by decide +kernel
theorem d_32_44 : decode M_32.2.2.1 44 = .ok (.ireturn, 1) := by decide +kernel
/-- HeardBarrels$Reader.passes(I)Z -/
def M_33 : am_MT := (6, ⟨"HeardBarrels$Reader", "passes", "(I)Z"⟩, prog_6_method_8_code, 2, some .boolean, false, 1, (0, 0))
theorem hM_33 : am_ms[33]? = some M_33 := rfl
theorem d_33_0 : decode M_33.2.2.1 0 = .ok (.aload_n 0, 1) := by decide +kernel
theorem d_33_1 : decode M_33.2.2.1 1 = .ok (.iload_n 1, 1) := by decide +kernel
theorem d_33_2 : decode M_33.2.2.1 2 = .ok (.invokevirtual 76, 3) := by decide +kernel
theorem d_33_5 : decode M_33.2.2.1 5 = .ok (.ifCond .ne 5, 3) := by decide +kernel
theorem d_33_8 : decode M_33.2.2.1 8 = .ok (.iconst 0, 1) := by decide +kernel
theorem d_33_9 : decode M_33.2.2.1 9 = .ok (.ireturn, 1) := by decide +kernel
theorem d_33_10 : decode M_33.2.2.1 10 = .ok (.aload_n 0, 1) := by decide +kernel
theorem d_33_11 : decode M_33.2.2.1 11 = .ok (.invokevirtual 43, 3) := by decide +kernel
theorem d_33_14 : decode M_33.2.2.1 14 = .ok (.iconst 1, 1) := by decide +kernel
theorem d_33_15 : decode M_33.2.2.1 15 = .ok (.ireturn, 1) := by decide +kernel
/-- HeardBarrels$Shelf.lay(IIIII)V -/
def M_34 : am_MT := (8, ⟨"HeardBarrels$Shelf", "lay", "(IIIII)V"⟩, prog_8_method_4_code, 6, none, false, 5, (0, 0))
theorem hM_34 : am_ms[34]? = some M_34 := rfl
theorem d_34_0 : decode M_34.2.2.1 0 = .ok (.iload_n 1, 1) := by decide +kernel
theorem d_34_1 : decode M_34.2.2.1 1 = .ok (.ifCond .lt 9, 3) := by decide +kernel
theorem d_34_4 : decode M_34.2.2.1 4 = .ok (.iload_n 1, 1) := by decide +kernel
theorem d_34_5 : decode M_34.2.2.1 5 = .ok (.bipush 12, 2) := by decide +kernel
theorem d_34_7 : decode M_34.2.2.1 7 = .ok (.if_icmp .lt 4, 3) := by decide +kernel
theorem d_34_10 : decode M_34.2.2.1 10 = .ok (.return_, 1) := by decide +kernel
theorem d_34_11 : decode M_34.2.2.1 11 = .ok (.aload_n 0, 1) := by decide +kernel
theorem d_34_12 : decode M_34.2.2.1 12 = .ok (.getfield 9, 3) := by decide +kernel
theorem d_34_15 : decode M_34.2.2.1 15 = .ok (.iload_n 1, 1) := by decide +kernel
theorem d_34_16 : decode M_34.2.2.1 16 = .ok (.iload_n 2, 1) := by decide +kernel
theorem d_34_17 : decode M_34.2.2.1 17 = .ok (.iastore, 1) := by decide +kernel
theorem d_34_18 : decode M_34.2.2.1 18 = .ok (.aload_n 0, 1) := by decide +kernel
theorem d_34_19 : decode M_34.2.2.1 19 = .ok (.getfield 15, 3) := by decide +kernel
theorem d_34_22 : decode M_34.2.2.1 22 = .ok (.iload_n 1, 1) := by decide +kernel
theorem d_34_23 : decode M_34.2.2.1 23 = .ok (.iload_n 3, 1) := by decide +kernel
theorem d_34_24 : decode M_34.2.2.1 24 = .ok (.iastore, 1) := by decide +kernel
theorem d_34_25 : decode M_34.2.2.1 25 = .ok (.aload_n 0, 1) := by decide +kernel
theorem d_34_26 : decode M_34.2.2.1 26 = .ok (.getfield 18, 3) := by decide +kernel
theorem d_34_29 : decode M_34.2.2.1 29 = .ok (.iload_n 1, 1) := by decide +kernel
theorem d_34_30 : decode M_34.2.2.1 30 = .ok (.iload 4, 2) := by decide +kernel
theorem d_34_32 : decode M_34.2.2.1 32 = .ok (.iastore, 1) := by decide +kernel
theorem d_34_33 : decode M_34.2.2.1 33 = .ok (.aload_n 0, 1) := by decide +kernel
theorem d_34_34 : decode M_34.2.2.1 34 = .ok (.getfield 21, 3) := by decide +kernel
theorem d_34_37 : decode M_34.2.2.1 37 = .ok (.iload_n 1, 1) := by decide +kernel
theorem d_34_38 : decode M_34.2.2.1 38 = .ok (.iload 5, 2) := by decide +kernel
theorem d_34_40 : decode M_34.2.2.1 40 = .ok (.iastore, 1) := by decide +kernel
theorem d_34_41 : decode M_34.2.2.1 41 = .ok (.return_, 1) := by decide +kernel
/-- HeardBarrels$Reader.addsGap()Z -/
def M_35 : am_MT := (6, ⟨"HeardBarrels$Reader", "addsGap", "()Z"⟩, prog_6_method_5_code, 1, some .boolean, false, 0, (0, 0))
theorem hM_35 : am_ms[35]? = some M_35 := rfl
theorem d_35_0 : decode M_35.2.2.1 0 = .ok (.aload_n 0, 1) := by decide +kernel
theorem d_35_1 : decode M_35.2.2.1 1 = .ok (.getfield 19, 3) := by decide +kernel
theorem d_35_4 : decode M_35.2.2.1 4 = .ok (.aload_n 0, 1) := by decide +kernel
theorem d_35_5 : decode M_35.2.2.1 5 = .ok (.getfield 19, 3) := by decide +kernel
theorem d_35_8 : decode M_35.2.2.1 8 = .ok (.getfield 64, 3) := by decide +kernel
theorem d_35_11 : decode M_35.2.2.1 11 = .ok (.iconst 3, 1) := by decide +kernel
theorem d_35_12 : decode M_35.2.2.1 12 = .ok (.iconst 0, 1) := by decide +kernel
theorem d_35_13 : decode M_35.2.2.1 13 = .ok (.iconst 0, 1) := by decide +kernel
theorem d_35_14 : decode M_35.2.2.1 14 = .ok (.iconst 0, 1) := by decide +kernel
theorem d_35_15 : decode M_35.2.2.1 15 = .ok (.invokevirtual 79, 3) := by decide +kernel
theorem d_35_18 : decode M_35.2.2.1 18 = .ok (.aload_n 0, 1) := by decide +kernel
theorem d_35_19 : decode M_35.2.2.1 19 = .ok (.getfield 19, 3) := by decide +kernel
theorem d_35_22 : decode M_35.2.2.1 22 = .ok (.dup, 1) := by decide +kernel
theorem d_35_23 : decode M_35.2.2.1 23 = .ok (.getfield 64, 3) := by decide +kernel
theorem d_35_26 : decode M_35.2.2.1 26 = .ok (.iconst 1, 1) := by decide +kernel
theorem d_35_27 : decode M_35.2.2.1 27 = .ok (.iadd, 1) := by decide +kernel
theorem d_35_28 : decode M_35.2.2.1 28 = .ok (.putfield 64, 3) := by decide +kernel
theorem d_35_31 : decode M_35.2.2.1 31 = .ok (.iconst 1, 1) := by decide +kernel
theorem d_35_32 : decode M_35.2.2.1 32 = .ok (.ireturn, 1) := by decide +kernel
/-- HeardBarrels$Reader.readsSetting(I)Z -/
def M_36 : am_MT := (6, ⟨"HeardBarrels$Reader", "readsSetting", "(I)Z"⟩, prog_6_method_7_code, 3, some .boolean, false, 1, (0, 0))
theorem hM_36 : am_ms[36]? = some M_36 := rfl
theorem d_36_0 : decode M_36.2.2.1 0 = .ok (.iload_n 1, 1) := by decide +kernel
theorem d_36_1 : decode M_36.2.2.1 1 = .ok (.ifCond .lt 11, 3) := by decide +kernel
theorem d_36_4 : decode M_36.2.2.1 4 = .ok (.iload_n 1, 1) := by decide +kernel
theorem d_36_5 : decode M_36.2.2.1 5 = .ok (.getstatic 89, 3) := by decide +kernel
theorem d_36_8 : decode M_36.2.2.1 8 = .ok (.arraylength, 1) := by decide +kernel
theorem d_36_9 : decode M_36.2.2.1 9 = .ok (.if_icmp .lt 9, 3) := by decide +kernel
theorem d_36_12 : decode M_36.2.2.1 12 = .ok (.aload_n 0, 1) := by decide +kernel
theorem d_36_13 : decode M_36.2.2.1 13 = .ok (.iconst 2, 1) := by decide +kernel
theorem d_36_14 : decode M_36.2.2.1 14 = .ok (.invokevirtual 60, 3) := by decide +kernel
theorem d_36_17 : decode M_36.2.2.1 17 = .ok (.ireturn, 1) := by decide +kernel
theorem d_36_18 : decode M_36.2.2.1 18 = .ok (.aload_n 0, 1) := by decide +kernel
theorem d_36_19 : decode M_36.2.2.1 19 = .ok (.getstatic 89, 3) := by decide +kernel
theorem d_36_22 : decode M_36.2.2.1 22 = .ok (.iload_n 1, 1) := by decide +kernel
theorem d_36_23 : decode M_36.2.2.1 23 = .ok (.iaload, 1) := by decide +kernel
theorem d_36_24 : decode M_36.2.2.1 24 = .ok (.getstatic 93, 3) := by decide +kernel
theorem d_36_27 : decode M_36.2.2.1 27 = .ok (.iload_n 1, 1) := by decide +kernel
theorem d_36_28 : decode M_36.2.2.1 28 = .ok (.iaload, 1) := by decide +kernel
theorem d_36_29 : decode M_36.2.2.1 29 = .ok (.invokevirtual 83, 3) := by decide +kernel
theorem d_36_32 : decode M_36.2.2.1 32 = .ok (.istore_n 2, 1) := by decide +kernel
theorem d_36_33 : decode M_36.2.2.1 33 = .ok (.iload_n 1, 1) := by decide +kernel
theorem d_36_34 : decode M_36.2.2.1 34 = .ok (.tableswitch 74 0 3 #[30, 41, 52, 63], 30) := by decide +kernel
theorem d_36_64 : decode M_36.2.2.1 64 = .ok (.aload_n 0, 1) := by decide +kernel
theorem d_36_65 : decode M_36.2.2.1 65 = .ok (.getfield 19, 3) := by decide +kernel
theorem d_36_68 : decode M_36.2.2.1 68 = .ok (.iload_n 2, 1) := by decide +kernel
theorem d_36_69 : decode M_36.2.2.1 69 = .ok (.putfield 96, 3) := by decide +kernel
theorem d_36_72 : decode M_36.2.2.1 72 = .ok (.goto 44, 3) := by decide +kernel
theorem d_36_75 : decode M_36.2.2.1 75 = .ok (.aload_n 0, 1) := by decide +kernel
theorem d_36_76 : decode M_36.2.2.1 76 = .ok (.getfield 19, 3) := by decide +kernel
theorem d_36_79 : decode M_36.2.2.1 79 = .ok (.iload_n 2, 1) := by decide +kernel
theorem d_36_80 : decode M_36.2.2.1 80 = .ok (.putfield 99, 3) := by decide +kernel
theorem d_36_83 : decode M_36.2.2.1 83 = .ok (.goto 33, 3) := by decide +kernel
theorem d_36_86 : decode M_36.2.2.1 86 = .ok (.aload_n 0, 1) := by decide +kernel
theorem d_36_87 : decode M_36.2.2.1 87 = .ok (.getfield 19, 3) := by decide +kernel
theorem d_36_90 : decode M_36.2.2.1 90 = .ok (.iload_n 2, 1) := by decide +kernel
theorem d_36_91 : decode M_36.2.2.1 91 = .ok (.putfield 102, 3) := by decide +kernel
theorem d_36_94 : decode M_36.2.2.1 94 = .ok (.goto 22, 3) := by decide +kernel
theorem d_36_97 : decode M_36.2.2.1 97 = .ok (.aload_n 0, 1) := by decide +kernel
theorem d_36_98 : decode M_36.2.2.1 98 = .ok (.getfield 19, 3) := by decide +kernel
theorem d_36_101 : decode M_36.2.2.1 101 = .ok (.iload_n 2, 1) := by decide +kernel
theorem d_36_102 : decode M_36.2.2.1 102 = .ok (.putfield 105, 3) := by decide +kernel
theorem d_36_105 : decode M_36.2.2.1 105 = .ok (.goto 11, 3) := by decide +kernel
theorem d_36_108 : decode M_36.2.2.1 108 = .ok (.aload_n 0, 1) := by decide +kernel
theorem d_36_109 : decode M_36.2.2.1 109 = .ok (.getfield 19, 3) := by decide +kernel
theorem d_36_112 : decode M_36.2.2.1 112 = .ok (.iload_n 2, 1) := by decide +kernel
theorem d_36_113 : decode M_36.2.2.1 113 = .ok (.putfield 108, 3) := by decide +kernel
theorem d_36_116 : decode M_36.2.2.1 116 = .ok (.iload_n 2, 1) := by decide +kernel
theorem d_36_117 : decode M_36.2.2.1 117 = .ok (.ifCond .lt 7, 3) := by decide +kernel
theorem d_36_120 : decode M_36.2.2.1 120 = .ok (.iconst 1, 1) := by decide +kernel
theorem d_36_121 : decode M_36.2.2.1 121 = .ok (.goto 4, 3) := by decide +kernel
theorem d_36_124 : decode M_36.2.2.1 124 = .ok (.iconst 0, 1) := by decide +kernel
theorem d_36_125 : decode M_36.2.2.1 125 = .ok (.ireturn, 1) := by decide +kernel
/-- HeardBarrels$Shelf.take(LHeardBarrels$Shelf;)V -/
def M_37 : am_MT := (8, ⟨"HeardBarrels$Shelf", "take", "(LHeardBarrels$Shelf;)V"⟩, prog_8_method_3_code, 3, none, false, 1, (0, 0))
theorem hM_37 : am_ms[37]? = some M_37 := rfl
theorem d_37_0 : decode M_37.2.2.1 0 = .ok (.iconst 0, 1) := by decide +kernel
theorem d_37_1 : decode M_37.2.2.1 1 = .ok (.istore_n 2, 1) := by decide +kernel
theorem d_37_2 : decode M_37.2.2.1 2 = .ok (.iload_n 2, 1) := by decide +kernel
theorem d_37_3 : decode M_37.2.2.1 3 = .ok (.bipush 12, 2) := by decide +kernel
theorem d_37_5 : decode M_37.2.2.1 5 = .ok (.if_icmp .ge 38, 3) := by decide +kernel
theorem d_37_8 : decode M_37.2.2.1 8 = .ok (.aload_n 0, 1) := by decide +kernel
theorem d_37_9 : decode M_37.2.2.1 9 = .ok (.iload_n 2, 1) := by decide +kernel
theorem d_37_10 : decode M_37.2.2.1 10 = .ok (.aload_n 1, 1) := by decide +kernel
theorem d_37_11 : decode M_37.2.2.1 11 = .ok (.getfield 9, 3) := by decide +kernel
theorem d_37_14 : decode M_37.2.2.1 14 = .ok (.iload_n 2, 1) := by decide +kernel
theorem d_37_15 : decode M_37.2.2.1 15 = .ok (.iaload, 1) := by decide +kernel
theorem d_37_16 : decode M_37.2.2.1 16 = .ok (.aload_n 1, 1) := by decide +kernel
theorem d_37_17 : decode M_37.2.2.1 17 = .ok (.getfield 15, 3) := by decide +kernel
theorem d_37_20 : decode M_37.2.2.1 20 = .ok (.iload_n 2, 1) := by decide +kernel
theorem d_37_21 : decode M_37.2.2.1 21 = .ok (.iaload, 1) := by decide +kernel
theorem d_37_22 : decode M_37.2.2.1 22 = .ok (.aload_n 1, 1) := by decide +kernel
theorem d_37_23 : decode M_37.2.2.1 23 = .ok (.getfield 18, 3) := by decide +kernel
theorem d_37_26 : decode M_37.2.2.1 26 = .ok (.iload_n 2, 1) := by decide +kernel
theorem d_37_27 : decode M_37.2.2.1 27 = .ok (.iaload, 1) := by decide +kernel
theorem d_37_28 : decode M_37.2.2.1 28 = .ok (.aload_n 1, 1) := by decide +kernel
theorem d_37_29 : decode M_37.2.2.1 29 = .ok (.getfield 21, 3) := by decide +kernel
theorem d_37_32 : decode M_37.2.2.1 32 = .ok (.iload_n 2, 1) := by decide +kernel
theorem d_37_33 : decode M_37.2.2.1 33 = .ok (.iaload, 1) := by decide +kernel
theorem d_37_34 : decode M_37.2.2.1 34 = .ok (.invokevirtual 52, 3) := by decide +kernel
theorem d_37_37 : decode M_37.2.2.1 37 = .ok (.iinc 2 1, 3) := by decide +kernel
theorem d_37_40 : decode M_37.2.2.1 40 = .ok (.goto (-38), 3) := by decide +kernel
theorem d_37_43 : decode M_37.2.2.1 43 = .ok (.aload_n 0, 1) := by decide +kernel
theorem d_37_44 : decode M_37.2.2.1 44 = .ok (.aload_n 1, 1) := by decide +kernel
theorem d_37_45 : decode M_37.2.2.1 45 = .ok (.getfield 27, 3) := by decide +kernel
theorem d_37_48 : decode M_37.2.2.1 48 = .ok (.putfield 27, 3) := by decide +kernel
theorem d_37_51 : decode M_37.2.2.1 51 = .ok (.aload_n 0, 1) := by decide +kernel
theorem d_37_52 : decode M_37.2.2.1 52 = .ok (.aload_n 1, 1) := by decide +kernel
theorem d_37_53 : decode M_37.2.2.1 53 = .ok (.getfield 31, 3) := by decide +kernel
theorem d_37_56 : decode M_37.2.2.1 56 = .ok (.putfield 31, 3) := by decide +kernel
theorem d_37_59 : decode M_37.2.2.1 59 = .ok (.aload_n 0, 1) := by decide +kernel
theorem d_37_60 : decode M_37.2.2.1 60 = .ok (.aload_n 1, 1) := by decide +kernel
theorem d_37_61 : decode M_37.2.2.1 61 = .ok (.getfield 34, 3) := by decide +kernel
theorem d_37_64 : decode M_37.2.2.1 64 = .ok (.putfield 34, 3) := by decide +kernel
theorem d_37_67 : decode M_37.2.2.1 67 = .ok (.aload_n 0, 1) := by decide +kernel
theorem d_37_68 : decode M_37.2.2.1 68 = .ok (.aload_n 1, 1) := by decide +kernel
theorem d_37_69 : decode M_37.2.2.1 69 = .ok (.getfield 37, 3) := by decide +kernel
theorem d_37_72 : decode M_37.2.2.1 72 = .ok (.putfield 37, 3) := by decide +kernel
theorem d_37_75 : decode M_37.2.2.1 75 = .ok (.aload_n 0, 1) := by decide +kernel
theorem d_37_76 : decode M_37.2.2.1 76 = .ok (.aload_n 1, 1) := by decide +kernel
theorem d_37_77 : decode M_37.2.2.1 77 = .ok (.getfield 40, 3) := by decide +kernel
theorem d_37_80 : decode M_37.2.2.1 80 = .ok (.putfield 40, 3) := by decide +kernel
theorem d_37_83 : decode M_37.2.2.1 83 = .ok (.aload_n 0, 1) := by decide +kernel
theorem d_37_84 : decode M_37.2.2.1 84 = .ok (.aload_n 1, 1) := by decide +kernel
theorem d_37_85 : decode M_37.2.2.1 85 = .ok (.getfield 43, 3) := by decide +kernel
theorem d_37_88 : decode M_37.2.2.1 88 = .ok (.putfield 43, 3) := by decide +kernel
theorem d_37_91 : decode M_37.2.2.1 91 = .ok (.aload_n 0, 1) := by decide +kernel
theorem d_37_92 : decode M_37.2.2.1 92 = .ok (.aload_n 1, 1) := by decide +kernel
theorem d_37_93 : decode M_37.2.2.1 93 = .ok (.getfield 46, 3) := by decide +kernel
theorem d_37_96 : decode M_37.2.2.1 96 = .ok (.putfield 46, 3) := by decide +kernel
theorem d_37_99 : decode M_37.2.2.1 99 = .ok (.aload_n 0, 1) := by decide +kernel
theorem d_37_100 : decode M_37.2.2.1 100 = .ok (.aload_n 1, 1) := by decide +kernel
theorem d_37_101 : decode M_37.2.2.1 101 = .ok (.getfield 49, 3) := by decide +kernel
theorem d_37_104 : decode M_37.2.2.1 104 = .ok (.putfield 49, 3) := by decide +kernel
theorem d_37_107 : decode M_37.2.2.1 107 = .ok (.return_, 1) := by decide +kernel
/-- HeardBarrels$Shelf.has(I)Z -/
def M_40 : am_MT := (8, ⟨"HeardBarrels$Shelf", "has", "(I)Z"⟩, prog_8_method_6_code, 2, some .boolean, false, 1, (0, 0))
theorem hM_40 : am_ms[40]? = some M_40 := rfl
theorem d_40_0 : decode M_40.2.2.1 0 = .ok (.iload_n 1, 1) := by decide +kernel
theorem d_40_1 : decode M_40.2.2.1 1 = .ok (.ifCond .lt 15, 3) := by decide +kernel
theorem d_40_4 : decode M_40.2.2.1 4 = .ok (.iload_n 1, 1) := by decide +kernel
theorem d_40_5 : decode M_40.2.2.1 5 = .ok (.aload_n 0, 1) := by decide +kernel
theorem d_40_6 : decode M_40.2.2.1 6 = .ok (.getfield 27, 3) := by decide +kernel
theorem d_40_9 : decode M_40.2.2.1 9 = .ok (.if_icmp .ge 7, 3) := by decide +kernel
theorem d_40_12 : decode M_40.2.2.1 12 = .ok (.iconst 1, 1) := by decide +kernel
theorem d_40_13 : decode M_40.2.2.1 13 = .ok (.goto 4, 3) := by decide +kernel
theorem d_40_16 : decode M_40.2.2.1 16 = .ok (.iconst 0, 1) := by decide +kernel
theorem d_40_17 : decode M_40.2.2.1 17 = .ok (.ireturn, 1) := by decide +kernel
/-- HeardBarrels$Shelf.exchange(II)V -/
def M_42 : am_MT := (8, ⟨"HeardBarrels$Shelf", "exchange", "(II)V"⟩, prog_8_method_5_code, 7, none, false, 2, (0, 0))
theorem hM_42 : am_ms[42]? = some M_42 := rfl
theorem d_42_0 : decode M_42.2.2.1 0 = .ok (.aload_n 0, 1) := by decide +kernel
theorem d_42_1 : decode M_42.2.2.1 1 = .ok (.iload_n 1, 1) := by decide +kernel
theorem d_42_2 : decode M_42.2.2.1 2 = .ok (.invokevirtual 56, 3) := by decide +kernel
theorem d_42_5 : decode M_42.2.2.1 5 = .ok (.ifCond .eq 11, 3) := by decide +kernel
theorem d_42_8 : decode M_42.2.2.1 8 = .ok (.aload_n 0, 1) := by decide +kernel
theorem d_42_9 : decode M_42.2.2.1 9 = .ok (.iload_n 2, 1) := by decide +kernel
theorem d_42_10 : decode M_42.2.2.1 10 = .ok (.invokevirtual 56, 3) := by decide +kernel
theorem d_42_13 : decode M_42.2.2.1 13 = .ok (.ifCond .ne 4, 3) := by decide +kernel
theorem d_42_16 : decode M_42.2.2.1 16 = .ok (.return_, 1) := by decide +kernel
theorem d_42_17 : decode M_42.2.2.1 17 = .ok (.aload_n 0, 1) := by decide +kernel
theorem d_42_18 : decode M_42.2.2.1 18 = .ok (.getfield 9, 3) := by decide +kernel
theorem d_42_21 : decode M_42.2.2.1 21 = .ok (.iload_n 1, 1) := by decide +kernel
theorem d_42_22 : decode M_42.2.2.1 22 = .ok (.iaload, 1) := by decide +kernel
theorem d_42_23 : decode M_42.2.2.1 23 = .ok (.istore_n 3, 1) := by decide +kernel
theorem d_42_24 : decode M_42.2.2.1 24 = .ok (.aload_n 0, 1) := by decide +kernel
theorem d_42_25 : decode M_42.2.2.1 25 = .ok (.getfield 15, 3) := by decide +kernel
theorem d_42_28 : decode M_42.2.2.1 28 = .ok (.iload_n 1, 1) := by decide +kernel
theorem d_42_29 : decode M_42.2.2.1 29 = .ok (.iaload, 1) := by decide +kernel
theorem d_42_30 : decode M_42.2.2.1 30 = .ok (.istore 4, 2) := by decide +kernel
theorem d_42_32 : decode M_42.2.2.1 32 = .ok (.aload_n 0, 1) := by decide +kernel
theorem d_42_33 : decode M_42.2.2.1 33 = .ok (.getfield 18, 3) := by decide +kernel
theorem d_42_36 : decode M_42.2.2.1 36 = .ok (.iload_n 1, 1) := by decide +kernel
theorem d_42_37 : decode M_42.2.2.1 37 = .ok (.iaload, 1) := by decide +kernel
theorem d_42_38 : decode M_42.2.2.1 38 = .ok (.istore 5, 2) := by decide +kernel
theorem d_42_40 : decode M_42.2.2.1 40 = .ok (.aload_n 0, 1) := by decide +kernel
theorem d_42_41 : decode M_42.2.2.1 41 = .ok (.getfield 21, 3) := by decide +kernel
theorem d_42_44 : decode M_42.2.2.1 44 = .ok (.iload_n 1, 1) := by decide +kernel
theorem d_42_45 : decode M_42.2.2.1 45 = .ok (.iaload, 1) := by decide +kernel
theorem d_42_46 : decode M_42.2.2.1 46 = .ok (.istore 6, 2) := by decide +kernel
theorem d_42_48 : decode M_42.2.2.1 48 = .ok (.aload_n 0, 1) := by decide +kernel
theorem d_42_49 : decode M_42.2.2.1 49 = .ok (.iload_n 1, 1) := by decide +kernel
theorem d_42_50 : decode M_42.2.2.1 50 = .ok (.aload_n 0, 1) := by decide +kernel
theorem d_42_51 : decode M_42.2.2.1 51 = .ok (.getfield 9, 3) := by decide +kernel
theorem d_42_54 : decode M_42.2.2.1 54 = .ok (.iload_n 2, 1) := by decide +kernel
theorem d_42_55 : decode M_42.2.2.1 55 = .ok (.iaload, 1) := by decide +kernel
theorem d_42_56 : decode M_42.2.2.1 56 = .ok (.aload_n 0, 1) := by decide +kernel
theorem d_42_57 : decode M_42.2.2.1 57 = .ok (.getfield 15, 3) := by decide +kernel
theorem d_42_60 : decode M_42.2.2.1 60 = .ok (.iload_n 2, 1) := by decide +kernel
theorem d_42_61 : decode M_42.2.2.1 61 = .ok (.iaload, 1) := by decide +kernel
theorem d_42_62 : decode M_42.2.2.1 62 = .ok (.aload_n 0, 1) := by decide +kernel
theorem d_42_63 : decode M_42.2.2.1 63 = .ok (.getfield 18, 3) := by decide +kernel
theorem d_42_66 : decode M_42.2.2.1 66 = .ok (.iload_n 2, 1) := by decide +kernel
theorem d_42_67 : decode M_42.2.2.1 67 = .ok (.iaload, 1) := by decide +kernel
theorem d_42_68 : decode M_42.2.2.1 68 = .ok (.aload_n 0, 1) := by decide +kernel
theorem d_42_69 : decode M_42.2.2.1 69 = .ok (.getfield 21, 3) := by decide +kernel
theorem d_42_72 : decode M_42.2.2.1 72 = .ok (.iload_n 2, 1) := by decide +kernel
theorem d_42_73 : decode M_42.2.2.1 73 = .ok (.iaload, 1) := by decide +kernel
theorem d_42_74 : decode M_42.2.2.1 74 = .ok (.invokevirtual 52, 3) := by decide +kernel
theorem d_42_77 : decode M_42.2.2.1 77 = .ok (.aload_n 0, 1) := by decide +kernel
theorem d_42_78 : decode M_42.2.2.1 78 = .ok (.iload_n 2, 1) := by decide +kernel
theorem d_42_79 : decode M_42.2.2.1 79 = .ok (.iload_n 3, 1) := by decide +kernel
theorem d_42_80 : decode M_42.2.2.1 80 = .ok (.iload 4, 2) := by decide +kernel
theorem d_42_82 : decode M_42.2.2.1 82 = .ok (.iload 5, 2) := by decide +kernel
theorem d_42_84 : decode M_42.2.2.1 84 = .ok (.iload 6, 2) := by decide +kernel
theorem d_42_86 : decode M_42.2.2.1 86 = .ok (.invokevirtual 52, 3) := by decide +kernel
theorem d_42_89 : decode M_42.2.2.1 89 = .ok (.return_, 1) := by decide +kernel
/-- HeardBarrels$Shelf.whyNot(J)I -/
def M_46 : am_MT := (8, ⟨"HeardBarrels$Shelf", "whyNot", "(J)I"⟩, prog_8_method_15_code, 3, some .int, false, 1, (0, 0))
theorem hM_46 : am_ms[46]? = some M_46 := rfl
theorem d_46_0 : decode M_46.2.2.1 0 = .ok (.lload_n 1, 1) := by decide +kernel
theorem d_46_1 : decode M_46.2.2.1 1 = .ok (.aload_n 0, 1) := by decide +kernel
theorem d_46_2 : decode M_46.2.2.1 2 = .ok (.invokevirtual 64, 3) := by decide +kernel
theorem d_46_5 : decode M_46.2.2.1 5 = .ok (.i2l, 1) := by decide +kernel
theorem d_46_6 : decode M_46.2.2.1 6 = .ok (.ldc2_w 71, 3) := by decide +kernel
theorem d_46_9 : decode M_46.2.2.1 9 = .ok (.lxor, 1) := by decide +kernel
theorem d_46_10 : decode M_46.2.2.1 10 = .ok (.land, 1) := by decide +kernel
theorem d_46_11 : decode M_46.2.2.1 11 = .ok (.lconst 0, 1) := by decide +kernel
theorem d_46_12 : decode M_46.2.2.1 12 = .ok (.lcmp, 1) := by decide +kernel
theorem d_46_13 : decode M_46.2.2.1 13 = .ok (.ifCond .eq 5, 3) := by decide +kernel
theorem d_46_16 : decode M_46.2.2.1 16 = .ok (.iconst 1, 1) := by decide +kernel
theorem d_46_17 : decode M_46.2.2.1 17 = .ok (.ireturn, 1) := by decide +kernel
theorem d_46_18 : decode M_46.2.2.1 18 = .ok (.lload_n 1, 1) := by decide +kernel
theorem d_46_19 : decode M_46.2.2.1 19 = .ok (.invokestatic 73, 3) := by decide +kernel
theorem d_46_22 : decode M_46.2.2.1 22 = .ok (.aload_n 0, 1) := by decide +kernel
theorem d_46_23 : decode M_46.2.2.1 23 = .ok (.getfield 37, 3) := by decide +kernel
theorem d_46_26 : decode M_46.2.2.1 26 = .ok (.if_icmp .le 5, 3) := by decide +kernel
theorem d_46_29 : decode M_46.2.2.1 29 = .ok (.iconst 2, 1) := by decide +kernel
theorem d_46_30 : decode M_46.2.2.1 30 = .ok (.ireturn, 1) := by decide +kernel
theorem d_46_31 : decode M_46.2.2.1 31 = .ok (.aload_n 0, 1) := by decide +kernel
theorem d_46_32 : decode M_46.2.2.1 32 = .ok (.getfield 49, 3) := by decide +kernel
theorem d_46_35 : decode M_46.2.2.1 35 = .ok (.sipush 9999, 3) := by decide +kernel
theorem d_46_38 : decode M_46.2.2.1 38 = .ok (.if_icmp .lt 7, 3) := by decide +kernel
theorem d_46_41 : decode M_46.2.2.1 41 = .ok (.iconst 3, 1) := by decide +kernel
theorem d_46_42 : decode M_46.2.2.1 42 = .ok (.goto 4, 3) := by decide +kernel
theorem d_46_45 : decode M_46.2.2.1 45 = .ok (.iconst 0, 1) := by decide +kernel
theorem d_46_46 : decode M_46.2.2.1 46 = .ok (.ireturn, 1) := by decide +kernel
/-- HeardBarrels$Shelf.barrelPlaces()I -/
def M_47 : am_MT := (8, ⟨"HeardBarrels$Shelf", "barrelPlaces", "()I"⟩, prog_8_method_11_code, 1, some .int, false, 0, (0, 0))
theorem hM_47 : am_ms[47]? = some M_47 := rfl
theorem d_47_0 : decode M_47.2.2.1 0 = .ok (.iconst 1, 1) := by decide +kernel
theorem d_47_1 : decode M_47.2.2.1 1 = .ok (.aload_n 0, 1) := by decide +kernel
theorem d_47_2 : decode M_47.2.2.1 2 = .ok (.getfield 27, 3) := by decide +kernel
theorem d_47_5 : decode M_47.2.2.1 5 = .ok (.ishl, 1) := by decide +kernel
theorem d_47_6 : decode M_47.2.2.1 6 = .ok (.iconst 1, 1) := by decide +kernel
theorem d_47_7 : decode M_47.2.2.1 7 = .ok (.isub, 1) := by decide +kernel
theorem d_47_8 : decode M_47.2.2.1 8 = .ok (.aload_n 0, 1) := by decide +kernel
theorem d_47_9 : decode M_47.2.2.1 9 = .ok (.iconst 3, 1) := by decide +kernel
theorem d_47_10 : decode M_47.2.2.1 10 = .ok (.invokevirtual 60, 3) := by decide +kernel
theorem d_47_13 : decode M_47.2.2.1 13 = .ok (.iconst (-1), 1) := by decide +kernel
theorem d_47_14 : decode M_47.2.2.1 14 = .ok (.ixor, 1) := by decide +kernel
theorem d_47_15 : decode M_47.2.2.1 15 = .ok (.iand, 1) := by decide +kernel
theorem d_47_16 : decode M_47.2.2.1 16 = .ok (.ireturn, 1) := by decide +kernel
/-- HeardBarrels$Shelf.placesOf(I)I -/
def M_48 : am_MT := (8, ⟨"HeardBarrels$Shelf", "placesOf", "(I)I"⟩, prog_8_method_10_code, 4, some .int, false, 1, (0, 0))
theorem hM_48 : am_ms[48]? = some M_48 := rfl
theorem d_48_0 : decode M_48.2.2.1 0 = .ok (.iconst 0, 1) := by decide +kernel
theorem d_48_1 : decode M_48.2.2.1 1 = .ok (.istore_n 2, 1) := by decide +kernel
theorem d_48_2 : decode M_48.2.2.1 2 = .ok (.iconst 0, 1) := by decide +kernel
theorem d_48_3 : decode M_48.2.2.1 3 = .ok (.istore_n 3, 1) := by decide +kernel
theorem d_48_4 : decode M_48.2.2.1 4 = .ok (.iload_n 3, 1) := by decide +kernel
theorem d_48_5 : decode M_48.2.2.1 5 = .ok (.aload_n 0, 1) := by decide +kernel
theorem d_48_6 : decode M_48.2.2.1 6 = .ok (.getfield 27, 3) := by decide +kernel
theorem d_48_9 : decode M_48.2.2.1 9 = .ok (.if_icmp .ge 25, 3) := by decide +kernel
theorem d_48_12 : decode M_48.2.2.1 12 = .ok (.aload_n 0, 1) := by decide +kernel
theorem d_48_13 : decode M_48.2.2.1 13 = .ok (.getfield 9, 3) := by decide +kernel
theorem d_48_16 : decode M_48.2.2.1 16 = .ok (.iload_n 3, 1) := by decide +kernel
theorem d_48_17 : decode M_48.2.2.1 17 = .ok (.iaload, 1) := by decide +kernel
theorem d_48_18 : decode M_48.2.2.1 18 = .ok (.iload_n 1, 1) := by decide +kernel
theorem d_48_19 : decode M_48.2.2.1 19 = .ok (.if_icmp .ne 9, 3) := by decide +kernel
theorem d_48_22 : decode M_48.2.2.1 22 = .ok (.iload_n 2, 1) := by decide +kernel
theorem d_48_23 : decode M_48.2.2.1 23 = .ok (.iconst 1, 1) := by decide +kernel
theorem d_48_24 : decode M_48.2.2.1 24 = .ok (.iload_n 3, 1) := by decide +kernel
theorem d_48_25 : decode M_48.2.2.1 25 = .ok (.ishl, 1) := by decide +kernel
theorem d_48_26 : decode M_48.2.2.1 26 = .ok (.ior, 1) := by decide +kernel
theorem d_48_27 : decode M_48.2.2.1 27 = .ok (.istore_n 2, 1) := by decide +kernel
theorem d_48_28 : decode M_48.2.2.1 28 = .ok (.iinc 3 1, 3) := by decide +kernel
theorem d_48_31 : decode M_48.2.2.1 31 = .ok (.goto (-27), 3) := by decide +kernel
theorem d_48_34 : decode M_48.2.2.1 34 = .ok (.iload_n 2, 1) := by decide +kernel
theorem d_48_35 : decode M_48.2.2.1 35 = .ok (.ireturn, 1) := by decide +kernel
/-- HeardBarrels$Shelf.pass(I)I -/
def M_50 : am_MT := (8, ⟨"HeardBarrels$Shelf", "pass", "(I)I"⟩, prog_8_method_16_code, 8, some .int, false, 1, (0, 0))
theorem hM_50 : am_ms[50]? = some M_50 := rfl
theorem d_50_0 : decode M_50.2.2.1 0 = .ok (.aload_n 0, 1) := by decide +kernel
theorem d_50_1 : decode M_50.2.2.1 1 = .ok (.iconst 1, 1) := by decide +kernel
theorem d_50_2 : decode M_50.2.2.1 2 = .ok (.invokevirtual 60, 3) := by decide +kernel
theorem d_50_5 : decode M_50.2.2.1 5 = .ok (.istore_n 2, 1) := by decide +kernel
theorem d_50_6 : decode M_50.2.2.1 6 = .ok (.iconst 0, 1) := by decide +kernel
theorem d_50_7 : decode M_50.2.2.1 7 = .ok (.istore_n 3, 1) := by decide +kernel
theorem d_50_8 : decode M_50.2.2.1 8 = .ok (.iconst 0, 1) := by decide +kernel
theorem d_50_9 : decode M_50.2.2.1 9 = .ok (.istore 4, 2) := by decide +kernel
theorem d_50_11 : decode M_50.2.2.1 11 = .ok (.iload 4, 2) := by decide +kernel
theorem d_50_13 : decode M_50.2.2.1 13 = .ok (.aload_n 0, 1) := by decide +kernel
theorem d_50_14 : decode M_50.2.2.1 14 = .ok (.getfield 27, 3) := by decide +kernel
theorem d_50_17 : decode M_50.2.2.1 17 = .ok (.if_icmp .ge 177, 3) := by decide +kernel
theorem d_50_20 : decode M_50.2.2.1 20 = .ok (.aload_n 0, 1) := by decide +kernel
theorem d_50_21 : decode M_50.2.2.1 21 = .ok (.getfield 9, 3) := by decide +kernel
theorem d_50_24 : decode M_50.2.2.1 24 = .ok (.iload 4, 2) := by decide +kernel
theorem d_50_26 : decode M_50.2.2.1 26 = .ok (.iaload, 1) := by decide +kernel
theorem d_50_27 : decode M_50.2.2.1 27 = .ok (.iconst 3, 1) := by decide +kernel
theorem d_50_28 : decode M_50.2.2.1 28 = .ok (.if_icmp .ne 6, 3) := by decide +kernel
theorem d_50_31 : decode M_50.2.2.1 31 = .ok (.goto 157, 3) := by decide +kernel
theorem d_50_34 : decode M_50.2.2.1 34 = .ok (.iload_n 1, 1) := by decide +kernel
theorem d_50_35 : decode M_50.2.2.1 35 = .ok (.iload 4, 2) := by decide +kernel
theorem d_50_37 : decode M_50.2.2.1 37 = .ok (.ishr, 1) := by decide +kernel
theorem d_50_38 : decode M_50.2.2.1 38 = .ok (.iconst 1, 1) := by decide +kernel
theorem d_50_39 : decode M_50.2.2.1 39 = .ok (.iand, 1) := by decide +kernel
theorem d_50_40 : decode M_50.2.2.1 40 = .ok (.ifCond .eq 7, 3) := by decide +kernel
theorem d_50_43 : decode M_50.2.2.1 43 = .ok (.iconst 1, 1) := by decide +kernel
theorem d_50_44 : decode M_50.2.2.1 44 = .ok (.goto 4, 3) := by decide +kernel
theorem d_50_47 : decode M_50.2.2.1 47 = .ok (.iconst 0, 1) := by decide +kernel
theorem d_50_48 : decode M_50.2.2.1 48 = .ok (.istore 5, 2) := by decide +kernel
theorem d_50_50 : decode M_50.2.2.1 50 = .ok (.aload_n 0, 1) := by decide +kernel
theorem d_50_51 : decode M_50.2.2.1 51 = .ok (.getfield 9, 3) := by decide +kernel
theorem d_50_54 : decode M_50.2.2.1 54 = .ok (.iload 4, 2) := by decide +kernel
theorem d_50_56 : decode M_50.2.2.1 56 = .ok (.iaload, 1) := by decide +kernel
theorem d_50_57 : decode M_50.2.2.1 57 = .ok (.ifCond .ne 7, 3) := by decide +kernel
theorem d_50_60 : decode M_50.2.2.1 60 = .ok (.iconst 1, 1) := by decide +kernel
theorem d_50_61 : decode M_50.2.2.1 61 = .ok (.goto 4, 3) := by decide +kernel
theorem d_50_64 : decode M_50.2.2.1 64 = .ok (.iconst 0, 1) := by decide +kernel
theorem d_50_65 : decode M_50.2.2.1 65 = .ok (.istore 6, 2) := by decide +kernel
theorem d_50_67 : decode M_50.2.2.1 67 = .ok (.iload 6, 2) := by decide +kernel
theorem d_50_69 : decode M_50.2.2.1 69 = .ok (.ifCond .eq 17, 3) := by decide +kernel
theorem d_50_72 : decode M_50.2.2.1 72 = .ok (.iload 4, 2) := by decide +kernel
theorem d_50_74 : decode M_50.2.2.1 74 = .ok (.invokestatic 79, 3) := by decide +kernel
theorem d_50_77 : decode M_50.2.2.1 77 = .ok (.iload_n 2, 1) := by decide +kernel
theorem d_50_78 : decode M_50.2.2.1 78 = .ok (.iand, 1) := by decide +kernel
theorem d_50_79 : decode M_50.2.2.1 79 = .ok (.ifCond .eq 7, 3) := by decide +kernel
theorem d_50_82 : decode M_50.2.2.1 82 = .ok (.iconst 2, 1) := by decide +kernel
theorem d_50_83 : decode M_50.2.2.1 83 = .ok (.goto 4, 3) := by decide +kernel
theorem d_50_86 : decode M_50.2.2.1 86 = .ok (.iconst 1, 1) := by decide +kernel
theorem d_50_87 : decode M_50.2.2.1 87 = .ok (.istore 7, 2) := by decide +kernel
theorem d_50_89 : decode M_50.2.2.1 89 = .ok (.aload_n 0, 1) := by decide +kernel
theorem d_50_90 : decode M_50.2.2.1 90 = .ok (.getfield 21, 3) := by decide +kernel
theorem d_50_93 : decode M_50.2.2.1 93 = .ok (.iload 4, 2) := by decide +kernel
theorem d_50_95 : decode M_50.2.2.1 95 = .ok (.iload 5, 2) := by decide +kernel
theorem d_50_97 : decode M_50.2.2.1 97 = .ok (.ifCond .eq 7, 3) := by decide +kernel
theorem d_50_100 : decode M_50.2.2.1 100 = .ok (.iconst 0, 1) := by decide +kernel
theorem d_50_101 : decode M_50.2.2.1 101 = .ok (.goto 18, 3) := by decide +kernel
theorem d_50_104 : decode M_50.2.2.1 104 = .ok (.bipush 99, 2) := by decide +kernel
theorem d_50_106 : decode M_50.2.2.1 106 = .ok (.aload_n 0, 1) := by decide +kernel
theorem d_50_107 : decode M_50.2.2.1 107 = .ok (.getfield 21, 3) := by decide +kernel
theorem d_50_110 : decode M_50.2.2.1 110 = .ok (.iload 4, 2) := by decide +kernel
theorem d_50_112 : decode M_50.2.2.1 112 = .ok (.iaload, 1) := by decide +kernel
theorem d_50_113 : decode M_50.2.2.1 113 = .ok (.iload 7, 2) := by decide +kernel
theorem d_50_115 : decode M_50.2.2.1 115 = .ok (.iadd, 1) := by decide +kernel
theorem d_50_116 : decode M_50.2.2.1 116 = .ok (.invokestatic 82, 3) := by decide +kernel
theorem d_50_119 : decode M_50.2.2.1 119 = .ok (.iastore, 1) := by decide +kernel
theorem d_50_120 : decode M_50.2.2.1 120 = .ok (.iload 6, 2) := by decide +kernel
theorem d_50_122 : decode M_50.2.2.1 122 = .ok (.ifCond .eq 66, 3) := by decide +kernel
theorem d_50_125 : decode M_50.2.2.1 125 = .ok (.aload_n 0, 1) := by decide +kernel
theorem d_50_126 : decode M_50.2.2.1 126 = .ok (.getfield 18, 3) := by decide +kernel
theorem d_50_129 : decode M_50.2.2.1 129 = .ok (.iload 4, 2) := by decide +kernel
theorem d_50_131 : decode M_50.2.2.1 131 = .ok (.bipush 100, 2) := by decide +kernel
theorem d_50_133 : decode M_50.2.2.1 133 = .ok (.aload_n 0, 1) := by decide +kernel
theorem d_50_134 : decode M_50.2.2.1 134 = .ok (.getfield 18, 3) := by decide +kernel
theorem d_50_137 : decode M_50.2.2.1 137 = .ok (.iload 4, 2) := by decide +kernel
theorem d_50_139 : decode M_50.2.2.1 139 = .ok (.iaload, 1) := by decide +kernel
theorem d_50_140 : decode M_50.2.2.1 140 = .ok (.iload 5, 2) := by decide +kernel
theorem d_50_142 : decode M_50.2.2.1 142 = .ok (.ifCond .eq 7, 3) := by decide +kernel
theorem d_50_145 : decode M_50.2.2.1 145 = .ok (.iconst 2, 1) := by decide +kernel
theorem d_50_146 : decode M_50.2.2.1 146 = .ok (.goto 4, 3) := by decide +kernel
theorem d_50_149 : decode M_50.2.2.1 149 = .ok (.iconst 1, 1) := by decide +kernel
theorem d_50_150 : decode M_50.2.2.1 150 = .ok (.aload_n 0, 1) := by decide +kernel
theorem d_50_151 : decode M_50.2.2.1 151 = .ok (.getfield 15, 3) := by decide +kernel
theorem d_50_154 : decode M_50.2.2.1 154 = .ok (.iload 4, 2) := by decide +kernel
theorem d_50_156 : decode M_50.2.2.1 156 = .ok (.iaload, 1) := by decide +kernel
theorem d_50_157 : decode M_50.2.2.1 157 = .ok (.imul, 1) := by decide +kernel
theorem d_50_158 : decode M_50.2.2.1 158 = .ok (.iadd, 1) := by decide +kernel
theorem d_50_159 : decode M_50.2.2.1 159 = .ok (.invokestatic 82, 3) := by decide +kernel
theorem d_50_162 : decode M_50.2.2.1 162 = .ok (.iastore, 1) := by decide +kernel
theorem d_50_163 : decode M_50.2.2.1 163 = .ok (.aload_n 0, 1) := by decide +kernel
theorem d_50_164 : decode M_50.2.2.1 164 = .ok (.getfield 21, 3) := by decide +kernel
theorem d_50_167 : decode M_50.2.2.1 167 = .ok (.iload 4, 2) := by decide +kernel
theorem d_50_169 : decode M_50.2.2.1 169 = .ok (.iaload, 1) := by decide +kernel
theorem d_50_170 : decode M_50.2.2.1 170 = .ok (.aload_n 0, 1) := by decide +kernel
theorem d_50_171 : decode M_50.2.2.1 171 = .ok (.getfield 40, 3) := by decide +kernel
theorem d_50_174 : decode M_50.2.2.1 174 = .ok (.if_icmp .le 14, 3) := by decide +kernel
theorem d_50_177 : decode M_50.2.2.1 177 = .ok (.aload_n 0, 1) := by decide +kernel
theorem d_50_178 : decode M_50.2.2.1 178 = .ok (.getfield 9, 3) := by decide +kernel
theorem d_50_181 : decode M_50.2.2.1 181 = .ok (.iload 4, 2) := by decide +kernel
theorem d_50_183 : decode M_50.2.2.1 183 = .ok (.iconst 1, 1) := by decide +kernel
theorem d_50_184 : decode M_50.2.2.1 184 = .ok (.iastore, 1) := by decide +kernel
theorem d_50_185 : decode M_50.2.2.1 185 = .ok (.iinc 3 1, 3) := by decide +kernel
theorem d_50_188 : decode M_50.2.2.1 188 = .ok (.iinc 4 1, 3) := by decide +kernel
theorem d_50_191 : decode M_50.2.2.1 191 = .ok (.goto (-180), 3) := by decide +kernel
theorem d_50_194 : decode M_50.2.2.1 194 = .ok (.aload_n 0, 1) := by decide +kernel
theorem d_50_195 : decode M_50.2.2.1 195 = .ok (.dup, 1) := by decide +kernel
theorem d_50_196 : decode M_50.2.2.1 196 = .ok (.getfield 49, 3) := by decide +kernel
theorem d_50_199 : decode M_50.2.2.1 199 = .ok (.iconst 1, 1) := by decide +kernel
theorem d_50_200 : decode M_50.2.2.1 200 = .ok (.iadd, 1) := by decide +kernel
theorem d_50_201 : decode M_50.2.2.1 201 = .ok (.putfield 49, 3) := by decide +kernel
theorem d_50_204 : decode M_50.2.2.1 204 = .ok (.iload_n 3, 1) := by decide +kernel
theorem d_50_205 : decode M_50.2.2.1 205 = .ok (.ireturn, 1) := by decide +kernel
/-- HeardBarrels$Shelf.beside(I)I -/
def M_51 : am_MT := (8, ⟨"HeardBarrels$Shelf", "beside", "(I)I"⟩, prog_8_method_17_code, 1, some .int, false, 1, (0, 0))
theorem hM_51 : am_ms[51]? = some M_51 := rfl
theorem d_51_0 : decode M_51.2.2.1 0 = .ok (.iconst 1, 1) := by decide +kernel
theorem d_51_1 : decode M_51.2.2.1 1 = .ok (.iload_n 0, 1) := by decide +kernel
theorem d_51_2 : decode M_51.2.2.1 2 = .ok (.ishl, 1) := by decide +kernel
theorem d_51_3 : decode M_51.2.2.1 3 = .ok (.iconst 1, 1) := by decide +kernel
theorem d_51_4 : decode M_51.2.2.1 4 = .ok (.ishl, 1) := by decide +kernel
theorem d_51_5 : decode M_51.2.2.1 5 = .ok (.iconst 1, 1) := by decide +kernel
theorem d_51_6 : decode M_51.2.2.1 6 = .ok (.iload_n 0, 1) := by decide +kernel
theorem d_51_7 : decode M_51.2.2.1 7 = .ok (.ishl, 1) := by decide +kernel
theorem d_51_8 : decode M_51.2.2.1 8 = .ok (.iconst 1, 1) := by decide +kernel
theorem d_51_9 : decode M_51.2.2.1 9 = .ok (.ishr, 1) := by decide +kernel
theorem d_51_10 : decode M_51.2.2.1 10 = .ok (.ior, 1) := by decide +kernel
theorem d_51_11 : decode M_51.2.2.1 11 = .ok (.ireturn, 1) := by decide +kernel
/-- HeardBarrels$Row.isMissing()Z -/
def M_54 : am_MT := (7, ⟨"HeardBarrels$Row", "isMissing", "()Z"⟩, prog_7_method_2_code, 1, some .boolean, false, 0, (0, 0))
theorem hM_54 : am_ms[54]? = some M_54 := rfl
theorem d_54_0 : decode M_54.2.2.1 0 = .ok (.aload_n 0, 1) := by decide +kernel
theorem d_54_1 : decode M_54.2.2.1 1 = .ok (.getfield 15, 3) := by decide +kernel
theorem d_54_4 : decode M_54.2.2.1 4 = .ok (.ifCond .ge 7, 3) := by decide +kernel
theorem d_54_7 : decode M_54.2.2.1 7 = .ok (.iconst 1, 1) := by decide +kernel
theorem d_54_8 : decode M_54.2.2.1 8 = .ok (.goto 4, 3) := by decide +kernel
theorem d_54_11 : decode M_54.2.2.1 11 = .ok (.iconst 0, 1) := by decide +kernel
theorem d_54_12 : decode M_54.2.2.1 12 = .ok (.ireturn, 1) := by decide +kernel
/-- HeardBarrels$Row.at(I)J -/
def M_56 : am_MT := (7, ⟨"HeardBarrels$Row", "at", "(I)J"⟩, prog_7_method_4_code, 2, some .long, false, 1, (0, 0))
theorem hM_56 : am_ms[56]? = some M_56 := rfl
theorem d_56_0 : decode M_56.2.2.1 0 = .ok (.iload_n 1, 1) := by decide +kernel
theorem d_56_1 : decode M_56.2.2.1 1 = .ok (.ifCond .lt 20, 3) := by decide +kernel
theorem d_56_4 : decode M_56.2.2.1 4 = .ok (.iload_n 1, 1) := by decide +kernel
theorem d_56_5 : decode M_56.2.2.1 5 = .ok (.aload_n 0, 1) := by decide +kernel
theorem d_56_6 : decode M_56.2.2.1 6 = .ok (.getfield 15, 3) := by decide +kernel
theorem d_56_9 : decode M_56.2.2.1 9 = .ok (.if_icmp .ge 12, 3) := by decide +kernel
theorem d_56_12 : decode M_56.2.2.1 12 = .ok (.aload_n 0, 1) := by decide +kernel
theorem d_56_13 : decode M_56.2.2.1 13 = .ok (.getfield 9, 3) := by decide +kernel
theorem d_56_16 : decode M_56.2.2.1 16 = .ok (.iload_n 1, 1) := by decide +kernel
theorem d_56_17 : decode M_56.2.2.1 17 = .ok (.laload, 1) := by decide +kernel
theorem d_56_18 : decode M_56.2.2.1 18 = .ok (.goto 4, 3) := by decide +kernel
theorem d_56_21 : decode M_56.2.2.1 21 = .ok (.lconst 0, 1) := by decide +kernel
theorem d_56_22 : decode M_56.2.2.1 22 = .ok (.lreturn, 1) := by decide +kernel
/-- HeardBarrels$Shelf.isSetOfPlaces(I)Z -/
def M_63 : am_MT := (8, ⟨"HeardBarrels$Shelf", "isSetOfPlaces", "(I)Z"⟩, prog_8_method_9_code, 2, some .boolean, false, 1, (0, 0))
theorem hM_63 : am_ms[63]? = some M_63 := rfl
theorem d_63_0 : decode M_63.2.2.1 0 = .ok (.iload_n 1, 1) := by decide +kernel
theorem d_63_1 : decode M_63.2.2.1 1 = .ok (.iconst 1, 1) := by decide +kernel
theorem d_63_2 : decode M_63.2.2.1 2 = .ok (.aload_n 0, 1) := by decide +kernel
theorem d_63_3 : decode M_63.2.2.1 3 = .ok (.getfield 27, 3) := by decide +kernel
theorem d_63_6 : decode M_63.2.2.1 6 = .ok (.ishl, 1) := by decide +kernel
theorem d_63_7 : decode M_63.2.2.1 7 = .ok (.iconst 1, 1) := by decide +kernel
theorem d_63_8 : decode M_63.2.2.1 8 = .ok (.isub, 1) := by decide +kernel
theorem d_63_9 : decode M_63.2.2.1 9 = .ok (.iconst (-1), 1) := by decide +kernel
theorem d_63_10 : decode M_63.2.2.1 10 = .ok (.ixor, 1) := by decide +kernel
theorem d_63_11 : decode M_63.2.2.1 11 = .ok (.iand, 1) := by decide +kernel
theorem d_63_12 : decode M_63.2.2.1 12 = .ok (.ifCond .ne 7, 3) := by decide +kernel
theorem d_63_15 : decode M_63.2.2.1 15 = .ok (.iconst 1, 1) := by decide +kernel
theorem d_63_16 : decode M_63.2.2.1 16 = .ok (.goto 4, 3) := by decide +kernel
theorem d_63_19 : decode M_63.2.2.1 19 = .ok (.iconst 0, 1) := by decide +kernel
theorem d_63_20 : decode M_63.2.2.1 20 = .ok (.ireturn, 1) := by decide +kernel
/-- HeardBarrels$Shelf.toneNow(I)I -/
def M_67 : am_MT := (8, ⟨"HeardBarrels$Shelf", "toneNow", "(I)I"⟩, prog_8_method_18_code, 2, some .int, false, 1, (0, 0))
theorem hM_67 : am_ms[67]? = some M_67 := rfl
theorem d_67_0 : decode M_67.2.2.1 0 = .ok (.aload_n 0, 1) := by decide +kernel
theorem d_67_1 : decode M_67.2.2.1 1 = .ok (.iload_n 1, 1) := by decide +kernel
theorem d_67_2 : decode M_67.2.2.1 2 = .ok (.invokevirtual 88, 3) := by decide +kernel
theorem d_67_5 : decode M_67.2.2.1 5 = .ok (.ifCond .eq 26, 3) := by decide +kernel
theorem d_67_8 : decode M_67.2.2.1 8 = .ok (.aload_n 0, 1) := by decide +kernel
theorem d_67_9 : decode M_67.2.2.1 9 = .ok (.iload_n 1, 1) := by decide +kernel
theorem d_67_10 : decode M_67.2.2.1 10 = .ok (.aload_n 0, 1) := by decide +kernel
theorem d_67_11 : decode M_67.2.2.1 11 = .ok (.getfield 9, 3) := by decide +kernel
theorem d_67_14 : decode M_67.2.2.1 14 = .ok (.iload_n 1, 1) := by decide +kernel
theorem d_67_15 : decode M_67.2.2.1 15 = .ok (.iaload, 1) := by decide +kernel
theorem d_67_16 : decode M_67.2.2.1 16 = .ok (.iconst 1, 1) := by decide +kernel
theorem d_67_17 : decode M_67.2.2.1 17 = .ok (.if_icmp .ne 7, 3) := by decide +kernel
theorem d_67_20 : decode M_67.2.2.1 20 = .ok (.iconst 1, 1) := by decide +kernel
theorem d_67_21 : decode M_67.2.2.1 21 = .ok (.goto 4, 3) := by decide +kernel
theorem d_67_24 : decode M_67.2.2.1 24 = .ok (.iconst 0, 1) := by decide +kernel
theorem d_67_25 : decode M_67.2.2.1 25 = .ok (.invokevirtual 91, 3) := by decide +kernel
theorem d_67_28 : decode M_67.2.2.1 28 = .ok (.goto 4, 3) := by decide +kernel
theorem d_67_31 : decode M_67.2.2.1 31 = .ok (.iconst 0, 1) := by decide +kernel
theorem d_67_32 : decode M_67.2.2.1 32 = .ok (.ireturn, 1) := by decide +kernel
/-- HeardBarrels$Shelf.hasBarrel(I)Z -/
def M_68 : am_MT := (8, ⟨"HeardBarrels$Shelf", "hasBarrel", "(I)Z"⟩, prog_8_method_7_code, 2, some .boolean, false, 1, (0, 0))
theorem hM_68 : am_ms[68]? = some M_68 := rfl
theorem d_68_0 : decode M_68.2.2.1 0 = .ok (.aload_n 0, 1) := by decide +kernel
theorem d_68_1 : decode M_68.2.2.1 1 = .ok (.iload_n 1, 1) := by decide +kernel
theorem d_68_2 : decode M_68.2.2.1 2 = .ok (.invokevirtual 56, 3) := by decide +kernel
theorem d_68_5 : decode M_68.2.2.1 5 = .ok (.ifCond .eq 17, 3) := by decide +kernel
theorem d_68_8 : decode M_68.2.2.1 8 = .ok (.aload_n 0, 1) := by decide +kernel
theorem d_68_9 : decode M_68.2.2.1 9 = .ok (.getfield 9, 3) := by decide +kernel
theorem d_68_12 : decode M_68.2.2.1 12 = .ok (.iload_n 1, 1) := by decide +kernel
theorem d_68_13 : decode M_68.2.2.1 13 = .ok (.iaload, 1) := by decide +kernel
theorem d_68_14 : decode M_68.2.2.1 14 = .ok (.iconst 3, 1) := by decide +kernel
theorem d_68_15 : decode M_68.2.2.1 15 = .ok (.if_icmp .eq 7, 3) := by decide +kernel
theorem d_68_18 : decode M_68.2.2.1 18 = .ok (.iconst 1, 1) := by decide +kernel
theorem d_68_19 : decode M_68.2.2.1 19 = .ok (.goto 4, 3) := by decide +kernel
theorem d_68_22 : decode M_68.2.2.1 22 = .ok (.iconst 0, 1) := by decide +kernel
theorem d_68_23 : decode M_68.2.2.1 23 = .ok (.ireturn, 1) := by decide +kernel
/-- HeardBarrels$Shelf.toneIf(IZ)I -/
def M_69 : am_MT := (8, ⟨"HeardBarrels$Shelf", "toneIf", "(IZ)I"⟩, prog_8_method_19_code, 3, some .int, false, 2, (0, 0))
theorem hM_69 : am_ms[69]? = some M_69 := rfl
theorem d_69_0 : decode M_69.2.2.1 0 = .ok (.aload_n 0, 1) := by decide +kernel
theorem d_69_1 : decode M_69.2.2.1 1 = .ok (.getfield 9, 3) := by decide +kernel
theorem d_69_4 : decode M_69.2.2.1 4 = .ok (.iload_n 1, 1) := by decide +kernel
theorem d_69_5 : decode M_69.2.2.1 5 = .ok (.iaload, 1) := by decide +kernel
theorem d_69_6 : decode M_69.2.2.1 6 = .ok (.iconst 2, 1) := by decide +kernel
theorem d_69_7 : decode M_69.2.2.1 7 = .ok (.if_icmp .ne 6, 3) := by decide +kernel
theorem d_69_10 : decode M_69.2.2.1 10 = .ok (.bipush 20, 2) := by decide +kernel
theorem d_69_12 : decode M_69.2.2.1 12 = .ok (.ireturn, 1) := by decide +kernel
theorem d_69_13 : decode M_69.2.2.1 13 = .ok (.bipush 120, 2) := by decide +kernel
theorem d_69_15 : decode M_69.2.2.1 15 = .ok (.aload_n 0, 1) := by decide +kernel
theorem d_69_16 : decode M_69.2.2.1 16 = .ok (.getfield 18, 3) := by decide +kernel
theorem d_69_19 : decode M_69.2.2.1 19 = .ok (.iload_n 1, 1) := by decide +kernel
theorem d_69_20 : decode M_69.2.2.1 20 = .ok (.iaload, 1) := by decide +kernel
theorem d_69_21 : decode M_69.2.2.1 21 = .ok (.iconst 2, 1) := by decide +kernel
theorem d_69_22 : decode M_69.2.2.1 22 = .ok (.idiv, 1) := by decide +kernel
theorem d_69_23 : decode M_69.2.2.1 23 = .ok (.isub, 1) := by decide +kernel
theorem d_69_24 : decode M_69.2.2.1 24 = .ok (.aload_n 0, 1) := by decide +kernel
theorem d_69_25 : decode M_69.2.2.1 25 = .ok (.getfield 15, 3) := by decide +kernel
theorem d_69_28 : decode M_69.2.2.1 28 = .ok (.iload_n 1, 1) := by decide +kernel
theorem d_69_29 : decode M_69.2.2.1 29 = .ok (.iaload, 1) := by decide +kernel
theorem d_69_30 : decode M_69.2.2.1 30 = .ok (.iadd, 1) := by decide +kernel
theorem d_69_31 : decode M_69.2.2.1 31 = .ok (.iload_n 2, 1) := by decide +kernel
theorem d_69_32 : decode M_69.2.2.1 32 = .ok (.ifCond .eq 10, 3) := by decide +kernel
theorem d_69_35 : decode M_69.2.2.1 35 = .ok (.aload_n 0, 1) := by decide +kernel
theorem d_69_36 : decode M_69.2.2.1 36 = .ok (.getfield 31, 3) := by decide +kernel
theorem d_69_39 : decode M_69.2.2.1 39 = .ok (.goto 4, 3) := by decide +kernel
theorem d_69_42 : decode M_69.2.2.1 42 = .ok (.iconst 0, 1) := by decide +kernel
theorem d_69_43 : decode M_69.2.2.1 43 = .ok (.isub, 1) := by decide +kernel
theorem d_69_44 : decode M_69.2.2.1 44 = .ok (.ireturn, 1) := by decide +kernel
/-- HeardBarrels$Shelf.sound(II)I -/
def M_71 : am_MT := (8, ⟨"HeardBarrels$Shelf", "sound", "(II)I"⟩, prog_8_method_20_code, 4, some .int, false, 2, (0, 0))
theorem hM_71 : am_ms[71]? = some M_71 := rfl
theorem d_71_0 : decode M_71.2.2.1 0 = .ok (.aload_n 0, 1) := by decide +kernel
theorem d_71_1 : decode M_71.2.2.1 1 = .ok (.iload_n 1, 1) := by decide +kernel
theorem d_71_2 : decode M_71.2.2.1 2 = .ok (.invokevirtual 88, 3) := by decide +kernel
theorem d_71_5 : decode M_71.2.2.1 5 = .ok (.ifCond .ne 7, 3) := by decide +kernel
theorem d_71_8 : decode M_71.2.2.1 8 = .ok (.sipush (-1000), 3) := by decide +kernel
theorem d_71_11 : decode M_71.2.2.1 11 = .ok (.ireturn, 1) := by decide +kernel
theorem d_71_12 : decode M_71.2.2.1 12 = .ok (.aload_n 0, 1) := by decide +kernel
theorem d_71_13 : decode M_71.2.2.1 13 = .ok (.iload_n 1, 1) := by decide +kernel
theorem d_71_14 : decode M_71.2.2.1 14 = .ok (.iload_n 2, 1) := by decide +kernel
theorem d_71_15 : decode M_71.2.2.1 15 = .ok (.iload_n 1, 1) := by decide +kernel
theorem d_71_16 : decode M_71.2.2.1 16 = .ok (.ishr, 1) := by decide +kernel
theorem d_71_17 : decode M_71.2.2.1 17 = .ok (.iconst 1, 1) := by decide +kernel
theorem d_71_18 : decode M_71.2.2.1 18 = .ok (.iand, 1) := by decide +kernel
theorem d_71_19 : decode M_71.2.2.1 19 = .ok (.ifCond .eq 7, 3) := by decide +kernel
theorem d_71_22 : decode M_71.2.2.1 22 = .ok (.iconst 1, 1) := by decide +kernel
theorem d_71_23 : decode M_71.2.2.1 23 = .ok (.goto 4, 3) := by decide +kernel
theorem d_71_26 : decode M_71.2.2.1 26 = .ok (.iconst 0, 1) := by decide +kernel
theorem d_71_27 : decode M_71.2.2.1 27 = .ok (.invokevirtual 91, 3) := by decide +kernel
theorem d_71_30 : decode M_71.2.2.1 30 = .ok (.aload_n 0, 1) := by decide +kernel
theorem d_71_31 : decode M_71.2.2.1 31 = .ok (.getfield 34, 3) := by decide +kernel
theorem d_71_34 : decode M_71.2.2.1 34 = .ok (.iload_n 2, 1) := by decide +kernel
theorem d_71_35 : decode M_71.2.2.1 35 = .ok (.iload_n 1, 1) := by decide +kernel
theorem d_71_36 : decode M_71.2.2.1 36 = .ok (.invokestatic 79, 3) := by decide +kernel
theorem d_71_39 : decode M_71.2.2.1 39 = .ok (.iand, 1) := by decide +kernel
theorem d_71_40 : decode M_71.2.2.1 40 = .ok (.invokestatic 95, 3) := by decide +kernel
theorem d_71_43 : decode M_71.2.2.1 43 = .ok (.imul, 1) := by decide +kernel
theorem d_71_44 : decode M_71.2.2.1 44 = .ok (.isub, 1) := by decide +kernel
theorem d_71_45 : decode M_71.2.2.1 45 = .ok (.istore_n 3, 1) := by decide +kernel
theorem d_71_46 : decode M_71.2.2.1 46 = .ok (.iload_n 3, 1) := by decide +kernel
theorem d_71_47 : decode M_71.2.2.1 47 = .ok (.aload_n 0, 1) := by decide +kernel
theorem d_71_48 : decode M_71.2.2.1 48 = .ok (.iload_n 1, 1) := by decide +kernel
theorem d_71_49 : decode M_71.2.2.1 49 = .ok (.iconst 1, 1) := by decide +kernel
theorem d_71_50 : decode M_71.2.2.1 50 = .ok (.isub, 1) := by decide +kernel
theorem d_71_51 : decode M_71.2.2.1 51 = .ok (.invokevirtual 99, 3) := by decide +kernel
theorem d_71_54 : decode M_71.2.2.1 54 = .ok (.ifCond .eq 7, 3) := by decide +kernel
theorem d_71_57 : decode M_71.2.2.1 57 = .ok (.iconst 1, 1) := by decide +kernel
theorem d_71_58 : decode M_71.2.2.1 58 = .ok (.goto 4, 3) := by decide +kernel
theorem d_71_61 : decode M_71.2.2.1 61 = .ok (.iconst 0, 1) := by decide +kernel
theorem d_71_62 : decode M_71.2.2.1 62 = .ok (.aload_n 0, 1) := by decide +kernel
theorem d_71_63 : decode M_71.2.2.1 63 = .ok (.iload_n 1, 1) := by decide +kernel
theorem d_71_64 : decode M_71.2.2.1 64 = .ok (.iconst 1, 1) := by decide +kernel
theorem d_71_65 : decode M_71.2.2.1 65 = .ok (.iadd, 1) := by decide +kernel
theorem d_71_66 : decode M_71.2.2.1 66 = .ok (.invokevirtual 99, 3) := by decide +kernel
theorem d_71_69 : decode M_71.2.2.1 69 = .ok (.ifCond .eq 7, 3) := by decide +kernel
theorem d_71_72 : decode M_71.2.2.1 72 = .ok (.iconst 1, 1) := by decide +kernel
theorem d_71_73 : decode M_71.2.2.1 73 = .ok (.goto 4, 3) := by decide +kernel
theorem d_71_76 : decode M_71.2.2.1 76 = .ok (.iconst 0, 1) := by decide +kernel
theorem d_71_77 : decode M_71.2.2.1 77 = .ok (.iadd, 1) := by decide +kernel
theorem d_71_78 : decode M_71.2.2.1 78 = .ok (.iadd, 1) := by decide +kernel
theorem d_71_79 : decode M_71.2.2.1 79 = .ok (.istore_n 3, 1) := by decide +kernel
theorem d_71_80 : decode M_71.2.2.1 80 = .ok (.iload_n 3, 1) := by decide +kernel
theorem d_71_81 : decode M_71.2.2.1 81 = .ok (.iconst 1, 1) := by decide +kernel
theorem d_71_82 : decode M_71.2.2.1 82 = .ok (.aload_n 0, 1) := by decide +kernel
theorem d_71_83 : decode M_71.2.2.1 83 = .ok (.getfield 43, 3) := by decide +kernel
theorem d_71_86 : decode M_71.2.2.1 86 = .ok (.iconst 1, 1) := by decide +kernel
theorem d_71_87 : decode M_71.2.2.1 87 = .ok (.iadd, 1) := by decide +kernel
theorem d_71_88 : decode M_71.2.2.1 88 = .ok (.invokestatic 102, 3) := by decide +kernel
theorem d_71_91 : decode M_71.2.2.1 91 = .ok (.invokestatic 105, 3) := by decide +kernel
theorem d_71_94 : decode M_71.2.2.1 94 = .ok (.ireturn, 1) := by decide +kernel
/-- HeardBarrels$Shelf.isGap(I)Z -/
def M_73 : am_MT := (8, ⟨"HeardBarrels$Shelf", "isGap", "(I)Z"⟩, prog_8_method_8_code, 2, some .boolean, false, 1, (0, 0))
theorem hM_73 : am_ms[73]? = some M_73 := rfl
theorem d_73_0 : decode M_73.2.2.1 0 = .ok (.aload_n 0, 1) := by decide +kernel
theorem d_73_1 : decode M_73.2.2.1 1 = .ok (.iload_n 1, 1) := by decide +kernel
theorem d_73_2 : decode M_73.2.2.1 2 = .ok (.invokevirtual 56, 3) := by decide +kernel
theorem d_73_5 : decode M_73.2.2.1 5 = .ok (.ifCond .eq 17, 3) := by decide +kernel
theorem d_73_8 : decode M_73.2.2.1 8 = .ok (.aload_n 0, 1) := by decide +kernel
theorem d_73_9 : decode M_73.2.2.1 9 = .ok (.getfield 9, 3) := by decide +kernel
theorem d_73_12 : decode M_73.2.2.1 12 = .ok (.iload_n 1, 1) := by decide +kernel
theorem d_73_13 : decode M_73.2.2.1 13 = .ok (.iaload, 1) := by decide +kernel
theorem d_73_14 : decode M_73.2.2.1 14 = .ok (.iconst 3, 1) := by decide +kernel
theorem d_73_15 : decode M_73.2.2.1 15 = .ok (.if_icmp .ne 7, 3) := by decide +kernel
theorem d_73_18 : decode M_73.2.2.1 18 = .ok (.iconst 1, 1) := by decide +kernel
theorem d_73_19 : decode M_73.2.2.1 19 = .ok (.goto 4, 3) := by decide +kernel
theorem d_73_22 : decode M_73.2.2.1 22 = .ok (.iconst 0, 1) := by decide +kernel
theorem d_73_23 : decode M_73.2.2.1 23 = .ok (.ireturn, 1) := by decide +kernel
/-- HeardBarrels$Shelf.mayBeBad(I)Z -/
def M_77 : am_MT := (8, ⟨"HeardBarrels$Shelf", "mayBeBad", "(I)Z"⟩, prog_8_method_13_code, 2, some .boolean, false, 1, (0, 0))
theorem hM_77 : am_ms[77]? = some M_77 := rfl
theorem d_77_0 : decode M_77.2.2.1 0 = .ok (.iload_n 1, 1) := by decide +kernel
theorem d_77_1 : decode M_77.2.2.1 1 = .ok (.aload_n 0, 1) := by decide +kernel
theorem d_77_2 : decode M_77.2.2.1 2 = .ok (.invokevirtual 68, 3) := by decide +kernel
theorem d_77_5 : decode M_77.2.2.1 5 = .ok (.iconst (-1), 1) := by decide +kernel
theorem d_77_6 : decode M_77.2.2.1 6 = .ok (.ixor, 1) := by decide +kernel
theorem d_77_7 : decode M_77.2.2.1 7 = .ok (.iand, 1) := by decide +kernel
theorem d_77_8 : decode M_77.2.2.1 8 = .ok (.ifCond .ne 7, 3) := by decide +kernel
theorem d_77_11 : decode M_77.2.2.1 11 = .ok (.iconst 1, 1) := by decide +kernel
theorem d_77_12 : decode M_77.2.2.1 12 = .ok (.goto 4, 3) := by decide +kernel
theorem d_77_15 : decode M_77.2.2.1 15 = .ok (.iconst 0, 1) := by decide +kernel
theorem d_77_16 : decode M_77.2.2.1 16 = .ok (.ireturn, 1) := by decide +kernel
/-- HeardBarrels$Shelf.fillablePlaces()I -/
def M_78 : am_MT := (8, ⟨"HeardBarrels$Shelf", "fillablePlaces", "()I"⟩, prog_8_method_12_code, 1, some .int, false, 0, (0, 0))
theorem hM_78 : am_ms[78]? = some M_78 := rfl
theorem d_78_0 : decode M_78.2.2.1 0 = .ok (.aload_n 0, 1) := by decide +kernel
theorem d_78_1 : decode M_78.2.2.1 1 = .ok (.invokevirtual 64, 3) := by decide +kernel
theorem d_78_4 : decode M_78.2.2.1 4 = .ok (.aload_n 0, 1) := by decide +kernel
theorem d_78_5 : decode M_78.2.2.1 5 = .ok (.iconst 2, 1) := by decide +kernel
theorem d_78_6 : decode M_78.2.2.1 6 = .ok (.invokevirtual 60, 3) := by decide +kernel
theorem d_78_9 : decode M_78.2.2.1 9 = .ok (.iconst (-1), 1) := by decide +kernel
theorem d_78_10 : decode M_78.2.2.1 10 = .ok (.ixor, 1) := by decide +kernel
theorem d_78_11 : decode M_78.2.2.1 11 = .ok (.iand, 1) := by decide +kernel
theorem d_78_12 : decode M_78.2.2.1 12 = .ok (.ireturn, 1) := by decide +kernel
/-- HeardBarrels$Ears.howManyFit(LHeardBarrels$Row;)I -/
def M_81 : am_MT := (3, ⟨"HeardBarrels$Ears", "howManyFit", "(LHeardBarrels$Row;)I"⟩, prog_3_method_10_code, 2, some .int, false, 1, (0, 0))
theorem hM_81 : am_ms[81]? = some M_81 := rfl
theorem d_81_0 : decode M_81.2.2.1 0 = .ok (.aload_n 0, 1) := by decide +kernel
theorem d_81_1 : decode M_81.2.2.1 1 = .ok (.aload_n 1, 1) := by decide +kernel
theorem d_81_2 : decode M_81.2.2.1 2 = .ok (.invokevirtual 96, 3) := by decide +kernel
theorem d_81_5 : decode M_81.2.2.1 5 = .ok (.aload_n 0, 1) := by decide +kernel
theorem d_81_6 : decode M_81.2.2.1 6 = .ok (.invokevirtual 100, 3) := by decide +kernel
theorem d_81_9 : decode M_81.2.2.1 9 = .ok (.ireturn, 1) := by decide +kernel
/-- HeardBarrels$Ears.hear(LHeardBarrels$Row;)V -/
def M_82 : am_MT := (3, ⟨"HeardBarrels$Ears", "hear", "(LHeardBarrels$Row;)V"⟩, prog_3_method_7_code, 5, none, false, 1, (0, 0))
theorem hM_82 : am_ms[82]? = some M_82 := rfl
theorem d_82_0 : decode M_82.2.2.1 0 = .ok (.aload_n 0, 1) := by decide +kernel
theorem d_82_1 : decode M_82.2.2.1 1 = .ok (.invokevirtual 71, 3) := by decide +kernel
theorem d_82_4 : decode M_82.2.2.1 4 = .ok (.iconst 0, 1) := by decide +kernel
theorem d_82_5 : decode M_82.2.2.1 5 = .ok (.istore_n 2, 1) := by decide +kernel
theorem d_82_6 : decode M_82.2.2.1 6 = .ok (.iload_n 2, 1) := by decide +kernel
theorem d_82_7 : decode M_82.2.2.1 7 = .ok (.aload_n 0, 1) := by decide +kernel
theorem d_82_8 : decode M_82.2.2.1 8 = .ok (.getfield 38, 3) := by decide +kernel
theorem d_82_11 : decode M_82.2.2.1 11 = .ok (.getfield 61, 3) := by decide +kernel
theorem d_82_14 : decode M_82.2.2.1 14 = .ok (.if_icmp .ge 64, 3) := by decide +kernel
theorem d_82_17 : decode M_82.2.2.1 17 = .ok (.aload_n 1, 1) := by decide +kernel
theorem d_82_18 : decode M_82.2.2.1 18 = .ok (.iload_n 2, 1) := by decide +kernel
theorem d_82_19 : decode M_82.2.2.1 19 = .ok (.invokevirtual 74, 3) := by decide +kernel
theorem d_82_22 : decode M_82.2.2.1 22 = .ok (.lstore_n 3, 1) := by decide +kernel
theorem d_82_23 : decode M_82.2.2.1 23 = .ok (.lload_n 3, 1) := by decide +kernel
theorem d_82_24 : decode M_82.2.2.1 24 = .ok (.ldc2_w 80, 3) := by decide +kernel
theorem d_82_27 : decode M_82.2.2.1 27 = .ok (.lcmp, 1) := by decide +kernel
theorem d_82_28 : decode M_82.2.2.1 28 = .ok (.ifCond .ne 15, 3) := by decide +kernel
theorem d_82_31 : decode M_82.2.2.1 31 = .ok (.aload_n 0, 1) := by decide +kernel
theorem d_82_32 : decode M_82.2.2.1 32 = .ok (.getfield 15, 3) := by decide +kernel
theorem d_82_35 : decode M_82.2.2.1 35 = .ok (.iload_n 2, 1) := by decide +kernel
theorem d_82_36 : decode M_82.2.2.1 36 = .ok (.sipush 255, 3) := by decide +kernel
theorem d_82_39 : decode M_82.2.2.1 39 = .ok (.iastore, 1) := by decide +kernel
theorem d_82_40 : decode M_82.2.2.1 40 = .ok (.goto 32, 3) := by decide +kernel
theorem d_82_43 : decode M_82.2.2.1 43 = .ok (.aload_n 0, 1) := by decide +kernel
theorem d_82_44 : decode M_82.2.2.1 44 = .ok (.getfield 38, 3) := by decide +kernel
theorem d_82_47 : decode M_82.2.2.1 47 = .ok (.getfield 82, 3) := by decide +kernel
theorem d_82_50 : decode M_82.2.2.1 50 = .ok (.iload_n 2, 1) := by decide +kernel
theorem d_82_51 : decode M_82.2.2.1 51 = .ok (.iaload, 1) := by decide +kernel
theorem d_82_52 : decode M_82.2.2.1 52 = .ok (.iconst 3, 1) := by decide +kernel
theorem d_82_53 : decode M_82.2.2.1 53 = .ok (.if_icmp .ne 13, 3) := by decide +kernel
theorem d_82_56 : decode M_82.2.2.1 56 = .ok (.aload_n 0, 1) := by decide +kernel
theorem d_82_57 : decode M_82.2.2.1 57 = .ok (.getfield 15, 3) := by decide +kernel
theorem d_82_60 : decode M_82.2.2.1 60 = .ok (.iload_n 2, 1) := by decide +kernel
theorem d_82_61 : decode M_82.2.2.1 61 = .ok (.iconst 0, 1) := by decide +kernel
theorem d_82_62 : decode M_82.2.2.1 62 = .ok (.iastore, 1) := by decide +kernel
theorem d_82_63 : decode M_82.2.2.1 63 = .ok (.goto 9, 3) := by decide +kernel
theorem d_82_66 : decode M_82.2.2.1 66 = .ok (.aload_n 0, 1) := by decide +kernel
theorem d_82_67 : decode M_82.2.2.1 67 = .ok (.iload_n 2, 1) := by decide +kernel
theorem d_82_68 : decode M_82.2.2.1 68 = .ok (.lload_n 3, 1) := by decide +kernel
theorem d_82_69 : decode M_82.2.2.1 69 = .ok (.invokevirtual 85, 3) := by decide +kernel
theorem d_82_72 : decode M_82.2.2.1 72 = .ok (.iinc 2 1, 3) := by decide +kernel
theorem d_82_75 : decode M_82.2.2.1 75 = .ok (.goto (-69), 3) := by decide +kernel
theorem d_82_78 : decode M_82.2.2.1 78 = .ok (.return_, 1) := by decide +kernel
/-- HeardBarrels$Ears.listen()V -/
def M_83 : am_MT := (3, ⟨"HeardBarrels$Ears", "listen", "()V"⟩, prog_3_method_2_code, 3, none, false, 0, (0, 0))
theorem hM_83 : am_ms[83]? = some M_83 := rfl
theorem d_83_0 : decode M_83.2.2.1 0 = .ok (.aload_n 0, 1) := by decide +kernel
theorem d_83_1 : decode M_83.2.2.1 1 = .ok (.aload_n 0, 1) := by decide +kernel
theorem d_83_2 : decode M_83.2.2.1 2 = .ok (.getfield 38, 3) := by decide +kernel
theorem d_83_5 : decode M_83.2.2.1 5 = .ok (.invokevirtual 42, 3) := by decide +kernel
theorem d_83_8 : decode M_83.2.2.1 8 = .ok (.putfield 48, 3) := by decide +kernel
theorem d_83_11 : decode M_83.2.2.1 11 = .ok (.aload_n 0, 1) := by decide +kernel
theorem d_83_12 : decode M_83.2.2.1 12 = .ok (.iconst 1, 1) := by decide +kernel
theorem d_83_13 : decode M_83.2.2.1 13 = .ok (.aload_n 0, 1) := by decide +kernel
theorem d_83_14 : decode M_83.2.2.1 14 = .ok (.getfield 48, 3) := by decide +kernel
theorem d_83_17 : decode M_83.2.2.1 17 = .ok (.invokestatic 52, 3) := by decide +kernel
theorem d_83_20 : decode M_83.2.2.1 20 = .ok (.ishl, 1) := by decide +kernel
theorem d_83_21 : decode M_83.2.2.1 21 = .ok (.putfield 58, 3) := by decide +kernel
theorem d_83_24 : decode M_83.2.2.1 24 = .ok (.iconst 0, 1) := by decide +kernel
theorem d_83_25 : decode M_83.2.2.1 25 = .ok (.istore_n 1, 1) := by decide +kernel
theorem d_83_26 : decode M_83.2.2.1 26 = .ok (.iload_n 1, 1) := by decide +kernel
theorem d_83_27 : decode M_83.2.2.1 27 = .ok (.aload_n 0, 1) := by decide +kernel
theorem d_83_28 : decode M_83.2.2.1 28 = .ok (.getfield 38, 3) := by decide +kernel
theorem d_83_31 : decode M_83.2.2.1 31 = .ok (.getfield 61, 3) := by decide +kernel
theorem d_83_34 : decode M_83.2.2.1 34 = .ok (.if_icmp .ge 47, 3) := by decide +kernel
theorem d_83_37 : decode M_83.2.2.1 37 = .ok (.iconst 0, 1) := by decide +kernel
theorem d_83_38 : decode M_83.2.2.1 38 = .ok (.istore_n 2, 1) := by decide +kernel
theorem d_83_39 : decode M_83.2.2.1 39 = .ok (.iload_n 2, 1) := by decide +kernel
theorem d_83_40 : decode M_83.2.2.1 40 = .ok (.bipush 8, 2) := by decide +kernel
theorem d_83_42 : decode M_83.2.2.1 42 = .ok (.if_icmp .ge 33, 3) := by decide +kernel
theorem d_83_45 : decode M_83.2.2.1 45 = .ok (.aload_n 0, 1) := by decide +kernel
theorem d_83_46 : decode M_83.2.2.1 46 = .ok (.getfield 11, 3) := by decide +kernel
theorem d_83_49 : decode M_83.2.2.1 49 = .ok (.iload_n 1, 1) := by decide +kernel
theorem d_83_50 : decode M_83.2.2.1 50 = .ok (.bipush 8, 2) := by decide +kernel
theorem d_83_52 : decode M_83.2.2.1 52 = .ok (.imul, 1) := by decide +kernel
theorem d_83_53 : decode M_83.2.2.1 53 = .ok (.iload_n 2, 1) := by decide +kernel
theorem d_83_54 : decode M_83.2.2.1 54 = .ok (.iadd, 1) := by decide +kernel
theorem d_83_55 : decode M_83.2.2.1 55 = .ok (.aload_n 0, 1) := by decide +kernel
theorem d_83_56 : decode M_83.2.2.1 56 = .ok (.getfield 38, 3) := by decide +kernel
theorem d_83_59 : decode M_83.2.2.1 59 = .ok (.iload_n 1, 1) := by decide +kernel
theorem d_83_60 : decode M_83.2.2.1 60 = .ok (.iload_n 2, 1) := by decide +kernel
theorem d_83_61 : decode M_83.2.2.1 61 = .ok (.iload_n 1, 1) := by decide +kernel
theorem d_83_62 : decode M_83.2.2.1 62 = .ok (.ishl, 1) := by decide +kernel
theorem d_83_63 : decode M_83.2.2.1 63 = .ok (.iconst 1, 1) := by decide +kernel
theorem d_83_64 : decode M_83.2.2.1 64 = .ok (.ishr, 1) := by decide +kernel
theorem d_83_65 : decode M_83.2.2.1 65 = .ok (.invokevirtual 64, 3) := by decide +kernel
theorem d_83_68 : decode M_83.2.2.1 68 = .ok (.iastore, 1) := by decide +kernel
theorem d_83_69 : decode M_83.2.2.1 69 = .ok (.iinc 2 1, 3) := by decide +kernel
theorem d_83_72 : decode M_83.2.2.1 72 = .ok (.goto (-33), 3) := by decide +kernel
theorem d_83_75 : decode M_83.2.2.1 75 = .ok (.iinc 1 1, 3) := by decide +kernel
theorem d_83_78 : decode M_83.2.2.1 78 = .ok (.goto (-52), 3) := by decide +kernel
theorem d_83_81 : decode M_83.2.2.1 81 = .ok (.return_, 1) := by decide +kernel
/-- HeardBarrels$Ears.allow(IJ)V -/
def M_84 : am_MT := (3, ⟨"HeardBarrels$Ears", "allow", "(IJ)V"⟩, prog_3_method_6_code, 6, none, false, 2, (0, 0))
theorem hM_84 : am_ms[84]? = some M_84 := rfl
theorem d_84_0 : decode M_84.2.2.1 0 = .ok (.iconst 0, 1) := by decide +kernel
theorem d_84_1 : decode M_84.2.2.1 1 = .ok (.istore 4, 2) := by decide +kernel
theorem d_84_3 : decode M_84.2.2.1 3 = .ok (.iconst 0, 1) := by decide +kernel
theorem d_84_4 : decode M_84.2.2.1 4 = .ok (.istore 5, 2) := by decide +kernel
theorem d_84_6 : decode M_84.2.2.1 6 = .ok (.iload 5, 2) := by decide +kernel
theorem d_84_8 : decode M_84.2.2.1 8 = .ok (.bipush 8, 2) := by decide +kernel
theorem d_84_10 : decode M_84.2.2.1 10 = .ok (.if_icmp .ge 36, 3) := by decide +kernel
theorem d_84_13 : decode M_84.2.2.1 13 = .ok (.aload_n 0, 1) := by decide +kernel
theorem d_84_14 : decode M_84.2.2.1 14 = .ok (.getfield 11, 3) := by decide +kernel
theorem d_84_17 : decode M_84.2.2.1 17 = .ok (.iload_n 1, 1) := by decide +kernel
theorem d_84_18 : decode M_84.2.2.1 18 = .ok (.bipush 8, 2) := by decide +kernel
theorem d_84_20 : decode M_84.2.2.1 20 = .ok (.imul, 1) := by decide +kernel
theorem d_84_21 : decode M_84.2.2.1 21 = .ok (.iload 5, 2) := by decide +kernel
theorem d_84_23 : decode M_84.2.2.1 23 = .ok (.iadd, 1) := by decide +kernel
theorem d_84_24 : decode M_84.2.2.1 24 = .ok (.iaload, 1) := by decide +kernel
theorem d_84_25 : decode M_84.2.2.1 25 = .ok (.i2l, 1) := by decide +kernel
theorem d_84_26 : decode M_84.2.2.1 26 = .ok (.lload_n 2, 1) := by decide +kernel
theorem d_84_27 : decode M_84.2.2.1 27 = .ok (.lcmp, 1) := by decide +kernel
theorem d_84_28 : decode M_84.2.2.1 28 = .ok (.ifCond .ne 12, 3) := by decide +kernel
theorem d_84_31 : decode M_84.2.2.1 31 = .ok (.iload 4, 2) := by decide +kernel
theorem d_84_33 : decode M_84.2.2.1 33 = .ok (.iconst 1, 1) := by decide +kernel
theorem d_84_34 : decode M_84.2.2.1 34 = .ok (.iload 5, 2) := by decide +kernel
theorem d_84_36 : decode M_84.2.2.1 36 = .ok (.ishl, 1) := by decide +kernel
theorem d_84_37 : decode M_84.2.2.1 37 = .ok (.ior, 1) := by decide +kernel
theorem d_84_38 : decode M_84.2.2.1 38 = .ok (.istore 4, 2) := by decide +kernel
theorem d_84_40 : decode M_84.2.2.1 40 = .ok (.iinc 5 1, 3) := by decide +kernel
theorem d_84_43 : decode M_84.2.2.1 43 = .ok (.goto (-37), 3) := by decide +kernel
theorem d_84_46 : decode M_84.2.2.1 46 = .ok (.aload_n 0, 1) := by decide +kernel
theorem d_84_47 : decode M_84.2.2.1 47 = .ok (.getfield 15, 3) := by decide +kernel
theorem d_84_50 : decode M_84.2.2.1 50 = .ok (.iload_n 1, 1) := by decide +kernel
theorem d_84_51 : decode M_84.2.2.1 51 = .ok (.iload 4, 2) := by decide +kernel
theorem d_84_53 : decode M_84.2.2.1 53 = .ok (.iastore, 1) := by decide +kernel
theorem d_84_54 : decode M_84.2.2.1 54 = .ok (.return_, 1) := by decide +kernel
/-- HeardBarrels$Ears.howManyAllowed()I -/
def M_85 : am_MT := (3, ⟨"HeardBarrels$Ears", "howManyAllowed", "()I"⟩, prog_3_method_9_code, 4, some .int, false, 0, (0, 0))
theorem hM_85 : am_ms[85]? = some M_85 := rfl
theorem d_85_0 : decode M_85.2.2.1 0 = .ok (.iconst 0, 1) := by decide +kernel
theorem d_85_1 : decode M_85.2.2.1 1 = .ok (.istore_n 1, 1) := by decide +kernel
theorem d_85_2 : decode M_85.2.2.1 2 = .ok (.iconst 0, 1) := by decide +kernel
theorem d_85_3 : decode M_85.2.2.1 3 = .ok (.istore_n 2, 1) := by decide +kernel
theorem d_85_4 : decode M_85.2.2.1 4 = .ok (.iconst 0, 1) := by decide +kernel
theorem d_85_5 : decode M_85.2.2.1 5 = .ok (.istore_n 3, 1) := by decide +kernel
theorem d_85_6 : decode M_85.2.2.1 6 = .ok (.iload_n 3, 1) := by decide +kernel
theorem d_85_7 : decode M_85.2.2.1 7 = .ok (.aload_n 0, 1) := by decide +kernel
theorem d_85_8 : decode M_85.2.2.1 8 = .ok (.getfield 58, 3) := by decide +kernel
theorem d_85_11 : decode M_85.2.2.1 11 = .ok (.if_icmp .ge 26, 3) := by decide +kernel
theorem d_85_14 : decode M_85.2.2.1 14 = .ok (.aload_n 0, 1) := by decide +kernel
theorem d_85_15 : decode M_85.2.2.1 15 = .ok (.iload_n 2, 1) := by decide +kernel
theorem d_85_16 : decode M_85.2.2.1 16 = .ok (.invokevirtual 89, 3) := by decide +kernel
theorem d_85_19 : decode M_85.2.2.1 19 = .ok (.ifCond .eq 6, 3) := by decide +kernel
theorem d_85_22 : decode M_85.2.2.1 22 = .ok (.iinc 1 1, 3) := by decide +kernel
theorem d_85_25 : decode M_85.2.2.1 25 = .ok (.aload_n 0, 1) := by decide +kernel
theorem d_85_26 : decode M_85.2.2.1 26 = .ok (.iload_n 2, 1) := by decide +kernel
theorem d_85_27 : decode M_85.2.2.1 27 = .ok (.invokevirtual 93, 3) := by decide +kernel
theorem d_85_30 : decode M_85.2.2.1 30 = .ok (.istore_n 2, 1) := by decide +kernel
theorem d_85_31 : decode M_85.2.2.1 31 = .ok (.iinc 3 1, 3) := by decide +kernel
theorem d_85_34 : decode M_85.2.2.1 34 = .ok (.goto (-28), 3) := by decide +kernel
theorem d_85_37 : decode M_85.2.2.1 37 = .ok (.iload_n 1, 1) := by decide +kernel
theorem d_85_38 : decode M_85.2.2.1 38 = .ok (.ireturn, 1) := by decide +kernel
/-- HeardBarrels$Ears.isAllowed(I)Z -/
def M_86 : am_MT := (3, ⟨"HeardBarrels$Ears", "isAllowed", "(I)Z"⟩, prog_3_method_8_code, 3, some .boolean, false, 1, (0, 0))
theorem hM_86 : am_ms[86]? = some M_86 := rfl
theorem d_86_0 : decode M_86.2.2.1 0 = .ok (.iconst 0, 1) := by decide +kernel
theorem d_86_1 : decode M_86.2.2.1 1 = .ok (.istore_n 2, 1) := by decide +kernel
theorem d_86_2 : decode M_86.2.2.1 2 = .ok (.iload_n 2, 1) := by decide +kernel
theorem d_86_3 : decode M_86.2.2.1 3 = .ok (.aload_n 0, 1) := by decide +kernel
theorem d_86_4 : decode M_86.2.2.1 4 = .ok (.getfield 38, 3) := by decide +kernel
theorem d_86_7 : decode M_86.2.2.1 7 = .ok (.getfield 61, 3) := by decide +kernel
theorem d_86_10 : decode M_86.2.2.1 10 = .ok (.if_icmp .ge 28, 3) := by decide +kernel
theorem d_86_13 : decode M_86.2.2.1 13 = .ok (.aload_n 0, 1) := by decide +kernel
theorem d_86_14 : decode M_86.2.2.1 14 = .ok (.getfield 15, 3) := by decide +kernel
theorem d_86_17 : decode M_86.2.2.1 17 = .ok (.iload_n 2, 1) := by decide +kernel
theorem d_86_18 : decode M_86.2.2.1 18 = .ok (.iaload, 1) := by decide +kernel
theorem d_86_19 : decode M_86.2.2.1 19 = .ok (.iload_n 1, 1) := by decide +kernel
theorem d_86_20 : decode M_86.2.2.1 20 = .ok (.iload_n 2, 1) := by decide +kernel
theorem d_86_21 : decode M_86.2.2.1 21 = .ok (.invokestatic 68, 3) := by decide +kernel
theorem d_86_24 : decode M_86.2.2.1 24 = .ok (.ishr, 1) := by decide +kernel
theorem d_86_25 : decode M_86.2.2.1 25 = .ok (.iconst 1, 1) := by decide +kernel
theorem d_86_26 : decode M_86.2.2.1 26 = .ok (.iand, 1) := by decide +kernel
theorem d_86_27 : decode M_86.2.2.1 27 = .ok (.ifCond .ne 5, 3) := by decide +kernel
theorem d_86_30 : decode M_86.2.2.1 30 = .ok (.iconst 0, 1) := by decide +kernel
theorem d_86_31 : decode M_86.2.2.1 31 = .ok (.ireturn, 1) := by decide +kernel
theorem d_86_32 : decode M_86.2.2.1 32 = .ok (.iinc 2 1, 3) := by decide +kernel
theorem d_86_35 : decode M_86.2.2.1 35 = .ok (.goto (-33), 3) := by decide +kernel
theorem d_86_38 : decode M_86.2.2.1 38 = .ok (.iconst 1, 1) := by decide +kernel
theorem d_86_39 : decode M_86.2.2.1 39 = .ok (.ireturn, 1) := by decide +kernel
/-- HeardBarrels$Ears.tripleOf(II)I -/
def M_87 : am_MT := (3, ⟨"HeardBarrels$Ears", "tripleOf", "(II)I"⟩, prog_3_method_3_code, 2, some .int, false, 2, (0, 0))
theorem hM_87 : am_ms[87]? = some M_87 := rfl
theorem d_87_0 : decode M_87.2.2.1 0 = .ok (.iload_n 0, 1) := by decide +kernel
theorem d_87_1 : decode M_87.2.2.1 1 = .ok (.iconst 1, 1) := by decide +kernel
theorem d_87_2 : decode M_87.2.2.1 2 = .ok (.ishl, 1) := by decide +kernel
theorem d_87_3 : decode M_87.2.2.1 3 = .ok (.iload_n 1, 1) := by decide +kernel
theorem d_87_4 : decode M_87.2.2.1 4 = .ok (.ishr, 1) := by decide +kernel
theorem d_87_5 : decode M_87.2.2.1 5 = .ok (.bipush 7, 2) := by decide +kernel
theorem d_87_7 : decode M_87.2.2.1 7 = .ok (.iand, 1) := by decide +kernel
theorem d_87_8 : decode M_87.2.2.1 8 = .ok (.ireturn, 1) := by decide +kernel
/-- HeardBarrels$Ears.following(I)I -/
def M_88 : am_MT := (3, ⟨"HeardBarrels$Ears", "following", "(I)I"⟩, prog_3_method_5_code, 2, some .int, false, 1, (0, 0))
theorem hM_88 : am_ms[88]? = some M_88 := rfl
theorem d_88_0 : decode M_88.2.2.1 0 = .ok (.iload_n 1, 1) := by decide +kernel
theorem d_88_1 : decode M_88.2.2.1 1 = .ok (.aload_n 0, 1) := by decide +kernel
theorem d_88_2 : decode M_88.2.2.1 2 = .ok (.getfield 48, 3) := by decide +kernel
theorem d_88_5 : decode M_88.2.2.1 5 = .ok (.isub, 1) := by decide +kernel
theorem d_88_6 : decode M_88.2.2.1 6 = .ok (.aload_n 0, 1) := by decide +kernel
theorem d_88_7 : decode M_88.2.2.1 7 = .ok (.getfield 48, 3) := by decide +kernel
theorem d_88_10 : decode M_88.2.2.1 10 = .ok (.iand, 1) := by decide +kernel
theorem d_88_11 : decode M_88.2.2.1 11 = .ok (.ireturn, 1) := by decide +kernel
/-- HeardBarrels$Ears.fitAt(LHeardBarrels$Row;I)I -/
def M_90 : am_MT := (3, ⟨"HeardBarrels$Ears", "fitAt", "(LHeardBarrels$Row;I)I"⟩, prog_3_method_11_code, 6, some .int, false, 2, (0, 0))
theorem hM_90 : am_ms[90]? = some M_90 := rfl
theorem d_90_0 : decode M_90.2.2.1 0 = .ok (.aload_n 0, 1) := by decide +kernel
theorem d_90_1 : decode M_90.2.2.1 1 = .ok (.aload_n 1, 1) := by decide +kernel
theorem d_90_2 : decode M_90.2.2.1 2 = .ok (.invokevirtual 96, 3) := by decide +kernel
theorem d_90_5 : decode M_90.2.2.1 5 = .ok (.iconst 0, 1) := by decide +kernel
theorem d_90_6 : decode M_90.2.2.1 6 = .ok (.istore_n 3, 1) := by decide +kernel
theorem d_90_7 : decode M_90.2.2.1 7 = .ok (.iconst 0, 1) := by decide +kernel
theorem d_90_8 : decode M_90.2.2.1 8 = .ok (.istore 4, 2) := by decide +kernel
theorem d_90_10 : decode M_90.2.2.1 10 = .ok (.iconst 0, 1) := by decide +kernel
theorem d_90_11 : decode M_90.2.2.1 11 = .ok (.istore 5, 2) := by decide +kernel
theorem d_90_13 : decode M_90.2.2.1 13 = .ok (.iload 5, 2) := by decide +kernel
theorem d_90_15 : decode M_90.2.2.1 15 = .ok (.aload_n 0, 1) := by decide +kernel
theorem d_90_16 : decode M_90.2.2.1 16 = .ok (.getfield 58, 3) := by decide +kernel
theorem d_90_19 : decode M_90.2.2.1 19 = .ok (.if_icmp .ge 37, 3) := by decide +kernel
theorem d_90_22 : decode M_90.2.2.1 22 = .ok (.aload_n 0, 1) := by decide +kernel
theorem d_90_23 : decode M_90.2.2.1 23 = .ok (.iload 4, 2) := by decide +kernel
theorem d_90_25 : decode M_90.2.2.1 25 = .ok (.invokevirtual 89, 3) := by decide +kernel
theorem d_90_28 : decode M_90.2.2.1 28 = .ok (.ifCond .eq 14, 3) := by decide +kernel
theorem d_90_31 : decode M_90.2.2.1 31 = .ok (.iload_n 3, 1) := by decide +kernel
theorem d_90_32 : decode M_90.2.2.1 32 = .ok (.iload_n 2, 1) := by decide +kernel
theorem d_90_33 : decode M_90.2.2.1 33 = .ok (.if_icmp .ne 6, 3) := by decide +kernel
theorem d_90_36 : decode M_90.2.2.1 36 = .ok (.iload 4, 2) := by decide +kernel
theorem d_90_38 : decode M_90.2.2.1 38 = .ok (.ireturn, 1) := by decide +kernel
theorem d_90_39 : decode M_90.2.2.1 39 = .ok (.iinc 3 1, 3) := by decide +kernel
theorem d_90_42 : decode M_90.2.2.1 42 = .ok (.aload_n 0, 1) := by decide +kernel
theorem d_90_43 : decode M_90.2.2.1 43 = .ok (.iload 4, 2) := by decide +kernel
theorem d_90_45 : decode M_90.2.2.1 45 = .ok (.invokevirtual 93, 3) := by decide +kernel
theorem d_90_48 : decode M_90.2.2.1 48 = .ok (.istore 4, 2) := by decide +kernel
theorem d_90_50 : decode M_90.2.2.1 50 = .ok (.iinc 5 1, 3) := by decide +kernel
theorem d_90_53 : decode M_90.2.2.1 53 = .ok (.goto (-40), 3) := by decide +kernel
theorem d_90_56 : decode M_90.2.2.1 56 = .ok (.iconst (-1), 1) := by decide +kernel
theorem d_90_57 : decode M_90.2.2.1 57 = .ok (.ireturn, 1) := by decide +kernel
/-- HeardBarrels$Ears.certain(LHeardBarrels$Row;Z)I -/
def M_92 : am_MT := (3, ⟨"HeardBarrels$Ears", "certain", "(LHeardBarrels$Row;Z)I"⟩, prog_3_method_12_code, 8, some .int, false, 2, (0, 0))
theorem hM_92 : am_ms[92]? = some M_92 := rfl
theorem d_92_0 : decode M_92.2.2.1 0 = .ok (.aload_n 0, 1) := by decide +kernel
theorem d_92_1 : decode M_92.2.2.1 1 = .ok (.aload_n 1, 1) := by decide +kernel
theorem d_92_2 : decode M_92.2.2.1 2 = .ok (.invokevirtual 96, 3) := by decide +kernel
theorem d_92_5 : decode M_92.2.2.1 5 = .ok (.aload_n 0, 1) := by decide +kernel
theorem d_92_6 : decode M_92.2.2.1 6 = .ok (.getfield 48, 3) := by decide +kernel
theorem d_92_9 : decode M_92.2.2.1 9 = .ok (.istore_n 3, 1) := by decide +kernel
theorem d_92_10 : decode M_92.2.2.1 10 = .ok (.aload_n 0, 1) := by decide +kernel
theorem d_92_11 : decode M_92.2.2.1 11 = .ok (.getfield 48, 3) := by decide +kernel
theorem d_92_14 : decode M_92.2.2.1 14 = .ok (.istore 4, 2) := by decide +kernel
theorem d_92_16 : decode M_92.2.2.1 16 = .ok (.iconst 0, 1) := by decide +kernel
theorem d_92_17 : decode M_92.2.2.1 17 = .ok (.istore 5, 2) := by decide +kernel
theorem d_92_19 : decode M_92.2.2.1 19 = .ok (.iconst 0, 1) := by decide +kernel
theorem d_92_20 : decode M_92.2.2.1 20 = .ok (.istore 6, 2) := by decide +kernel
theorem d_92_22 : decode M_92.2.2.1 22 = .ok (.iconst 0, 1) := by decide +kernel
theorem d_92_23 : decode M_92.2.2.1 23 = .ok (.istore 7, 2) := by decide +kernel
theorem d_92_25 : decode M_92.2.2.1 25 = .ok (.iload 7, 2) := by decide +kernel
theorem d_92_27 : decode M_92.2.2.1 27 = .ok (.aload_n 0, 1) := by decide +kernel
theorem d_92_28 : decode M_92.2.2.1 28 = .ok (.getfield 58, 3) := by decide +kernel
theorem d_92_31 : decode M_92.2.2.1 31 = .ok (.if_icmp .ge 43, 3) := by decide +kernel
theorem d_92_34 : decode M_92.2.2.1 34 = .ok (.aload_n 0, 1) := by decide +kernel
theorem d_92_35 : decode M_92.2.2.1 35 = .ok (.iload 6, 2) := by decide +kernel
theorem d_92_37 : decode M_92.2.2.1 37 = .ok (.invokevirtual 89, 3) := by decide +kernel
theorem d_92_40 : decode M_92.2.2.1 40 = .ok (.ifCond .eq 20, 3) := by decide +kernel
theorem d_92_43 : decode M_92.2.2.1 43 = .ok (.iconst 1, 1) := by decide +kernel
theorem d_92_44 : decode M_92.2.2.1 44 = .ok (.istore 5, 2) := by decide +kernel
theorem d_92_46 : decode M_92.2.2.1 46 = .ok (.iload_n 3, 1) := by decide +kernel
theorem d_92_47 : decode M_92.2.2.1 47 = .ok (.iload 6, 2) := by decide +kernel
theorem d_92_49 : decode M_92.2.2.1 49 = .ok (.iand, 1) := by decide +kernel
theorem d_92_50 : decode M_92.2.2.1 50 = .ok (.istore_n 3, 1) := by decide +kernel
theorem d_92_51 : decode M_92.2.2.1 51 = .ok (.iload 4, 2) := by decide +kernel
theorem d_92_53 : decode M_92.2.2.1 53 = .ok (.iload 6, 2) := by decide +kernel
theorem d_92_55 : decode M_92.2.2.1 55 = .ok (.iconst (-1), 1) := by decide +kernel
theorem d_92_56 : decode M_92.2.2.1 56 = .ok (.ixor, 1) := by decide +kernel
theorem d_92_57 : decode M_92.2.2.1 57 = .ok (.iand, 1) := by decide +kernel
theorem d_92_58 : decode M_92.2.2.1 58 = .ok (.istore 4, 2) := by decide +kernel
theorem d_92_60 : decode M_92.2.2.1 60 = .ok (.aload_n 0, 1) := by decide +kernel
theorem d_92_61 : decode M_92.2.2.1 61 = .ok (.iload 6, 2) := by decide +kernel
theorem d_92_63 : decode M_92.2.2.1 63 = .ok (.invokevirtual 93, 3) := by decide +kernel
theorem d_92_66 : decode M_92.2.2.1 66 = .ok (.istore 6, 2) := by decide +kernel
theorem d_92_68 : decode M_92.2.2.1 68 = .ok (.iinc 7 1, 3) := by decide +kernel
theorem d_92_71 : decode M_92.2.2.1 71 = .ok (.goto (-46), 3) := by decide +kernel
theorem d_92_74 : decode M_92.2.2.1 74 = .ok (.iload 5, 2) := by decide +kernel
theorem d_92_76 : decode M_92.2.2.1 76 = .ok (.ifCond .ne 5, 3) := by decide +kernel
theorem d_92_79 : decode M_92.2.2.1 79 = .ok (.iconst 0, 1) := by decide +kernel
theorem d_92_80 : decode M_92.2.2.1 80 = .ok (.ireturn, 1) := by decide +kernel
theorem d_92_81 : decode M_92.2.2.1 81 = .ok (.iload_n 2, 1) := by decide +kernel
theorem d_92_82 : decode M_92.2.2.1 82 = .ok (.ifCond .eq 7, 3) := by decide +kernel
theorem d_92_85 : decode M_92.2.2.1 85 = .ok (.iload_n 3, 1) := by decide +kernel
theorem d_92_86 : decode M_92.2.2.1 86 = .ok (.goto 5, 3) := by decide +kernel
theorem d_92_89 : decode M_92.2.2.1 89 = .ok (.iload 4, 2) := by decide +kernel
theorem d_92_91 : decode M_92.2.2.1 91 = .ok (.ireturn, 1) := by decide +kernel
/-- HeardBarrels$Ears.bestKnock(LHeardBarrels$Row;)I -/
def M_94 : am_MT := (3, ⟨"HeardBarrels$Ears", "bestKnock", "(LHeardBarrels$Row;)I"⟩, prog_3_method_13_code, 5, some .int, false, 1, (0, 0))
theorem hM_94 : am_ms[94]? = some M_94 := rfl
theorem d_94_0 : decode M_94.2.2.1 0 = .ok (.aload_n 0, 1) := by decide +kernel
theorem d_94_1 : decode M_94.2.2.1 1 = .ok (.aload_n 1, 1) := by decide +kernel
theorem d_94_2 : decode M_94.2.2.1 2 = .ok (.invokevirtual 96, 3) := by decide +kernel
theorem d_94_5 : decode M_94.2.2.1 5 = .ok (.aload_n 0, 1) := by decide +kernel
theorem d_94_6 : decode M_94.2.2.1 6 = .ok (.invokevirtual 103, 3) := by decide +kernel
theorem d_94_9 : decode M_94.2.2.1 9 = .ok (.iconst 2, 1) := by decide +kernel
theorem d_94_10 : decode M_94.2.2.1 10 = .ok (.if_icmp .ge 5, 3) := by decide +kernel
theorem d_94_13 : decode M_94.2.2.1 13 = .ok (.iconst (-1), 1) := by decide +kernel
theorem d_94_14 : decode M_94.2.2.1 14 = .ok (.ireturn, 1) := by decide +kernel
theorem d_94_15 : decode M_94.2.2.1 15 = .ok (.iconst (-1), 1) := by decide +kernel
theorem d_94_16 : decode M_94.2.2.1 16 = .ok (.istore_n 2, 1) := by decide +kernel
theorem d_94_17 : decode M_94.2.2.1 17 = .ok (.iconst 0, 1) := by decide +kernel
theorem d_94_18 : decode M_94.2.2.1 18 = .ok (.istore_n 3, 1) := by decide +kernel
theorem d_94_19 : decode M_94.2.2.1 19 = .ok (.iload_n 3, 1) := by decide +kernel
theorem d_94_20 : decode M_94.2.2.1 20 = .ok (.aload_n 0, 1) := by decide +kernel
theorem d_94_21 : decode M_94.2.2.1 21 = .ok (.getfield 38, 3) := by decide +kernel
theorem d_94_24 : decode M_94.2.2.1 24 = .ok (.getfield 61, 3) := by decide +kernel
theorem d_94_27 : decode M_94.2.2.1 27 = .ok (.if_icmp .ge 64, 3) := by decide +kernel
theorem d_94_30 : decode M_94.2.2.1 30 = .ok (.aload_n 0, 1) := by decide +kernel
theorem d_94_31 : decode M_94.2.2.1 31 = .ok (.getfield 38, 3) := by decide +kernel
theorem d_94_34 : decode M_94.2.2.1 34 = .ok (.iload_n 3, 1) := by decide +kernel
theorem d_94_35 : decode M_94.2.2.1 35 = .ok (.invokevirtual 106, 3) := by decide +kernel
theorem d_94_38 : decode M_94.2.2.1 38 = .ok (.ifCond .eq 47, 3) := by decide +kernel
theorem d_94_41 : decode M_94.2.2.1 41 = .ok (.aload_n 1, 1) := by decide +kernel
theorem d_94_42 : decode M_94.2.2.1 42 = .ok (.iload_n 3, 1) := by decide +kernel
theorem d_94_43 : decode M_94.2.2.1 43 = .ok (.invokevirtual 74, 3) := by decide +kernel
theorem d_94_46 : decode M_94.2.2.1 46 = .ok (.ldc2_w 80, 3) := by decide +kernel
theorem d_94_49 : decode M_94.2.2.1 49 = .ok (.lcmp, 1) := by decide +kernel
theorem d_94_50 : decode M_94.2.2.1 50 = .ok (.ifCond .eq 6, 3) := by decide +kernel
theorem d_94_53 : decode M_94.2.2.1 53 = .ok (.goto 32, 3) := by decide +kernel
theorem d_94_56 : decode M_94.2.2.1 56 = .ok (.aload_n 0, 1) := by decide +kernel
theorem d_94_57 : decode M_94.2.2.1 57 = .ok (.iload_n 3, 1) := by decide +kernel
theorem d_94_58 : decode M_94.2.2.1 58 = .ok (.invokevirtual 109, 3) := by decide +kernel
theorem d_94_61 : decode M_94.2.2.1 61 = .ok (.istore 4, 2) := by decide +kernel
theorem d_94_63 : decode M_94.2.2.1 63 = .ok (.iload_n 2, 1) := by decide +kernel
theorem d_94_64 : decode M_94.2.2.1 64 = .ok (.iconst (-1), 1) := by decide +kernel
theorem d_94_65 : decode M_94.2.2.1 65 = .ok (.if_icmp .eq 12, 3) := by decide +kernel
theorem d_94_68 : decode M_94.2.2.1 68 = .ok (.iload 4, 2) := by decide +kernel
theorem d_94_70 : decode M_94.2.2.1 70 = .ok (.aload_n 0, 1) := by decide +kernel
theorem d_94_71 : decode M_94.2.2.1 71 = .ok (.getfield 112, 3) := by decide +kernel
theorem d_94_74 : decode M_94.2.2.1 74 = .ok (.if_icmp .ge 11, 3) := by decide +kernel
theorem d_94_77 : decode M_94.2.2.1 77 = .ok (.iload_n 3, 1) := by decide +kernel
theorem d_94_78 : decode M_94.2.2.1 78 = .ok (.istore_n 2, 1) := by decide +kernel
theorem d_94_79 : decode M_94.2.2.1 79 = .ok (.aload_n 0, 1) := by decide +kernel
theorem d_94_80 : decode M_94.2.2.1 80 = .ok (.iload 4, 2) := by decide +kernel
theorem d_94_82 : decode M_94.2.2.1 82 = .ok (.putfield 112, 3) := by decide +kernel
theorem d_94_85 : decode M_94.2.2.1 85 = .ok (.iinc 3 1, 3) := by decide +kernel
theorem d_94_88 : decode M_94.2.2.1 88 = .ok (.goto (-69), 3) := by decide +kernel
theorem d_94_91 : decode M_94.2.2.1 91 = .ok (.iload_n 2, 1) := by decide +kernel
theorem d_94_92 : decode M_94.2.2.1 92 = .ok (.ireturn, 1) := by decide +kernel
/-- HeardBarrels$Ears.tallyFits()I -/
def M_95 : am_MT := (3, ⟨"HeardBarrels$Ears", "tallyFits", "()I"⟩, prog_3_method_14_code, 5, some .int, false, 0, (0, 0))
theorem hM_95 : am_ms[95]? = some M_95 := rfl
theorem d_95_0 : decode M_95.2.2.1 0 = .ok (.aload_n 0, 1) := by decide +kernel
theorem d_95_1 : decode M_95.2.2.1 1 = .ok (.getfield 18, 3) := by decide +kernel
theorem d_95_4 : decode M_95.2.2.1 4 = .ok (.iconst 0, 1) := by decide +kernel
theorem d_95_5 : decode M_95.2.2.1 5 = .ok (.invokestatic 115, 3) := by decide +kernel
theorem d_95_8 : decode M_95.2.2.1 8 = .ok (.iconst 0, 1) := by decide +kernel
theorem d_95_9 : decode M_95.2.2.1 9 = .ok (.istore_n 1, 1) := by decide +kernel
theorem d_95_10 : decode M_95.2.2.1 10 = .ok (.iconst 0, 1) := by decide +kernel
theorem d_95_11 : decode M_95.2.2.1 11 = .ok (.istore_n 2, 1) := by decide +kernel
theorem d_95_12 : decode M_95.2.2.1 12 = .ok (.iconst 0, 1) := by decide +kernel
theorem d_95_13 : decode M_95.2.2.1 13 = .ok (.istore_n 3, 1) := by decide +kernel
theorem d_95_14 : decode M_95.2.2.1 14 = .ok (.iload_n 3, 1) := by decide +kernel
theorem d_95_15 : decode M_95.2.2.1 15 = .ok (.aload_n 0, 1) := by decide +kernel
theorem d_95_16 : decode M_95.2.2.1 16 = .ok (.getfield 58, 3) := by decide +kernel
theorem d_95_19 : decode M_95.2.2.1 19 = .ok (.if_icmp .ge 68, 3) := by decide +kernel
theorem d_95_22 : decode M_95.2.2.1 22 = .ok (.aload_n 0, 1) := by decide +kernel
theorem d_95_23 : decode M_95.2.2.1 23 = .ok (.iload_n 2, 1) := by decide +kernel
theorem d_95_24 : decode M_95.2.2.1 24 = .ok (.invokevirtual 89, 3) := by decide +kernel
theorem d_95_27 : decode M_95.2.2.1 27 = .ok (.ifCond .eq 48, 3) := by decide +kernel
theorem d_95_30 : decode M_95.2.2.1 30 = .ok (.iinc 1 1, 3) := by decide +kernel
theorem d_95_33 : decode M_95.2.2.1 33 = .ok (.iconst 0, 1) := by decide +kernel
theorem d_95_34 : decode M_95.2.2.1 34 = .ok (.istore 4, 2) := by decide +kernel
theorem d_95_36 : decode M_95.2.2.1 36 = .ok (.iload 4, 2) := by decide +kernel
theorem d_95_38 : decode M_95.2.2.1 38 = .ok (.aload_n 0, 1) := by decide +kernel
theorem d_95_39 : decode M_95.2.2.1 39 = .ok (.getfield 38, 3) := by decide +kernel
theorem d_95_42 : decode M_95.2.2.1 42 = .ok (.getfield 61, 3) := by decide +kernel
theorem d_95_45 : decode M_95.2.2.1 45 = .ok (.if_icmp .ge 30, 3) := by decide +kernel
theorem d_95_48 : decode M_95.2.2.1 48 = .ok (.aload_n 0, 1) := by decide +kernel
theorem d_95_49 : decode M_95.2.2.1 49 = .ok (.getfield 18, 3) := by decide +kernel
theorem d_95_52 : decode M_95.2.2.1 52 = .ok (.iload 4, 2) := by decide +kernel
theorem d_95_54 : decode M_95.2.2.1 54 = .ok (.bipush 8, 2) := by decide +kernel
theorem d_95_56 : decode M_95.2.2.1 56 = .ok (.imul, 1) := by decide +kernel
theorem d_95_57 : decode M_95.2.2.1 57 = .ok (.iload_n 2, 1) := by decide +kernel
theorem d_95_58 : decode M_95.2.2.1 58 = .ok (.iload 4, 2) := by decide +kernel
theorem d_95_60 : decode M_95.2.2.1 60 = .ok (.invokestatic 68, 3) := by decide +kernel
theorem d_95_63 : decode M_95.2.2.1 63 = .ok (.iadd, 1) := by decide +kernel
theorem d_95_64 : decode M_95.2.2.1 64 = .ok (.dup2, 1) := by decide +kernel
theorem d_95_65 : decode M_95.2.2.1 65 = .ok (.iaload, 1) := by decide +kernel
theorem d_95_66 : decode M_95.2.2.1 66 = .ok (.iconst 1, 1) := by decide +kernel
theorem d_95_67 : decode M_95.2.2.1 67 = .ok (.iadd, 1) := by decide +kernel
theorem d_95_68 : decode M_95.2.2.1 68 = .ok (.iastore, 1) := by decide +kernel
theorem d_95_69 : decode M_95.2.2.1 69 = .ok (.iinc 4 1, 3) := by decide +kernel
theorem d_95_72 : decode M_95.2.2.1 72 = .ok (.goto (-36), 3) := by decide +kernel
theorem d_95_75 : decode M_95.2.2.1 75 = .ok (.aload_n 0, 1) := by decide +kernel
theorem d_95_76 : decode M_95.2.2.1 76 = .ok (.iload_n 2, 1) := by decide +kernel
theorem d_95_77 : decode M_95.2.2.1 77 = .ok (.invokevirtual 93, 3) := by decide +kernel
theorem d_95_80 : decode M_95.2.2.1 80 = .ok (.istore_n 2, 1) := by decide +kernel
theorem d_95_81 : decode M_95.2.2.1 81 = .ok (.iinc 3 1, 3) := by decide +kernel
theorem d_95_84 : decode M_95.2.2.1 84 = .ok (.goto (-70), 3) := by decide +kernel
theorem d_95_87 : decode M_95.2.2.1 87 = .ok (.iload_n 1, 1) := by decide +kernel
theorem d_95_88 : decode M_95.2.2.1 88 = .ok (.ireturn, 1) := by decide +kernel
/-- HeardBarrels$Ears.mostOfOneTone(I)I -/
def M_97 : am_MT := (3, ⟨"HeardBarrels$Ears", "mostOfOneTone", "(I)I"⟩, prog_3_method_15_code, 6, some .int, false, 1, (0, 0))
theorem hM_97 : am_ms[97]? = some M_97 := rfl
theorem d_97_0 : decode M_97.2.2.1 0 = .ok (.iconst 0, 1) := by decide +kernel
theorem d_97_1 : decode M_97.2.2.1 1 = .ok (.istore_n 2, 1) := by decide +kernel
theorem d_97_2 : decode M_97.2.2.1 2 = .ok (.iload_n 1, 1) := by decide +kernel
theorem d_97_3 : decode M_97.2.2.1 3 = .ok (.bipush 8, 2) := by decide +kernel
theorem d_97_5 : decode M_97.2.2.1 5 = .ok (.imul, 1) := by decide +kernel
theorem d_97_6 : decode M_97.2.2.1 6 = .ok (.istore_n 3, 1) := by decide +kernel
theorem d_97_7 : decode M_97.2.2.1 7 = .ok (.iload_n 3, 1) := by decide +kernel
theorem d_97_8 : decode M_97.2.2.1 8 = .ok (.iload_n 1, 1) := by decide +kernel
theorem d_97_9 : decode M_97.2.2.1 9 = .ok (.iconst 1, 1) := by decide +kernel
theorem d_97_10 : decode M_97.2.2.1 10 = .ok (.iadd, 1) := by decide +kernel
theorem d_97_11 : decode M_97.2.2.1 11 = .ok (.bipush 8, 2) := by decide +kernel
theorem d_97_13 : decode M_97.2.2.1 13 = .ok (.imul, 1) := by decide +kernel
theorem d_97_14 : decode M_97.2.2.1 14 = .ok (.if_icmp .ge 70, 3) := by decide +kernel
theorem d_97_17 : decode M_97.2.2.1 17 = .ok (.iconst 0, 1) := by decide +kernel
theorem d_97_18 : decode M_97.2.2.1 18 = .ok (.istore 4, 2) := by decide +kernel
theorem d_97_20 : decode M_97.2.2.1 20 = .ok (.iload_n 1, 1) := by decide +kernel
theorem d_97_21 : decode M_97.2.2.1 21 = .ok (.bipush 8, 2) := by decide +kernel
theorem d_97_23 : decode M_97.2.2.1 23 = .ok (.imul, 1) := by decide +kernel
theorem d_97_24 : decode M_97.2.2.1 24 = .ok (.istore 5, 2) := by decide +kernel
theorem d_97_26 : decode M_97.2.2.1 26 = .ok (.iload 5, 2) := by decide +kernel
theorem d_97_28 : decode M_97.2.2.1 28 = .ok (.iload_n 1, 1) := by decide +kernel
theorem d_97_29 : decode M_97.2.2.1 29 = .ok (.iconst 1, 1) := by decide +kernel
theorem d_97_30 : decode M_97.2.2.1 30 = .ok (.iadd, 1) := by decide +kernel
theorem d_97_31 : decode M_97.2.2.1 31 = .ok (.bipush 8, 2) := by decide +kernel
theorem d_97_33 : decode M_97.2.2.1 33 = .ok (.imul, 1) := by decide +kernel
theorem d_97_34 : decode M_97.2.2.1 34 = .ok (.if_icmp .ge 37, 3) := by decide +kernel
theorem d_97_37 : decode M_97.2.2.1 37 = .ok (.aload_n 0, 1) := by decide +kernel
theorem d_97_38 : decode M_97.2.2.1 38 = .ok (.getfield 11, 3) := by decide +kernel
theorem d_97_41 : decode M_97.2.2.1 41 = .ok (.iload 5, 2) := by decide +kernel
theorem d_97_43 : decode M_97.2.2.1 43 = .ok (.iaload, 1) := by decide +kernel
theorem d_97_44 : decode M_97.2.2.1 44 = .ok (.aload_n 0, 1) := by decide +kernel
theorem d_97_45 : decode M_97.2.2.1 45 = .ok (.getfield 11, 3) := by decide +kernel
theorem d_97_48 : decode M_97.2.2.1 48 = .ok (.iload_n 3, 1) := by decide +kernel
theorem d_97_49 : decode M_97.2.2.1 49 = .ok (.iaload, 1) := by decide +kernel
theorem d_97_50 : decode M_97.2.2.1 50 = .ok (.if_icmp .ne 15, 3) := by decide +kernel
theorem d_97_53 : decode M_97.2.2.1 53 = .ok (.iload 4, 2) := by decide +kernel
theorem d_97_55 : decode M_97.2.2.1 55 = .ok (.aload_n 0, 1) := by decide +kernel
theorem d_97_56 : decode M_97.2.2.1 56 = .ok (.getfield 18, 3) := by decide +kernel
theorem d_97_59 : decode M_97.2.2.1 59 = .ok (.iload 5, 2) := by decide +kernel
theorem d_97_61 : decode M_97.2.2.1 61 = .ok (.iaload, 1) := by decide +kernel
theorem d_97_62 : decode M_97.2.2.1 62 = .ok (.iadd, 1) := by decide +kernel
theorem d_97_63 : decode M_97.2.2.1 63 = .ok (.istore 4, 2) := by decide +kernel
theorem d_97_65 : decode M_97.2.2.1 65 = .ok (.iinc 5 1, 3) := by decide +kernel
theorem d_97_68 : decode M_97.2.2.1 68 = .ok (.goto (-42), 3) := by decide +kernel
theorem d_97_71 : decode M_97.2.2.1 71 = .ok (.iload_n 2, 1) := by decide +kernel
theorem d_97_72 : decode M_97.2.2.1 72 = .ok (.iload 4, 2) := by decide +kernel
theorem d_97_74 : decode M_97.2.2.1 74 = .ok (.invokestatic 121, 3) := by decide +kernel
theorem d_97_77 : decode M_97.2.2.1 77 = .ok (.istore_n 2, 1) := by decide +kernel
theorem d_97_78 : decode M_97.2.2.1 78 = .ok (.iinc 3 1, 3) := by decide +kernel
theorem d_97_81 : decode M_97.2.2.1 81 = .ok (.goto (-74), 3) := by decide +kernel
theorem d_97_84 : decode M_97.2.2.1 84 = .ok (.iload_n 2, 1) := by decide +kernel
theorem d_97_85 : decode M_97.2.2.1 85 = .ok (.ireturn, 1) := by decide +kernel
/-- HeardBarrels$Ears.howManyLet(II)I -/
def M_100 : am_MT := (3, ⟨"HeardBarrels$Ears", "howManyLet", "(II)I"⟩, prog_3_method_16_code, 6, some .int, false, 2, (0, 0))
theorem hM_100 : am_ms[100]? = some M_100 := rfl
theorem d_100_0 : decode M_100.2.2.1 0 = .ok (.aload_n 0, 1) := by decide +kernel
theorem d_100_1 : decode M_100.2.2.1 1 = .ok (.invokevirtual 71, 3) := by decide +kernel
theorem d_100_4 : decode M_100.2.2.1 4 = .ok (.iconst 0, 1) := by decide +kernel
theorem d_100_5 : decode M_100.2.2.1 5 = .ok (.istore_n 3, 1) := by decide +kernel
theorem d_100_6 : decode M_100.2.2.1 6 = .ok (.iconst 0, 1) := by decide +kernel
theorem d_100_7 : decode M_100.2.2.1 7 = .ok (.istore 4, 2) := by decide +kernel
theorem d_100_9 : decode M_100.2.2.1 9 = .ok (.iconst 0, 1) := by decide +kernel
theorem d_100_10 : decode M_100.2.2.1 10 = .ok (.istore 5, 2) := by decide +kernel
theorem d_100_12 : decode M_100.2.2.1 12 = .ok (.iload 5, 2) := by decide +kernel
theorem d_100_14 : decode M_100.2.2.1 14 = .ok (.aload_n 0, 1) := by decide +kernel
theorem d_100_15 : decode M_100.2.2.1 15 = .ok (.getfield 58, 3) := by decide +kernel
theorem d_100_18 : decode M_100.2.2.1 18 = .ok (.if_icmp .ge 31, 3) := by decide +kernel
theorem d_100_21 : decode M_100.2.2.1 21 = .ok (.aload_n 0, 1) := by decide +kernel
theorem d_100_22 : decode M_100.2.2.1 22 = .ok (.iload_n 1, 1) := by decide +kernel
theorem d_100_23 : decode M_100.2.2.1 23 = .ok (.iload 4, 2) := by decide +kernel
theorem d_100_25 : decode M_100.2.2.1 25 = .ok (.invokevirtual 126, 3) := by decide +kernel
theorem d_100_28 : decode M_100.2.2.1 28 = .ok (.iload_n 2, 1) := by decide +kernel
theorem d_100_29 : decode M_100.2.2.1 29 = .ok (.if_icmp .ne 6, 3) := by decide +kernel
theorem d_100_32 : decode M_100.2.2.1 32 = .ok (.iinc 3 1, 3) := by decide +kernel
theorem d_100_35 : decode M_100.2.2.1 35 = .ok (.aload_n 0, 1) := by decide +kernel
theorem d_100_36 : decode M_100.2.2.1 36 = .ok (.iload 4, 2) := by decide +kernel
theorem d_100_38 : decode M_100.2.2.1 38 = .ok (.invokevirtual 93, 3) := by decide +kernel
theorem d_100_41 : decode M_100.2.2.1 41 = .ok (.istore 4, 2) := by decide +kernel
theorem d_100_43 : decode M_100.2.2.1 43 = .ok (.iinc 5 1, 3) := by decide +kernel
theorem d_100_46 : decode M_100.2.2.1 46 = .ok (.goto (-34), 3) := by decide +kernel
theorem d_100_49 : decode M_100.2.2.1 49 = .ok (.iload_n 3, 1) := by decide +kernel
theorem d_100_50 : decode M_100.2.2.1 50 = .ok (.ireturn, 1) := by decide +kernel
/-- HeardBarrels$Ears.toneBy(II)I -/
def M_101 : am_MT := (3, ⟨"HeardBarrels$Ears", "toneBy", "(II)I"⟩, prog_3_method_4_code, 3, some .int, false, 2, (0, 0))
theorem hM_101 : am_ms[101]? = some M_101 := rfl
theorem d_101_0 : decode M_101.2.2.1 0 = .ok (.aload_n 0, 1) := by decide +kernel
theorem d_101_1 : decode M_101.2.2.1 1 = .ok (.getfield 11, 3) := by decide +kernel
theorem d_101_4 : decode M_101.2.2.1 4 = .ok (.iload_n 1, 1) := by decide +kernel
theorem d_101_5 : decode M_101.2.2.1 5 = .ok (.bipush 8, 2) := by decide +kernel
theorem d_101_7 : decode M_101.2.2.1 7 = .ok (.imul, 1) := by decide +kernel
theorem d_101_8 : decode M_101.2.2.1 8 = .ok (.iload_n 2, 1) := by decide +kernel
theorem d_101_9 : decode M_101.2.2.1 9 = .ok (.iload_n 1, 1) := by decide +kernel
theorem d_101_10 : decode M_101.2.2.1 10 = .ok (.invokestatic 68, 3) := by decide +kernel
theorem d_101_13 : decode M_101.2.2.1 13 = .ok (.iadd, 1) := by decide +kernel
theorem d_101_14 : decode M_101.2.2.1 14 = .ok (.iaload, 1) := by decide +kernel
theorem d_101_15 : decode M_101.2.2.1 15 = .ok (.ireturn, 1) := by decide +kernel
/-- HeardBarrels$Ears.howManyLike(I)I -/
def M_103 : am_MT := (3, ⟨"HeardBarrels$Ears", "howManyLike", "(I)I"⟩, prog_3_method_17_code, 3, some .int, false, 1, (0, 0))
theorem hM_103 : am_ms[103]? = some M_103 := rfl
theorem d_103_0 : decode M_103.2.2.1 0 = .ok (.aload_n 0, 1) := by decide +kernel
theorem d_103_1 : decode M_103.2.2.1 1 = .ok (.invokevirtual 71, 3) := by decide +kernel
theorem d_103_4 : decode M_103.2.2.1 4 = .ok (.iconst 0, 1) := by decide +kernel
theorem d_103_5 : decode M_103.2.2.1 5 = .ok (.istore_n 2, 1) := by decide +kernel
theorem d_103_6 : decode M_103.2.2.1 6 = .ok (.iload_n 2, 1) := by decide +kernel
theorem d_103_7 : decode M_103.2.2.1 7 = .ok (.aload_n 0, 1) := by decide +kernel
theorem d_103_8 : decode M_103.2.2.1 8 = .ok (.getfield 38, 3) := by decide +kernel
theorem d_103_11 : decode M_103.2.2.1 11 = .ok (.getfield 61, 3) := by decide +kernel
theorem d_103_14 : decode M_103.2.2.1 14 = .ok (.if_icmp .ge 21, 3) := by decide +kernel
theorem d_103_17 : decode M_103.2.2.1 17 = .ok (.aload_n 0, 1) := by decide +kernel
theorem d_103_18 : decode M_103.2.2.1 18 = .ok (.iload_n 2, 1) := by decide +kernel
theorem d_103_19 : decode M_103.2.2.1 19 = .ok (.aload_n 0, 1) := by decide +kernel
theorem d_103_20 : decode M_103.2.2.1 20 = .ok (.iload_n 2, 1) := by decide +kernel
theorem d_103_21 : decode M_103.2.2.1 21 = .ok (.iload_n 1, 1) := by decide +kernel
theorem d_103_22 : decode M_103.2.2.1 22 = .ok (.invokevirtual 126, 3) := by decide +kernel
theorem d_103_25 : decode M_103.2.2.1 25 = .ok (.i2l, 1) := by decide +kernel
theorem d_103_26 : decode M_103.2.2.1 26 = .ok (.invokevirtual 85, 3) := by decide +kernel
theorem d_103_29 : decode M_103.2.2.1 29 = .ok (.iinc 2 1, 3) := by decide +kernel
theorem d_103_32 : decode M_103.2.2.1 32 = .ok (.goto (-26), 3) := by decide +kernel
theorem d_103_35 : decode M_103.2.2.1 35 = .ok (.aload_n 0, 1) := by decide +kernel
theorem d_103_36 : decode M_103.2.2.1 36 = .ok (.invokevirtual 100, 3) := by decide +kernel
theorem d_103_39 : decode M_103.2.2.1 39 = .ok (.ireturn, 1) := by decide +kernel
/-- HeardBarrels$Ears.fewestPlaces()I -/
def M_105 : am_MT := (3, ⟨"HeardBarrels$Ears", "fewestPlaces", "()I"⟩, prog_3_method_21_code, 7, some .int, false, 0, (0, 0))
theorem hM_105 : am_ms[105]? = some M_105 := rfl
theorem d_105_0 : decode M_105.2.2.1 0 = .ok (.aload_n 0, 1) := by decide +kernel
theorem d_105_1 : decode M_105.2.2.1 1 = .ok (.getfield 38, 3) := by decide +kernel
theorem d_105_4 : decode M_105.2.2.1 4 = .ok (.invokevirtual 42, 3) := by decide +kernel
theorem d_105_7 : decode M_105.2.2.1 7 = .ok (.invokestatic 52, 3) := by decide +kernel
theorem d_105_10 : decode M_105.2.2.1 10 = .ok (.bipush 8, 2) := by decide +kernel
theorem d_105_12 : decode M_105.2.2.1 12 = .ok (.if_icmp .le 6, 3) := by decide +kernel
theorem d_105_15 : decode M_105.2.2.1 15 = .ok (.bipush (-4), 2) := by decide +kernel
theorem d_105_17 : decode M_105.2.2.1 17 = .ok (.ireturn, 1) := by decide +kernel
theorem d_105_18 : decode M_105.2.2.1 18 = .ok (.aload_n 0, 1) := by decide +kernel
theorem d_105_19 : decode M_105.2.2.1 19 = .ok (.invokevirtual 71, 3) := by decide +kernel
theorem d_105_22 : decode M_105.2.2.1 22 = .ok (.aload_n 0, 1) := by decide +kernel
theorem d_105_23 : decode M_105.2.2.1 23 = .ok (.getfield 38, 3) := by decide +kernel
theorem d_105_26 : decode M_105.2.2.1 26 = .ok (.invokevirtual 139, 3) := by decide +kernel
theorem d_105_29 : decode M_105.2.2.1 29 = .ok (.istore_n 1, 1) := by decide +kernel
theorem d_105_30 : decode M_105.2.2.1 30 = .ok (.aload_n 0, 1) := by decide +kernel
theorem d_105_31 : decode M_105.2.2.1 31 = .ok (.iload_n 1, 1) := by decide +kernel
theorem d_105_32 : decode M_105.2.2.1 32 = .ok (.invokevirtual 142, 3) := by decide +kernel
theorem d_105_35 : decode M_105.2.2.1 35 = .ok (.aload_n 0, 1) := by decide +kernel
theorem d_105_36 : decode M_105.2.2.1 36 = .ok (.invokevirtual 145, 3) := by decide +kernel
theorem d_105_39 : decode M_105.2.2.1 39 = .ok (.iconst (-1), 1) := by decide +kernel
theorem d_105_40 : decode M_105.2.2.1 40 = .ok (.istore_n 2, 1) := by decide +kernel
theorem d_105_41 : decode M_105.2.2.1 41 = .ok (.bipush 13, 2) := by decide +kernel
theorem d_105_43 : decode M_105.2.2.1 43 = .ok (.istore_n 3, 1) := by decide +kernel
theorem d_105_44 : decode M_105.2.2.1 44 = .ok (.iconst 1, 1) := by decide +kernel
theorem d_105_45 : decode M_105.2.2.1 45 = .ok (.aload_n 0, 1) := by decide +kernel
theorem d_105_46 : decode M_105.2.2.1 46 = .ok (.getfield 38, 3) := by decide +kernel
theorem d_105_49 : decode M_105.2.2.1 49 = .ok (.getfield 61, 3) := by decide +kernel
theorem d_105_52 : decode M_105.2.2.1 52 = .ok (.ishl, 1) := by decide +kernel
theorem d_105_53 : decode M_105.2.2.1 53 = .ok (.istore 4, 2) := by decide +kernel
theorem d_105_55 : decode M_105.2.2.1 55 = .ok (.iconst 0, 1) := by decide +kernel
theorem d_105_56 : decode M_105.2.2.1 56 = .ok (.istore 5, 2) := by decide +kernel
theorem d_105_58 : decode M_105.2.2.1 58 = .ok (.iload 5, 2) := by decide +kernel
theorem d_105_60 : decode M_105.2.2.1 60 = .ok (.iload 4, 2) := by decide +kernel
theorem d_105_62 : decode M_105.2.2.1 62 = .ok (.if_icmp .ge 62, 3) := by decide +kernel
theorem d_105_65 : decode M_105.2.2.1 65 = .ok (.iload 5, 2) := by decide +kernel
theorem d_105_67 : decode M_105.2.2.1 67 = .ok (.iload_n 1, 1) := by decide +kernel
theorem d_105_68 : decode M_105.2.2.1 68 = .ok (.iconst (-1), 1) := by decide +kernel
theorem d_105_69 : decode M_105.2.2.1 69 = .ok (.ixor, 1) := by decide +kernel
theorem d_105_70 : decode M_105.2.2.1 70 = .ok (.iand, 1) := by decide +kernel
theorem d_105_71 : decode M_105.2.2.1 71 = .ok (.ifCond .ne 7, 3) := by decide +kernel
theorem d_105_74 : decode M_105.2.2.1 74 = .ok (.iconst 1, 1) := by decide +kernel
theorem d_105_75 : decode M_105.2.2.1 75 = .ok (.goto 4, 3) := by decide +kernel
theorem d_105_78 : decode M_105.2.2.1 78 = .ok (.iconst 0, 1) := by decide +kernel
theorem d_105_79 : decode M_105.2.2.1 79 = .ok (.istore 6, 2) := by decide +kernel
theorem d_105_81 : decode M_105.2.2.1 81 = .ok (.iload 6, 2) := by decide +kernel
theorem d_105_83 : decode M_105.2.2.1 83 = .ok (.ifCond .eq 35, 3) := by decide +kernel
theorem d_105_86 : decode M_105.2.2.1 86 = .ok (.aload_n 0, 1) := by decide +kernel
theorem d_105_87 : decode M_105.2.2.1 87 = .ok (.getfield 34, 3) := by decide +kernel
theorem d_105_90 : decode M_105.2.2.1 90 = .ok (.iload_n 1, 1) := by decide +kernel
theorem d_105_91 : decode M_105.2.2.1 91 = .ok (.iload 5, 2) := by decide +kernel
theorem d_105_93 : decode M_105.2.2.1 93 = .ok (.iconst (-1), 1) := by decide +kernel
theorem d_105_94 : decode M_105.2.2.1 94 = .ok (.ixor, 1) := by decide +kernel
theorem d_105_95 : decode M_105.2.2.1 95 = .ok (.iand, 1) := by decide +kernel
theorem d_105_96 : decode M_105.2.2.1 96 = .ok (.baload, 1) := by decide +kernel
theorem d_105_97 : decode M_105.2.2.1 97 = .ok (.ifCond .ne 21, 3) := by decide +kernel
theorem d_105_100 : decode M_105.2.2.1 100 = .ok (.iload 5, 2) := by decide +kernel
theorem d_105_102 : decode M_105.2.2.1 102 = .ok (.invokestatic 52, 3) := by decide +kernel
theorem d_105_105 : decode M_105.2.2.1 105 = .ok (.iload_n 3, 1) := by decide +kernel
theorem d_105_106 : decode M_105.2.2.1 106 = .ok (.if_icmp .ge 12, 3) := by decide +kernel
theorem d_105_109 : decode M_105.2.2.1 109 = .ok (.iload 5, 2) := by decide +kernel
theorem d_105_111 : decode M_105.2.2.1 111 = .ok (.istore_n 2, 1) := by decide +kernel
theorem d_105_112 : decode M_105.2.2.1 112 = .ok (.iload 5, 2) := by decide +kernel
theorem d_105_114 : decode M_105.2.2.1 114 = .ok (.invokestatic 52, 3) := by decide +kernel
theorem d_105_117 : decode M_105.2.2.1 117 = .ok (.istore_n 3, 1) := by decide +kernel
theorem d_105_118 : decode M_105.2.2.1 118 = .ok (.iinc 5 1, 3) := by decide +kernel
theorem d_105_121 : decode M_105.2.2.1 121 = .ok (.goto (-63), 3) := by decide +kernel
theorem d_105_124 : decode M_105.2.2.1 124 = .ok (.iload_n 2, 1) := by decide +kernel
theorem d_105_125 : decode M_105.2.2.1 125 = .ok (.ireturn, 1) := by decide +kernel
/-- HeardBarrels$Ears.findVoices(I)V -/
def M_106 : am_MT := (3, ⟨"HeardBarrels$Ears", "findVoices", "(I)V"⟩, prog_3_method_22_code, 7, none, false, 1, (0, 0))
theorem hM_106 : am_ms[106]? = some M_106 := rfl
theorem d_106_0 : decode M_106.2.2.1 0 = .ok (.iconst 0, 1) := by decide +kernel
theorem d_106_1 : decode M_106.2.2.1 1 = .ok (.istore_n 2, 1) := by decide +kernel
theorem d_106_2 : decode M_106.2.2.1 2 = .ok (.iconst 0, 1) := by decide +kernel
theorem d_106_3 : decode M_106.2.2.1 3 = .ok (.istore_n 3, 1) := by decide +kernel
theorem d_106_4 : decode M_106.2.2.1 4 = .ok (.iload_n 3, 1) := by decide +kernel
theorem d_106_5 : decode M_106.2.2.1 5 = .ok (.aload_n 0, 1) := by decide +kernel
theorem d_106_6 : decode M_106.2.2.1 6 = .ok (.getfield 58, 3) := by decide +kernel
theorem d_106_9 : decode M_106.2.2.1 9 = .ok (.if_icmp .ge 79, 3) := by decide +kernel
theorem d_106_12 : decode M_106.2.2.1 12 = .ok (.lconst 0, 1) := by decide +kernel
theorem d_106_13 : decode M_106.2.2.1 13 = .ok (.lstore 4, 2) := by decide +kernel
theorem d_106_15 : decode M_106.2.2.1 15 = .ok (.iconst 0, 1) := by decide +kernel
theorem d_106_16 : decode M_106.2.2.1 16 = .ok (.istore 6, 2) := by decide +kernel
theorem d_106_18 : decode M_106.2.2.1 18 = .ok (.iload 6, 2) := by decide +kernel
theorem d_106_20 : decode M_106.2.2.1 20 = .ok (.aload_n 0, 1) := by decide +kernel
theorem d_106_21 : decode M_106.2.2.1 21 = .ok (.getfield 38, 3) := by decide +kernel
theorem d_106_24 : decode M_106.2.2.1 24 = .ok (.getfield 61, 3) := by decide +kernel
theorem d_106_27 : decode M_106.2.2.1 27 = .ok (.if_icmp .ge 41, 3) := by decide +kernel
theorem d_106_30 : decode M_106.2.2.1 30 = .ok (.iload_n 1, 1) := by decide +kernel
theorem d_106_31 : decode M_106.2.2.1 31 = .ok (.iload 6, 2) := by decide +kernel
theorem d_106_33 : decode M_106.2.2.1 33 = .ok (.ishr, 1) := by decide +kernel
theorem d_106_34 : decode M_106.2.2.1 34 = .ok (.iconst 1, 1) := by decide +kernel
theorem d_106_35 : decode M_106.2.2.1 35 = .ok (.iand, 1) := by decide +kernel
theorem d_106_36 : decode M_106.2.2.1 36 = .ok (.ifCond .eq 26, 3) := by decide +kernel
theorem d_106_39 : decode M_106.2.2.1 39 = .ok (.lload 4, 2) := by decide +kernel
theorem d_106_41 : decode M_106.2.2.1 41 = .ok (.aload_n 0, 1) := by decide +kernel
theorem d_106_42 : decode M_106.2.2.1 42 = .ok (.iload 6, 2) := by decide +kernel
theorem d_106_44 : decode M_106.2.2.1 44 = .ok (.iload_n 2, 1) := by decide +kernel
theorem d_106_45 : decode M_106.2.2.1 45 = .ok (.iload 6, 2) := by decide +kernel
theorem d_106_47 : decode M_106.2.2.1 47 = .ok (.invokestatic 68, 3) := by decide +kernel
theorem d_106_50 : decode M_106.2.2.1 50 = .ok (.invokevirtual 148, 3) := by decide +kernel
theorem d_106_53 : decode M_106.2.2.1 53 = .ok (.i2l, 1) := by decide +kernel
theorem d_106_54 : decode M_106.2.2.1 54 = .ok (.iconst 4, 1) := by decide +kernel
theorem d_106_55 : decode M_106.2.2.1 55 = .ok (.iload 6, 2) := by decide +kernel
theorem d_106_57 : decode M_106.2.2.1 57 = .ok (.imul, 1) := by decide +kernel
theorem d_106_58 : decode M_106.2.2.1 58 = .ok (.lshl, 1) := by decide +kernel
theorem d_106_59 : decode M_106.2.2.1 59 = .ok (.lor, 1) := by decide +kernel
theorem d_106_60 : decode M_106.2.2.1 60 = .ok (.lstore 4, 2) := by decide +kernel
theorem d_106_62 : decode M_106.2.2.1 62 = .ok (.iinc 6 1, 3) := by decide +kernel
theorem d_106_65 : decode M_106.2.2.1 65 = .ok (.goto (-47), 3) := by decide +kernel
theorem d_106_68 : decode M_106.2.2.1 68 = .ok (.aload_n 0, 1) := by decide +kernel
theorem d_106_69 : decode M_106.2.2.1 69 = .ok (.getfield 30, 3) := by decide +kernel
theorem d_106_72 : decode M_106.2.2.1 72 = .ok (.iload_n 3, 1) := by decide +kernel
theorem d_106_73 : decode M_106.2.2.1 73 = .ok (.lload 4, 2) := by decide +kernel
theorem d_106_75 : decode M_106.2.2.1 75 = .ok (.lastore, 1) := by decide +kernel
theorem d_106_76 : decode M_106.2.2.1 76 = .ok (.aload_n 0, 1) := by decide +kernel
theorem d_106_77 : decode M_106.2.2.1 77 = .ok (.iload_n 2, 1) := by decide +kernel
theorem d_106_78 : decode M_106.2.2.1 78 = .ok (.invokevirtual 93, 3) := by decide +kernel
theorem d_106_81 : decode M_106.2.2.1 81 = .ok (.istore_n 2, 1) := by decide +kernel
theorem d_106_82 : decode M_106.2.2.1 82 = .ok (.iinc 3 1, 3) := by decide +kernel
theorem d_106_85 : decode M_106.2.2.1 85 = .ok (.goto (-81), 3) := by decide +kernel
theorem d_106_88 : decode M_106.2.2.1 88 = .ok (.return_, 1) := by decide +kernel
/-- HeardBarrels$Ears.firstLike(II)I -/
def M_107 : am_MT := (3, ⟨"HeardBarrels$Ears", "firstLike", "(II)I"⟩, prog_3_method_23_code, 4, some .int, false, 2, (0, 0))
theorem hM_107 : am_ms[107]? = some M_107 := rfl
theorem d_107_0 : decode M_107.2.2.1 0 = .ok (.iconst 0, 1) := by decide +kernel
theorem d_107_1 : decode M_107.2.2.1 1 = .ok (.istore_n 3, 1) := by decide +kernel
theorem d_107_2 : decode M_107.2.2.1 2 = .ok (.iload_n 3, 1) := by decide +kernel
theorem d_107_3 : decode M_107.2.2.1 3 = .ok (.iload_n 2, 1) := by decide +kernel
theorem d_107_4 : decode M_107.2.2.1 4 = .ok (.if_icmp .ge 34, 3) := by decide +kernel
theorem d_107_7 : decode M_107.2.2.1 7 = .ok (.aload_n 0, 1) := by decide +kernel
theorem d_107_8 : decode M_107.2.2.1 8 = .ok (.getfield 11, 3) := by decide +kernel
theorem d_107_11 : decode M_107.2.2.1 11 = .ok (.iload_n 1, 1) := by decide +kernel
theorem d_107_12 : decode M_107.2.2.1 12 = .ok (.bipush 8, 2) := by decide +kernel
theorem d_107_14 : decode M_107.2.2.1 14 = .ok (.imul, 1) := by decide +kernel
theorem d_107_15 : decode M_107.2.2.1 15 = .ok (.iload_n 3, 1) := by decide +kernel
theorem d_107_16 : decode M_107.2.2.1 16 = .ok (.iadd, 1) := by decide +kernel
theorem d_107_17 : decode M_107.2.2.1 17 = .ok (.iaload, 1) := by decide +kernel
theorem d_107_18 : decode M_107.2.2.1 18 = .ok (.aload_n 0, 1) := by decide +kernel
theorem d_107_19 : decode M_107.2.2.1 19 = .ok (.getfield 11, 3) := by decide +kernel
theorem d_107_22 : decode M_107.2.2.1 22 = .ok (.iload_n 1, 1) := by decide +kernel
theorem d_107_23 : decode M_107.2.2.1 23 = .ok (.bipush 8, 2) := by decide +kernel
theorem d_107_25 : decode M_107.2.2.1 25 = .ok (.imul, 1) := by decide +kernel
theorem d_107_26 : decode M_107.2.2.1 26 = .ok (.iload_n 2, 1) := by decide +kernel
theorem d_107_27 : decode M_107.2.2.1 27 = .ok (.iadd, 1) := by decide +kernel
theorem d_107_28 : decode M_107.2.2.1 28 = .ok (.iaload, 1) := by decide +kernel
theorem d_107_29 : decode M_107.2.2.1 29 = .ok (.if_icmp .eq 9, 3) := by decide +kernel
theorem d_107_32 : decode M_107.2.2.1 32 = .ok (.iinc 3 1, 3) := by decide +kernel
theorem d_107_35 : decode M_107.2.2.1 35 = .ok (.goto (-33), 3) := by decide +kernel
theorem d_107_38 : decode M_107.2.2.1 38 = .ok (.iload_n 3, 1) := by decide +kernel
theorem d_107_39 : decode M_107.2.2.1 39 = .ok (.ireturn, 1) := by decide +kernel
/-- HeardBarrels$Ears.findClashes()V -/
def M_108 : am_MT := (3, ⟨"HeardBarrels$Ears", "findClashes", "()V"⟩, prog_3_method_24_code, 4, none, false, 0, (0, 0))
theorem hM_108 : am_ms[108]? = some M_108 := rfl
theorem d_108_0 : decode M_108.2.2.1 0 = .ok (.iconst 1, 1) := by decide +kernel
theorem d_108_1 : decode M_108.2.2.1 1 = .ok (.aload_n 0, 1) := by decide +kernel
theorem d_108_2 : decode M_108.2.2.1 2 = .ok (.getfield 38, 3) := by decide +kernel
theorem d_108_5 : decode M_108.2.2.1 5 = .ok (.getfield 61, 3) := by decide +kernel
theorem d_108_8 : decode M_108.2.2.1 8 = .ok (.ishl, 1) := by decide +kernel
theorem d_108_9 : decode M_108.2.2.1 9 = .ok (.istore_n 1, 1) := by decide +kernel
theorem d_108_10 : decode M_108.2.2.1 10 = .ok (.iconst 0, 1) := by decide +kernel
theorem d_108_11 : decode M_108.2.2.1 11 = .ok (.istore_n 2, 1) := by decide +kernel
theorem d_108_12 : decode M_108.2.2.1 12 = .ok (.iload_n 2, 1) := by decide +kernel
theorem d_108_13 : decode M_108.2.2.1 13 = .ok (.iload_n 1, 1) := by decide +kernel
theorem d_108_14 : decode M_108.2.2.1 14 = .ok (.if_icmp .ge 16, 3) := by decide +kernel
theorem d_108_17 : decode M_108.2.2.1 17 = .ok (.aload_n 0, 1) := by decide +kernel
theorem d_108_18 : decode M_108.2.2.1 18 = .ok (.getfield 34, 3) := by decide +kernel
theorem d_108_21 : decode M_108.2.2.1 21 = .ok (.iload_n 2, 1) := by decide +kernel
theorem d_108_22 : decode M_108.2.2.1 22 = .ok (.iconst 0, 1) := by decide +kernel
theorem d_108_23 : decode M_108.2.2.1 23 = .ok (.bastore, 1) := by decide +kernel
theorem d_108_24 : decode M_108.2.2.1 24 = .ok (.iinc 2 1, 3) := by decide +kernel
theorem d_108_27 : decode M_108.2.2.1 27 = .ok (.goto (-15), 3) := by decide +kernel
theorem d_108_30 : decode M_108.2.2.1 30 = .ok (.iconst 0, 1) := by decide +kernel
theorem d_108_31 : decode M_108.2.2.1 31 = .ok (.istore_n 2, 1) := by decide +kernel
theorem d_108_32 : decode M_108.2.2.1 32 = .ok (.iload_n 2, 1) := by decide +kernel
theorem d_108_33 : decode M_108.2.2.1 33 = .ok (.aload_n 0, 1) := by decide +kernel
theorem d_108_34 : decode M_108.2.2.1 34 = .ok (.getfield 58, 3) := by decide +kernel
theorem d_108_37 : decode M_108.2.2.1 37 = .ok (.if_icmp .ge 44, 3) := by decide +kernel
theorem d_108_40 : decode M_108.2.2.1 40 = .ok (.iconst 0, 1) := by decide +kernel
theorem d_108_41 : decode M_108.2.2.1 41 = .ok (.istore_n 3, 1) := by decide +kernel
theorem d_108_42 : decode M_108.2.2.1 42 = .ok (.iload_n 3, 1) := by decide +kernel
theorem d_108_43 : decode M_108.2.2.1 43 = .ok (.iload_n 2, 1) := by decide +kernel
theorem d_108_44 : decode M_108.2.2.1 44 = .ok (.if_icmp .ge 31, 3) := by decide +kernel
theorem d_108_47 : decode M_108.2.2.1 47 = .ok (.aload_n 0, 1) := by decide +kernel
theorem d_108_48 : decode M_108.2.2.1 48 = .ok (.getfield 34, 3) := by decide +kernel
theorem d_108_51 : decode M_108.2.2.1 51 = .ok (.aload_n 0, 1) := by decide +kernel
theorem d_108_52 : decode M_108.2.2.1 52 = .ok (.getfield 30, 3) := by decide +kernel
theorem d_108_55 : decode M_108.2.2.1 55 = .ok (.iload_n 2, 1) := by decide +kernel
theorem d_108_56 : decode M_108.2.2.1 56 = .ok (.laload, 1) := by decide +kernel
theorem d_108_57 : decode M_108.2.2.1 57 = .ok (.aload_n 0, 1) := by decide +kernel
theorem d_108_58 : decode M_108.2.2.1 58 = .ok (.getfield 30, 3) := by decide +kernel
theorem d_108_61 : decode M_108.2.2.1 61 = .ok (.iload_n 3, 1) := by decide +kernel
theorem d_108_62 : decode M_108.2.2.1 62 = .ok (.laload, 1) := by decide +kernel
theorem d_108_63 : decode M_108.2.2.1 63 = .ok (.lxor, 1) := by decide +kernel
theorem d_108_64 : decode M_108.2.2.1 64 = .ok (.invokestatic 151, 3) := by decide +kernel
theorem d_108_67 : decode M_108.2.2.1 67 = .ok (.iconst 1, 1) := by decide +kernel
theorem d_108_68 : decode M_108.2.2.1 68 = .ok (.bastore, 1) := by decide +kernel
theorem d_108_69 : decode M_108.2.2.1 69 = .ok (.iinc 3 1, 3) := by decide +kernel
theorem d_108_72 : decode M_108.2.2.1 72 = .ok (.goto (-30), 3) := by decide +kernel
theorem d_108_75 : decode M_108.2.2.1 75 = .ok (.iinc 2 1, 3) := by decide +kernel
theorem d_108_78 : decode M_108.2.2.1 78 = .ok (.goto (-46), 3) := by decide +kernel
theorem d_108_81 : decode M_108.2.2.1 81 = .ok (.iconst 1, 1) := by decide +kernel
theorem d_108_82 : decode M_108.2.2.1 82 = .ok (.istore_n 2, 1) := by decide +kernel
theorem d_108_83 : decode M_108.2.2.1 83 = .ok (.iload_n 2, 1) := by decide +kernel
theorem d_108_84 : decode M_108.2.2.1 84 = .ok (.iload_n 1, 1) := by decide +kernel
theorem d_108_85 : decode M_108.2.2.1 85 = .ok (.if_icmp .ge 47, 3) := by decide +kernel
theorem d_108_88 : decode M_108.2.2.1 88 = .ok (.iconst 0, 1) := by decide +kernel
theorem d_108_89 : decode M_108.2.2.1 89 = .ok (.istore_n 3, 1) := by decide +kernel
theorem d_108_90 : decode M_108.2.2.1 90 = .ok (.iload_n 3, 1) := by decide +kernel
theorem d_108_91 : decode M_108.2.2.1 91 = .ok (.iload_n 1, 1) := by decide +kernel
theorem d_108_92 : decode M_108.2.2.1 92 = .ok (.if_icmp .ge 33, 3) := by decide +kernel
theorem d_108_95 : decode M_108.2.2.1 95 = .ok (.iload_n 3, 1) := by decide +kernel
theorem d_108_96 : decode M_108.2.2.1 96 = .ok (.iload_n 2, 1) := by decide +kernel
theorem d_108_97 : decode M_108.2.2.1 97 = .ok (.iand, 1) := by decide +kernel
theorem d_108_98 : decode M_108.2.2.1 98 = .ok (.ifCond .eq 21, 3) := by decide +kernel
theorem d_108_101 : decode M_108.2.2.1 101 = .ok (.aload_n 0, 1) := by decide +kernel
theorem d_108_102 : decode M_108.2.2.1 102 = .ok (.getfield 34, 3) := by decide +kernel
theorem d_108_105 : decode M_108.2.2.1 105 = .ok (.iload_n 3, 1) := by decide +kernel
theorem d_108_106 : decode M_108.2.2.1 106 = .ok (.iload_n 2, 1) := by decide +kernel
theorem d_108_107 : decode M_108.2.2.1 107 = .ok (.ixor, 1) := by decide +kernel
theorem d_108_108 : decode M_108.2.2.1 108 = .ok (.baload, 1) := by decide +kernel
theorem d_108_109 : decode M_108.2.2.1 109 = .ok (.ifCond .eq 10, 3) := by decide +kernel
theorem d_108_112 : decode M_108.2.2.1 112 = .ok (.aload_n 0, 1) := by decide +kernel
theorem d_108_113 : decode M_108.2.2.1 113 = .ok (.getfield 34, 3) := by decide +kernel
theorem d_108_116 : decode M_108.2.2.1 116 = .ok (.iload_n 3, 1) := by decide +kernel
theorem d_108_117 : decode M_108.2.2.1 117 = .ok (.iconst 1, 1) := by decide +kernel
theorem d_108_118 : decode M_108.2.2.1 118 = .ok (.bastore, 1) := by decide +kernel
theorem d_108_119 : decode M_108.2.2.1 119 = .ok (.iinc 3 1, 3) := by decide +kernel
theorem d_108_122 : decode M_108.2.2.1 122 = .ok (.goto (-32), 3) := by decide +kernel
theorem d_108_125 : decode M_108.2.2.1 125 = .ok (.iload_n 2, 1) := by decide +kernel
theorem d_108_126 : decode M_108.2.2.1 126 = .ok (.iconst 1, 1) := by decide +kernel
theorem d_108_127 : decode M_108.2.2.1 127 = .ok (.ishl, 1) := by decide +kernel
theorem d_108_128 : decode M_108.2.2.1 128 = .ok (.istore_n 2, 1) := by decide +kernel
theorem d_108_129 : decode M_108.2.2.1 129 = .ok (.goto (-46), 3) := by decide +kernel
theorem d_108_132 : decode M_108.2.2.1 132 = .ok (.return_, 1) := by decide +kernel
/-- HeardBarrels$Ears.placesOfNibbles(J)I -/
def M_109 : am_MT := (3, ⟨"HeardBarrels$Ears", "placesOfNibbles", "(J)I"⟩, prog_3_method_25_code, 4, some .int, false, 1, (0, 0))
theorem hM_109 : am_ms[109]? = some M_109 := rfl
theorem d_109_0 : decode M_109.2.2.1 0 = .ok (.lload_n 0, 1) := by decide +kernel
theorem d_109_1 : decode M_109.2.2.1 1 = .ok (.lload_n 0, 1) := by decide +kernel
theorem d_109_2 : decode M_109.2.2.1 2 = .ok (.iconst 1, 1) := by decide +kernel
theorem d_109_3 : decode M_109.2.2.1 3 = .ok (.lushr, 1) := by decide +kernel
theorem d_109_4 : decode M_109.2.2.1 4 = .ok (.lor, 1) := by decide +kernel
theorem d_109_5 : decode M_109.2.2.1 5 = .ok (.lstore_n 2, 1) := by decide +kernel
theorem d_109_6 : decode M_109.2.2.1 6 = .ok (.lload_n 2, 1) := by decide +kernel
theorem d_109_7 : decode M_109.2.2.1 7 = .ok (.lload_n 2, 1) := by decide +kernel
theorem d_109_8 : decode M_109.2.2.1 8 = .ok (.iconst 2, 1) := by decide +kernel
theorem d_109_9 : decode M_109.2.2.1 9 = .ok (.lushr, 1) := by decide +kernel
theorem d_109_10 : decode M_109.2.2.1 10 = .ok (.lor, 1) := by decide +kernel
theorem d_109_11 : decode M_109.2.2.1 11 = .ok (.ldc2_w 155, 3) := by decide +kernel
theorem d_109_14 : decode M_109.2.2.1 14 = .ok (.land, 1) := by decide +kernel
theorem d_109_15 : decode M_109.2.2.1 15 = .ok (.lstore_n 2, 1) := by decide +kernel
theorem d_109_16 : decode M_109.2.2.1 16 = .ok (.lload_n 2, 1) := by decide +kernel
theorem d_109_17 : decode M_109.2.2.1 17 = .ok (.lload_n 2, 1) := by decide +kernel
theorem d_109_18 : decode M_109.2.2.1 18 = .ok (.iconst 3, 1) := by decide +kernel
theorem d_109_19 : decode M_109.2.2.1 19 = .ok (.lushr, 1) := by decide +kernel
theorem d_109_20 : decode M_109.2.2.1 20 = .ok (.lor, 1) := by decide +kernel
theorem d_109_21 : decode M_109.2.2.1 21 = .ok (.ldc2_w 157, 3) := by decide +kernel
theorem d_109_24 : decode M_109.2.2.1 24 = .ok (.land, 1) := by decide +kernel
theorem d_109_25 : decode M_109.2.2.1 25 = .ok (.lstore_n 2, 1) := by decide +kernel
theorem d_109_26 : decode M_109.2.2.1 26 = .ok (.lload_n 2, 1) := by decide +kernel
theorem d_109_27 : decode M_109.2.2.1 27 = .ok (.lload_n 2, 1) := by decide +kernel
theorem d_109_28 : decode M_109.2.2.1 28 = .ok (.bipush 6, 2) := by decide +kernel
theorem d_109_30 : decode M_109.2.2.1 30 = .ok (.lushr, 1) := by decide +kernel
theorem d_109_31 : decode M_109.2.2.1 31 = .ok (.lor, 1) := by decide +kernel
theorem d_109_32 : decode M_109.2.2.1 32 = .ok (.ldc2_w 159, 3) := by decide +kernel
theorem d_109_35 : decode M_109.2.2.1 35 = .ok (.land, 1) := by decide +kernel
theorem d_109_36 : decode M_109.2.2.1 36 = .ok (.lstore_n 2, 1) := by decide +kernel
theorem d_109_37 : decode M_109.2.2.1 37 = .ok (.lload_n 2, 1) := by decide +kernel
theorem d_109_38 : decode M_109.2.2.1 38 = .ok (.lload_n 2, 1) := by decide +kernel
theorem d_109_39 : decode M_109.2.2.1 39 = .ok (.bipush 12, 2) := by decide +kernel
theorem d_109_41 : decode M_109.2.2.1 41 = .ok (.lushr, 1) := by decide +kernel
theorem d_109_42 : decode M_109.2.2.1 42 = .ok (.lor, 1) := by decide +kernel
theorem d_109_43 : decode M_109.2.2.1 43 = .ok (.lload_n 2, 1) := by decide +kernel
theorem d_109_44 : decode M_109.2.2.1 44 = .ok (.bipush 24, 2) := by decide +kernel
theorem d_109_46 : decode M_109.2.2.1 46 = .ok (.lushr, 1) := by decide +kernel
theorem d_109_47 : decode M_109.2.2.1 47 = .ok (.lor, 1) := by decide +kernel
theorem d_109_48 : decode M_109.2.2.1 48 = .ok (.l2i, 1) := by decide +kernel
theorem d_109_49 : decode M_109.2.2.1 49 = .ok (.sipush 4095, 3) := by decide +kernel
theorem d_109_52 : decode M_109.2.2.1 52 = .ok (.iand, 1) := by decide +kernel
theorem d_109_53 : decode M_109.2.2.1 53 = .ok (.ireturn, 1) := by decide +kernel
/-- HeardBarrels$Ears.knocksMore(LHeardBarrels$Row;)I -/
def M_111 : am_MT := (3, ⟨"HeardBarrels$Ears", "knocksMore", "(LHeardBarrels$Row;)I"⟩, prog_3_method_18_code, 6, some .int, false, 1, (0, 0))
theorem hM_111 : am_ms[111]? = some M_111 := rfl
theorem d_111_0 : decode M_111.2.2.1 0 = .ok (.aload_n 0, 1) := by decide +kernel
theorem d_111_1 : decode M_111.2.2.1 1 = .ok (.aload_n 1, 1) := by decide +kernel
theorem d_111_2 : decode M_111.2.2.1 2 = .ok (.invokevirtual 96, 3) := by decide +kernel
theorem d_111_5 : decode M_111.2.2.1 5 = .ok (.iconst 0, 1) := by decide +kernel
theorem d_111_6 : decode M_111.2.2.1 6 = .ok (.istore_n 2, 1) := by decide +kernel
theorem d_111_7 : decode M_111.2.2.1 7 = .ok (.iconst 0, 1) := by decide +kernel
theorem d_111_8 : decode M_111.2.2.1 8 = .ok (.istore_n 3, 1) := by decide +kernel
theorem d_111_9 : decode M_111.2.2.1 9 = .ok (.iconst 0, 1) := by decide +kernel
theorem d_111_10 : decode M_111.2.2.1 10 = .ok (.istore 4, 2) := by decide +kernel
theorem d_111_12 : decode M_111.2.2.1 12 = .ok (.iload 4, 2) := by decide +kernel
theorem d_111_14 : decode M_111.2.2.1 14 = .ok (.aload_n 0, 1) := by decide +kernel
theorem d_111_15 : decode M_111.2.2.1 15 = .ok (.getfield 58, 3) := by decide +kernel
theorem d_111_18 : decode M_111.2.2.1 18 = .ok (.if_icmp .ge 42, 3) := by decide +kernel
theorem d_111_21 : decode M_111.2.2.1 21 = .ok (.aload_n 0, 1) := by decide +kernel
theorem d_111_22 : decode M_111.2.2.1 22 = .ok (.iload_n 3, 1) := by decide +kernel
theorem d_111_23 : decode M_111.2.2.1 23 = .ok (.invokevirtual 89, 3) := by decide +kernel
theorem d_111_26 : decode M_111.2.2.1 26 = .ok (.ifCond .eq 22, 3) := by decide +kernel
theorem d_111_29 : decode M_111.2.2.1 29 = .ok (.iload_n 2, 1) := by decide +kernel
theorem d_111_30 : decode M_111.2.2.1 30 = .ok (.bipush 10, 2) := by decide +kernel
theorem d_111_32 : decode M_111.2.2.1 32 = .ok (.if_icmp .lt 6, 3) := by decide +kernel
theorem d_111_35 : decode M_111.2.2.1 35 = .ok (.bipush (-4), 2) := by decide +kernel
theorem d_111_37 : decode M_111.2.2.1 37 = .ok (.ireturn, 1) := by decide +kernel
theorem d_111_38 : decode M_111.2.2.1 38 = .ok (.aload_n 0, 1) := by decide +kernel
theorem d_111_39 : decode M_111.2.2.1 39 = .ok (.getfield 21, 3) := by decide +kernel
theorem d_111_42 : decode M_111.2.2.1 42 = .ok (.iload_n 2, 1) := by decide +kernel
theorem d_111_43 : decode M_111.2.2.1 43 = .ok (.iload_n 3, 1) := by decide +kernel
theorem d_111_44 : decode M_111.2.2.1 44 = .ok (.iastore, 1) := by decide +kernel
theorem d_111_45 : decode M_111.2.2.1 45 = .ok (.iinc 2 1, 3) := by decide +kernel
theorem d_111_48 : decode M_111.2.2.1 48 = .ok (.aload_n 0, 1) := by decide +kernel
theorem d_111_49 : decode M_111.2.2.1 49 = .ok (.iload_n 3, 1) := by decide +kernel
theorem d_111_50 : decode M_111.2.2.1 50 = .ok (.invokevirtual 93, 3) := by decide +kernel
theorem d_111_53 : decode M_111.2.2.1 53 = .ok (.istore_n 3, 1) := by decide +kernel
theorem d_111_54 : decode M_111.2.2.1 54 = .ok (.iinc 4 1, 3) := by decide +kernel
theorem d_111_57 : decode M_111.2.2.1 57 = .ok (.goto (-45), 3) := by decide +kernel
theorem d_111_60 : decode M_111.2.2.1 60 = .ok (.iload_n 2, 1) := by decide +kernel
theorem d_111_61 : decode M_111.2.2.1 61 = .ok (.ifCond .ne 5, 3) := by decide +kernel
theorem d_111_64 : decode M_111.2.2.1 64 = .ok (.iconst (-1), 1) := by decide +kernel
theorem d_111_65 : decode M_111.2.2.1 65 = .ok (.ireturn, 1) := by decide +kernel
theorem d_111_66 : decode M_111.2.2.1 66 = .ok (.aload_n 0, 1) := by decide +kernel
theorem d_111_67 : decode M_111.2.2.1 67 = .ok (.iload_n 2, 1) := by decide +kernel
theorem d_111_68 : decode M_111.2.2.1 68 = .ok (.invokevirtual 129, 3) := by decide +kernel
theorem d_111_71 : decode M_111.2.2.1 71 = .ok (.iconst 1, 1) := by decide +kernel
theorem d_111_72 : decode M_111.2.2.1 72 = .ok (.iload_n 2, 1) := by decide +kernel
theorem d_111_73 : decode M_111.2.2.1 73 = .ok (.ishl, 1) := by decide +kernel
theorem d_111_74 : decode M_111.2.2.1 74 = .ok (.iconst 1, 1) := by decide +kernel
theorem d_111_75 : decode M_111.2.2.1 75 = .ok (.isub, 1) := by decide +kernel
theorem d_111_76 : decode M_111.2.2.1 76 = .ok (.istore 4, 2) := by decide +kernel
theorem d_111_78 : decode M_111.2.2.1 78 = .ok (.iconst 1, 1) := by decide +kernel
theorem d_111_79 : decode M_111.2.2.1 79 = .ok (.istore 5, 2) := by decide +kernel
theorem d_111_81 : decode M_111.2.2.1 81 = .ok (.iload 5, 2) := by decide +kernel
theorem d_111_83 : decode M_111.2.2.1 83 = .ok (.iload 4, 2) := by decide +kernel
theorem d_111_85 : decode M_111.2.2.1 85 = .ok (.if_icmp .gt 23, 3) := by decide +kernel
theorem d_111_88 : decode M_111.2.2.1 88 = .ok (.aload_n 0, 1) := by decide +kernel
theorem d_111_89 : decode M_111.2.2.1 89 = .ok (.getfield 27, 3) := by decide +kernel
theorem d_111_92 : decode M_111.2.2.1 92 = .ok (.iload 5, 2) := by decide +kernel
theorem d_111_94 : decode M_111.2.2.1 94 = .ok (.aload_n 0, 1) := by decide +kernel
theorem d_111_95 : decode M_111.2.2.1 95 = .ok (.iload 5, 2) := by decide +kernel
theorem d_111_97 : decode M_111.2.2.1 97 = .ok (.iload_n 2, 1) := by decide +kernel
theorem d_111_98 : decode M_111.2.2.1 98 = .ok (.invokevirtual 133, 3) := by decide +kernel
theorem d_111_101 : decode M_111.2.2.1 101 = .ok (.iastore, 1) := by decide +kernel
theorem d_111_102 : decode M_111.2.2.1 102 = .ok (.iinc 5 1, 3) := by decide +kernel
theorem d_111_105 : decode M_111.2.2.1 105 = .ok (.goto (-24), 3) := by decide +kernel
theorem d_111_108 : decode M_111.2.2.1 108 = .ok (.aload_n 0, 1) := by decide +kernel
theorem d_111_109 : decode M_111.2.2.1 109 = .ok (.getfield 27, 3) := by decide +kernel
theorem d_111_112 : decode M_111.2.2.1 112 = .ok (.iload 4, 2) := by decide +kernel
theorem d_111_114 : decode M_111.2.2.1 114 = .ok (.iaload, 1) := by decide +kernel
theorem d_111_115 : decode M_111.2.2.1 115 = .ok (.bipush 99, 2) := by decide +kernel
theorem d_111_117 : decode M_111.2.2.1 117 = .ok (.if_icmp .lt 7, 3) := by decide +kernel
theorem d_111_120 : decode M_111.2.2.1 120 = .ok (.iconst (-1), 1) := by decide +kernel
theorem d_111_121 : decode M_111.2.2.1 121 = .ok (.goto 10, 3) := by decide +kernel
theorem d_111_124 : decode M_111.2.2.1 124 = .ok (.aload_n 0, 1) := by decide +kernel
theorem d_111_125 : decode M_111.2.2.1 125 = .ok (.getfield 27, 3) := by decide +kernel
theorem d_111_128 : decode M_111.2.2.1 128 = .ok (.iload 4, 2) := by decide +kernel
theorem d_111_130 : decode M_111.2.2.1 130 = .ok (.iaload, 1) := by decide +kernel
theorem d_111_131 : decode M_111.2.2.1 131 = .ok (.ireturn, 1) := by decide +kernel
/-- HeardBarrels$Ears.findLikeFits(I)V -/
def M_112 : am_MT := (3, ⟨"HeardBarrels$Ears", "findLikeFits", "(I)V"⟩, prog_3_method_19_code, 6, none, false, 1, (0, 0))
theorem hM_112 : am_ms[112]? = some M_112 := rfl
theorem d_112_0 : decode M_112.2.2.1 0 = .ok (.iconst 0, 1) := by decide +kernel
theorem d_112_1 : decode M_112.2.2.1 1 = .ok (.istore_n 2, 1) := by decide +kernel
theorem d_112_2 : decode M_112.2.2.1 2 = .ok (.iload_n 2, 1) := by decide +kernel
theorem d_112_3 : decode M_112.2.2.1 3 = .ok (.aload_n 0, 1) := by decide +kernel
theorem d_112_4 : decode M_112.2.2.1 4 = .ok (.getfield 38, 3) := by decide +kernel
theorem d_112_7 : decode M_112.2.2.1 7 = .ok (.getfield 61, 3) := by decide +kernel
theorem d_112_10 : decode M_112.2.2.1 10 = .ok (.if_icmp .ge 88, 3) := by decide +kernel
theorem d_112_13 : decode M_112.2.2.1 13 = .ok (.iconst 0, 1) := by decide +kernel
theorem d_112_14 : decode M_112.2.2.1 14 = .ok (.istore_n 3, 1) := by decide +kernel
theorem d_112_15 : decode M_112.2.2.1 15 = .ok (.iload_n 3, 1) := by decide +kernel
theorem d_112_16 : decode M_112.2.2.1 16 = .ok (.iload_n 1, 1) := by decide +kernel
theorem d_112_17 : decode M_112.2.2.1 17 = .ok (.if_icmp .ge 75, 3) := by decide +kernel
theorem d_112_20 : decode M_112.2.2.1 20 = .ok (.iconst 0, 1) := by decide +kernel
theorem d_112_21 : decode M_112.2.2.1 21 = .ok (.istore 4, 2) := by decide +kernel
theorem d_112_23 : decode M_112.2.2.1 23 = .ok (.iconst 0, 1) := by decide +kernel
theorem d_112_24 : decode M_112.2.2.1 24 = .ok (.istore 5, 2) := by decide +kernel
theorem d_112_26 : decode M_112.2.2.1 26 = .ok (.iload 5, 2) := by decide +kernel
theorem d_112_28 : decode M_112.2.2.1 28 = .ok (.iload_n 1, 1) := by decide +kernel
theorem d_112_29 : decode M_112.2.2.1 29 = .ok (.if_icmp .ge 44, 3) := by decide +kernel
theorem d_112_32 : decode M_112.2.2.1 32 = .ok (.aload_n 0, 1) := by decide +kernel
theorem d_112_33 : decode M_112.2.2.1 33 = .ok (.iload_n 2, 1) := by decide +kernel
theorem d_112_34 : decode M_112.2.2.1 34 = .ok (.aload_n 0, 1) := by decide +kernel
theorem d_112_35 : decode M_112.2.2.1 35 = .ok (.getfield 21, 3) := by decide +kernel
theorem d_112_38 : decode M_112.2.2.1 38 = .ok (.iload_n 3, 1) := by decide +kernel
theorem d_112_39 : decode M_112.2.2.1 39 = .ok (.iaload, 1) := by decide +kernel
theorem d_112_40 : decode M_112.2.2.1 40 = .ok (.invokevirtual 126, 3) := by decide +kernel
theorem d_112_43 : decode M_112.2.2.1 43 = .ok (.aload_n 0, 1) := by decide +kernel
theorem d_112_44 : decode M_112.2.2.1 44 = .ok (.iload_n 2, 1) := by decide +kernel
theorem d_112_45 : decode M_112.2.2.1 45 = .ok (.aload_n 0, 1) := by decide +kernel
theorem d_112_46 : decode M_112.2.2.1 46 = .ok (.getfield 21, 3) := by decide +kernel
theorem d_112_49 : decode M_112.2.2.1 49 = .ok (.iload 5, 2) := by decide +kernel
theorem d_112_51 : decode M_112.2.2.1 51 = .ok (.iaload, 1) := by decide +kernel
theorem d_112_52 : decode M_112.2.2.1 52 = .ok (.invokevirtual 126, 3) := by decide +kernel
theorem d_112_55 : decode M_112.2.2.1 55 = .ok (.if_icmp .ne 12, 3) := by decide +kernel
theorem d_112_58 : decode M_112.2.2.1 58 = .ok (.iload 4, 2) := by decide +kernel
theorem d_112_60 : decode M_112.2.2.1 60 = .ok (.iconst 1, 1) := by decide +kernel
theorem d_112_61 : decode M_112.2.2.1 61 = .ok (.iload 5, 2) := by decide +kernel
theorem d_112_63 : decode M_112.2.2.1 63 = .ok (.ishl, 1) := by decide +kernel
theorem d_112_64 : decode M_112.2.2.1 64 = .ok (.ior, 1) := by decide +kernel
theorem d_112_65 : decode M_112.2.2.1 65 = .ok (.istore 4, 2) := by decide +kernel
theorem d_112_67 : decode M_112.2.2.1 67 = .ok (.iinc 5 1, 3) := by decide +kernel
theorem d_112_70 : decode M_112.2.2.1 70 = .ok (.goto (-44), 3) := by decide +kernel
theorem d_112_73 : decode M_112.2.2.1 73 = .ok (.aload_n 0, 1) := by decide +kernel
theorem d_112_74 : decode M_112.2.2.1 74 = .ok (.getfield 24, 3) := by decide +kernel
theorem d_112_77 : decode M_112.2.2.1 77 = .ok (.iload_n 2, 1) := by decide +kernel
theorem d_112_78 : decode M_112.2.2.1 78 = .ok (.bipush 10, 2) := by decide +kernel
theorem d_112_80 : decode M_112.2.2.1 80 = .ok (.imul, 1) := by decide +kernel
theorem d_112_81 : decode M_112.2.2.1 81 = .ok (.iload_n 3, 1) := by decide +kernel
theorem d_112_82 : decode M_112.2.2.1 82 = .ok (.iadd, 1) := by decide +kernel
theorem d_112_83 : decode M_112.2.2.1 83 = .ok (.iload 4, 2) := by decide +kernel
theorem d_112_85 : decode M_112.2.2.1 85 = .ok (.iastore, 1) := by decide +kernel
theorem d_112_86 : decode M_112.2.2.1 86 = .ok (.iinc 3 1, 3) := by decide +kernel
theorem d_112_89 : decode M_112.2.2.1 89 = .ok (.goto (-74), 3) := by decide +kernel
theorem d_112_92 : decode M_112.2.2.1 92 = .ok (.iinc 2 1, 3) := by decide +kernel
theorem d_112_95 : decode M_112.2.2.1 95 = .ok (.goto (-93), 3) := by decide +kernel
theorem d_112_98 : decode M_112.2.2.1 98 = .ok (.return_, 1) := by decide +kernel
/-- HeardBarrels$Ears.knocksForGroup(II)I -/
def M_113 : am_MT := (3, ⟨"HeardBarrels$Ears", "knocksForGroup", "(II)I"⟩, prog_3_method_20_code, 8, some .int, false, 2, (0, 0))
theorem hM_113 : am_ms[113]? = some M_113 := rfl
theorem d_113_0 : decode M_113.2.2.1 0 = .ok (.iload_n 1, 1) := by decide +kernel
theorem d_113_1 : decode M_113.2.2.1 1 = .ok (.invokestatic 52, 3) := by decide +kernel
theorem d_113_4 : decode M_113.2.2.1 4 = .ok (.iconst 1, 1) := by decide +kernel
theorem d_113_5 : decode M_113.2.2.1 5 = .ok (.if_icmp .ne 5, 3) := by decide +kernel
theorem d_113_8 : decode M_113.2.2.1 8 = .ok (.iconst 0, 1) := by decide +kernel
theorem d_113_9 : decode M_113.2.2.1 9 = .ok (.ireturn, 1) := by decide +kernel
theorem d_113_10 : decode M_113.2.2.1 10 = .ok (.bipush 99, 2) := by decide +kernel
theorem d_113_12 : decode M_113.2.2.1 12 = .ok (.istore_n 3, 1) := by decide +kernel
theorem d_113_13 : decode M_113.2.2.1 13 = .ok (.iconst 0, 1) := by decide +kernel
theorem d_113_14 : decode M_113.2.2.1 14 = .ok (.istore 4, 2) := by decide +kernel
theorem d_113_16 : decode M_113.2.2.1 16 = .ok (.iload 4, 2) := by decide +kernel
theorem d_113_18 : decode M_113.2.2.1 18 = .ok (.aload_n 0, 1) := by decide +kernel
theorem d_113_19 : decode M_113.2.2.1 19 = .ok (.getfield 38, 3) := by decide +kernel
theorem d_113_22 : decode M_113.2.2.1 22 = .ok (.getfield 61, 3) := by decide +kernel
theorem d_113_25 : decode M_113.2.2.1 25 = .ok (.if_icmp .ge 96, 3) := by decide +kernel
theorem d_113_28 : decode M_113.2.2.1 28 = .ok (.iconst 0, 1) := by decide +kernel
theorem d_113_29 : decode M_113.2.2.1 29 = .ok (.istore 5, 2) := by decide +kernel
theorem d_113_31 : decode M_113.2.2.1 31 = .ok (.iconst 0, 1) := by decide +kernel
theorem d_113_32 : decode M_113.2.2.1 32 = .ok (.istore 6, 2) := by decide +kernel
theorem d_113_34 : decode M_113.2.2.1 34 = .ok (.iload 6, 2) := by decide +kernel
theorem d_113_36 : decode M_113.2.2.1 36 = .ok (.iload_n 2, 1) := by decide +kernel
theorem d_113_37 : decode M_113.2.2.1 37 = .ok (.if_icmp .ge 69, 3) := by decide +kernel
theorem d_113_40 : decode M_113.2.2.1 40 = .ok (.iload 5, 2) := by decide +kernel
theorem d_113_42 : decode M_113.2.2.1 42 = .ok (.iload_n 3, 1) := by decide +kernel
theorem d_113_43 : decode M_113.2.2.1 43 = .ok (.if_icmp .ge 63, 3) := by decide +kernel
theorem d_113_46 : decode M_113.2.2.1 46 = .ok (.iload_n 1, 1) := by decide +kernel
theorem d_113_47 : decode M_113.2.2.1 47 = .ok (.iload 6, 2) := by decide +kernel
theorem d_113_49 : decode M_113.2.2.1 49 = .ok (.ishr, 1) := by decide +kernel
theorem d_113_50 : decode M_113.2.2.1 50 = .ok (.iconst 1, 1) := by decide +kernel
theorem d_113_51 : decode M_113.2.2.1 51 = .ok (.iand, 1) := by decide +kernel
theorem d_113_52 : decode M_113.2.2.1 52 = .ok (.ifCond .ne 6, 3) := by decide +kernel
theorem d_113_55 : decode M_113.2.2.1 55 = .ok (.goto 45, 3) := by decide +kernel
theorem d_113_58 : decode M_113.2.2.1 58 = .ok (.iload_n 1, 1) := by decide +kernel
theorem d_113_59 : decode M_113.2.2.1 59 = .ok (.aload_n 0, 1) := by decide +kernel
theorem d_113_60 : decode M_113.2.2.1 60 = .ok (.getfield 24, 3) := by decide +kernel
theorem d_113_63 : decode M_113.2.2.1 63 = .ok (.iload 4, 2) := by decide +kernel
theorem d_113_65 : decode M_113.2.2.1 65 = .ok (.bipush 10, 2) := by decide +kernel
theorem d_113_67 : decode M_113.2.2.1 67 = .ok (.imul, 1) := by decide +kernel
theorem d_113_68 : decode M_113.2.2.1 68 = .ok (.iload 6, 2) := by decide +kernel
theorem d_113_70 : decode M_113.2.2.1 70 = .ok (.iadd, 1) := by decide +kernel
theorem d_113_71 : decode M_113.2.2.1 71 = .ok (.iaload, 1) := by decide +kernel
theorem d_113_72 : decode M_113.2.2.1 72 = .ok (.iand, 1) := by decide +kernel
theorem d_113_73 : decode M_113.2.2.1 73 = .ok (.istore 7, 2) := by decide +kernel
theorem d_113_75 : decode M_113.2.2.1 75 = .ok (.iload 7, 2) := by decide +kernel
theorem d_113_77 : decode M_113.2.2.1 77 = .ok (.iload_n 1, 1) := by decide +kernel
theorem d_113_78 : decode M_113.2.2.1 78 = .ok (.if_icmp .ne 8, 3) := by decide +kernel
theorem d_113_81 : decode M_113.2.2.1 81 = .ok (.bipush 99, 2) := by decide +kernel
theorem d_113_83 : decode M_113.2.2.1 83 = .ok (.goto 15, 3) := by decide +kernel
theorem d_113_86 : decode M_113.2.2.1 86 = .ok (.iload 5, 2) := by decide +kernel
theorem d_113_88 : decode M_113.2.2.1 88 = .ok (.aload_n 0, 1) := by decide +kernel
theorem d_113_89 : decode M_113.2.2.1 89 = .ok (.getfield 27, 3) := by decide +kernel
theorem d_113_92 : decode M_113.2.2.1 92 = .ok (.iload 7, 2) := by decide +kernel
theorem d_113_94 : decode M_113.2.2.1 94 = .ok (.iaload, 1) := by decide +kernel
theorem d_113_95 : decode M_113.2.2.1 95 = .ok (.invokestatic 121, 3) := by decide +kernel
theorem d_113_98 : decode M_113.2.2.1 98 = .ok (.istore 5, 2) := by decide +kernel
theorem d_113_100 : decode M_113.2.2.1 100 = .ok (.iinc 6 1, 3) := by decide +kernel
theorem d_113_103 : decode M_113.2.2.1 103 = .ok (.goto (-69), 3) := by decide +kernel
theorem d_113_106 : decode M_113.2.2.1 106 = .ok (.iload_n 3, 1) := by decide +kernel
theorem d_113_107 : decode M_113.2.2.1 107 = .ok (.iload 5, 2) := by decide +kernel
theorem d_113_109 : decode M_113.2.2.1 109 = .ok (.iconst 1, 1) := by decide +kernel
theorem d_113_110 : decode M_113.2.2.1 110 = .ok (.iadd, 1) := by decide +kernel
theorem d_113_111 : decode M_113.2.2.1 111 = .ok (.invokestatic 136, 3) := by decide +kernel
theorem d_113_114 : decode M_113.2.2.1 114 = .ok (.istore_n 3, 1) := by decide +kernel
theorem d_113_115 : decode M_113.2.2.1 115 = .ok (.iinc 4 1, 3) := by decide +kernel
theorem d_113_118 : decode M_113.2.2.1 118 = .ok (.goto (-102), 3) := by decide +kernel
theorem d_113_121 : decode M_113.2.2.1 121 = .ok (.iload_n 3, 1) := by decide +kernel
theorem d_113_122 : decode M_113.2.2.1 122 = .ok (.ireturn, 1) := by decide +kernel
/-- HeardBarrels$Keeper.looks()Z -/
def M_115 : am_MT := (4, ⟨"HeardBarrels$Keeper", "looks", "()Z"⟩, prog_4_method_2_code, 4, some .boolean, false, 0, (0, 0))
theorem hM_115 : am_ms[115]? = some M_115 := rfl
theorem d_115_0 : decode M_115.2.2.1 0 = .ok (.aload_n 0, 1) := by decide +kernel
theorem d_115_1 : decode M_115.2.2.1 1 = .ok (.iconst 0, 1) := by decide +kernel
theorem d_115_2 : decode M_115.2.2.1 2 = .ok (.putfield 22, 3) := by decide +kernel
theorem d_115_5 : decode M_115.2.2.1 5 = .ok (.aload_n 0, 1) := by decide +kernel
theorem d_115_6 : decode M_115.2.2.1 6 = .ok (.iconst 0, 1) := by decide +kernel
theorem d_115_7 : decode M_115.2.2.1 7 = .ok (.putfield 26, 3) := by decide +kernel
theorem d_115_10 : decode M_115.2.2.1 10 = .ok (.aload_n 0, 1) := by decide +kernel
theorem d_115_11 : decode M_115.2.2.1 11 = .ok (.iconst 0, 1) := by decide +kernel
theorem d_115_12 : decode M_115.2.2.1 12 = .ok (.putfield 29, 3) := by decide +kernel
theorem d_115_15 : decode M_115.2.2.1 15 = .ok (.aload_n 0, 1) := by decide +kernel
theorem d_115_16 : decode M_115.2.2.1 16 = .ok (.aload_n 0, 1) := by decide +kernel
theorem d_115_17 : decode M_115.2.2.1 17 = .ok (.getfield 18, 3) := by decide +kernel
theorem d_115_20 : decode M_115.2.2.1 20 = .ok (.getfield 32, 3) := by decide +kernel
theorem d_115_23 : decode M_115.2.2.1 23 = .ok (.putfield 37, 3) := by decide +kernel
theorem d_115_26 : decode M_115.2.2.1 26 = .ok (.aload_n 0, 1) := by decide +kernel
theorem d_115_27 : decode M_115.2.2.1 27 = .ok (.getfield 18, 3) := by decide +kernel
theorem d_115_30 : decode M_115.2.2.1 30 = .ok (.iconst 1, 1) := by decide +kernel
theorem d_115_31 : decode M_115.2.2.1 31 = .ok (.invokevirtual 38, 3) := by decide +kernel
theorem d_115_34 : decode M_115.2.2.1 34 = .ok (.istore_n 1, 1) := by decide +kernel
theorem d_115_35 : decode M_115.2.2.1 35 = .ok (.iconst 0, 1) := by decide +kernel
theorem d_115_36 : decode M_115.2.2.1 36 = .ok (.istore_n 2, 1) := by decide +kernel
theorem d_115_37 : decode M_115.2.2.1 37 = .ok (.iload_n 2, 1) := by decide +kernel
theorem d_115_38 : decode M_115.2.2.1 38 = .ok (.aload_n 0, 1) := by decide +kernel
theorem d_115_39 : decode M_115.2.2.1 39 = .ok (.getfield 18, 3) := by decide +kernel
theorem d_115_42 : decode M_115.2.2.1 42 = .ok (.getfield 42, 3) := by decide +kernel
theorem d_115_45 : decode M_115.2.2.1 45 = .ok (.if_icmp .ge 133, 3) := by decide +kernel
theorem d_115_48 : decode M_115.2.2.1 48 = .ok (.aload_n 0, 1) := by decide +kernel
theorem d_115_49 : decode M_115.2.2.1 49 = .ok (.getfield 18, 3) := by decide +kernel
theorem d_115_52 : decode M_115.2.2.1 52 = .ok (.getfield 45, 3) := by decide +kernel
theorem d_115_55 : decode M_115.2.2.1 55 = .ok (.iload_n 2, 1) := by decide +kernel
theorem d_115_56 : decode M_115.2.2.1 56 = .ok (.iaload, 1) := by decide +kernel
theorem d_115_57 : decode M_115.2.2.1 57 = .ok (.ifCond .eq 6, 3) := by decide +kernel
theorem d_115_60 : decode M_115.2.2.1 60 = .ok (.goto 112, 3) := by decide +kernel
theorem d_115_63 : decode M_115.2.2.1 63 = .ok (.aload_n 0, 1) := by decide +kernel
theorem d_115_64 : decode M_115.2.2.1 64 = .ok (.getfield 22, 3) := by decide +kernel
theorem d_115_67 : decode M_115.2.2.1 67 = .ok (.iconst 5, 1) := by decide +kernel
theorem d_115_68 : decode M_115.2.2.1 68 = .ok (.if_icmp .lt 5, 3) := by decide +kernel
theorem d_115_71 : decode M_115.2.2.1 71 = .ok (.iconst 0, 1) := by decide +kernel
theorem d_115_72 : decode M_115.2.2.1 72 = .ok (.ireturn, 1) := by decide +kernel
theorem d_115_73 : decode M_115.2.2.1 73 = .ok (.iload_n 2, 1) := by decide +kernel
theorem d_115_74 : decode M_115.2.2.1 74 = .ok (.invokestatic 48, 3) := by decide +kernel
theorem d_115_77 : decode M_115.2.2.1 77 = .ok (.iload_n 1, 1) := by decide +kernel
theorem d_115_78 : decode M_115.2.2.1 78 = .ok (.iand, 1) := by decide +kernel
theorem d_115_79 : decode M_115.2.2.1 79 = .ok (.ifCond .eq 7, 3) := by decide +kernel
theorem d_115_82 : decode M_115.2.2.1 82 = .ok (.iconst 2, 1) := by decide +kernel
theorem d_115_83 : decode M_115.2.2.1 83 = .ok (.goto 4, 3) := by decide +kernel
theorem d_115_86 : decode M_115.2.2.1 86 = .ok (.iconst 1, 1) := by decide +kernel
theorem d_115_87 : decode M_115.2.2.1 87 = .ok (.istore_n 3, 1) := by decide +kernel
theorem d_115_88 : decode M_115.2.2.1 88 = .ok (.aload_n 0, 1) := by decide +kernel
theorem d_115_89 : decode M_115.2.2.1 89 = .ok (.dup, 1) := by decide +kernel
theorem d_115_90 : decode M_115.2.2.1 90 = .ok (.getfield 26, 3) := by decide +kernel
theorem d_115_93 : decode M_115.2.2.1 93 = .ok (.iconst 0, 1) := by decide +kernel
theorem d_115_94 : decode M_115.2.2.1 94 = .ok (.aload_n 0, 1) := by decide +kernel
theorem d_115_95 : decode M_115.2.2.1 95 = .ok (.getfield 18, 3) := by decide +kernel
theorem d_115_98 : decode M_115.2.2.1 98 = .ok (.getfield 51, 3) := by decide +kernel
theorem d_115_101 : decode M_115.2.2.1 101 = .ok (.aload_n 0, 1) := by decide +kernel
theorem d_115_102 : decode M_115.2.2.1 102 = .ok (.getfield 18, 3) := by decide +kernel
theorem d_115_105 : decode M_115.2.2.1 105 = .ok (.getfield 54, 3) := by decide +kernel
theorem d_115_108 : decode M_115.2.2.1 108 = .ok (.iload_n 2, 1) := by decide +kernel
theorem d_115_109 : decode M_115.2.2.1 109 = .ok (.iaload, 1) := by decide +kernel
theorem d_115_110 : decode M_115.2.2.1 110 = .ok (.isub, 1) := by decide +kernel
theorem d_115_111 : decode M_115.2.2.1 111 = .ok (.invokestatic 57, 3) := by decide +kernel
theorem d_115_114 : decode M_115.2.2.1 114 = .ok (.iload_n 3, 1) := by decide +kernel
theorem d_115_115 : decode M_115.2.2.1 115 = .ok (.idiv, 1) := by decide +kernel
theorem d_115_116 : decode M_115.2.2.1 116 = .ok (.iconst 3, 1) := by decide +kernel
theorem d_115_117 : decode M_115.2.2.1 117 = .ok (.aload_n 0, 1) := by decide +kernel
theorem d_115_118 : decode M_115.2.2.1 118 = .ok (.getfield 22, 3) := by decide +kernel
theorem d_115_121 : decode M_115.2.2.1 121 = .ok (.imul, 1) := by decide +kernel
theorem d_115_122 : decode M_115.2.2.1 122 = .ok (.ishl, 1) := by decide +kernel
theorem d_115_123 : decode M_115.2.2.1 123 = .ok (.ior, 1) := by decide +kernel
theorem d_115_124 : decode M_115.2.2.1 124 = .ok (.putfield 26, 3) := by decide +kernel
theorem d_115_127 : decode M_115.2.2.1 127 = .ok (.aload_n 0, 1) := by decide +kernel
theorem d_115_128 : decode M_115.2.2.1 128 = .ok (.dup, 1) := by decide +kernel
theorem d_115_129 : decode M_115.2.2.1 129 = .ok (.getfield 29, 3) := by decide +kernel
theorem d_115_132 : decode M_115.2.2.1 132 = .ok (.aload_n 0, 1) := by decide +kernel
theorem d_115_133 : decode M_115.2.2.1 133 = .ok (.getfield 18, 3) := by decide +kernel
theorem d_115_136 : decode M_115.2.2.1 136 = .ok (.getfield 51, 3) := by decide +kernel
theorem d_115_139 : decode M_115.2.2.1 139 = .ok (.iload_n 3, 1) := by decide +kernel
theorem d_115_140 : decode M_115.2.2.1 140 = .ok (.idiv, 1) := by decide +kernel
theorem d_115_141 : decode M_115.2.2.1 141 = .ok (.iconst 3, 1) := by decide +kernel
theorem d_115_142 : decode M_115.2.2.1 142 = .ok (.aload_n 0, 1) := by decide +kernel
theorem d_115_143 : decode M_115.2.2.1 143 = .ok (.getfield 22, 3) := by decide +kernel
theorem d_115_146 : decode M_115.2.2.1 146 = .ok (.imul, 1) := by decide +kernel
theorem d_115_147 : decode M_115.2.2.1 147 = .ok (.ishl, 1) := by decide +kernel
theorem d_115_148 : decode M_115.2.2.1 148 = .ok (.ior, 1) := by decide +kernel
theorem d_115_149 : decode M_115.2.2.1 149 = .ok (.putfield 29, 3) := by decide +kernel
theorem d_115_152 : decode M_115.2.2.1 152 = .ok (.aload_n 0, 1) := by decide +kernel
theorem d_115_153 : decode M_115.2.2.1 153 = .ok (.getfield 11, 3) := by decide +kernel
theorem d_115_156 : decode M_115.2.2.1 156 = .ok (.aload_n 0, 1) := by decide +kernel
theorem d_115_157 : decode M_115.2.2.1 157 = .ok (.getfield 22, 3) := by decide +kernel
theorem d_115_160 : decode M_115.2.2.1 160 = .ok (.iload_n 2, 1) := by decide +kernel
theorem d_115_161 : decode M_115.2.2.1 161 = .ok (.iastore, 1) := by decide +kernel
theorem d_115_162 : decode M_115.2.2.1 162 = .ok (.aload_n 0, 1) := by decide +kernel
theorem d_115_163 : decode M_115.2.2.1 163 = .ok (.dup, 1) := by decide +kernel
theorem d_115_164 : decode M_115.2.2.1 164 = .ok (.getfield 22, 3) := by decide +kernel
theorem d_115_167 : decode M_115.2.2.1 167 = .ok (.iconst 1, 1) := by decide +kernel
theorem d_115_168 : decode M_115.2.2.1 168 = .ok (.iadd, 1) := by decide +kernel
theorem d_115_169 : decode M_115.2.2.1 169 = .ok (.putfield 22, 3) := by decide +kernel
theorem d_115_172 : decode M_115.2.2.1 172 = .ok (.iinc 2 1, 3) := by decide +kernel
theorem d_115_175 : decode M_115.2.2.1 175 = .ok (.goto (-138), 3) := by decide +kernel
theorem d_115_178 : decode M_115.2.2.1 178 = .ok (.iconst 1, 1) := by decide +kernel
theorem d_115_179 : decode M_115.2.2.1 179 = .ok (.ireturn, 1) := by decide +kernel
/-- HeardBarrels$Keeper.fewestTurns(I)I -/
def M_116 : am_MT := (4, ⟨"HeardBarrels$Keeper", "fewestTurns", "(I)I"⟩, prog_4_method_3_code, 3, some .int, false, 1, (0, 0))
theorem hM_116 : am_ms[116]? = some M_116 := rfl
theorem d_116_0 : decode M_116.2.2.1 0 = .ok (.aload_n 0, 1) := by decide +kernel
theorem d_116_1 : decode M_116.2.2.1 1 = .ok (.getfield 15, 3) := by decide +kernel
theorem d_116_4 : decode M_116.2.2.1 4 = .ok (.iconst 0, 1) := by decide +kernel
theorem d_116_5 : decode M_116.2.2.1 5 = .ok (.invokestatic 63, 3) := by decide +kernel
theorem d_116_8 : decode M_116.2.2.1 8 = .ok (.aload_n 0, 1) := by decide +kernel
theorem d_116_9 : decode M_116.2.2.1 9 = .ok (.aload_n 0, 1) := by decide +kernel
theorem d_116_10 : decode M_116.2.2.1 10 = .ok (.aload_n 0, 1) := by decide +kernel
theorem d_116_11 : decode M_116.2.2.1 11 = .ok (.getfield 26, 3) := by decide +kernel
theorem d_116_14 : decode M_116.2.2.1 14 = .ok (.iload_n 1, 1) := by decide +kernel
theorem d_116_15 : decode M_116.2.2.1 15 = .ok (.invokevirtual 69, 3) := by decide +kernel
theorem d_116_18 : decode M_116.2.2.1 18 = .ok (.iload_n 1, 1) := by decide +kernel
theorem d_116_19 : decode M_116.2.2.1 19 = .ok (.invokevirtual 72, 3) := by decide +kernel
theorem d_116_22 : decode M_116.2.2.1 22 = .ok (.istore_n 2, 1) := by decide +kernel
theorem d_116_23 : decode M_116.2.2.1 23 = .ok (.iload_n 2, 1) := by decide +kernel
theorem d_116_24 : decode M_116.2.2.1 24 = .ok (.bipush 63, 2) := by decide +kernel
theorem d_116_26 : decode M_116.2.2.1 26 = .ok (.if_icmp .lt 7, 3) := by decide +kernel
theorem d_116_29 : decode M_116.2.2.1 29 = .ok (.iconst (-1), 1) := by decide +kernel
theorem d_116_30 : decode M_116.2.2.1 30 = .ok (.goto 4, 3) := by decide +kernel
theorem d_116_33 : decode M_116.2.2.1 33 = .ok (.iload_n 2, 1) := by decide +kernel
theorem d_116_34 : decode M_116.2.2.1 34 = .ok (.ireturn, 1) := by decide +kernel
/-- HeardBarrels$Keeper.capped(II)I -/
def M_117 : am_MT := (4, ⟨"HeardBarrels$Keeper", "capped", "(II)I"⟩, prog_4_method_11_code, 5, some .int, false, 2, (0, 0))
theorem hM_117 : am_ms[117]? = some M_117 := rfl
theorem d_117_0 : decode M_117.2.2.1 0 = .ok (.iload_n 2, 1) := by decide +kernel
theorem d_117_1 : decode M_117.2.2.1 1 = .ok (.bipush 7, 2) := by decide +kernel
theorem d_117_3 : decode M_117.2.2.1 3 = .ok (.if_icmp .lt 5, 3) := by decide +kernel
theorem d_117_6 : decode M_117.2.2.1 6 = .ok (.iload_n 1, 1) := by decide +kernel
theorem d_117_7 : decode M_117.2.2.1 7 = .ok (.ireturn, 1) := by decide +kernel
theorem d_117_8 : decode M_117.2.2.1 8 = .ok (.iconst 0, 1) := by decide +kernel
theorem d_117_9 : decode M_117.2.2.1 9 = .ok (.istore_n 3, 1) := by decide +kernel
theorem d_117_10 : decode M_117.2.2.1 10 = .ok (.iconst 0, 1) := by decide +kernel
theorem d_117_11 : decode M_117.2.2.1 11 = .ok (.istore 4, 2) := by decide +kernel
theorem d_117_13 : decode M_117.2.2.1 13 = .ok (.iload 4, 2) := by decide +kernel
theorem d_117_15 : decode M_117.2.2.1 15 = .ok (.aload_n 0, 1) := by decide +kernel
theorem d_117_16 : decode M_117.2.2.1 16 = .ok (.getfield 22, 3) := by decide +kernel
theorem d_117_19 : decode M_117.2.2.1 19 = .ok (.if_icmp .ge 30, 3) := by decide +kernel
theorem d_117_22 : decode M_117.2.2.1 22 = .ok (.iload_n 3, 1) := by decide +kernel
theorem d_117_23 : decode M_117.2.2.1 23 = .ok (.iload_n 2, 1) := by decide +kernel
theorem d_117_24 : decode M_117.2.2.1 24 = .ok (.iload_n 1, 1) := by decide +kernel
theorem d_117_25 : decode M_117.2.2.1 25 = .ok (.iconst 3, 1) := by decide +kernel
theorem d_117_26 : decode M_117.2.2.1 26 = .ok (.iload 4, 2) := by decide +kernel
theorem d_117_28 : decode M_117.2.2.1 28 = .ok (.imul, 1) := by decide +kernel
theorem d_117_29 : decode M_117.2.2.1 29 = .ok (.ishr, 1) := by decide +kernel
theorem d_117_30 : decode M_117.2.2.1 30 = .ok (.bipush 7, 2) := by decide +kernel
theorem d_117_32 : decode M_117.2.2.1 32 = .ok (.iand, 1) := by decide +kernel
theorem d_117_33 : decode M_117.2.2.1 33 = .ok (.invokestatic 103, 3) := by decide +kernel
theorem d_117_36 : decode M_117.2.2.1 36 = .ok (.iconst 3, 1) := by decide +kernel
theorem d_117_37 : decode M_117.2.2.1 37 = .ok (.iload 4, 2) := by decide +kernel
theorem d_117_39 : decode M_117.2.2.1 39 = .ok (.imul, 1) := by decide +kernel
theorem d_117_40 : decode M_117.2.2.1 40 = .ok (.ishl, 1) := by decide +kernel
theorem d_117_41 : decode M_117.2.2.1 41 = .ok (.ior, 1) := by decide +kernel
theorem d_117_42 : decode M_117.2.2.1 42 = .ok (.istore_n 3, 1) := by decide +kernel
theorem d_117_43 : decode M_117.2.2.1 43 = .ok (.iinc 4 1, 3) := by decide +kernel
theorem d_117_46 : decode M_117.2.2.1 46 = .ok (.goto (-33), 3) := by decide +kernel
theorem d_117_49 : decode M_117.2.2.1 49 = .ok (.iload_n 3, 1) := by decide +kernel
theorem d_117_50 : decode M_117.2.2.1 50 = .ok (.ireturn, 1) := by decide +kernel
/-- HeardBarrels$Keeper.fewest(II)I -/
def M_118 : am_MT := (4, ⟨"HeardBarrels$Keeper", "fewest", "(II)I"⟩, prog_4_method_7_code, 9, some .int, false, 2, (0, 0))
theorem hM_118 : am_ms[118]? = some M_118 := rfl
theorem d_118_0 : decode M_118.2.2.1 0 = .ok (.iload_n 2, 1) := by decide +kernel
theorem d_118_1 : decode M_118.2.2.1 1 = .ok (.ifCond .gt 5, 3) := by decide +kernel
theorem d_118_4 : decode M_118.2.2.1 4 = .ok (.iconst 0, 1) := by decide +kernel
theorem d_118_5 : decode M_118.2.2.1 5 = .ok (.ireturn, 1) := by decide +kernel
theorem d_118_6 : decode M_118.2.2.1 6 = .ok (.iload_n 2, 1) := by decide +kernel
theorem d_118_7 : decode M_118.2.2.1 7 = .ok (.bipush 15, 2) := by decide +kernel
theorem d_118_9 : decode M_118.2.2.1 9 = .ok (.ishl, 1) := by decide +kernel
theorem d_118_10 : decode M_118.2.2.1 10 = .ok (.iload_n 1, 1) := by decide +kernel
theorem d_118_11 : decode M_118.2.2.1 11 = .ok (.ior, 1) := by decide +kernel
theorem d_118_12 : decode M_118.2.2.1 12 = .ok (.istore_n 3, 1) := by decide +kernel
theorem d_118_13 : decode M_118.2.2.1 13 = .ok (.aload_n 0, 1) := by decide +kernel
theorem d_118_14 : decode M_118.2.2.1 14 = .ok (.iload_n 3, 1) := by decide +kernel
theorem d_118_15 : decode M_118.2.2.1 15 = .ok (.invokevirtual 100, 3) := by decide +kernel
theorem d_118_18 : decode M_118.2.2.1 18 = .ok (.istore 4, 2) := by decide +kernel
theorem d_118_20 : decode M_118.2.2.1 20 = .ok (.iload 4, 2) := by decide +kernel
theorem d_118_22 : decode M_118.2.2.1 22 = .ok (.iconst (-1), 1) := by decide +kernel
theorem d_118_23 : decode M_118.2.2.1 23 = .ok (.if_icmp .eq 6, 3) := by decide +kernel
theorem d_118_26 : decode M_118.2.2.1 26 = .ok (.iload 4, 2) := by decide +kernel
theorem d_118_28 : decode M_118.2.2.1 28 = .ok (.ireturn, 1) := by decide +kernel
theorem d_118_29 : decode M_118.2.2.1 29 = .ok (.bipush 63, 2) := by decide +kernel
theorem d_118_31 : decode M_118.2.2.1 31 = .ok (.istore 5, 2) := by decide +kernel
theorem d_118_33 : decode M_118.2.2.1 33 = .ok (.iconst 0, 1) := by decide +kernel
theorem d_118_34 : decode M_118.2.2.1 34 = .ok (.istore 6, 2) := by decide +kernel
theorem d_118_36 : decode M_118.2.2.1 36 = .ok (.iload 6, 2) := by decide +kernel
theorem d_118_38 : decode M_118.2.2.1 38 = .ok (.iconst 1, 1) := by decide +kernel
theorem d_118_39 : decode M_118.2.2.1 39 = .ok (.aload_n 0, 1) := by decide +kernel
theorem d_118_40 : decode M_118.2.2.1 40 = .ok (.getfield 22, 3) := by decide +kernel
theorem d_118_43 : decode M_118.2.2.1 43 = .ok (.ishl, 1) := by decide +kernel
theorem d_118_44 : decode M_118.2.2.1 44 = .ok (.if_icmp .ge 82, 3) := by decide +kernel
theorem d_118_47 : decode M_118.2.2.1 47 = .ok (.aload_n 0, 1) := by decide +kernel
theorem d_118_48 : decode M_118.2.2.1 48 = .ok (.iload_n 1, 1) := by decide +kernel
theorem d_118_49 : decode M_118.2.2.1 49 = .ok (.iload 6, 2) := by decide +kernel
theorem d_118_51 : decode M_118.2.2.1 51 = .ok (.iload_n 2, 1) := by decide +kernel
theorem d_118_52 : decode M_118.2.2.1 52 = .ok (.invokevirtual 93, 3) := by decide +kernel
theorem d_118_55 : decode M_118.2.2.1 55 = .ok (.ifCond .ne 6, 3) := by decide +kernel
theorem d_118_58 : decode M_118.2.2.1 58 = .ok (.goto 62, 3) := by decide +kernel
theorem d_118_61 : decode M_118.2.2.1 61 = .ok (.iload 6, 2) := by decide +kernel
theorem d_118_63 : decode M_118.2.2.1 63 = .ok (.invokestatic 82, 3) := by decide +kernel
theorem d_118_66 : decode M_118.2.2.1 66 = .ok (.istore 7, 2) := by decide +kernel
theorem d_118_68 : decode M_118.2.2.1 68 = .ok (.aload_n 0, 1) := by decide +kernel
theorem d_118_69 : decode M_118.2.2.1 69 = .ok (.aload_n 0, 1) := by decide +kernel
theorem d_118_70 : decode M_118.2.2.1 70 = .ok (.iload_n 1, 1) := by decide +kernel
theorem d_118_71 : decode M_118.2.2.1 71 = .ok (.iload 6, 2) := by decide +kernel
theorem d_118_73 : decode M_118.2.2.1 73 = .ok (.invokevirtual 87, 3) := by decide +kernel
theorem d_118_76 : decode M_118.2.2.1 76 = .ok (.iload_n 2, 1) := by decide +kernel
theorem d_118_77 : decode M_118.2.2.1 77 = .ok (.iconst 1, 1) := by decide +kernel
theorem d_118_78 : decode M_118.2.2.1 78 = .ok (.isub, 1) := by decide +kernel
theorem d_118_79 : decode M_118.2.2.1 79 = .ok (.invokevirtual 69, 3) := by decide +kernel
theorem d_118_82 : decode M_118.2.2.1 82 = .ok (.istore 8, 2) := by decide +kernel
theorem d_118_84 : decode M_118.2.2.1 84 = .ok (.iload 7, 2) := by decide +kernel
theorem d_118_86 : decode M_118.2.2.1 86 = .ok (.aload_n 0, 1) := by decide +kernel
theorem d_118_87 : decode M_118.2.2.1 87 = .ok (.iload 8, 2) := by decide +kernel
theorem d_118_89 : decode M_118.2.2.1 89 = .ok (.iload_n 2, 1) := by decide +kernel
theorem d_118_90 : decode M_118.2.2.1 90 = .ok (.iconst 1, 1) := by decide +kernel
theorem d_118_91 : decode M_118.2.2.1 91 = .ok (.isub, 1) := by decide +kernel
theorem d_118_92 : decode M_118.2.2.1 92 = .ok (.invokevirtual 97, 3) := by decide +kernel
theorem d_118_95 : decode M_118.2.2.1 95 = .ok (.iadd, 1) := by decide +kernel
theorem d_118_96 : decode M_118.2.2.1 96 = .ok (.iload 5, 2) := by decide +kernel
theorem d_118_98 : decode M_118.2.2.1 98 = .ok (.if_icmp .ge 22, 3) := by decide +kernel
theorem d_118_101 : decode M_118.2.2.1 101 = .ok (.iload 5, 2) := by decide +kernel
theorem d_118_103 : decode M_118.2.2.1 103 = .ok (.iload 7, 2) := by decide +kernel
theorem d_118_105 : decode M_118.2.2.1 105 = .ok (.aload_n 0, 1) := by decide +kernel
theorem d_118_106 : decode M_118.2.2.1 106 = .ok (.iload 8, 2) := by decide +kernel
theorem d_118_108 : decode M_118.2.2.1 108 = .ok (.iload_n 2, 1) := by decide +kernel
theorem d_118_109 : decode M_118.2.2.1 109 = .ok (.iconst 1, 1) := by decide +kernel
theorem d_118_110 : decode M_118.2.2.1 110 = .ok (.isub, 1) := by decide +kernel
theorem d_118_111 : decode M_118.2.2.1 111 = .ok (.invokevirtual 72, 3) := by decide +kernel
theorem d_118_114 : decode M_118.2.2.1 114 = .ok (.iadd, 1) := by decide +kernel
theorem d_118_115 : decode M_118.2.2.1 115 = .ok (.invokestatic 103, 3) := by decide +kernel
theorem d_118_118 : decode M_118.2.2.1 118 = .ok (.istore 5, 2) := by decide +kernel
theorem d_118_120 : decode M_118.2.2.1 120 = .ok (.iinc 6 1, 3) := by decide +kernel
theorem d_118_123 : decode M_118.2.2.1 123 = .ok (.goto (-87), 3) := by decide +kernel
theorem d_118_126 : decode M_118.2.2.1 126 = .ok (.aload_n 0, 1) := by decide +kernel
theorem d_118_127 : decode M_118.2.2.1 127 = .ok (.iload_n 3, 1) := by decide +kernel
theorem d_118_128 : decode M_118.2.2.1 128 = .ok (.iload 5, 2) := by decide +kernel
theorem d_118_130 : decode M_118.2.2.1 130 = .ok (.invokevirtual 106, 3) := by decide +kernel
theorem d_118_133 : decode M_118.2.2.1 133 = .ok (.iload 5, 2) := by decide +kernel
theorem d_118_135 : decode M_118.2.2.1 135 = .ok (.ireturn, 1) := by decide +kernel
/-- HeardBarrels$Keeper.lookUp(I)I -/
def M_119 : am_MT := (4, ⟨"HeardBarrels$Keeper", "lookUp", "(I)I"⟩, prog_4_method_14_code, 3, some .int, false, 1, (0, 0))
theorem hM_119 : am_ms[119]? = some M_119 := rfl
theorem d_119_0 : decode M_119.2.2.1 0 = .ok (.aload_n 0, 1) := by decide +kernel
theorem d_119_1 : decode M_119.2.2.1 1 = .ok (.getfield 15, 3) := by decide +kernel
theorem d_119_4 : decode M_119.2.2.1 4 = .ok (.aload_n 0, 1) := by decide +kernel
theorem d_119_5 : decode M_119.2.2.1 5 = .ok (.iload_n 1, 1) := by decide +kernel
theorem d_119_6 : decode M_119.2.2.1 6 = .ok (.invokevirtual 113, 3) := by decide +kernel
theorem d_119_9 : decode M_119.2.2.1 9 = .ok (.iaload, 1) := by decide +kernel
theorem d_119_10 : decode M_119.2.2.1 10 = .ok (.istore_n 2, 1) := by decide +kernel
theorem d_119_11 : decode M_119.2.2.1 11 = .ok (.iload_n 2, 1) := by decide +kernel
theorem d_119_12 : decode M_119.2.2.1 12 = .ok (.ifCond .eq 22, 3) := by decide +kernel
theorem d_119_15 : decode M_119.2.2.1 15 = .ok (.iload_n 2, 1) := by decide +kernel
theorem d_119_16 : decode M_119.2.2.1 16 = .ok (.iconst 1, 1) := by decide +kernel
theorem d_119_17 : decode M_119.2.2.1 17 = .ok (.isub, 1) := by decide +kernel
theorem d_119_18 : decode M_119.2.2.1 18 = .ok (.bipush 6, 2) := by decide +kernel
theorem d_119_20 : decode M_119.2.2.1 20 = .ok (.ishr, 1) := by decide +kernel
theorem d_119_21 : decode M_119.2.2.1 21 = .ok (.iload_n 1, 1) := by decide +kernel
theorem d_119_22 : decode M_119.2.2.1 22 = .ok (.if_icmp .ne 12, 3) := by decide +kernel
theorem d_119_25 : decode M_119.2.2.1 25 = .ok (.iload_n 2, 1) := by decide +kernel
theorem d_119_26 : decode M_119.2.2.1 26 = .ok (.iconst 1, 1) := by decide +kernel
theorem d_119_27 : decode M_119.2.2.1 27 = .ok (.isub, 1) := by decide +kernel
theorem d_119_28 : decode M_119.2.2.1 28 = .ok (.bipush 63, 2) := by decide +kernel
theorem d_119_30 : decode M_119.2.2.1 30 = .ok (.iand, 1) := by decide +kernel
theorem d_119_31 : decode M_119.2.2.1 31 = .ok (.goto 4, 3) := by decide +kernel
theorem d_119_34 : decode M_119.2.2.1 34 = .ok (.iconst (-1), 1) := by decide +kernel
theorem d_119_35 : decode M_119.2.2.1 35 = .ok (.ireturn, 1) := by decide +kernel
/-- HeardBarrels$Keeper.slotOf(I)I -/
def M_120 : am_MT := (4, ⟨"HeardBarrels$Keeper", "slotOf", "(I)I"⟩, prog_4_method_16_code, 4, some .int, false, 1, (0, 0))
theorem hM_120 : am_ms[120]? = some M_120 := rfl
theorem d_120_0 : decode M_120.2.2.1 0 = .ok (.iload_n 1, 1) := by decide +kernel
theorem d_120_1 : decode M_120.2.2.1 1 = .ok (.ldc 116, 2) := by decide +kernel
theorem d_120_3 : decode M_120.2.2.1 3 = .ok (.imul, 1) := by decide +kernel
theorem d_120_4 : decode M_120.2.2.1 4 = .ok (.bipush 19, 2) := by decide +kernel
theorem d_120_6 : decode M_120.2.2.1 6 = .ok (.iushr, 1) := by decide +kernel
theorem d_120_7 : decode M_120.2.2.1 7 = .ok (.istore_n 2, 1) := by decide +kernel
theorem d_120_8 : decode M_120.2.2.1 8 = .ok (.iconst 0, 1) := by decide +kernel
theorem d_120_9 : decode M_120.2.2.1 9 = .ok (.istore_n 3, 1) := by decide +kernel
theorem d_120_10 : decode M_120.2.2.1 10 = .ok (.iload_n 3, 1) := by decide +kernel
theorem d_120_11 : decode M_120.2.2.1 11 = .ok (.aload_n 0, 1) := by decide +kernel
theorem d_120_12 : decode M_120.2.2.1 12 = .ok (.getfield 15, 3) := by decide +kernel
theorem d_120_15 : decode M_120.2.2.1 15 = .ok (.arraylength, 1) := by decide +kernel
theorem d_120_16 : decode M_120.2.2.1 16 = .ok (.if_icmp .ge 47, 3) := by decide +kernel
theorem d_120_19 : decode M_120.2.2.1 19 = .ok (.aload_n 0, 1) := by decide +kernel
theorem d_120_20 : decode M_120.2.2.1 20 = .ok (.getfield 15, 3) := by decide +kernel
theorem d_120_23 : decode M_120.2.2.1 23 = .ok (.iload_n 2, 1) := by decide +kernel
theorem d_120_24 : decode M_120.2.2.1 24 = .ok (.iaload, 1) := by decide +kernel
theorem d_120_25 : decode M_120.2.2.1 25 = .ok (.ifCond .eq 18, 3) := by decide +kernel
theorem d_120_28 : decode M_120.2.2.1 28 = .ok (.aload_n 0, 1) := by decide +kernel
theorem d_120_29 : decode M_120.2.2.1 29 = .ok (.getfield 15, 3) := by decide +kernel
theorem d_120_32 : decode M_120.2.2.1 32 = .ok (.iload_n 2, 1) := by decide +kernel
theorem d_120_33 : decode M_120.2.2.1 33 = .ok (.iaload, 1) := by decide +kernel
theorem d_120_34 : decode M_120.2.2.1 34 = .ok (.iconst 1, 1) := by decide +kernel
theorem d_120_35 : decode M_120.2.2.1 35 = .ok (.isub, 1) := by decide +kernel
theorem d_120_36 : decode M_120.2.2.1 36 = .ok (.bipush 6, 2) := by decide +kernel
theorem d_120_38 : decode M_120.2.2.1 38 = .ok (.ishr, 1) := by decide +kernel
theorem d_120_39 : decode M_120.2.2.1 39 = .ok (.iload_n 1, 1) := by decide +kernel
theorem d_120_40 : decode M_120.2.2.1 40 = .ok (.if_icmp .ne 5, 3) := by decide +kernel
theorem d_120_43 : decode M_120.2.2.1 43 = .ok (.iload_n 2, 1) := by decide +kernel
theorem d_120_44 : decode M_120.2.2.1 44 = .ok (.ireturn, 1) := by decide +kernel
theorem d_120_45 : decode M_120.2.2.1 45 = .ok (.iload_n 2, 1) := by decide +kernel
theorem d_120_46 : decode M_120.2.2.1 46 = .ok (.iconst 1, 1) := by decide +kernel
theorem d_120_47 : decode M_120.2.2.1 47 = .ok (.iadd, 1) := by decide +kernel
theorem d_120_48 : decode M_120.2.2.1 48 = .ok (.aload_n 0, 1) := by decide +kernel
theorem d_120_49 : decode M_120.2.2.1 49 = .ok (.getfield 15, 3) := by decide +kernel
theorem d_120_52 : decode M_120.2.2.1 52 = .ok (.arraylength, 1) := by decide +kernel
theorem d_120_53 : decode M_120.2.2.1 53 = .ok (.iconst 1, 1) := by decide +kernel
theorem d_120_54 : decode M_120.2.2.1 54 = .ok (.isub, 1) := by decide +kernel
theorem d_120_55 : decode M_120.2.2.1 55 = .ok (.iand, 1) := by decide +kernel
theorem d_120_56 : decode M_120.2.2.1 56 = .ok (.istore_n 2, 1) := by decide +kernel
theorem d_120_57 : decode M_120.2.2.1 57 = .ok (.iinc 3 1, 3) := by decide +kernel
theorem d_120_60 : decode M_120.2.2.1 60 = .ok (.goto (-50), 3) := by decide +kernel
theorem d_120_63 : decode M_120.2.2.1 63 = .ok (.iload_n 2, 1) := by decide +kernel
theorem d_120_64 : decode M_120.2.2.1 64 = .ok (.ireturn, 1) := by decide +kernel
/-- HeardBarrels$Keeper.canChoose(III)Z -/
def M_121 : am_MT := (4, ⟨"HeardBarrels$Keeper", "canChoose", "(III)Z"⟩, prog_4_method_9_code, 7, some .boolean, false, 3, (0, 0))
theorem hM_121 : am_ms[121]? = some M_121 := rfl
theorem d_121_0 : decode M_121.2.2.1 0 = .ok (.iload_n 2, 1) := by decide +kernel
theorem d_121_1 : decode M_121.2.2.1 1 = .ok (.invokestatic 82, 3) := by decide +kernel
theorem d_121_4 : decode M_121.2.2.1 4 = .ok (.aload_n 0, 1) := by decide +kernel
theorem d_121_5 : decode M_121.2.2.1 5 = .ok (.getfield 37, 3) := by decide +kernel
theorem d_121_8 : decode M_121.2.2.1 8 = .ok (.if_icmp .le 5, 3) := by decide +kernel
theorem d_121_11 : decode M_121.2.2.1 11 = .ok (.iconst 0, 1) := by decide +kernel
theorem d_121_12 : decode M_121.2.2.1 12 = .ok (.ireturn, 1) := by decide +kernel
theorem d_121_13 : decode M_121.2.2.1 13 = .ok (.iconst 0, 1) := by decide +kernel
theorem d_121_14 : decode M_121.2.2.1 14 = .ok (.istore 4, 2) := by decide +kernel
theorem d_121_16 : decode M_121.2.2.1 16 = .ok (.iload 4, 2) := by decide +kernel
theorem d_121_18 : decode M_121.2.2.1 18 = .ok (.aload_n 0, 1) := by decide +kernel
theorem d_121_19 : decode M_121.2.2.1 19 = .ok (.getfield 22, 3) := by decide +kernel
theorem d_121_22 : decode M_121.2.2.1 22 = .ok (.if_icmp .ge 57, 3) := by decide +kernel
theorem d_121_25 : decode M_121.2.2.1 25 = .ok (.iload_n 1, 1) := by decide +kernel
theorem d_121_26 : decode M_121.2.2.1 26 = .ok (.iconst 3, 1) := by decide +kernel
theorem d_121_27 : decode M_121.2.2.1 27 = .ok (.iload 4, 2) := by decide +kernel
theorem d_121_29 : decode M_121.2.2.1 29 = .ok (.imul, 1) := by decide +kernel
theorem d_121_30 : decode M_121.2.2.1 30 = .ok (.ishr, 1) := by decide +kernel
theorem d_121_31 : decode M_121.2.2.1 31 = .ok (.bipush 7, 2) := by decide +kernel
theorem d_121_33 : decode M_121.2.2.1 33 = .ok (.iand, 1) := by decide +kernel
theorem d_121_34 : decode M_121.2.2.1 34 = .ok (.istore 5, 2) := by decide +kernel
theorem d_121_36 : decode M_121.2.2.1 36 = .ok (.iload_n 2, 1) := by decide +kernel
theorem d_121_37 : decode M_121.2.2.1 37 = .ok (.iload 4, 2) := by decide +kernel
theorem d_121_39 : decode M_121.2.2.1 39 = .ok (.ishr, 1) := by decide +kernel
theorem d_121_40 : decode M_121.2.2.1 40 = .ok (.iconst 1, 1) := by decide +kernel
theorem d_121_41 : decode M_121.2.2.1 41 = .ok (.iand, 1) := by decide +kernel
theorem d_121_42 : decode M_121.2.2.1 42 = .ok (.ifCond .eq 7, 3) := by decide +kernel
theorem d_121_45 : decode M_121.2.2.1 45 = .ok (.iconst 1, 1) := by decide +kernel
theorem d_121_46 : decode M_121.2.2.1 46 = .ok (.goto 4, 3) := by decide +kernel
theorem d_121_49 : decode M_121.2.2.1 49 = .ok (.iconst 0, 1) := by decide +kernel
theorem d_121_50 : decode M_121.2.2.1 50 = .ok (.istore 6, 2) := by decide +kernel
theorem d_121_52 : decode M_121.2.2.1 52 = .ok (.iload 6, 2) := by decide +kernel
theorem d_121_54 : decode M_121.2.2.1 54 = .ok (.ifCond .eq 12, 3) := by decide +kernel
theorem d_121_57 : decode M_121.2.2.1 57 = .ok (.iload 5, 2) := by decide +kernel
theorem d_121_59 : decode M_121.2.2.1 59 = .ok (.iload_n 3, 1) := by decide +kernel
theorem d_121_60 : decode M_121.2.2.1 60 = .ok (.if_icmp .lt 13, 3) := by decide +kernel
theorem d_121_63 : decode M_121.2.2.1 63 = .ok (.goto 8, 3) := by decide +kernel
theorem d_121_66 : decode M_121.2.2.1 66 = .ok (.iload 5, 2) := by decide +kernel
theorem d_121_68 : decode M_121.2.2.1 68 = .ok (.ifCond .ne 5, 3) := by decide +kernel
theorem d_121_71 : decode M_121.2.2.1 71 = .ok (.iconst 0, 1) := by decide +kernel
theorem d_121_72 : decode M_121.2.2.1 72 = .ok (.ireturn, 1) := by decide +kernel
theorem d_121_73 : decode M_121.2.2.1 73 = .ok (.iinc 4 1, 3) := by decide +kernel
theorem d_121_76 : decode M_121.2.2.1 76 = .ok (.goto (-60), 3) := by decide +kernel
theorem d_121_79 : decode M_121.2.2.1 79 = .ok (.iconst 1, 1) := by decide +kernel
theorem d_121_80 : decode M_121.2.2.1 80 = .ok (.ireturn, 1) := by decide +kernel
/-- HeardBarrels$Keeper.behind(II)I -/
def M_122 : am_MT := (4, ⟨"HeardBarrels$Keeper", "behind", "(II)I"⟩, prog_4_method_10_code, 7, some .int, false, 2, (0, 0))
theorem hM_122 : am_ms[122]? = some M_122 := rfl
theorem d_122_0 : decode M_122.2.2.1 0 = .ok (.iconst 0, 1) := by decide +kernel
theorem d_122_1 : decode M_122.2.2.1 1 = .ok (.istore_n 3, 1) := by decide +kernel
theorem d_122_2 : decode M_122.2.2.1 2 = .ok (.iconst 0, 1) := by decide +kernel
theorem d_122_3 : decode M_122.2.2.1 3 = .ok (.istore 4, 2) := by decide +kernel
theorem d_122_5 : decode M_122.2.2.1 5 = .ok (.iload 4, 2) := by decide +kernel
theorem d_122_7 : decode M_122.2.2.1 7 = .ok (.aload_n 0, 1) := by decide +kernel
theorem d_122_8 : decode M_122.2.2.1 8 = .ok (.getfield 22, 3) := by decide +kernel
theorem d_122_11 : decode M_122.2.2.1 11 = .ok (.if_icmp .ge 60, 3) := by decide +kernel
theorem d_122_14 : decode M_122.2.2.1 14 = .ok (.iconst 3, 1) := by decide +kernel
theorem d_122_15 : decode M_122.2.2.1 15 = .ok (.iload 4, 2) := by decide +kernel
theorem d_122_17 : decode M_122.2.2.1 17 = .ok (.imul, 1) := by decide +kernel
theorem d_122_18 : decode M_122.2.2.1 18 = .ok (.istore 5, 2) := by decide +kernel
theorem d_122_20 : decode M_122.2.2.1 20 = .ok (.iload_n 2, 1) := by decide +kernel
theorem d_122_21 : decode M_122.2.2.1 21 = .ok (.iload 4, 2) := by decide +kernel
theorem d_122_23 : decode M_122.2.2.1 23 = .ok (.ishr, 1) := by decide +kernel
theorem d_122_24 : decode M_122.2.2.1 24 = .ok (.iconst 1, 1) := by decide +kernel
theorem d_122_25 : decode M_122.2.2.1 25 = .ok (.iand, 1) := by decide +kernel
theorem d_122_26 : decode M_122.2.2.1 26 = .ok (.ifCond .eq 16, 3) := by decide +kernel
theorem d_122_29 : decode M_122.2.2.1 29 = .ok (.aload_n 0, 1) := by decide +kernel
theorem d_122_30 : decode M_122.2.2.1 30 = .ok (.getfield 29, 3) := by decide +kernel
theorem d_122_33 : decode M_122.2.2.1 33 = .ok (.iload 5, 2) := by decide +kernel
theorem d_122_35 : decode M_122.2.2.1 35 = .ok (.ishr, 1) := by decide +kernel
theorem d_122_36 : decode M_122.2.2.1 36 = .ok (.bipush 7, 2) := by decide +kernel
theorem d_122_38 : decode M_122.2.2.1 38 = .ok (.iand, 1) := by decide +kernel
theorem d_122_39 : decode M_122.2.2.1 39 = .ok (.goto 16, 3) := by decide +kernel
theorem d_122_42 : decode M_122.2.2.1 42 = .ok (.iconst 0, 1) := by decide +kernel
theorem d_122_43 : decode M_122.2.2.1 43 = .ok (.iload_n 1, 1) := by decide +kernel
theorem d_122_44 : decode M_122.2.2.1 44 = .ok (.iload 5, 2) := by decide +kernel
theorem d_122_46 : decode M_122.2.2.1 46 = .ok (.ishr, 1) := by decide +kernel
theorem d_122_47 : decode M_122.2.2.1 47 = .ok (.bipush 7, 2) := by decide +kernel
theorem d_122_49 : decode M_122.2.2.1 49 = .ok (.iand, 1) := by decide +kernel
theorem d_122_50 : decode M_122.2.2.1 50 = .ok (.iconst 1, 1) := by decide +kernel
theorem d_122_51 : decode M_122.2.2.1 51 = .ok (.isub, 1) := by decide +kernel
theorem d_122_52 : decode M_122.2.2.1 52 = .ok (.invokestatic 57, 3) := by decide +kernel
theorem d_122_55 : decode M_122.2.2.1 55 = .ok (.istore 6, 2) := by decide +kernel
theorem d_122_57 : decode M_122.2.2.1 57 = .ok (.iload_n 3, 1) := by decide +kernel
theorem d_122_58 : decode M_122.2.2.1 58 = .ok (.iload 6, 2) := by decide +kernel
theorem d_122_60 : decode M_122.2.2.1 60 = .ok (.iload 5, 2) := by decide +kernel
theorem d_122_62 : decode M_122.2.2.1 62 = .ok (.ishl, 1) := by decide +kernel
theorem d_122_63 : decode M_122.2.2.1 63 = .ok (.ior, 1) := by decide +kernel
theorem d_122_64 : decode M_122.2.2.1 64 = .ok (.istore_n 3, 1) := by decide +kernel
theorem d_122_65 : decode M_122.2.2.1 65 = .ok (.iinc 4 1, 3) := by decide +kernel
theorem d_122_68 : decode M_122.2.2.1 68 = .ok (.goto (-63), 3) := by decide +kernel
theorem d_122_71 : decode M_122.2.2.1 71 = .ok (.iload_n 3, 1) := by decide +kernel
theorem d_122_72 : decode M_122.2.2.1 72 = .ok (.ireturn, 1) := by decide +kernel
/-- HeardBarrels$Keeper.leastPossible(II)I -/
def M_123 : am_MT := (4, ⟨"HeardBarrels$Keeper", "leastPossible", "(II)I"⟩, prog_4_method_8_code, 6, some .int, false, 2, (0, 0))
theorem hM_123 : am_ms[123]? = some M_123 := rfl
theorem d_123_0 : decode M_123.2.2.1 0 = .ok (.iconst 0, 1) := by decide +kernel
theorem d_123_1 : decode M_123.2.2.1 1 = .ok (.istore_n 3, 1) := by decide +kernel
theorem d_123_2 : decode M_123.2.2.1 2 = .ok (.iconst 0, 1) := by decide +kernel
theorem d_123_3 : decode M_123.2.2.1 3 = .ok (.istore 4, 2) := by decide +kernel
theorem d_123_5 : decode M_123.2.2.1 5 = .ok (.iload 4, 2) := by decide +kernel
theorem d_123_7 : decode M_123.2.2.1 7 = .ok (.aload_n 0, 1) := by decide +kernel
theorem d_123_8 : decode M_123.2.2.1 8 = .ok (.getfield 22, 3) := by decide +kernel
theorem d_123_11 : decode M_123.2.2.1 11 = .ok (.if_icmp .ge 51, 3) := by decide +kernel
theorem d_123_14 : decode M_123.2.2.1 14 = .ok (.iload_n 2, 1) := by decide +kernel
theorem d_123_15 : decode M_123.2.2.1 15 = .ok (.iload_n 1, 1) := by decide +kernel
theorem d_123_16 : decode M_123.2.2.1 16 = .ok (.iconst 3, 1) := by decide +kernel
theorem d_123_17 : decode M_123.2.2.1 17 = .ok (.iload 4, 2) := by decide +kernel
theorem d_123_19 : decode M_123.2.2.1 19 = .ok (.imul, 1) := by decide +kernel
theorem d_123_20 : decode M_123.2.2.1 20 = .ok (.ishr, 1) := by decide +kernel
theorem d_123_21 : decode M_123.2.2.1 21 = .ok (.bipush 7, 2) := by decide +kernel
theorem d_123_23 : decode M_123.2.2.1 23 = .ok (.iand, 1) := by decide +kernel
theorem d_123_24 : decode M_123.2.2.1 24 = .ok (.isub, 1) := by decide +kernel
theorem d_123_25 : decode M_123.2.2.1 25 = .ok (.iconst 1, 1) := by decide +kernel
theorem d_123_26 : decode M_123.2.2.1 26 = .ok (.isub, 1) := by decide +kernel
theorem d_123_27 : decode M_123.2.2.1 27 = .ok (.istore 5, 2) := by decide +kernel
theorem d_123_29 : decode M_123.2.2.1 29 = .ok (.iload 5, 2) := by decide +kernel
theorem d_123_31 : decode M_123.2.2.1 31 = .ok (.ifCond .lt 25, 3) := by decide +kernel
theorem d_123_34 : decode M_123.2.2.1 34 = .ok (.iload_n 3, 1) := by decide +kernel
theorem d_123_35 : decode M_123.2.2.1 35 = .ok (.iconst 1, 1) := by decide +kernel
theorem d_123_36 : decode M_123.2.2.1 36 = .ok (.iload 5, 2) := by decide +kernel
theorem d_123_38 : decode M_123.2.2.1 38 = .ok (.aload_n 0, 1) := by decide +kernel
theorem d_123_39 : decode M_123.2.2.1 39 = .ok (.getfield 29, 3) := by decide +kernel
theorem d_123_42 : decode M_123.2.2.1 42 = .ok (.iconst 3, 1) := by decide +kernel
theorem d_123_43 : decode M_123.2.2.1 43 = .ok (.iload 4, 2) := by decide +kernel
theorem d_123_45 : decode M_123.2.2.1 45 = .ok (.imul, 1) := by decide +kernel
theorem d_123_46 : decode M_123.2.2.1 46 = .ok (.ishr, 1) := by decide +kernel
theorem d_123_47 : decode M_123.2.2.1 47 = .ok (.bipush 7, 2) := by decide +kernel
theorem d_123_49 : decode M_123.2.2.1 49 = .ok (.iand, 1) := by decide +kernel
theorem d_123_50 : decode M_123.2.2.1 50 = .ok (.iconst 1, 1) := by decide +kernel
theorem d_123_51 : decode M_123.2.2.1 51 = .ok (.iadd, 1) := by decide +kernel
theorem d_123_52 : decode M_123.2.2.1 52 = .ok (.idiv, 1) := by decide +kernel
theorem d_123_53 : decode M_123.2.2.1 53 = .ok (.iadd, 1) := by decide +kernel
theorem d_123_54 : decode M_123.2.2.1 54 = .ok (.iadd, 1) := by decide +kernel
theorem d_123_55 : decode M_123.2.2.1 55 = .ok (.istore_n 3, 1) := by decide +kernel
theorem d_123_56 : decode M_123.2.2.1 56 = .ok (.iinc 4 1, 3) := by decide +kernel
theorem d_123_59 : decode M_123.2.2.1 59 = .ok (.goto (-54), 3) := by decide +kernel
theorem d_123_62 : decode M_123.2.2.1 62 = .ok (.iload_n 3, 1) := by decide +kernel
theorem d_123_63 : decode M_123.2.2.1 63 = .ok (.ireturn, 1) := by decide +kernel
/-- HeardBarrels$Keeper.remember(II)V -/
def M_124 : am_MT := (4, ⟨"HeardBarrels$Keeper", "remember", "(II)V"⟩, prog_4_method_15_code, 3, none, false, 2, (0, 0))
theorem hM_124 : am_ms[124]? = some M_124 := rfl
theorem d_124_0 : decode M_124.2.2.1 0 = .ok (.aload_n 0, 1) := by decide +kernel
theorem d_124_1 : decode M_124.2.2.1 1 = .ok (.getfield 15, 3) := by decide +kernel
theorem d_124_4 : decode M_124.2.2.1 4 = .ok (.aload_n 0, 1) := by decide +kernel
theorem d_124_5 : decode M_124.2.2.1 5 = .ok (.iload_n 1, 1) := by decide +kernel
theorem d_124_6 : decode M_124.2.2.1 6 = .ok (.invokevirtual 113, 3) := by decide +kernel
theorem d_124_9 : decode M_124.2.2.1 9 = .ok (.iload_n 1, 1) := by decide +kernel
theorem d_124_10 : decode M_124.2.2.1 10 = .ok (.bipush 6, 2) := by decide +kernel
theorem d_124_12 : decode M_124.2.2.1 12 = .ok (.ishl, 1) := by decide +kernel
theorem d_124_13 : decode M_124.2.2.1 13 = .ok (.iload_n 2, 1) := by decide +kernel
theorem d_124_14 : decode M_124.2.2.1 14 = .ok (.bipush 63, 2) := by decide +kernel
theorem d_124_16 : decode M_124.2.2.1 16 = .ok (.invokestatic 103, 3) := by decide +kernel
theorem d_124_19 : decode M_124.2.2.1 19 = .ok (.ior, 1) := by decide +kernel
theorem d_124_20 : decode M_124.2.2.1 20 = .ok (.iconst 1, 1) := by decide +kernel
theorem d_124_21 : decode M_124.2.2.1 21 = .ok (.iadd, 1) := by decide +kernel
theorem d_124_22 : decode M_124.2.2.1 22 = .ok (.iastore, 1) := by decide +kernel
theorem d_124_23 : decode M_124.2.2.1 23 = .ok (.return_, 1) := by decide +kernel
/-- HeardBarrels$Keeper.turnedOn(II)I -/
def M_125 : am_MT := (4, ⟨"HeardBarrels$Keeper", "turnedOn", "(II)I"⟩, prog_4_method_4_code, 8, some .int, false, 2, (0, 0))
theorem hM_125 : am_ms[125]? = some M_125 := rfl
theorem d_125_0 : decode M_125.2.2.1 0 = .ok (.aload_n 0, 1) := by decide +kernel
theorem d_125_1 : decode M_125.2.2.1 1 = .ok (.iload_n 1, 1) := by decide +kernel
theorem d_125_2 : decode M_125.2.2.1 2 = .ok (.invokevirtual 75, 3) := by decide +kernel
theorem d_125_5 : decode M_125.2.2.1 5 = .ok (.istore_n 3, 1) := by decide +kernel
theorem d_125_6 : decode M_125.2.2.1 6 = .ok (.iload_n 3, 1) := by decide +kernel
theorem d_125_7 : decode M_125.2.2.1 7 = .ok (.iconst (-1), 1) := by decide +kernel
theorem d_125_8 : decode M_125.2.2.1 8 = .ok (.if_icmp .eq 8, 3) := by decide +kernel
theorem d_125_11 : decode M_125.2.2.1 11 = .ok (.iload_n 2, 1) := by decide +kernel
theorem d_125_12 : decode M_125.2.2.1 12 = .ok (.iload_n 1, 1) := by decide +kernel
theorem d_125_13 : decode M_125.2.2.1 13 = .ok (.if_icmp .lt 5, 3) := by decide +kernel
theorem d_125_16 : decode M_125.2.2.1 16 = .ok (.iconst (-1), 1) := by decide +kernel
theorem d_125_17 : decode M_125.2.2.1 17 = .ok (.ireturn, 1) := by decide +kernel
theorem d_125_18 : decode M_125.2.2.1 18 = .ok (.aload_n 0, 1) := by decide +kernel
theorem d_125_19 : decode M_125.2.2.1 19 = .ok (.aload_n 0, 1) := by decide +kernel
theorem d_125_20 : decode M_125.2.2.1 20 = .ok (.getfield 26, 3) := by decide +kernel
theorem d_125_23 : decode M_125.2.2.1 23 = .ok (.iload_n 1, 1) := by decide +kernel
theorem d_125_24 : decode M_125.2.2.1 24 = .ok (.invokevirtual 69, 3) := by decide +kernel
theorem d_125_27 : decode M_125.2.2.1 27 = .ok (.istore 4, 2) := by decide +kernel
theorem d_125_29 : decode M_125.2.2.1 29 = .ok (.iconst 0, 1) := by decide +kernel
theorem d_125_30 : decode M_125.2.2.1 30 = .ok (.istore 5, 2) := by decide +kernel
theorem d_125_32 : decode M_125.2.2.1 32 = .ok (.iconst 0, 1) := by decide +kernel
theorem d_125_33 : decode M_125.2.2.1 33 = .ok (.istore 6, 2) := by decide +kernel
theorem d_125_35 : decode M_125.2.2.1 35 = .ok (.iload 6, 2) := by decide +kernel
theorem d_125_37 : decode M_125.2.2.1 37 = .ok (.iload_n 2, 1) := by decide +kernel
theorem d_125_38 : decode M_125.2.2.1 38 = .ok (.if_icmp .gt 52, 3) := by decide +kernel
theorem d_125_41 : decode M_125.2.2.1 41 = .ok (.iload_n 1, 1) := by decide +kernel
theorem d_125_42 : decode M_125.2.2.1 42 = .ok (.iload 6, 2) := by decide +kernel
theorem d_125_44 : decode M_125.2.2.1 44 = .ok (.isub, 1) := by decide +kernel
theorem d_125_45 : decode M_125.2.2.1 45 = .ok (.iconst 1, 1) := by decide +kernel
theorem d_125_46 : decode M_125.2.2.1 46 = .ok (.isub, 1) := by decide +kernel
theorem d_125_47 : decode M_125.2.2.1 47 = .ok (.istore 7, 2) := by decide +kernel
theorem d_125_49 : decode M_125.2.2.1 49 = .ok (.aload_n 0, 1) := by decide +kernel
theorem d_125_50 : decode M_125.2.2.1 50 = .ok (.iload 4, 2) := by decide +kernel
theorem d_125_52 : decode M_125.2.2.1 52 = .ok (.iload 7, 2) := by decide +kernel
theorem d_125_54 : decode M_125.2.2.1 54 = .ok (.iload_n 3, 1) := by decide +kernel
theorem d_125_55 : decode M_125.2.2.1 55 = .ok (.invokevirtual 78, 3) := by decide +kernel
theorem d_125_58 : decode M_125.2.2.1 58 = .ok (.istore 5, 2) := by decide +kernel
theorem d_125_60 : decode M_125.2.2.1 60 = .ok (.iload_n 3, 1) := by decide +kernel
theorem d_125_61 : decode M_125.2.2.1 61 = .ok (.iload 5, 2) := by decide +kernel
theorem d_125_63 : decode M_125.2.2.1 63 = .ok (.invokestatic 82, 3) := by decide +kernel
theorem d_125_66 : decode M_125.2.2.1 66 = .ok (.isub, 1) := by decide +kernel
theorem d_125_67 : decode M_125.2.2.1 67 = .ok (.istore_n 3, 1) := by decide +kernel
theorem d_125_68 : decode M_125.2.2.1 68 = .ok (.aload_n 0, 1) := by decide +kernel
theorem d_125_69 : decode M_125.2.2.1 69 = .ok (.aload_n 0, 1) := by decide +kernel
theorem d_125_70 : decode M_125.2.2.1 70 = .ok (.iload 4, 2) := by decide +kernel
theorem d_125_72 : decode M_125.2.2.1 72 = .ok (.iload 5, 2) := by decide +kernel
theorem d_125_74 : decode M_125.2.2.1 74 = .ok (.invokevirtual 87, 3) := by decide +kernel
theorem d_125_77 : decode M_125.2.2.1 77 = .ok (.iload 7, 2) := by decide +kernel
theorem d_125_79 : decode M_125.2.2.1 79 = .ok (.invokevirtual 69, 3) := by decide +kernel
theorem d_125_82 : decode M_125.2.2.1 82 = .ok (.istore 4, 2) := by decide +kernel
theorem d_125_84 : decode M_125.2.2.1 84 = .ok (.iinc 6 1, 3) := by decide +kernel
theorem d_125_87 : decode M_125.2.2.1 87 = .ok (.goto (-52), 3) := by decide +kernel
theorem d_125_90 : decode M_125.2.2.1 90 = .ok (.aload_n 0, 1) := by decide +kernel
theorem d_125_91 : decode M_125.2.2.1 91 = .ok (.iload 5, 2) := by decide +kernel
theorem d_125_93 : decode M_125.2.2.1 93 = .ok (.invokevirtual 90, 3) := by decide +kernel
theorem d_125_96 : decode M_125.2.2.1 96 = .ok (.ireturn, 1) := by decide +kernel
/-- HeardBarrels$Keeper.leastChoice(III)I -/
def M_126 : am_MT := (4, ⟨"HeardBarrels$Keeper", "leastChoice", "(III)I"⟩, prog_4_method_5_code, 7, some .int, false, 3, (0, 0))
theorem hM_126 : am_ms[126]? = some M_126 := rfl
theorem d_126_0 : decode M_126.2.2.1 0 = .ok (.iconst 0, 1) := by decide +kernel
theorem d_126_1 : decode M_126.2.2.1 1 = .ok (.istore 4, 2) := by decide +kernel
theorem d_126_3 : decode M_126.2.2.1 3 = .ok (.iload 4, 2) := by decide +kernel
theorem d_126_5 : decode M_126.2.2.1 5 = .ok (.iconst 1, 1) := by decide +kernel
theorem d_126_6 : decode M_126.2.2.1 6 = .ok (.aload_n 0, 1) := by decide +kernel
theorem d_126_7 : decode M_126.2.2.1 7 = .ok (.getfield 22, 3) := by decide +kernel
theorem d_126_10 : decode M_126.2.2.1 10 = .ok (.ishl, 1) := by decide +kernel
theorem d_126_11 : decode M_126.2.2.1 11 = .ok (.if_icmp .ge 75, 3) := by decide +kernel
theorem d_126_14 : decode M_126.2.2.1 14 = .ok (.aload_n 0, 1) := by decide +kernel
theorem d_126_15 : decode M_126.2.2.1 15 = .ok (.iload_n 1, 1) := by decide +kernel
theorem d_126_16 : decode M_126.2.2.1 16 = .ok (.iload 4, 2) := by decide +kernel
theorem d_126_18 : decode M_126.2.2.1 18 = .ok (.iload_n 2, 1) := by decide +kernel
theorem d_126_19 : decode M_126.2.2.1 19 = .ok (.iconst 1, 1) := by decide +kernel
theorem d_126_20 : decode M_126.2.2.1 20 = .ok (.iadd, 1) := by decide +kernel
theorem d_126_21 : decode M_126.2.2.1 21 = .ok (.invokevirtual 93, 3) := by decide +kernel
theorem d_126_24 : decode M_126.2.2.1 24 = .ok (.ifCond .ne 6, 3) := by decide +kernel
theorem d_126_27 : decode M_126.2.2.1 27 = .ok (.goto 53, 3) := by decide +kernel
theorem d_126_30 : decode M_126.2.2.1 30 = .ok (.iload_n 3, 1) := by decide +kernel
theorem d_126_31 : decode M_126.2.2.1 31 = .ok (.iload 4, 2) := by decide +kernel
theorem d_126_33 : decode M_126.2.2.1 33 = .ok (.invokestatic 82, 3) := by decide +kernel
theorem d_126_36 : decode M_126.2.2.1 36 = .ok (.isub, 1) := by decide +kernel
theorem d_126_37 : decode M_126.2.2.1 37 = .ok (.istore 5, 2) := by decide +kernel
theorem d_126_39 : decode M_126.2.2.1 39 = .ok (.aload_n 0, 1) := by decide +kernel
theorem d_126_40 : decode M_126.2.2.1 40 = .ok (.aload_n 0, 1) := by decide +kernel
theorem d_126_41 : decode M_126.2.2.1 41 = .ok (.iload_n 1, 1) := by decide +kernel
theorem d_126_42 : decode M_126.2.2.1 42 = .ok (.iload 4, 2) := by decide +kernel
theorem d_126_44 : decode M_126.2.2.1 44 = .ok (.invokevirtual 87, 3) := by decide +kernel
theorem d_126_47 : decode M_126.2.2.1 47 = .ok (.iload_n 2, 1) := by decide +kernel
theorem d_126_48 : decode M_126.2.2.1 48 = .ok (.invokevirtual 69, 3) := by decide +kernel
theorem d_126_51 : decode M_126.2.2.1 51 = .ok (.istore 6, 2) := by decide +kernel
theorem d_126_53 : decode M_126.2.2.1 53 = .ok (.aload_n 0, 1) := by decide +kernel
theorem d_126_54 : decode M_126.2.2.1 54 = .ok (.iload 6, 2) := by decide +kernel
theorem d_126_56 : decode M_126.2.2.1 56 = .ok (.iload_n 2, 1) := by decide +kernel
theorem d_126_57 : decode M_126.2.2.1 57 = .ok (.invokevirtual 97, 3) := by decide +kernel
theorem d_126_60 : decode M_126.2.2.1 60 = .ok (.iload 5, 2) := by decide +kernel
theorem d_126_62 : decode M_126.2.2.1 62 = .ok (.if_icmp .gt 18, 3) := by decide +kernel
theorem d_126_65 : decode M_126.2.2.1 65 = .ok (.aload_n 0, 1) := by decide +kernel
theorem d_126_66 : decode M_126.2.2.1 66 = .ok (.iload 6, 2) := by decide +kernel
theorem d_126_68 : decode M_126.2.2.1 68 = .ok (.iload_n 2, 1) := by decide +kernel
theorem d_126_69 : decode M_126.2.2.1 69 = .ok (.invokevirtual 72, 3) := by decide +kernel
theorem d_126_72 : decode M_126.2.2.1 72 = .ok (.iload 5, 2) := by decide +kernel
theorem d_126_74 : decode M_126.2.2.1 74 = .ok (.if_icmp .ne 6, 3) := by decide +kernel
theorem d_126_77 : decode M_126.2.2.1 77 = .ok (.iload 4, 2) := by decide +kernel
theorem d_126_79 : decode M_126.2.2.1 79 = .ok (.ireturn, 1) := by decide +kernel
theorem d_126_80 : decode M_126.2.2.1 80 = .ok (.iinc 4 1, 3) := by decide +kernel
theorem d_126_83 : decode M_126.2.2.1 83 = .ok (.goto (-80), 3) := by decide +kernel
theorem d_126_86 : decode M_126.2.2.1 86 = .ok (.iconst 0, 1) := by decide +kernel
theorem d_126_87 : decode M_126.2.2.1 87 = .ok (.ireturn, 1) := by decide +kernel
/-- HeardBarrels$Keeper.toPlaces(I)I -/
def M_127 : am_MT := (4, ⟨"HeardBarrels$Keeper", "toPlaces", "(I)I"⟩, prog_4_method_6_code, 4, some .int, false, 1, (0, 0))
theorem hM_127 : am_ms[127]? = some M_127 := rfl
theorem d_127_0 : decode M_127.2.2.1 0 = .ok (.iconst 0, 1) := by decide +kernel
theorem d_127_1 : decode M_127.2.2.1 1 = .ok (.istore_n 2, 1) := by decide +kernel
theorem d_127_2 : decode M_127.2.2.1 2 = .ok (.iconst 0, 1) := by decide +kernel
theorem d_127_3 : decode M_127.2.2.1 3 = .ok (.istore_n 3, 1) := by decide +kernel
theorem d_127_4 : decode M_127.2.2.1 4 = .ok (.iload_n 3, 1) := by decide +kernel
theorem d_127_5 : decode M_127.2.2.1 5 = .ok (.aload_n 0, 1) := by decide +kernel
theorem d_127_6 : decode M_127.2.2.1 6 = .ok (.getfield 22, 3) := by decide +kernel
theorem d_127_9 : decode M_127.2.2.1 9 = .ok (.if_icmp .ge 28, 3) := by decide +kernel
theorem d_127_12 : decode M_127.2.2.1 12 = .ok (.iload_n 1, 1) := by decide +kernel
theorem d_127_13 : decode M_127.2.2.1 13 = .ok (.iload_n 3, 1) := by decide +kernel
theorem d_127_14 : decode M_127.2.2.1 14 = .ok (.ishr, 1) := by decide +kernel
theorem d_127_15 : decode M_127.2.2.1 15 = .ok (.iconst 1, 1) := by decide +kernel
theorem d_127_16 : decode M_127.2.2.1 16 = .ok (.iand, 1) := by decide +kernel
theorem d_127_17 : decode M_127.2.2.1 17 = .ok (.ifCond .eq 14, 3) := by decide +kernel
theorem d_127_20 : decode M_127.2.2.1 20 = .ok (.iload_n 2, 1) := by decide +kernel
theorem d_127_21 : decode M_127.2.2.1 21 = .ok (.iconst 1, 1) := by decide +kernel
theorem d_127_22 : decode M_127.2.2.1 22 = .ok (.aload_n 0, 1) := by decide +kernel
theorem d_127_23 : decode M_127.2.2.1 23 = .ok (.getfield 11, 3) := by decide +kernel
theorem d_127_26 : decode M_127.2.2.1 26 = .ok (.iload_n 3, 1) := by decide +kernel
theorem d_127_27 : decode M_127.2.2.1 27 = .ok (.iaload, 1) := by decide +kernel
theorem d_127_28 : decode M_127.2.2.1 28 = .ok (.ishl, 1) := by decide +kernel
theorem d_127_29 : decode M_127.2.2.1 29 = .ok (.ior, 1) := by decide +kernel
theorem d_127_30 : decode M_127.2.2.1 30 = .ok (.istore_n 2, 1) := by decide +kernel
theorem d_127_31 : decode M_127.2.2.1 31 = .ok (.iinc 3 1, 3) := by decide +kernel
theorem d_127_34 : decode M_127.2.2.1 34 = .ok (.goto (-30), 3) := by decide +kernel
theorem d_127_37 : decode M_127.2.2.1 37 = .ok (.iload_n 2, 1) := by decide +kernel
theorem d_127_38 : decode M_127.2.2.1 38 = .ok (.ireturn, 1) := by decide +kernel
/-- HeardBarrels$Keeper.mostDays()I -/
def M_129 : am_MT := (4, ⟨"HeardBarrels$Keeper", "mostDays", "()I"⟩, prog_4_method_12_code, 1, some .int, false, 0, (0, 0))
theorem hM_129 : am_ms[129]? = some M_129 := rfl
theorem d_129_0 : decode M_129.2.2.1 0 = .ok (.aload_n 0, 1) := by decide +kernel
theorem d_129_1 : decode M_129.2.2.1 1 = .ok (.getfield 37, 3) := by decide +kernel
theorem d_129_4 : decode M_129.2.2.1 4 = .ok (.aload_n 0, 1) := by decide +kernel
theorem d_129_5 : decode M_129.2.2.1 5 = .ok (.getfield 22, 3) := by decide +kernel
theorem d_129_8 : decode M_129.2.2.1 8 = .ok (.if_icmp .lt 6, 3) := by decide +kernel
theorem d_129_11 : decode M_129.2.2.1 11 = .ok (.bipush 30, 2) := by decide +kernel
theorem d_129_13 : decode M_129.2.2.1 13 = .ok (.ireturn, 1) := by decide +kernel
theorem d_129_14 : decode M_129.2.2.1 14 = .ok (.aload_n 0, 1) := by decide +kernel
theorem d_129_15 : decode M_129.2.2.1 15 = .ok (.getfield 15, 3) := by decide +kernel
theorem d_129_18 : decode M_129.2.2.1 18 = .ok (.iconst 0, 1) := by decide +kernel
theorem d_129_19 : decode M_129.2.2.1 19 = .ok (.invokestatic 63, 3) := by decide +kernel
theorem d_129_22 : decode M_129.2.2.1 22 = .ok (.aload_n 0, 1) := by decide +kernel
theorem d_129_23 : decode M_129.2.2.1 23 = .ok (.aload_n 0, 1) := by decide +kernel
theorem d_129_24 : decode M_129.2.2.1 24 = .ok (.getfield 26, 3) := by decide +kernel
theorem d_129_27 : decode M_129.2.2.1 27 = .ok (.iconst 0, 1) := by decide +kernel
theorem d_129_28 : decode M_129.2.2.1 28 = .ok (.invokevirtual 110, 3) := by decide +kernel
theorem d_129_31 : decode M_129.2.2.1 31 = .ok (.ireturn, 1) := by decide +kernel
/-- HeardBarrels$Keeper.lasting(II)I -/
def M_130 : am_MT := (4, ⟨"HeardBarrels$Keeper", "lasting", "(II)I"⟩, prog_4_method_13_code, 6, some .int, false, 2, (0, 0))
theorem hM_130 : am_ms[130]? = some M_130 := rfl
theorem d_130_0 : decode M_130.2.2.1 0 = .ok (.iload_n 2, 1) := by decide +kernel
theorem d_130_1 : decode M_130.2.2.1 1 = .ok (.bipush 30, 2) := by decide +kernel
theorem d_130_3 : decode M_130.2.2.1 3 = .ok (.if_icmp .lt 5, 3) := by decide +kernel
theorem d_130_6 : decode M_130.2.2.1 6 = .ok (.iconst 0, 1) := by decide +kernel
theorem d_130_7 : decode M_130.2.2.1 7 = .ok (.ireturn, 1) := by decide +kernel
theorem d_130_8 : decode M_130.2.2.1 8 = .ok (.aload_n 0, 1) := by decide +kernel
theorem d_130_9 : decode M_130.2.2.1 9 = .ok (.iload_n 1, 1) := by decide +kernel
theorem d_130_10 : decode M_130.2.2.1 10 = .ok (.invokevirtual 100, 3) := by decide +kernel
theorem d_130_13 : decode M_130.2.2.1 13 = .ok (.istore_n 3, 1) := by decide +kernel
theorem d_130_14 : decode M_130.2.2.1 14 = .ok (.iload_n 3, 1) := by decide +kernel
theorem d_130_15 : decode M_130.2.2.1 15 = .ok (.iconst (-1), 1) := by decide +kernel
theorem d_130_16 : decode M_130.2.2.1 16 = .ok (.if_icmp .eq 5, 3) := by decide +kernel
theorem d_130_19 : decode M_130.2.2.1 19 = .ok (.iload_n 3, 1) := by decide +kernel
theorem d_130_20 : decode M_130.2.2.1 20 = .ok (.ireturn, 1) := by decide +kernel
theorem d_130_21 : decode M_130.2.2.1 21 = .ok (.iconst 0, 1) := by decide +kernel
theorem d_130_22 : decode M_130.2.2.1 22 = .ok (.istore 4, 2) := by decide +kernel
theorem d_130_24 : decode M_130.2.2.1 24 = .ok (.iconst 0, 1) := by decide +kernel
theorem d_130_25 : decode M_130.2.2.1 25 = .ok (.istore 5, 2) := by decide +kernel
theorem d_130_27 : decode M_130.2.2.1 27 = .ok (.iload 5, 2) := by decide +kernel
theorem d_130_29 : decode M_130.2.2.1 29 = .ok (.iconst 1, 1) := by decide +kernel
theorem d_130_30 : decode M_130.2.2.1 30 = .ok (.aload_n 0, 1) := by decide +kernel
theorem d_130_31 : decode M_130.2.2.1 31 = .ok (.getfield 22, 3) := by decide +kernel
theorem d_130_34 : decode M_130.2.2.1 34 = .ok (.ishl, 1) := by decide +kernel
theorem d_130_35 : decode M_130.2.2.1 35 = .ok (.if_icmp .ge 70, 3) := by decide +kernel
theorem d_130_38 : decode M_130.2.2.1 38 = .ok (.iload 5, 2) := by decide +kernel
theorem d_130_40 : decode M_130.2.2.1 40 = .ok (.invokestatic 82, 3) := by decide +kernel
theorem d_130_43 : decode M_130.2.2.1 43 = .ok (.aload_n 0, 1) := by decide +kernel
theorem d_130_44 : decode M_130.2.2.1 44 = .ok (.getfield 37, 3) := by decide +kernel
theorem d_130_47 : decode M_130.2.2.1 47 = .ok (.if_icmp .ne 52, 3) := by decide +kernel
theorem d_130_50 : decode M_130.2.2.1 50 = .ok (.aload_n 0, 1) := by decide +kernel
theorem d_130_51 : decode M_130.2.2.1 51 = .ok (.iload_n 1, 1) := by decide +kernel
theorem d_130_52 : decode M_130.2.2.1 52 = .ok (.iload 5, 2) := by decide +kernel
theorem d_130_54 : decode M_130.2.2.1 54 = .ok (.bipush 8, 2) := by decide +kernel
theorem d_130_56 : decode M_130.2.2.1 56 = .ok (.invokevirtual 93, 3) := by decide +kernel
theorem d_130_59 : decode M_130.2.2.1 59 = .ok (.ifCond .eq 40, 3) := by decide +kernel
theorem d_130_62 : decode M_130.2.2.1 62 = .ok (.iload 4, 2) := by decide +kernel
theorem d_130_64 : decode M_130.2.2.1 64 = .ok (.iconst 1, 1) := by decide +kernel
theorem d_130_65 : decode M_130.2.2.1 65 = .ok (.aload_n 0, 1) := by decide +kernel
theorem d_130_66 : decode M_130.2.2.1 66 = .ok (.aload_n 0, 1) := by decide +kernel
theorem d_130_67 : decode M_130.2.2.1 67 = .ok (.iload_n 1, 1) := by decide +kernel
theorem d_130_68 : decode M_130.2.2.1 68 = .ok (.iload 5, 2) := by decide +kernel
theorem d_130_70 : decode M_130.2.2.1 70 = .ok (.invokevirtual 87, 3) := by decide +kernel
theorem d_130_73 : decode M_130.2.2.1 73 = .ok (.iload_n 2, 1) := by decide +kernel
theorem d_130_74 : decode M_130.2.2.1 74 = .ok (.iconst 1, 1) := by decide +kernel
theorem d_130_75 : decode M_130.2.2.1 75 = .ok (.iadd, 1) := by decide +kernel
theorem d_130_76 : decode M_130.2.2.1 76 = .ok (.invokevirtual 110, 3) := by decide +kernel
theorem d_130_79 : decode M_130.2.2.1 79 = .ok (.iadd, 1) := by decide +kernel
theorem d_130_80 : decode M_130.2.2.1 80 = .ok (.invokestatic 57, 3) := by decide +kernel
theorem d_130_83 : decode M_130.2.2.1 83 = .ok (.istore 4, 2) := by decide +kernel
theorem d_130_85 : decode M_130.2.2.1 85 = .ok (.iload_n 2, 1) := by decide +kernel
theorem d_130_86 : decode M_130.2.2.1 86 = .ok (.iload 4, 2) := by decide +kernel
theorem d_130_88 : decode M_130.2.2.1 88 = .ok (.iadd, 1) := by decide +kernel
theorem d_130_89 : decode M_130.2.2.1 89 = .ok (.bipush 30, 2) := by decide +kernel
theorem d_130_91 : decode M_130.2.2.1 91 = .ok (.if_icmp .lt 8, 3) := by decide +kernel
theorem d_130_94 : decode M_130.2.2.1 94 = .ok (.bipush 30, 2) := by decide +kernel
theorem d_130_96 : decode M_130.2.2.1 96 = .ok (.iload_n 2, 1) := by decide +kernel
theorem d_130_97 : decode M_130.2.2.1 97 = .ok (.isub, 1) := by decide +kernel
theorem d_130_98 : decode M_130.2.2.1 98 = .ok (.ireturn, 1) := by decide +kernel
theorem d_130_99 : decode M_130.2.2.1 99 = .ok (.iinc 5 1, 3) := by decide +kernel
theorem d_130_102 : decode M_130.2.2.1 102 = .ok (.goto (-75), 3) := by decide +kernel
theorem d_130_105 : decode M_130.2.2.1 105 = .ok (.aload_n 0, 1) := by decide +kernel
theorem d_130_106 : decode M_130.2.2.1 106 = .ok (.iload_n 1, 1) := by decide +kernel
theorem d_130_107 : decode M_130.2.2.1 107 = .ok (.iload 4, 2) := by decide +kernel
theorem d_130_109 : decode M_130.2.2.1 109 = .ok (.invokevirtual 106, 3) := by decide +kernel
theorem d_130_112 : decode M_130.2.2.1 112 = .ok (.iload 4, 2) := by decide +kernel
theorem d_130_114 : decode M_130.2.2.1 114 = .ok (.ireturn, 1) := by decide +kernel
/-- HeardBarrels$Shelf.daysToRipe(I)I -/
def M_132 : am_MT := (8, ⟨"HeardBarrels$Shelf", "daysToRipe", "(I)I"⟩, prog_8_method_21_code, 3, some .int, false, 1, (0, 0))
theorem hM_132 : am_ms[132]? = some M_132 := rfl
theorem d_132_0 : decode M_132.2.2.1 0 = .ok (.aload_n 0, 1) := by decide +kernel
theorem d_132_1 : decode M_132.2.2.1 1 = .ok (.iload_n 1, 1) := by decide +kernel
theorem d_132_2 : decode M_132.2.2.1 2 = .ok (.invokevirtual 56, 3) := by decide +kernel
theorem d_132_5 : decode M_132.2.2.1 5 = .ok (.ifCond .eq 22, 3) := by decide +kernel
theorem d_132_8 : decode M_132.2.2.1 8 = .ok (.aload_n 0, 1) := by decide +kernel
theorem d_132_9 : decode M_132.2.2.1 9 = .ok (.getfield 9, 3) := by decide +kernel
theorem d_132_12 : decode M_132.2.2.1 12 = .ok (.iload_n 1, 1) := by decide +kernel
theorem d_132_13 : decode M_132.2.2.1 13 = .ok (.iaload, 1) := by decide +kernel
theorem d_132_14 : decode M_132.2.2.1 14 = .ok (.ifCond .ne 13, 3) := by decide +kernel
theorem d_132_17 : decode M_132.2.2.1 17 = .ok (.aload_n 0, 1) := by decide +kernel
theorem d_132_18 : decode M_132.2.2.1 18 = .ok (.getfield 15, 3) := by decide +kernel
theorem d_132_21 : decode M_132.2.2.1 21 = .ok (.iload_n 1, 1) := by decide +kernel
theorem d_132_22 : decode M_132.2.2.1 22 = .ok (.iaload, 1) := by decide +kernel
theorem d_132_23 : decode M_132.2.2.1 23 = .ok (.iconst 1, 1) := by decide +kernel
theorem d_132_24 : decode M_132.2.2.1 24 = .ok (.if_icmp .ge 5, 3) := by decide +kernel
theorem d_132_27 : decode M_132.2.2.1 27 = .ok (.iconst (-1), 1) := by decide +kernel
theorem d_132_28 : decode M_132.2.2.1 28 = .ok (.ireturn, 1) := by decide +kernel
theorem d_132_29 : decode M_132.2.2.1 29 = .ok (.iconst 2, 1) := by decide +kernel
theorem d_132_30 : decode M_132.2.2.1 30 = .ok (.aload_n 0, 1) := by decide +kernel
theorem d_132_31 : decode M_132.2.2.1 31 = .ok (.getfield 15, 3) := by decide +kernel
theorem d_132_34 : decode M_132.2.2.1 34 = .ok (.iload_n 1, 1) := by decide +kernel
theorem d_132_35 : decode M_132.2.2.1 35 = .ok (.iaload, 1) := by decide +kernel
theorem d_132_36 : decode M_132.2.2.1 36 = .ok (.imul, 1) := by decide +kernel
theorem d_132_37 : decode M_132.2.2.1 37 = .ok (.istore_n 2, 1) := by decide +kernel
theorem d_132_38 : decode M_132.2.2.1 38 = .ok (.bipush 100, 2) := by decide +kernel
theorem d_132_40 : decode M_132.2.2.1 40 = .ok (.aload_n 0, 1) := by decide +kernel
theorem d_132_41 : decode M_132.2.2.1 41 = .ok (.getfield 18, 3) := by decide +kernel
theorem d_132_44 : decode M_132.2.2.1 44 = .ok (.iload_n 1, 1) := by decide +kernel
theorem d_132_45 : decode M_132.2.2.1 45 = .ok (.iaload, 1) := by decide +kernel
theorem d_132_46 : decode M_132.2.2.1 46 = .ok (.isub, 1) := by decide +kernel
theorem d_132_47 : decode M_132.2.2.1 47 = .ok (.iload_n 2, 1) := by decide +kernel
theorem d_132_48 : decode M_132.2.2.1 48 = .ok (.iadd, 1) := by decide +kernel
theorem d_132_49 : decode M_132.2.2.1 49 = .ok (.iconst 1, 1) := by decide +kernel
theorem d_132_50 : decode M_132.2.2.1 50 = .ok (.isub, 1) := by decide +kernel
theorem d_132_51 : decode M_132.2.2.1 51 = .ok (.iload_n 2, 1) := by decide +kernel
theorem d_132_52 : decode M_132.2.2.1 52 = .ok (.idiv, 1) := by decide +kernel
theorem d_132_53 : decode M_132.2.2.1 53 = .ok (.ireturn, 1) := by decide +kernel
/-- HeardBarrels$Buyers.ripest(I)I -/
def M_134 : am_MT := (2, ⟨"HeardBarrels$Buyers", "ripest", "(I)I"⟩, prog_2_method_2_code, 7, some .int, false, 1, (0, 0))
theorem hM_134 : am_ms[134]? = some M_134 := rfl
theorem d_134_0 : decode M_134.2.2.1 0 = .ok (.iload_n 1, 1) := by decide +kernel
theorem d_134_1 : decode M_134.2.2.1 1 = .ok (.aload_n 0, 1) := by decide +kernel
theorem d_134_2 : decode M_134.2.2.1 2 = .ok (.getfield 18, 3) := by decide +kernel
theorem d_134_5 : decode M_134.2.2.1 5 = .ok (.getfield 22, 3) := by decide +kernel
theorem d_134_8 : decode M_134.2.2.1 8 = .ok (.imul, 1) := by decide +kernel
theorem d_134_9 : decode M_134.2.2.1 9 = .ok (.istore_n 2, 1) := by decide +kernel
theorem d_134_10 : decode M_134.2.2.1 10 = .ok (.iconst 0, 1) := by decide +kernel
theorem d_134_11 : decode M_134.2.2.1 11 = .ok (.istore_n 3, 1) := by decide +kernel
theorem d_134_12 : decode M_134.2.2.1 12 = .ok (.aload_n 0, 1) := by decide +kernel
theorem d_134_13 : decode M_134.2.2.1 13 = .ok (.iconst 0, 1) := by decide +kernel
theorem d_134_14 : decode M_134.2.2.1 14 = .ok (.putfield 28, 3) := by decide +kernel
theorem d_134_17 : decode M_134.2.2.1 17 = .ok (.iconst 0, 1) := by decide +kernel
theorem d_134_18 : decode M_134.2.2.1 18 = .ok (.istore 4, 2) := by decide +kernel
theorem d_134_20 : decode M_134.2.2.1 20 = .ok (.iload 4, 2) := by decide +kernel
theorem d_134_22 : decode M_134.2.2.1 22 = .ok (.iload_n 1, 1) := by decide +kernel
theorem d_134_23 : decode M_134.2.2.1 23 = .ok (.if_icmp .gt 99, 3) := by decide +kernel
theorem d_134_26 : decode M_134.2.2.1 26 = .ok (.iconst 0, 1) := by decide +kernel
theorem d_134_27 : decode M_134.2.2.1 27 = .ok (.istore 5, 2) := by decide +kernel
theorem d_134_29 : decode M_134.2.2.1 29 = .ok (.iload 5, 2) := by decide +kernel
theorem d_134_31 : decode M_134.2.2.1 31 = .ok (.aload_n 0, 1) := by decide +kernel
theorem d_134_32 : decode M_134.2.2.1 32 = .ok (.getfield 18, 3) := by decide +kernel
theorem d_134_35 : decode M_134.2.2.1 35 = .ok (.getfield 31, 3) := by decide +kernel
theorem d_134_38 : decode M_134.2.2.1 38 = .ok (.if_icmp .ge 78, 3) := by decide +kernel
theorem d_134_41 : decode M_134.2.2.1 41 = .ok (.aload_n 0, 1) := by decide +kernel
theorem d_134_42 : decode M_134.2.2.1 42 = .ok (.getfield 18, 3) := by decide +kernel
theorem d_134_45 : decode M_134.2.2.1 45 = .ok (.getfield 34, 3) := by decide +kernel
theorem d_134_48 : decode M_134.2.2.1 48 = .ok (.iload 5, 2) := by decide +kernel
theorem d_134_50 : decode M_134.2.2.1 50 = .ok (.iaload, 1) := by decide +kernel
theorem d_134_51 : decode M_134.2.2.1 51 = .ok (.ifCond .ne 18, 3) := by decide +kernel
theorem d_134_54 : decode M_134.2.2.1 54 = .ok (.aload_n 0, 1) := by decide +kernel
theorem d_134_55 : decode M_134.2.2.1 55 = .ok (.getfield 28, 3) := by decide +kernel
theorem d_134_58 : decode M_134.2.2.1 58 = .ok (.iload 4, 2) := by decide +kernel
theorem d_134_60 : decode M_134.2.2.1 60 = .ok (.iadd, 1) := by decide +kernel
theorem d_134_61 : decode M_134.2.2.1 61 = .ok (.iload_n 2, 1) := by decide +kernel
theorem d_134_62 : decode M_134.2.2.1 62 = .ok (.if_icmp .gt 7, 3) := by decide +kernel
theorem d_134_65 : decode M_134.2.2.1 65 = .ok (.iconst 1, 1) := by decide +kernel
theorem d_134_66 : decode M_134.2.2.1 66 = .ok (.goto 4, 3) := by decide +kernel
theorem d_134_69 : decode M_134.2.2.1 69 = .ok (.iconst 0, 1) := by decide +kernel
theorem d_134_70 : decode M_134.2.2.1 70 = .ok (.istore 6, 2) := by decide +kernel
theorem d_134_72 : decode M_134.2.2.1 72 = .ok (.iload 6, 2) := by decide +kernel
theorem d_134_74 : decode M_134.2.2.1 74 = .ok (.ifCond .eq 36, 3) := by decide +kernel
theorem d_134_77 : decode M_134.2.2.1 77 = .ok (.aload_n 0, 1) := by decide +kernel
theorem d_134_78 : decode M_134.2.2.1 78 = .ok (.getfield 18, 3) := by decide +kernel
theorem d_134_81 : decode M_134.2.2.1 81 = .ok (.iload 5, 2) := by decide +kernel
theorem d_134_83 : decode M_134.2.2.1 83 = .ok (.iload_n 1, 1) := by decide +kernel
theorem d_134_84 : decode M_134.2.2.1 84 = .ok (.invokevirtual 37, 3) := by decide +kernel
theorem d_134_87 : decode M_134.2.2.1 87 = .ok (.iload 4, 2) := by decide +kernel
theorem d_134_89 : decode M_134.2.2.1 89 = .ok (.if_icmp .ne 21, 3) := by decide +kernel
theorem d_134_92 : decode M_134.2.2.1 92 = .ok (.iload_n 3, 1) := by decide +kernel
theorem d_134_93 : decode M_134.2.2.1 93 = .ok (.iconst 1, 1) := by decide +kernel
theorem d_134_94 : decode M_134.2.2.1 94 = .ok (.iload 5, 2) := by decide +kernel
theorem d_134_96 : decode M_134.2.2.1 96 = .ok (.ishl, 1) := by decide +kernel
theorem d_134_97 : decode M_134.2.2.1 97 = .ok (.ior, 1) := by decide +kernel
theorem d_134_98 : decode M_134.2.2.1 98 = .ok (.istore_n 3, 1) := by decide +kernel
theorem d_134_99 : decode M_134.2.2.1 99 = .ok (.aload_n 0, 1) := by decide +kernel
theorem d_134_100 : decode M_134.2.2.1 100 = .ok (.dup, 1) := by decide +kernel
theorem d_134_101 : decode M_134.2.2.1 101 = .ok (.getfield 28, 3) := by decide +kernel
theorem d_134_104 : decode M_134.2.2.1 104 = .ok (.iload 4, 2) := by decide +kernel
theorem d_134_106 : decode M_134.2.2.1 106 = .ok (.iadd, 1) := by decide +kernel
theorem d_134_107 : decode M_134.2.2.1 107 = .ok (.putfield 28, 3) := by decide +kernel
theorem d_134_110 : decode M_134.2.2.1 110 = .ok (.iinc 5 1, 3) := by decide +kernel
theorem d_134_113 : decode M_134.2.2.1 113 = .ok (.goto (-84), 3) := by decide +kernel
theorem d_134_116 : decode M_134.2.2.1 116 = .ok (.iinc 4 1, 3) := by decide +kernel
theorem d_134_119 : decode M_134.2.2.1 119 = .ok (.goto (-99), 3) := by decide +kernel
theorem d_134_122 : decode M_134.2.2.1 122 = .ok (.iload_n 3, 1) := by decide +kernel
theorem d_134_123 : decode M_134.2.2.1 123 = .ok (.ireturn, 1) := by decide +kernel
/-- HeardBarrels$Shelf.turnsToRipe(II)I -/
def M_135 : am_MT := (8, ⟨"HeardBarrels$Shelf", "turnsToRipe", "(II)I"⟩, prog_8_method_22_code, 4, some .int, false, 2, (0, 0))
theorem hM_135 : am_ms[135]? = some M_135 := rfl
theorem d_135_0 : decode M_135.2.2.1 0 = .ok (.aload_n 0, 1) := by decide +kernel
theorem d_135_1 : decode M_135.2.2.1 1 = .ok (.iload_n 1, 1) := by decide +kernel
theorem d_135_2 : decode M_135.2.2.1 2 = .ok (.invokevirtual 56, 3) := by decide +kernel
theorem d_135_5 : decode M_135.2.2.1 5 = .ok (.ifCond .eq 13, 3) := by decide +kernel
theorem d_135_8 : decode M_135.2.2.1 8 = .ok (.aload_n 0, 1) := by decide +kernel
theorem d_135_9 : decode M_135.2.2.1 9 = .ok (.getfield 15, 3) := by decide +kernel
theorem d_135_12 : decode M_135.2.2.1 12 = .ok (.iload_n 1, 1) := by decide +kernel
theorem d_135_13 : decode M_135.2.2.1 13 = .ok (.iaload, 1) := by decide +kernel
theorem d_135_14 : decode M_135.2.2.1 14 = .ok (.iconst 1, 1) := by decide +kernel
theorem d_135_15 : decode M_135.2.2.1 15 = .ok (.if_icmp .ge 7, 3) := by decide +kernel
theorem d_135_18 : decode M_135.2.2.1 18 = .ok (.iload_n 2, 1) := by decide +kernel
theorem d_135_19 : decode M_135.2.2.1 19 = .ok (.iconst 1, 1) := by decide +kernel
theorem d_135_20 : decode M_135.2.2.1 20 = .ok (.iadd, 1) := by decide +kernel
theorem d_135_21 : decode M_135.2.2.1 21 = .ok (.ireturn, 1) := by decide +kernel
theorem d_135_22 : decode M_135.2.2.1 22 = .ok (.bipush 100, 2) := by decide +kernel
theorem d_135_24 : decode M_135.2.2.1 24 = .ok (.aload_n 0, 1) := by decide +kernel
theorem d_135_25 : decode M_135.2.2.1 25 = .ok (.getfield 18, 3) := by decide +kernel
theorem d_135_28 : decode M_135.2.2.1 28 = .ok (.iload_n 1, 1) := by decide +kernel
theorem d_135_29 : decode M_135.2.2.1 29 = .ok (.iaload, 1) := by decide +kernel
theorem d_135_30 : decode M_135.2.2.1 30 = .ok (.isub, 1) := by decide +kernel
theorem d_135_31 : decode M_135.2.2.1 31 = .ok (.iload_n 2, 1) := by decide +kernel
theorem d_135_32 : decode M_135.2.2.1 32 = .ok (.aload_n 0, 1) := by decide +kernel
theorem d_135_33 : decode M_135.2.2.1 33 = .ok (.getfield 15, 3) := by decide +kernel
theorem d_135_36 : decode M_135.2.2.1 36 = .ok (.iload_n 1, 1) := by decide +kernel
theorem d_135_37 : decode M_135.2.2.1 37 = .ok (.iaload, 1) := by decide +kernel
theorem d_135_38 : decode M_135.2.2.1 38 = .ok (.imul, 1) := by decide +kernel
theorem d_135_39 : decode M_135.2.2.1 39 = .ok (.isub, 1) := by decide +kernel
theorem d_135_40 : decode M_135.2.2.1 40 = .ok (.istore_n 3, 1) := by decide +kernel
theorem d_135_41 : decode M_135.2.2.1 41 = .ok (.iload_n 3, 1) := by decide +kernel
theorem d_135_42 : decode M_135.2.2.1 42 = .ok (.ifCond .gt 7, 3) := by decide +kernel
theorem d_135_45 : decode M_135.2.2.1 45 = .ok (.iconst 0, 1) := by decide +kernel
theorem d_135_46 : decode M_135.2.2.1 46 = .ok (.goto 20, 3) := by decide +kernel
theorem d_135_49 : decode M_135.2.2.1 49 = .ok (.iload_n 3, 1) := by decide +kernel
theorem d_135_50 : decode M_135.2.2.1 50 = .ok (.aload_n 0, 1) := by decide +kernel
theorem d_135_51 : decode M_135.2.2.1 51 = .ok (.getfield 15, 3) := by decide +kernel
theorem d_135_54 : decode M_135.2.2.1 54 = .ok (.iload_n 1, 1) := by decide +kernel
theorem d_135_55 : decode M_135.2.2.1 55 = .ok (.iaload, 1) := by decide +kernel
theorem d_135_56 : decode M_135.2.2.1 56 = .ok (.iadd, 1) := by decide +kernel
theorem d_135_57 : decode M_135.2.2.1 57 = .ok (.iconst 1, 1) := by decide +kernel
theorem d_135_58 : decode M_135.2.2.1 58 = .ok (.isub, 1) := by decide +kernel
theorem d_135_59 : decode M_135.2.2.1 59 = .ok (.aload_n 0, 1) := by decide +kernel
theorem d_135_60 : decode M_135.2.2.1 60 = .ok (.getfield 15, 3) := by decide +kernel
theorem d_135_63 : decode M_135.2.2.1 63 = .ok (.iload_n 1, 1) := by decide +kernel
theorem d_135_64 : decode M_135.2.2.1 64 = .ok (.iaload, 1) := by decide +kernel
theorem d_135_65 : decode M_135.2.2.1 65 = .ok (.idiv, 1) := by decide +kernel
theorem d_135_66 : decode M_135.2.2.1 66 = .ok (.ireturn, 1) := by decide +kernel
/-- HeardBarrels$Buyers.howManyMet(LHeardBarrels$Row;)I -/
def M_137 : am_MT := (2, ⟨"HeardBarrels$Buyers", "howManyMet", "(LHeardBarrels$Row;)I"⟩, prog_2_method_3_code, 2, some .int, false, 1, (0, 0))
theorem hM_137 : am_ms[137]? = some M_137 := rfl
theorem d_137_0 : decode M_137.2.2.1 0 = .ok (.aload_n 0, 1) := by decide +kernel
theorem d_137_1 : decode M_137.2.2.1 1 = .ok (.aload_n 1, 1) := by decide +kernel
theorem d_137_2 : decode M_137.2.2.1 2 = .ok (.invokevirtual 41, 3) := by decide +kernel
theorem d_137_5 : decode M_137.2.2.1 5 = .ok (.aload_n 0, 1) := by decide +kernel
theorem d_137_6 : decode M_137.2.2.1 6 = .ok (.aload_n 1, 1) := by decide +kernel
theorem d_137_7 : decode M_137.2.2.1 7 = .ok (.iconst 0, 1) := by decide +kernel
theorem d_137_8 : decode M_137.2.2.1 8 = .ok (.iconst 0, 1) := by decide +kernel
theorem d_137_9 : decode M_137.2.2.1 9 = .ok (.invokevirtual 45, 3) := by decide +kernel
theorem d_137_12 : decode M_137.2.2.1 12 = .ok (.ireturn, 1) := by decide +kernel
/-- HeardBarrels$Buyers.look(LHeardBarrels$Row;)V -/
def M_138 : am_MT := (2, ⟨"HeardBarrels$Buyers", "look", "(LHeardBarrels$Row;)V"⟩, prog_2_method_5_code, 5, none, false, 1, (0, 0))
theorem hM_138 : am_ms[138]? = some M_138 := rfl
theorem d_138_0 : decode M_138.2.2.1 0 = .ok (.iconst 0, 1) := by decide +kernel
theorem d_138_1 : decode M_138.2.2.1 1 = .ok (.istore_n 2, 1) := by decide +kernel
theorem d_138_2 : decode M_138.2.2.1 2 = .ok (.iload_n 2, 1) := by decide +kernel
theorem d_138_3 : decode M_138.2.2.1 3 = .ok (.aload_n 0, 1) := by decide +kernel
theorem d_138_4 : decode M_138.2.2.1 4 = .ok (.getfield 18, 3) := by decide +kernel
theorem d_138_7 : decode M_138.2.2.1 7 = .ok (.getfield 31, 3) := by decide +kernel
theorem d_138_10 : decode M_138.2.2.1 10 = .ok (.if_icmp .ge 23, 3) := by decide +kernel
theorem d_138_13 : decode M_138.2.2.1 13 = .ok (.aload_n 0, 1) := by decide +kernel
theorem d_138_14 : decode M_138.2.2.1 14 = .ok (.getfield 9, 3) := by decide +kernel
theorem d_138_17 : decode M_138.2.2.1 17 = .ok (.iload_n 2, 1) := by decide +kernel
theorem d_138_18 : decode M_138.2.2.1 18 = .ok (.aload_n 0, 1) := by decide +kernel
theorem d_138_19 : decode M_138.2.2.1 19 = .ok (.getfield 18, 3) := by decide +kernel
theorem d_138_22 : decode M_138.2.2.1 22 = .ok (.iload_n 2, 1) := by decide +kernel
theorem d_138_23 : decode M_138.2.2.1 23 = .ok (.invokevirtual 58, 3) := by decide +kernel
theorem d_138_26 : decode M_138.2.2.1 26 = .ok (.iastore, 1) := by decide +kernel
theorem d_138_27 : decode M_138.2.2.1 27 = .ok (.iinc 2 1, 3) := by decide +kernel
theorem d_138_30 : decode M_138.2.2.1 30 = .ok (.goto (-28), 3) := by decide +kernel
theorem d_138_33 : decode M_138.2.2.1 33 = .ok (.aload_n 1, 1) := by decide +kernel
theorem d_138_34 : decode M_138.2.2.1 34 = .ok (.getfield 49, 3) := by decide +kernel
theorem d_138_37 : decode M_138.2.2.1 37 = .ok (.bipush 10, 2) := by decide +kernel
theorem d_138_39 : decode M_138.2.2.1 39 = .ok (.invokestatic 62, 3) := by decide +kernel
theorem d_138_42 : decode M_138.2.2.1 42 = .ok (.istore_n 2, 1) := by decide +kernel
theorem d_138_43 : decode M_138.2.2.1 43 = .ok (.iconst 0, 1) := by decide +kernel
theorem d_138_44 : decode M_138.2.2.1 44 = .ok (.istore_n 3, 1) := by decide +kernel
theorem d_138_45 : decode M_138.2.2.1 45 = .ok (.iload_n 3, 1) := by decide +kernel
theorem d_138_46 : decode M_138.2.2.1 46 = .ok (.iload_n 2, 1) := by decide +kernel
theorem d_138_47 : decode M_138.2.2.1 47 = .ok (.if_icmp .ge 69, 3) := by decide +kernel
theorem d_138_50 : decode M_138.2.2.1 50 = .ok (.iload_n 3, 1) := by decide +kernel
theorem d_138_51 : decode M_138.2.2.1 51 = .ok (.istore 4, 2) := by decide +kernel
theorem d_138_53 : decode M_138.2.2.1 53 = .ok (.iload 4, 2) := by decide +kernel
theorem d_138_55 : decode M_138.2.2.1 55 = .ok (.ifCond .le 47, 3) := by decide +kernel
theorem d_138_58 : decode M_138.2.2.1 58 = .ok (.aload_n 1, 1) := by decide +kernel
theorem d_138_59 : decode M_138.2.2.1 59 = .ok (.aload_n 0, 1) := by decide +kernel
theorem d_138_60 : decode M_138.2.2.1 60 = .ok (.getfield 15, 3) := by decide +kernel
theorem d_138_63 : decode M_138.2.2.1 63 = .ok (.iload 4, 2) := by decide +kernel
theorem d_138_65 : decode M_138.2.2.1 65 = .ok (.iconst 1, 1) := by decide +kernel
theorem d_138_66 : decode M_138.2.2.1 66 = .ok (.isub, 1) := by decide +kernel
theorem d_138_67 : decode M_138.2.2.1 67 = .ok (.iaload, 1) := by decide +kernel
theorem d_138_68 : decode M_138.2.2.1 68 = .ok (.invokevirtual 67, 3) := by decide +kernel
theorem d_138_71 : decode M_138.2.2.1 71 = .ok (.aload_n 1, 1) := by decide +kernel
theorem d_138_72 : decode M_138.2.2.1 72 = .ok (.iload_n 3, 1) := by decide +kernel
theorem d_138_73 : decode M_138.2.2.1 73 = .ok (.invokevirtual 67, 3) := by decide +kernel
theorem d_138_76 : decode M_138.2.2.1 76 = .ok (.lcmp, 1) := by decide +kernel
theorem d_138_77 : decode M_138.2.2.1 77 = .ok (.ifCond .le 25, 3) := by decide +kernel
theorem d_138_80 : decode M_138.2.2.1 80 = .ok (.aload_n 0, 1) := by decide +kernel
theorem d_138_81 : decode M_138.2.2.1 81 = .ok (.getfield 15, 3) := by decide +kernel
theorem d_138_84 : decode M_138.2.2.1 84 = .ok (.iload 4, 2) := by decide +kernel
theorem d_138_86 : decode M_138.2.2.1 86 = .ok (.aload_n 0, 1) := by decide +kernel
theorem d_138_87 : decode M_138.2.2.1 87 = .ok (.getfield 15, 3) := by decide +kernel
theorem d_138_90 : decode M_138.2.2.1 90 = .ok (.iload 4, 2) := by decide +kernel
theorem d_138_92 : decode M_138.2.2.1 92 = .ok (.iconst 1, 1) := by decide +kernel
theorem d_138_93 : decode M_138.2.2.1 93 = .ok (.isub, 1) := by decide +kernel
theorem d_138_94 : decode M_138.2.2.1 94 = .ok (.iaload, 1) := by decide +kernel
theorem d_138_95 : decode M_138.2.2.1 95 = .ok (.iastore, 1) := by decide +kernel
theorem d_138_96 : decode M_138.2.2.1 96 = .ok (.iinc 4 (-1), 3) := by decide +kernel
theorem d_138_99 : decode M_138.2.2.1 99 = .ok (.goto (-46), 3) := by decide +kernel
theorem d_138_102 : decode M_138.2.2.1 102 = .ok (.aload_n 0, 1) := by decide +kernel
theorem d_138_103 : decode M_138.2.2.1 103 = .ok (.getfield 15, 3) := by decide +kernel
theorem d_138_106 : decode M_138.2.2.1 106 = .ok (.iload 4, 2) := by decide +kernel
theorem d_138_108 : decode M_138.2.2.1 108 = .ok (.iload_n 3, 1) := by decide +kernel
theorem d_138_109 : decode M_138.2.2.1 109 = .ok (.iastore, 1) := by decide +kernel
theorem d_138_110 : decode M_138.2.2.1 110 = .ok (.iinc 3 1, 3) := by decide +kernel
theorem d_138_113 : decode M_138.2.2.1 113 = .ok (.goto (-68), 3) := by decide +kernel
theorem d_138_116 : decode M_138.2.2.1 116 = .ok (.return_, 1) := by decide +kernel
/-- HeardBarrels$Buyers.mostMet(LHeardBarrels$Row;II)I -/
def M_139 : am_MT := (2, ⟨"HeardBarrels$Buyers", "mostMet", "(LHeardBarrels$Row;II)I"⟩, prog_2_method_8_code, 7, some .int, false, 3, (0, 0))
theorem hM_139 : am_ms[139]? = some M_139 := rfl
theorem d_139_0 : decode M_139.2.2.1 0 = .ok (.iconst 0, 1) := by decide +kernel
theorem d_139_1 : decode M_139.2.2.1 1 = .ok (.istore 4, 2) := by decide +kernel
theorem d_139_3 : decode M_139.2.2.1 3 = .ok (.aload_n 1, 1) := by decide +kernel
theorem d_139_4 : decode M_139.2.2.1 4 = .ok (.getfield 49, 3) := by decide +kernel
theorem d_139_7 : decode M_139.2.2.1 7 = .ok (.bipush 10, 2) := by decide +kernel
theorem d_139_9 : decode M_139.2.2.1 9 = .ok (.invokestatic 62, 3) := by decide +kernel
theorem d_139_12 : decode M_139.2.2.1 12 = .ok (.istore 5, 2) := by decide +kernel
theorem d_139_14 : decode M_139.2.2.1 14 = .ok (.iconst 0, 1) := by decide +kernel
theorem d_139_15 : decode M_139.2.2.1 15 = .ok (.istore 6, 2) := by decide +kernel
theorem d_139_17 : decode M_139.2.2.1 17 = .ok (.iload 6, 2) := by decide +kernel
theorem d_139_19 : decode M_139.2.2.1 19 = .ok (.iload 5, 2) := by decide +kernel
theorem d_139_21 : decode M_139.2.2.1 21 = .ok (.if_icmp .ge 41, 3) := by decide +kernel
theorem d_139_24 : decode M_139.2.2.1 24 = .ok (.aload_n 0, 1) := by decide +kernel
theorem d_139_25 : decode M_139.2.2.1 25 = .ok (.getfield 15, 3) := by decide +kernel
theorem d_139_28 : decode M_139.2.2.1 28 = .ok (.iload 6, 2) := by decide +kernel
theorem d_139_30 : decode M_139.2.2.1 30 = .ok (.iaload, 1) := by decide +kernel
theorem d_139_31 : decode M_139.2.2.1 31 = .ok (.iload_n 2, 1) := by decide +kernel
theorem d_139_32 : decode M_139.2.2.1 32 = .ok (.if_icmp .lt 24, 3) := by decide +kernel
theorem d_139_35 : decode M_139.2.2.1 35 = .ok (.aload_n 0, 1) := by decide +kernel
theorem d_139_36 : decode M_139.2.2.1 36 = .ok (.aload_n 1, 1) := by decide +kernel
theorem d_139_37 : decode M_139.2.2.1 37 = .ok (.aload_n 0, 1) := by decide +kernel
theorem d_139_38 : decode M_139.2.2.1 38 = .ok (.getfield 15, 3) := by decide +kernel
theorem d_139_41 : decode M_139.2.2.1 41 = .ok (.iload 6, 2) := by decide +kernel
theorem d_139_43 : decode M_139.2.2.1 43 = .ok (.iaload, 1) := by decide +kernel
theorem d_139_44 : decode M_139.2.2.1 44 = .ok (.iload_n 3, 1) := by decide +kernel
theorem d_139_45 : decode M_139.2.2.1 45 = .ok (.invokevirtual 75, 3) := by decide +kernel
theorem d_139_48 : decode M_139.2.2.1 48 = .ok (.iload 4, 2) := by decide +kernel
theorem d_139_50 : decode M_139.2.2.1 50 = .ok (.if_icmp .le 6, 3) := by decide +kernel
theorem d_139_53 : decode M_139.2.2.1 53 = .ok (.iinc 4 1, 3) := by decide +kernel
theorem d_139_56 : decode M_139.2.2.1 56 = .ok (.iinc 6 1, 3) := by decide +kernel
theorem d_139_59 : decode M_139.2.2.1 59 = .ok (.goto (-42), 3) := by decide +kernel
theorem d_139_62 : decode M_139.2.2.1 62 = .ok (.iload 4, 2) := by decide +kernel
theorem d_139_64 : decode M_139.2.2.1 64 = .ok (.ireturn, 1) := by decide +kernel
/-- HeardBarrels$Buyers.howManyFor(LHeardBarrels$Row;II)I -/
def M_140 : am_MT := (2, ⟨"HeardBarrels$Buyers", "howManyFor", "(LHeardBarrels$Row;II)I"⟩, prog_2_method_9_code, 6, some .int, false, 3, (0, 0))
theorem hM_140 : am_ms[140]? = some M_140 := rfl
theorem d_140_0 : decode M_140.2.2.1 0 = .ok (.iconst 0, 1) := by decide +kernel
theorem d_140_1 : decode M_140.2.2.1 1 = .ok (.istore 4, 2) := by decide +kernel
theorem d_140_3 : decode M_140.2.2.1 3 = .ok (.iconst 0, 1) := by decide +kernel
theorem d_140_4 : decode M_140.2.2.1 4 = .ok (.istore 5, 2) := by decide +kernel
theorem d_140_6 : decode M_140.2.2.1 6 = .ok (.iload 5, 2) := by decide +kernel
theorem d_140_8 : decode M_140.2.2.1 8 = .ok (.aload_n 0, 1) := by decide +kernel
theorem d_140_9 : decode M_140.2.2.1 9 = .ok (.getfield 18, 3) := by decide +kernel
theorem d_140_12 : decode M_140.2.2.1 12 = .ok (.getfield 31, 3) := by decide +kernel
theorem d_140_15 : decode M_140.2.2.1 15 = .ok (.if_icmp .ge 24, 3) := by decide +kernel
theorem d_140_18 : decode M_140.2.2.1 18 = .ok (.aload_n 0, 1) := by decide +kernel
theorem d_140_19 : decode M_140.2.2.1 19 = .ok (.aload_n 1, 1) := by decide +kernel
theorem d_140_20 : decode M_140.2.2.1 20 = .ok (.iload_n 2, 1) := by decide +kernel
theorem d_140_21 : decode M_140.2.2.1 21 = .ok (.iload 5, 2) := by decide +kernel
theorem d_140_23 : decode M_140.2.2.1 23 = .ok (.iload_n 3, 1) := by decide +kernel
theorem d_140_24 : decode M_140.2.2.1 24 = .ok (.invokevirtual 71, 3) := by decide +kernel
theorem d_140_27 : decode M_140.2.2.1 27 = .ok (.ifCond .eq 6, 3) := by decide +kernel
theorem d_140_30 : decode M_140.2.2.1 30 = .ok (.iinc 4 1, 3) := by decide +kernel
theorem d_140_33 : decode M_140.2.2.1 33 = .ok (.iinc 5 1, 3) := by decide +kernel
theorem d_140_36 : decode M_140.2.2.1 36 = .ok (.goto (-30), 3) := by decide +kernel
theorem d_140_39 : decode M_140.2.2.1 39 = .ok (.iload 4, 2) := by decide +kernel
theorem d_140_41 : decode M_140.2.2.1 41 = .ok (.ireturn, 1) := by decide +kernel
/-- HeardBarrels$Buyers.isFor(LHeardBarrels$Row;III)Z -/
def M_141 : am_MT := (2, ⟨"HeardBarrels$Buyers", "isFor", "(LHeardBarrels$Row;III)Z"⟩, prog_2_method_7_code, 5, some .boolean, false, 4, (0, 0))
theorem hM_141 : am_ms[141]? = some M_141 := rfl
theorem d_141_0 : decode M_141.2.2.1 0 = .ok (.aload_n 0, 1) := by decide +kernel
theorem d_141_1 : decode M_141.2.2.1 1 = .ok (.getfield 9, 3) := by decide +kernel
theorem d_141_4 : decode M_141.2.2.1 4 = .ok (.iload_n 3, 1) := by decide +kernel
theorem d_141_5 : decode M_141.2.2.1 5 = .ok (.iaload, 1) := by decide +kernel
theorem d_141_6 : decode M_141.2.2.1 6 = .ok (.iconst (-1), 1) := by decide +kernel
theorem d_141_7 : decode M_141.2.2.1 7 = .ok (.if_icmp .eq 32, 3) := by decide +kernel
theorem d_141_10 : decode M_141.2.2.1 10 = .ok (.aload_n 0, 1) := by decide +kernel
theorem d_141_11 : decode M_141.2.2.1 11 = .ok (.getfield 9, 3) := by decide +kernel
theorem d_141_14 : decode M_141.2.2.1 14 = .ok (.iload_n 3, 1) := by decide +kernel
theorem d_141_15 : decode M_141.2.2.1 15 = .ok (.iaload, 1) := by decide +kernel
theorem d_141_16 : decode M_141.2.2.1 16 = .ok (.i2l, 1) := by decide +kernel
theorem d_141_17 : decode M_141.2.2.1 17 = .ok (.aload_n 1, 1) := by decide +kernel
theorem d_141_18 : decode M_141.2.2.1 18 = .ok (.iload_n 2, 1) := by decide +kernel
theorem d_141_19 : decode M_141.2.2.1 19 = .ok (.invokevirtual 67, 3) := by decide +kernel
theorem d_141_22 : decode M_141.2.2.1 22 = .ok (.lcmp, 1) := by decide +kernel
theorem d_141_23 : decode M_141.2.2.1 23 = .ok (.ifCond .gt 16, 3) := by decide +kernel
theorem d_141_26 : decode M_141.2.2.1 26 = .ok (.iload 4, 2) := by decide +kernel
theorem d_141_28 : decode M_141.2.2.1 28 = .ok (.iload_n 3, 1) := by decide +kernel
theorem d_141_29 : decode M_141.2.2.1 29 = .ok (.ishr, 1) := by decide +kernel
theorem d_141_30 : decode M_141.2.2.1 30 = .ok (.iconst 1, 1) := by decide +kernel
theorem d_141_31 : decode M_141.2.2.1 31 = .ok (.iand, 1) := by decide +kernel
theorem d_141_32 : decode M_141.2.2.1 32 = .ok (.ifCond .ne 7, 3) := by decide +kernel
theorem d_141_35 : decode M_141.2.2.1 35 = .ok (.iconst 1, 1) := by decide +kernel
theorem d_141_36 : decode M_141.2.2.1 36 = .ok (.goto 4, 3) := by decide +kernel
theorem d_141_39 : decode M_141.2.2.1 39 = .ok (.iconst 0, 1) := by decide +kernel
theorem d_141_40 : decode M_141.2.2.1 40 = .ok (.ireturn, 1) := by decide +kernel
/-- HeardBarrels$Buyers.placeFor(LHeardBarrels$Row;I)I -/
def M_142 : am_MT := (2, ⟨"HeardBarrels$Buyers", "placeFor", "(LHeardBarrels$Row;I)I"⟩, prog_2_method_4_code, 7, some .int, false, 2, (0, 0))
theorem hM_142 : am_ms[142]? = some M_142 := rfl
theorem d_142_0 : decode M_142.2.2.1 0 = .ok (.iload_n 2, 1) := by decide +kernel
theorem d_142_1 : decode M_142.2.2.1 1 = .ok (.aload_n 1, 1) := by decide +kernel
theorem d_142_2 : decode M_142.2.2.1 2 = .ok (.getfield 49, 3) := by decide +kernel
theorem d_142_5 : decode M_142.2.2.1 5 = .ok (.if_icmp .lt 5, 3) := by decide +kernel
theorem d_142_8 : decode M_142.2.2.1 8 = .ok (.iconst (-1), 1) := by decide +kernel
theorem d_142_9 : decode M_142.2.2.1 9 = .ok (.ireturn, 1) := by decide +kernel
theorem d_142_10 : decode M_142.2.2.1 10 = .ok (.aload_n 0, 1) := by decide +kernel
theorem d_142_11 : decode M_142.2.2.1 11 = .ok (.aload_n 1, 1) := by decide +kernel
theorem d_142_12 : decode M_142.2.2.1 12 = .ok (.invokevirtual 41, 3) := by decide +kernel
theorem d_142_15 : decode M_142.2.2.1 15 = .ok (.aload_n 0, 1) := by decide +kernel
theorem d_142_16 : decode M_142.2.2.1 16 = .ok (.aload_n 1, 1) := by decide +kernel
theorem d_142_17 : decode M_142.2.2.1 17 = .ok (.iconst 0, 1) := by decide +kernel
theorem d_142_18 : decode M_142.2.2.1 18 = .ok (.iconst 0, 1) := by decide +kernel
theorem d_142_19 : decode M_142.2.2.1 19 = .ok (.invokevirtual 45, 3) := by decide +kernel
theorem d_142_22 : decode M_142.2.2.1 22 = .ok (.istore_n 3, 1) := by decide +kernel
theorem d_142_23 : decode M_142.2.2.1 23 = .ok (.iconst 0, 1) := by decide +kernel
theorem d_142_24 : decode M_142.2.2.1 24 = .ok (.istore 4, 2) := by decide +kernel
theorem d_142_26 : decode M_142.2.2.1 26 = .ok (.iconst (-1), 1) := by decide +kernel
theorem d_142_27 : decode M_142.2.2.1 27 = .ok (.istore 5, 2) := by decide +kernel
theorem d_142_29 : decode M_142.2.2.1 29 = .ok (.iconst 0, 1) := by decide +kernel
theorem d_142_30 : decode M_142.2.2.1 30 = .ok (.istore 6, 2) := by decide +kernel
theorem d_142_32 : decode M_142.2.2.1 32 = .ok (.iload 6, 2) := by decide +kernel
theorem d_142_34 : decode M_142.2.2.1 34 = .ok (.iload_n 2, 1) := by decide +kernel
theorem d_142_35 : decode M_142.2.2.1 35 = .ok (.if_icmp .gt 39, 3) := by decide +kernel
theorem d_142_38 : decode M_142.2.2.1 38 = .ok (.aload_n 0, 1) := by decide +kernel
theorem d_142_39 : decode M_142.2.2.1 39 = .ok (.aload_n 1, 1) := by decide +kernel
theorem d_142_40 : decode M_142.2.2.1 40 = .ok (.iload 6, 2) := by decide +kernel
theorem d_142_42 : decode M_142.2.2.1 42 = .ok (.iload 4, 2) := by decide +kernel
theorem d_142_44 : decode M_142.2.2.1 44 = .ok (.iload_n 3, 1) := by decide +kernel
theorem d_142_45 : decode M_142.2.2.1 45 = .ok (.invokevirtual 54, 3) := by decide +kernel
theorem d_142_48 : decode M_142.2.2.1 48 = .ok (.istore 5, 2) := by decide +kernel
theorem d_142_50 : decode M_142.2.2.1 50 = .ok (.iload 5, 2) := by decide +kernel
theorem d_142_52 : decode M_142.2.2.1 52 = .ok (.iconst (-1), 1) := by decide +kernel
theorem d_142_53 : decode M_142.2.2.1 53 = .ok (.if_icmp .eq 15, 3) := by decide +kernel
theorem d_142_56 : decode M_142.2.2.1 56 = .ok (.iload 4, 2) := by decide +kernel
theorem d_142_58 : decode M_142.2.2.1 58 = .ok (.iconst 1, 1) := by decide +kernel
theorem d_142_59 : decode M_142.2.2.1 59 = .ok (.iload 5, 2) := by decide +kernel
theorem d_142_61 : decode M_142.2.2.1 61 = .ok (.ishl, 1) := by decide +kernel
theorem d_142_62 : decode M_142.2.2.1 62 = .ok (.ior, 1) := by decide +kernel
theorem d_142_63 : decode M_142.2.2.1 63 = .ok (.istore 4, 2) := by decide +kernel
theorem d_142_65 : decode M_142.2.2.1 65 = .ok (.iinc 3 (-1), 3) := by decide +kernel
theorem d_142_68 : decode M_142.2.2.1 68 = .ok (.iinc 6 1, 3) := by decide +kernel
theorem d_142_71 : decode M_142.2.2.1 71 = .ok (.goto (-39), 3) := by decide +kernel
theorem d_142_74 : decode M_142.2.2.1 74 = .ok (.iload 5, 2) := by decide +kernel
theorem d_142_76 : decode M_142.2.2.1 76 = .ok (.ireturn, 1) := by decide +kernel
/-- HeardBarrels$Buyers.leastPlace(LHeardBarrels$Row;III)I -/
def M_143 : am_MT := (2, ⟨"HeardBarrels$Buyers", "leastPlace", "(LHeardBarrels$Row;III)I"⟩, prog_2_method_6_code, 6, some .int, false, 4, (0, 0))
theorem hM_143 : am_ms[143]? = some M_143 := rfl
theorem d_143_0 : decode M_143.2.2.1 0 = .ok (.iconst 0, 1) := by decide +kernel
theorem d_143_1 : decode M_143.2.2.1 1 = .ok (.istore 5, 2) := by decide +kernel
theorem d_143_3 : decode M_143.2.2.1 3 = .ok (.iload 5, 2) := by decide +kernel
theorem d_143_5 : decode M_143.2.2.1 5 = .ok (.aload_n 0, 1) := by decide +kernel
theorem d_143_6 : decode M_143.2.2.1 6 = .ok (.getfield 18, 3) := by decide +kernel
theorem d_143_9 : decode M_143.2.2.1 9 = .ok (.getfield 31, 3) := by decide +kernel
theorem d_143_12 : decode M_143.2.2.1 12 = .ok (.if_icmp .ge 45, 3) := by decide +kernel
theorem d_143_15 : decode M_143.2.2.1 15 = .ok (.aload_n 0, 1) := by decide +kernel
theorem d_143_16 : decode M_143.2.2.1 16 = .ok (.aload_n 1, 1) := by decide +kernel
theorem d_143_17 : decode M_143.2.2.1 17 = .ok (.iload_n 2, 1) := by decide +kernel
theorem d_143_18 : decode M_143.2.2.1 18 = .ok (.iload 5, 2) := by decide +kernel
theorem d_143_20 : decode M_143.2.2.1 20 = .ok (.iload_n 3, 1) := by decide +kernel
theorem d_143_21 : decode M_143.2.2.1 21 = .ok (.invokevirtual 71, 3) := by decide +kernel
theorem d_143_24 : decode M_143.2.2.1 24 = .ok (.ifCond .eq 27, 3) := by decide +kernel
theorem d_143_27 : decode M_143.2.2.1 27 = .ok (.aload_n 0, 1) := by decide +kernel
theorem d_143_28 : decode M_143.2.2.1 28 = .ok (.aload_n 1, 1) := by decide +kernel
theorem d_143_29 : decode M_143.2.2.1 29 = .ok (.iload_n 2, 1) := by decide +kernel
theorem d_143_30 : decode M_143.2.2.1 30 = .ok (.iconst 1, 1) := by decide +kernel
theorem d_143_31 : decode M_143.2.2.1 31 = .ok (.iadd, 1) := by decide +kernel
theorem d_143_32 : decode M_143.2.2.1 32 = .ok (.iload_n 3, 1) := by decide +kernel
theorem d_143_33 : decode M_143.2.2.1 33 = .ok (.iconst 1, 1) := by decide +kernel
theorem d_143_34 : decode M_143.2.2.1 34 = .ok (.iload 5, 2) := by decide +kernel
theorem d_143_36 : decode M_143.2.2.1 36 = .ok (.ishl, 1) := by decide +kernel
theorem d_143_37 : decode M_143.2.2.1 37 = .ok (.ior, 1) := by decide +kernel
theorem d_143_38 : decode M_143.2.2.1 38 = .ok (.invokevirtual 45, 3) := by decide +kernel
theorem d_143_41 : decode M_143.2.2.1 41 = .ok (.iconst 1, 1) := by decide +kernel
theorem d_143_42 : decode M_143.2.2.1 42 = .ok (.iadd, 1) := by decide +kernel
theorem d_143_43 : decode M_143.2.2.1 43 = .ok (.iload 4, 2) := by decide +kernel
theorem d_143_45 : decode M_143.2.2.1 45 = .ok (.if_icmp .ne 6, 3) := by decide +kernel
theorem d_143_48 : decode M_143.2.2.1 48 = .ok (.iload 5, 2) := by decide +kernel
theorem d_143_50 : decode M_143.2.2.1 50 = .ok (.ireturn, 1) := by decide +kernel
theorem d_143_51 : decode M_143.2.2.1 51 = .ok (.iinc 5 1, 3) := by decide +kernel
theorem d_143_54 : decode M_143.2.2.1 54 = .ok (.goto (-51), 3) := by decide +kernel
theorem d_143_57 : decode M_143.2.2.1 57 = .ok (.iconst (-1), 1) := by decide +kernel
theorem d_143_58 : decode M_143.2.2.1 58 = .ok (.ireturn, 1) := by decide +kernel
/-- HeardBarrels$Layer.looks()Z -/
def M_145 : am_MT := (5, ⟨"HeardBarrels$Layer", "looks", "()Z"⟩, prog_5_method_2_code, 2, some .boolean, false, 0, (0, 0))
theorem hM_145 : am_ms[145]? = some M_145 := rfl
theorem d_145_0 : decode M_145.2.2.1 0 = .ok (.aload_n 0, 1) := by decide +kernel
theorem d_145_1 : decode M_145.2.2.1 1 = .ok (.iconst 0, 1) := by decide +kernel
theorem d_145_2 : decode M_145.2.2.1 2 = .ok (.putfield 25, 3) := by decide +kernel
theorem d_145_5 : decode M_145.2.2.1 5 = .ok (.iconst 0, 1) := by decide +kernel
theorem d_145_6 : decode M_145.2.2.1 6 = .ok (.istore_n 1, 1) := by decide +kernel
theorem d_145_7 : decode M_145.2.2.1 7 = .ok (.iload_n 1, 1) := by decide +kernel
theorem d_145_8 : decode M_145.2.2.1 8 = .ok (.aload_n 0, 1) := by decide +kernel
theorem d_145_9 : decode M_145.2.2.1 9 = .ok (.getfield 21, 3) := by decide +kernel
theorem d_145_12 : decode M_145.2.2.1 12 = .ok (.getfield 29, 3) := by decide +kernel
theorem d_145_15 : decode M_145.2.2.1 15 = .ok (.if_icmp .ge 73, 3) := by decide +kernel
theorem d_145_18 : decode M_145.2.2.1 18 = .ok (.aload_n 0, 1) := by decide +kernel
theorem d_145_19 : decode M_145.2.2.1 19 = .ok (.getfield 21, 3) := by decide +kernel
theorem d_145_22 : decode M_145.2.2.1 22 = .ok (.getfield 34, 3) := by decide +kernel
theorem d_145_25 : decode M_145.2.2.1 25 = .ok (.iload_n 1, 1) := by decide +kernel
theorem d_145_26 : decode M_145.2.2.1 26 = .ok (.iaload, 1) := by decide +kernel
theorem d_145_27 : decode M_145.2.2.1 27 = .ok (.iconst 3, 1) := by decide +kernel
theorem d_145_28 : decode M_145.2.2.1 28 = .ok (.if_icmp .ne 6, 3) := by decide +kernel
theorem d_145_31 : decode M_145.2.2.1 31 = .ok (.goto 51, 3) := by decide +kernel
theorem d_145_34 : decode M_145.2.2.1 34 = .ok (.aload_n 0, 1) := by decide +kernel
theorem d_145_35 : decode M_145.2.2.1 35 = .ok (.getfield 25, 3) := by decide +kernel
theorem d_145_38 : decode M_145.2.2.1 38 = .ok (.bipush 8, 2) := by decide +kernel
theorem d_145_40 : decode M_145.2.2.1 40 = .ok (.if_icmp .lt 5, 3) := by decide +kernel
theorem d_145_43 : decode M_145.2.2.1 43 = .ok (.iconst 0, 1) := by decide +kernel
theorem d_145_44 : decode M_145.2.2.1 44 = .ok (.ireturn, 1) := by decide +kernel
theorem d_145_45 : decode M_145.2.2.1 45 = .ok (.aload_n 0, 1) := by decide +kernel
theorem d_145_46 : decode M_145.2.2.1 46 = .ok (.getfield 11, 3) := by decide +kernel
theorem d_145_49 : decode M_145.2.2.1 49 = .ok (.aload_n 0, 1) := by decide +kernel
theorem d_145_50 : decode M_145.2.2.1 50 = .ok (.getfield 25, 3) := by decide +kernel
theorem d_145_53 : decode M_145.2.2.1 53 = .ok (.iload_n 1, 1) := by decide +kernel
theorem d_145_54 : decode M_145.2.2.1 54 = .ok (.iastore, 1) := by decide +kernel
theorem d_145_55 : decode M_145.2.2.1 55 = .ok (.aload_n 0, 1) := by decide +kernel
theorem d_145_56 : decode M_145.2.2.1 56 = .ok (.getfield 15, 3) := by decide +kernel
theorem d_145_59 : decode M_145.2.2.1 59 = .ok (.aload_n 0, 1) := by decide +kernel
theorem d_145_60 : decode M_145.2.2.1 60 = .ok (.getfield 25, 3) := by decide +kernel
theorem d_145_63 : decode M_145.2.2.1 63 = .ok (.aload_n 0, 1) := by decide +kernel
theorem d_145_64 : decode M_145.2.2.1 64 = .ok (.getfield 21, 3) := by decide +kernel
theorem d_145_67 : decode M_145.2.2.1 67 = .ok (.iload_n 1, 1) := by decide +kernel
theorem d_145_68 : decode M_145.2.2.1 68 = .ok (.invokevirtual 37, 3) := by decide +kernel
theorem d_145_71 : decode M_145.2.2.1 71 = .ok (.iastore, 1) := by decide +kernel
theorem d_145_72 : decode M_145.2.2.1 72 = .ok (.aload_n 0, 1) := by decide +kernel
theorem d_145_73 : decode M_145.2.2.1 73 = .ok (.dup, 1) := by decide +kernel
theorem d_145_74 : decode M_145.2.2.1 74 = .ok (.getfield 25, 3) := by decide +kernel
theorem d_145_77 : decode M_145.2.2.1 77 = .ok (.iconst 1, 1) := by decide +kernel
theorem d_145_78 : decode M_145.2.2.1 78 = .ok (.iadd, 1) := by decide +kernel
theorem d_145_79 : decode M_145.2.2.1 79 = .ok (.putfield 25, 3) := by decide +kernel
theorem d_145_82 : decode M_145.2.2.1 82 = .ok (.iinc 1 1, 3) := by decide +kernel
theorem d_145_85 : decode M_145.2.2.1 85 = .ok (.goto (-78), 3) := by decide +kernel
theorem d_145_88 : decode M_145.2.2.1 88 = .ok (.iconst 1, 1) := by decide +kernel
theorem d_145_89 : decode M_145.2.2.1 89 = .ok (.ireturn, 1) := by decide +kernel
/-- HeardBarrels$Layer.leastDifference()I -/
def M_146 : am_MT := (5, ⟨"HeardBarrels$Layer", "leastDifference", "()I"⟩, prog_5_method_3_code, 2, some .int, false, 0, (0, 0))
theorem hM_146 : am_ms[146]? = some M_146 := rfl
theorem d_146_0 : decode M_146.2.2.1 0 = .ok (.aload_n 0, 1) := by decide +kernel
theorem d_146_1 : decode M_146.2.2.1 1 = .ok (.invokevirtual 41, 3) := by decide +kernel
theorem d_146_4 : decode M_146.2.2.1 4 = .ok (.istore_n 1, 1) := by decide +kernel
theorem d_146_5 : decode M_146.2.2.1 5 = .ok (.iload_n 1, 1) := by decide +kernel
theorem d_146_6 : decode M_146.2.2.1 6 = .ok (.sipush 1000, 3) := by decide +kernel
theorem d_146_9 : decode M_146.2.2.1 9 = .ok (.if_icmp .lt 7, 3) := by decide +kernel
theorem d_146_12 : decode M_146.2.2.1 12 = .ok (.iconst (-1), 1) := by decide +kernel
theorem d_146_13 : decode M_146.2.2.1 13 = .ok (.goto 4, 3) := by decide +kernel
theorem d_146_16 : decode M_146.2.2.1 16 = .ok (.iload_n 1, 1) := by decide +kernel
theorem d_146_17 : decode M_146.2.2.1 17 = .ok (.ireturn, 1) := by decide +kernel
/-- HeardBarrels$Layer.tryAll()I -/
def M_147 : am_MT := (5, ⟨"HeardBarrels$Layer", "tryAll", "()I"⟩, prog_5_method_6_code, 4, some .int, false, 0, (0, 0))
theorem hM_147 : am_ms[147]? = some M_147 := rfl
theorem d_147_0 : decode M_147.2.2.1 0 = .ok (.iconst 1, 1) := by decide +kernel
theorem d_147_1 : decode M_147.2.2.1 1 = .ok (.aload_n 0, 1) := by decide +kernel
theorem d_147_2 : decode M_147.2.2.1 2 = .ok (.getfield 25, 3) := by decide +kernel
theorem d_147_5 : decode M_147.2.2.1 5 = .ok (.ishl, 1) := by decide +kernel
theorem d_147_6 : decode M_147.2.2.1 6 = .ok (.iconst 1, 1) := by decide +kernel
theorem d_147_7 : decode M_147.2.2.1 7 = .ok (.isub, 1) := by decide +kernel
theorem d_147_8 : decode M_147.2.2.1 8 = .ok (.istore_n 1, 1) := by decide +kernel
theorem d_147_9 : decode M_147.2.2.1 9 = .ok (.iload_n 1, 1) := by decide +kernel
theorem d_147_10 : decode M_147.2.2.1 10 = .ok (.istore_n 2, 1) := by decide +kernel
theorem d_147_11 : decode M_147.2.2.1 11 = .ok (.iload_n 2, 1) := by decide +kernel
theorem d_147_12 : decode M_147.2.2.1 12 = .ok (.ifCond .le 61, 3) := by decide +kernel
theorem d_147_15 : decode M_147.2.2.1 15 = .ok (.iconst 0, 1) := by decide +kernel
theorem d_147_16 : decode M_147.2.2.1 16 = .ok (.istore_n 3, 1) := by decide +kernel
theorem d_147_17 : decode M_147.2.2.1 17 = .ok (.iload_n 3, 1) := by decide +kernel
theorem d_147_18 : decode M_147.2.2.1 18 = .ok (.aload_n 0, 1) := by decide +kernel
theorem d_147_19 : decode M_147.2.2.1 19 = .ok (.getfield 25, 3) := by decide +kernel
theorem d_147_22 : decode M_147.2.2.1 22 = .ok (.if_icmp .ge 45, 3) := by decide +kernel
theorem d_147_25 : decode M_147.2.2.1 25 = .ok (.iload_n 2, 1) := by decide +kernel
theorem d_147_26 : decode M_147.2.2.1 26 = .ok (.iload_n 3, 1) := by decide +kernel
theorem d_147_27 : decode M_147.2.2.1 27 = .ok (.ishr, 1) := by decide +kernel
theorem d_147_28 : decode M_147.2.2.1 28 = .ok (.iconst 1, 1) := by decide +kernel
theorem d_147_29 : decode M_147.2.2.1 29 = .ok (.iand, 1) := by decide +kernel
theorem d_147_30 : decode M_147.2.2.1 30 = .ok (.ifCond .eq 31, 3) := by decide +kernel
theorem d_147_33 : decode M_147.2.2.1 33 = .ok (.aload_n 0, 1) := by decide +kernel
theorem d_147_34 : decode M_147.2.2.1 34 = .ok (.getfield 18, 3) := by decide +kernel
theorem d_147_37 : decode M_147.2.2.1 37 = .ok (.iload_n 2, 1) := by decide +kernel
theorem d_147_38 : decode M_147.2.2.1 38 = .ok (.bipush 8, 2) := by decide +kernel
theorem d_147_40 : decode M_147.2.2.1 40 = .ok (.imul, 1) := by decide +kernel
theorem d_147_41 : decode M_147.2.2.1 41 = .ok (.iload_n 3, 1) := by decide +kernel
theorem d_147_42 : decode M_147.2.2.1 42 = .ok (.iadd, 1) := by decide +kernel
theorem d_147_43 : decode M_147.2.2.1 43 = .ok (.iload_n 2, 1) := by decide +kernel
theorem d_147_44 : decode M_147.2.2.1 44 = .ok (.iload_n 1, 1) := by decide +kernel
theorem d_147_45 : decode M_147.2.2.1 45 = .ok (.if_icmp .ne 9, 3) := by decide +kernel
theorem d_147_48 : decode M_147.2.2.1 48 = .ok (.sipush 1000, 3) := by decide +kernel
theorem d_147_51 : decode M_147.2.2.1 51 = .ok (.goto 9, 3) := by decide +kernel
theorem d_147_54 : decode M_147.2.2.1 54 = .ok (.aload_n 0, 1) := by decide +kernel
theorem d_147_55 : decode M_147.2.2.1 55 = .ok (.iload_n 2, 1) := by decide +kernel
theorem d_147_56 : decode M_147.2.2.1 56 = .ok (.iload_n 3, 1) := by decide +kernel
theorem d_147_57 : decode M_147.2.2.1 57 = .ok (.invokevirtual 52, 3) := by decide +kernel
theorem d_147_60 : decode M_147.2.2.1 60 = .ok (.iastore, 1) := by decide +kernel
theorem d_147_61 : decode M_147.2.2.1 61 = .ok (.iinc 3 1, 3) := by decide +kernel
theorem d_147_64 : decode M_147.2.2.1 64 = .ok (.goto (-47), 3) := by decide +kernel
theorem d_147_67 : decode M_147.2.2.1 67 = .ok (.iinc 2 (-1), 3) := by decide +kernel
theorem d_147_70 : decode M_147.2.2.1 70 = .ok (.goto (-59), 3) := by decide +kernel
theorem d_147_73 : decode M_147.2.2.1 73 = .ok (.aload_n 0, 1) := by decide +kernel
theorem d_147_74 : decode M_147.2.2.1 74 = .ok (.getfield 25, 3) := by decide +kernel
theorem d_147_77 : decode M_147.2.2.1 77 = .ok (.ifCond .ne 9, 3) := by decide +kernel
theorem d_147_80 : decode M_147.2.2.1 80 = .ok (.sipush 1000, 3) := by decide +kernel
theorem d_147_83 : decode M_147.2.2.1 83 = .ok (.goto 9, 3) := by decide +kernel
theorem d_147_86 : decode M_147.2.2.1 86 = .ok (.aload_n 0, 1) := by decide +kernel
theorem d_147_87 : decode M_147.2.2.1 87 = .ok (.iconst 0, 1) := by decide +kernel
theorem d_147_88 : decode M_147.2.2.1 88 = .ok (.iconst (-1), 1) := by decide +kernel
theorem d_147_89 : decode M_147.2.2.1 89 = .ok (.invokevirtual 52, 3) := by decide +kernel
theorem d_147_92 : decode M_147.2.2.1 92 = .ok (.ireturn, 1) := by decide +kernel
/-- HeardBarrels$Layer.bestBehind(II)I -/
def M_148 : am_MT := (5, ⟨"HeardBarrels$Layer", "bestBehind", "(II)I"⟩, prog_5_method_7_code, 5, some .int, false, 2, (0, 0))
theorem hM_148 : am_ms[148]? = some M_148 := rfl
theorem d_148_0 : decode M_148.2.2.1 0 = .ok (.iconst 0, 1) := by decide +kernel
theorem d_148_1 : decode M_148.2.2.1 1 = .ok (.istore_n 3, 1) := by decide +kernel
theorem d_148_2 : decode M_148.2.2.1 2 = .ok (.iconst 0, 1) := by decide +kernel
theorem d_148_3 : decode M_148.2.2.1 3 = .ok (.istore 4, 2) := by decide +kernel
theorem d_148_5 : decode M_148.2.2.1 5 = .ok (.iload 4, 2) := by decide +kernel
theorem d_148_7 : decode M_148.2.2.1 7 = .ok (.aload_n 0, 1) := by decide +kernel
theorem d_148_8 : decode M_148.2.2.1 8 = .ok (.getfield 25, 3) := by decide +kernel
theorem d_148_11 : decode M_148.2.2.1 11 = .ok (.if_icmp .ge 31, 3) := by decide +kernel
theorem d_148_14 : decode M_148.2.2.1 14 = .ok (.iload_n 1, 1) := by decide +kernel
theorem d_148_15 : decode M_148.2.2.1 15 = .ok (.iload 4, 2) := by decide +kernel
theorem d_148_17 : decode M_148.2.2.1 17 = .ok (.ishr, 1) := by decide +kernel
theorem d_148_18 : decode M_148.2.2.1 18 = .ok (.iconst 1, 1) := by decide +kernel
theorem d_148_19 : decode M_148.2.2.1 19 = .ok (.iand, 1) := by decide +kernel
theorem d_148_20 : decode M_148.2.2.1 20 = .ok (.ifCond .ne 16, 3) := by decide +kernel
theorem d_148_23 : decode M_148.2.2.1 23 = .ok (.iload_n 3, 1) := by decide +kernel
theorem d_148_24 : decode M_148.2.2.1 24 = .ok (.aload_n 0, 1) := by decide +kernel
theorem d_148_25 : decode M_148.2.2.1 25 = .ok (.iload_n 1, 1) := by decide +kernel
theorem d_148_26 : decode M_148.2.2.1 26 = .ok (.iload_n 2, 1) := by decide +kernel
theorem d_148_27 : decode M_148.2.2.1 27 = .ok (.iload 4, 2) := by decide +kernel
theorem d_148_29 : decode M_148.2.2.1 29 = .ok (.invokevirtual 49, 3) := by decide +kernel
theorem d_148_32 : decode M_148.2.2.1 32 = .ok (.invokestatic 56, 3) := by decide +kernel
theorem d_148_35 : decode M_148.2.2.1 35 = .ok (.istore_n 3, 1) := by decide +kernel
theorem d_148_36 : decode M_148.2.2.1 36 = .ok (.iinc 4 1, 3) := by decide +kernel
theorem d_148_39 : decode M_148.2.2.1 39 = .ok (.goto (-34), 3) := by decide +kernel
theorem d_148_42 : decode M_148.2.2.1 42 = .ok (.iload_n 3, 1) := by decide +kernel
theorem d_148_43 : decode M_148.2.2.1 43 = .ok (.ireturn, 1) := by decide +kernel
/-- HeardBarrels$Layer.differenceWith(III)I -/
def M_149 : am_MT := (5, ⟨"HeardBarrels$Layer", "differenceWith", "(III)I"⟩, prog_5_method_8_code, 6, some .int, false, 3, (0, 0))
theorem hM_149 : am_ms[149]? = some M_149 := rfl
theorem d_149_0 : decode M_149.2.2.1 0 = .ok (.aload_n 0, 1) := by decide +kernel
theorem d_149_1 : decode M_149.2.2.1 1 = .ok (.getfield 18, 3) := by decide +kernel
theorem d_149_4 : decode M_149.2.2.1 4 = .ok (.iload_n 1, 1) := by decide +kernel
theorem d_149_5 : decode M_149.2.2.1 5 = .ok (.iconst 1, 1) := by decide +kernel
theorem d_149_6 : decode M_149.2.2.1 6 = .ok (.iload_n 3, 1) := by decide +kernel
theorem d_149_7 : decode M_149.2.2.1 7 = .ok (.ishl, 1) := by decide +kernel
theorem d_149_8 : decode M_149.2.2.1 8 = .ok (.ior, 1) := by decide +kernel
theorem d_149_9 : decode M_149.2.2.1 9 = .ok (.bipush 8, 2) := by decide +kernel
theorem d_149_11 : decode M_149.2.2.1 11 = .ok (.imul, 1) := by decide +kernel
theorem d_149_12 : decode M_149.2.2.1 12 = .ok (.iload_n 3, 1) := by decide +kernel
theorem d_149_13 : decode M_149.2.2.1 13 = .ok (.iadd, 1) := by decide +kernel
theorem d_149_14 : decode M_149.2.2.1 14 = .ok (.iaload, 1) := by decide +kernel
theorem d_149_15 : decode M_149.2.2.1 15 = .ok (.istore 4, 2) := by decide +kernel
theorem d_149_17 : decode M_149.2.2.1 17 = .ok (.iload_n 1, 1) := by decide +kernel
theorem d_149_18 : decode M_149.2.2.1 18 = .ok (.invokestatic 61, 3) := by decide +kernel
theorem d_149_21 : decode M_149.2.2.1 21 = .ok (.istore 5, 2) := by decide +kernel
theorem d_149_23 : decode M_149.2.2.1 23 = .ok (.iload_n 2, 1) := by decide +kernel
theorem d_149_24 : decode M_149.2.2.1 24 = .ok (.ifCond .lt 39, 3) := by decide +kernel
theorem d_149_27 : decode M_149.2.2.1 27 = .ok (.iload 5, 2) := by decide +kernel
theorem d_149_29 : decode M_149.2.2.1 29 = .ok (.iconst 1, 1) := by decide +kernel
theorem d_149_30 : decode M_149.2.2.1 30 = .ok (.if_icmp .lt 33, 3) := by decide +kernel
theorem d_149_33 : decode M_149.2.2.1 33 = .ok (.iload 5, 2) := by decide +kernel
theorem d_149_35 : decode M_149.2.2.1 35 = .ok (.aload_n 0, 1) := by decide +kernel
theorem d_149_36 : decode M_149.2.2.1 36 = .ok (.getfield 25, 3) := by decide +kernel
theorem d_149_39 : decode M_149.2.2.1 39 = .ok (.if_icmp .ge 24, 3) := by decide +kernel
theorem d_149_42 : decode M_149.2.2.1 42 = .ok (.aload_n 0, 1) := by decide +kernel
theorem d_149_43 : decode M_149.2.2.1 43 = .ok (.getfield 11, 3) := by decide +kernel
theorem d_149_46 : decode M_149.2.2.1 46 = .ok (.iload 5, 2) := by decide +kernel
theorem d_149_48 : decode M_149.2.2.1 48 = .ok (.iaload, 1) := by decide +kernel
theorem d_149_49 : decode M_149.2.2.1 49 = .ok (.aload_n 0, 1) := by decide +kernel
theorem d_149_50 : decode M_149.2.2.1 50 = .ok (.getfield 11, 3) := by decide +kernel
theorem d_149_53 : decode M_149.2.2.1 53 = .ok (.iload 5, 2) := by decide +kernel
theorem d_149_55 : decode M_149.2.2.1 55 = .ok (.iconst 1, 1) := by decide +kernel
theorem d_149_56 : decode M_149.2.2.1 56 = .ok (.isub, 1) := by decide +kernel
theorem d_149_57 : decode M_149.2.2.1 57 = .ok (.iaload, 1) := by decide +kernel
theorem d_149_58 : decode M_149.2.2.1 58 = .ok (.iconst 1, 1) := by decide +kernel
theorem d_149_59 : decode M_149.2.2.1 59 = .ok (.iadd, 1) := by decide +kernel
theorem d_149_60 : decode M_149.2.2.1 60 = .ok (.if_icmp .eq 6, 3) := by decide +kernel
theorem d_149_63 : decode M_149.2.2.1 63 = .ok (.iload 4, 2) := by decide +kernel
theorem d_149_65 : decode M_149.2.2.1 65 = .ok (.ireturn, 1) := by decide +kernel
theorem d_149_66 : decode M_149.2.2.1 66 = .ok (.iload 4, 2) := by decide +kernel
theorem d_149_68 : decode M_149.2.2.1 68 = .ok (.aload_n 0, 1) := by decide +kernel
theorem d_149_69 : decode M_149.2.2.1 69 = .ok (.getfield 15, 3) := by decide +kernel
theorem d_149_72 : decode M_149.2.2.1 72 = .ok (.iload_n 2, 1) := by decide +kernel
theorem d_149_73 : decode M_149.2.2.1 73 = .ok (.iaload, 1) := by decide +kernel
theorem d_149_74 : decode M_149.2.2.1 74 = .ok (.aload_n 0, 1) := by decide +kernel
theorem d_149_75 : decode M_149.2.2.1 75 = .ok (.getfield 15, 3) := by decide +kernel
theorem d_149_78 : decode M_149.2.2.1 78 = .ok (.iload_n 3, 1) := by decide +kernel
theorem d_149_79 : decode M_149.2.2.1 79 = .ok (.iaload, 1) := by decide +kernel
theorem d_149_80 : decode M_149.2.2.1 80 = .ok (.isub, 1) := by decide +kernel
theorem d_149_81 : decode M_149.2.2.1 81 = .ok (.invokestatic 66, 3) := by decide +kernel
theorem d_149_84 : decode M_149.2.2.1 84 = .ok (.invokestatic 69, 3) := by decide +kernel
theorem d_149_87 : decode M_149.2.2.1 87 = .ok (.ireturn, 1) := by decide +kernel
/-- HeardBarrels$Layer.comesTo(I)I -/
def M_151 : am_MT := (5, ⟨"HeardBarrels$Layer", "comesTo", "(I)I"⟩, prog_5_method_4_code, 6, some .int, false, 1, (0, 0))
theorem hM_151 : am_ms[151]? = some M_151 := rfl
theorem d_151_0 : decode M_151.2.2.1 0 = .ok (.aload_n 0, 1) := by decide +kernel
theorem d_151_1 : decode M_151.2.2.1 1 = .ok (.invokevirtual 41, 3) := by decide +kernel
theorem d_151_4 : decode M_151.2.2.1 4 = .ok (.istore_n 2, 1) := by decide +kernel
theorem d_151_5 : decode M_151.2.2.1 5 = .ok (.iconst 0, 1) := by decide +kernel
theorem d_151_6 : decode M_151.2.2.1 6 = .ok (.istore_n 3, 1) := by decide +kernel
theorem d_151_7 : decode M_151.2.2.1 7 = .ok (.iconst (-1), 1) := by decide +kernel
theorem d_151_8 : decode M_151.2.2.1 8 = .ok (.istore 4, 2) := by decide +kernel
theorem d_151_10 : decode M_151.2.2.1 10 = .ok (.iconst 0, 1) := by decide +kernel
theorem d_151_11 : decode M_151.2.2.1 11 = .ok (.istore 5, 2) := by decide +kernel
theorem d_151_13 : decode M_151.2.2.1 13 = .ok (.iload 5, 2) := by decide +kernel
theorem d_151_15 : decode M_151.2.2.1 15 = .ok (.aload_n 0, 1) := by decide +kernel
theorem d_151_16 : decode M_151.2.2.1 16 = .ok (.getfield 25, 3) := by decide +kernel
theorem d_151_19 : decode M_151.2.2.1 19 = .ok (.if_icmp .ge 45, 3) := by decide +kernel
theorem d_151_22 : decode M_151.2.2.1 22 = .ok (.aload_n 0, 1) := by decide +kernel
theorem d_151_23 : decode M_151.2.2.1 23 = .ok (.iload_n 3, 1) := by decide +kernel
theorem d_151_24 : decode M_151.2.2.1 24 = .ok (.iload 4, 2) := by decide +kernel
theorem d_151_26 : decode M_151.2.2.1 26 = .ok (.iload_n 2, 1) := by decide +kernel
theorem d_151_27 : decode M_151.2.2.1 27 = .ok (.invokevirtual 45, 3) := by decide +kernel
theorem d_151_30 : decode M_151.2.2.1 30 = .ok (.istore 4, 2) := by decide +kernel
theorem d_151_32 : decode M_151.2.2.1 32 = .ok (.iload_n 3, 1) := by decide +kernel
theorem d_151_33 : decode M_151.2.2.1 33 = .ok (.iconst 1, 1) := by decide +kernel
theorem d_151_34 : decode M_151.2.2.1 34 = .ok (.iload 4, 2) := by decide +kernel
theorem d_151_36 : decode M_151.2.2.1 36 = .ok (.ishl, 1) := by decide +kernel
theorem d_151_37 : decode M_151.2.2.1 37 = .ok (.ior, 1) := by decide +kernel
theorem d_151_38 : decode M_151.2.2.1 38 = .ok (.istore_n 3, 1) := by decide +kernel
theorem d_151_39 : decode M_151.2.2.1 39 = .ok (.aload_n 0, 1) := by decide +kernel
theorem d_151_40 : decode M_151.2.2.1 40 = .ok (.getfield 11, 3) := by decide +kernel
theorem d_151_43 : decode M_151.2.2.1 43 = .ok (.iload 5, 2) := by decide +kernel
theorem d_151_45 : decode M_151.2.2.1 45 = .ok (.iaload, 1) := by decide +kernel
theorem d_151_46 : decode M_151.2.2.1 46 = .ok (.iload_n 1, 1) := by decide +kernel
theorem d_151_47 : decode M_151.2.2.1 47 = .ok (.if_icmp .ne 11, 3) := by decide +kernel
theorem d_151_50 : decode M_151.2.2.1 50 = .ok (.aload_n 0, 1) := by decide +kernel
theorem d_151_51 : decode M_151.2.2.1 51 = .ok (.getfield 11, 3) := by decide +kernel
theorem d_151_54 : decode M_151.2.2.1 54 = .ok (.iload 4, 2) := by decide +kernel
theorem d_151_56 : decode M_151.2.2.1 56 = .ok (.iaload, 1) := by decide +kernel
theorem d_151_57 : decode M_151.2.2.1 57 = .ok (.ireturn, 1) := by decide +kernel
theorem d_151_58 : decode M_151.2.2.1 58 = .ok (.iinc 5 1, 3) := by decide +kernel
theorem d_151_61 : decode M_151.2.2.1 61 = .ok (.goto (-48), 3) := by decide +kernel
theorem d_151_64 : decode M_151.2.2.1 64 = .ok (.iconst (-1), 1) := by decide +kernel
theorem d_151_65 : decode M_151.2.2.1 65 = .ok (.ireturn, 1) := by decide +kernel
/-- HeardBarrels$Layer.leastNext(III)I -/
def M_152 : am_MT := (5, ⟨"HeardBarrels$Layer", "leastNext", "(III)I"⟩, prog_5_method_5_code, 5, some .int, false, 3, (0, 0))
theorem hM_152 : am_ms[152]? = some M_152 := rfl
theorem d_152_0 : decode M_152.2.2.1 0 = .ok (.iconst 0, 1) := by decide +kernel
theorem d_152_1 : decode M_152.2.2.1 1 = .ok (.istore 4, 2) := by decide +kernel
theorem d_152_3 : decode M_152.2.2.1 3 = .ok (.iload 4, 2) := by decide +kernel
theorem d_152_5 : decode M_152.2.2.1 5 = .ok (.aload_n 0, 1) := by decide +kernel
theorem d_152_6 : decode M_152.2.2.1 6 = .ok (.getfield 25, 3) := by decide +kernel
theorem d_152_9 : decode M_152.2.2.1 9 = .ok (.if_icmp .ge 33, 3) := by decide +kernel
theorem d_152_12 : decode M_152.2.2.1 12 = .ok (.iload_n 1, 1) := by decide +kernel
theorem d_152_13 : decode M_152.2.2.1 13 = .ok (.iload 4, 2) := by decide +kernel
theorem d_152_15 : decode M_152.2.2.1 15 = .ok (.ishr, 1) := by decide +kernel
theorem d_152_16 : decode M_152.2.2.1 16 = .ok (.iconst 1, 1) := by decide +kernel
theorem d_152_17 : decode M_152.2.2.1 17 = .ok (.iand, 1) := by decide +kernel
theorem d_152_18 : decode M_152.2.2.1 18 = .ok (.ifCond .ne 18, 3) := by decide +kernel
theorem d_152_21 : decode M_152.2.2.1 21 = .ok (.aload_n 0, 1) := by decide +kernel
theorem d_152_22 : decode M_152.2.2.1 22 = .ok (.iload_n 1, 1) := by decide +kernel
theorem d_152_23 : decode M_152.2.2.1 23 = .ok (.iload_n 2, 1) := by decide +kernel
theorem d_152_24 : decode M_152.2.2.1 24 = .ok (.iload 4, 2) := by decide +kernel
theorem d_152_26 : decode M_152.2.2.1 26 = .ok (.invokevirtual 49, 3) := by decide +kernel
theorem d_152_29 : decode M_152.2.2.1 29 = .ok (.iload_n 3, 1) := by decide +kernel
theorem d_152_30 : decode M_152.2.2.1 30 = .ok (.if_icmp .lt 6, 3) := by decide +kernel
theorem d_152_33 : decode M_152.2.2.1 33 = .ok (.iload 4, 2) := by decide +kernel
theorem d_152_35 : decode M_152.2.2.1 35 = .ok (.ireturn, 1) := by decide +kernel
theorem d_152_36 : decode M_152.2.2.1 36 = .ok (.iinc 4 1, 3) := by decide +kernel
theorem d_152_39 : decode M_152.2.2.1 39 = .ok (.goto (-36), 3) := by decide +kernel
theorem d_152_42 : decode M_152.2.2.1 42 = .ok (.iconst 0, 1) := by decide +kernel
theorem d_152_43 : decode M_152.2.2.1 43 = .ok (.ireturn, 1) := by decide +kernel
/-- HeardBarrels$Row.become(II)V -/
def M_154 : am_MT := (7, ⟨"HeardBarrels$Row", "become", "(II)V"⟩, prog_7_method_3_code, 3, none, false, 2, (0, 0))
theorem hM_154 : am_ms[154]? = some M_154 := rfl
theorem d_154_0 : decode M_154.2.2.1 0 = .ok (.iload_n 2, 1) := by decide +kernel
theorem d_154_1 : decode M_154.2.2.1 1 = .ok (.ifCond .lt 9, 3) := by decide +kernel
theorem d_154_4 : decode M_154.2.2.1 4 = .ok (.iload_n 2, 1) := by decide +kernel
theorem d_154_5 : decode M_154.2.2.1 5 = .ok (.bipush 40, 2) := by decide +kernel
theorem d_154_7 : decode M_154.2.2.1 7 = .ok (.if_icmp .le 4, 3) := by decide +kernel
theorem d_154_10 : decode M_154.2.2.1 10 = .ok (.return_, 1) := by decide +kernel
theorem d_154_11 : decode M_154.2.2.1 11 = .ok (.aload_n 0, 1) := by decide +kernel
theorem d_154_12 : decode M_154.2.2.1 12 = .ok (.iload_n 1, 1) := by decide +kernel
theorem d_154_13 : decode M_154.2.2.1 13 = .ok (.putfield 19, 3) := by decide +kernel
theorem d_154_16 : decode M_154.2.2.1 16 = .ok (.aload_n 0, 1) := by decide +kernel
theorem d_154_17 : decode M_154.2.2.1 17 = .ok (.iload_n 2, 1) := by decide +kernel
theorem d_154_18 : decode M_154.2.2.1 18 = .ok (.putfield 15, 3) := by decide +kernel
theorem d_154_21 : decode M_154.2.2.1 21 = .ok (.aload_n 0, 1) := by decide +kernel
theorem d_154_22 : decode M_154.2.2.1 22 = .ok (.getfield 9, 3) := by decide +kernel
theorem d_154_25 : decode M_154.2.2.1 25 = .ok (.lconst 0, 1) := by decide +kernel
theorem d_154_26 : decode M_154.2.2.1 26 = .ok (.invokestatic 22, 3) := by decide +kernel
theorem d_154_29 : decode M_154.2.2.1 29 = .ok (.return_, 1) := by decide +kernel
/-- HeardBarrels$Row.keep(IJ)V -/
def M_157 : am_MT := (7, ⟨"HeardBarrels$Row", "keep", "(IJ)V"⟩, prog_7_method_5_code, 4, none, false, 2, (0, 0))
theorem hM_157 : am_ms[157]? = some M_157 := rfl
theorem d_157_0 : decode M_157.2.2.1 0 = .ok (.iload_n 1, 1) := by decide +kernel
theorem d_157_1 : decode M_157.2.2.1 1 = .ok (.ifCond .lt 11, 3) := by decide +kernel
theorem d_157_4 : decode M_157.2.2.1 4 = .ok (.iload_n 1, 1) := by decide +kernel
theorem d_157_5 : decode M_157.2.2.1 5 = .ok (.aload_n 0, 1) := by decide +kernel
theorem d_157_6 : decode M_157.2.2.1 6 = .ok (.getfield 15, 3) := by decide +kernel
theorem d_157_9 : decode M_157.2.2.1 9 = .ok (.if_icmp .lt 4, 3) := by decide +kernel
theorem d_157_12 : decode M_157.2.2.1 12 = .ok (.return_, 1) := by decide +kernel
theorem d_157_13 : decode M_157.2.2.1 13 = .ok (.aload_n 0, 1) := by decide +kernel
theorem d_157_14 : decode M_157.2.2.1 14 = .ok (.getfield 19, 3) := by decide +kernel
theorem d_157_17 : decode M_157.2.2.1 17 = .ok (.tableswitch 65 0 2 #[27, 40, 53], 27) := by decide +kernel
theorem d_157_44 : decode M_157.2.2.1 44 = .ok (.aload_n 0, 1) := by decide +kernel
theorem d_157_45 : decode M_157.2.2.1 45 = .ok (.getfield 9, 3) := by decide +kernel
theorem d_157_48 : decode M_157.2.2.1 48 = .ok (.iload_n 1, 1) := by decide +kernel
theorem d_157_49 : decode M_157.2.2.1 49 = .ok (.lload_n 2, 1) := by decide +kernel
theorem d_157_50 : decode M_157.2.2.1 50 = .ok (.l2i, 1) := by decide +kernel
theorem d_157_51 : decode M_157.2.2.1 51 = .ok (.i2b, 1) := by decide +kernel
theorem d_157_52 : decode M_157.2.2.1 52 = .ok (.i2l, 1) := by decide +kernel
theorem d_157_53 : decode M_157.2.2.1 53 = .ok (.lastore, 1) := by decide +kernel
theorem d_157_54 : decode M_157.2.2.1 54 = .ok (.goto 35, 3) := by decide +kernel
theorem d_157_57 : decode M_157.2.2.1 57 = .ok (.aload_n 0, 1) := by decide +kernel
theorem d_157_58 : decode M_157.2.2.1 58 = .ok (.getfield 9, 3) := by decide +kernel
theorem d_157_61 : decode M_157.2.2.1 61 = .ok (.iload_n 1, 1) := by decide +kernel
theorem d_157_62 : decode M_157.2.2.1 62 = .ok (.lload_n 2, 1) := by decide +kernel
theorem d_157_63 : decode M_157.2.2.1 63 = .ok (.l2i, 1) := by decide +kernel
theorem d_157_64 : decode M_157.2.2.1 64 = .ok (.i2s, 1) := by decide +kernel
theorem d_157_65 : decode M_157.2.2.1 65 = .ok (.i2l, 1) := by decide +kernel
theorem d_157_66 : decode M_157.2.2.1 66 = .ok (.lastore, 1) := by decide +kernel
theorem d_157_67 : decode M_157.2.2.1 67 = .ok (.goto 22, 3) := by decide +kernel
theorem d_157_70 : decode M_157.2.2.1 70 = .ok (.aload_n 0, 1) := by decide +kernel
theorem d_157_71 : decode M_157.2.2.1 71 = .ok (.getfield 9, 3) := by decide +kernel
theorem d_157_74 : decode M_157.2.2.1 74 = .ok (.iload_n 1, 1) := by decide +kernel
theorem d_157_75 : decode M_157.2.2.1 75 = .ok (.lload_n 2, 1) := by decide +kernel
theorem d_157_76 : decode M_157.2.2.1 76 = .ok (.l2i, 1) := by decide +kernel
theorem d_157_77 : decode M_157.2.2.1 77 = .ok (.i2l, 1) := by decide +kernel
theorem d_157_78 : decode M_157.2.2.1 78 = .ok (.lastore, 1) := by decide +kernel
theorem d_157_79 : decode M_157.2.2.1 79 = .ok (.goto 10, 3) := by decide +kernel
theorem d_157_82 : decode M_157.2.2.1 82 = .ok (.aload_n 0, 1) := by decide +kernel
theorem d_157_83 : decode M_157.2.2.1 83 = .ok (.getfield 9, 3) := by decide +kernel
theorem d_157_86 : decode M_157.2.2.1 86 = .ok (.iload_n 1, 1) := by decide +kernel
theorem d_157_87 : decode M_157.2.2.1 87 = .ok (.lload_n 2, 1) := by decide +kernel
theorem d_157_88 : decode M_157.2.2.1 88 = .ok (.lastore, 1) := by decide +kernel
theorem d_157_89 : decode M_157.2.2.1 89 = .ok (.return_, 1) := by decide +kernel
/-- HeardBarrels$Shelf.ripeOfAll()I -/
def M_162 : am_MT := (8, ⟨"HeardBarrels$Shelf", "ripeOfAll", "()I"⟩, prog_8_method_14_code, 3, some .int, false, 0, (0, 0))
theorem hM_162 : am_ms[162]? = some M_162 := rfl
theorem d_162_0 : decode M_162.2.2.1 0 = .ok (.iconst 0, 1) := by decide +kernel
theorem d_162_1 : decode M_162.2.2.1 1 = .ok (.istore_n 1, 1) := by decide +kernel
theorem d_162_2 : decode M_162.2.2.1 2 = .ok (.iconst 0, 1) := by decide +kernel
theorem d_162_3 : decode M_162.2.2.1 3 = .ok (.istore_n 2, 1) := by decide +kernel
theorem d_162_4 : decode M_162.2.2.1 4 = .ok (.iload_n 2, 1) := by decide +kernel
theorem d_162_5 : decode M_162.2.2.1 5 = .ok (.aload_n 0, 1) := by decide +kernel
theorem d_162_6 : decode M_162.2.2.1 6 = .ok (.getfield 27, 3) := by decide +kernel
theorem d_162_9 : decode M_162.2.2.1 9 = .ok (.if_icmp .ge 18, 3) := by decide +kernel
theorem d_162_12 : decode M_162.2.2.1 12 = .ok (.iload_n 1, 1) := by decide +kernel
theorem d_162_13 : decode M_162.2.2.1 13 = .ok (.aload_n 0, 1) := by decide +kernel
theorem d_162_14 : decode M_162.2.2.1 14 = .ok (.getfield 18, 3) := by decide +kernel
theorem d_162_17 : decode M_162.2.2.1 17 = .ok (.iload_n 2, 1) := by decide +kernel
theorem d_162_18 : decode M_162.2.2.1 18 = .ok (.iaload, 1) := by decide +kernel
theorem d_162_19 : decode M_162.2.2.1 19 = .ok (.iadd, 1) := by decide +kernel
theorem d_162_20 : decode M_162.2.2.1 20 = .ok (.istore_n 1, 1) := by decide +kernel
theorem d_162_21 : decode M_162.2.2.1 21 = .ok (.iinc 2 1, 3) := by decide +kernel
theorem d_162_24 : decode M_162.2.2.1 24 = .ok (.goto (-20), 3) := by decide +kernel
theorem d_162_27 : decode M_162.2.2.1 27 = .ok (.iload_n 1, 1) := by decide +kernel
theorem d_162_28 : decode M_162.2.2.1 28 = .ok (.ireturn, 1) := by decide +kernel
/-- HeardBarrels$Reader.firstWord()I -/
def M_259 : am_MT := (6, ⟨"HeardBarrels$Reader", "firstWord", "()I"⟩, prog_6_method_4_code, 2, some .int, false, 0, (0, 0))
set_option maxRecDepth 8000 in
theorem hM_259 : am_ms[259]? = some M_259 := rfl
theorem d_259_0 : decode M_259.2.2.1 0 = .ok (.iconst 0, 1) := by decide +kernel
theorem d_259_1 : decode M_259.2.2.1 1 = .ok (.istore_n 1, 1) := by decide +kernel
theorem d_259_2 : decode M_259.2.2.1 2 = .ok (.iload_n 1, 1) := by decide +kernel
theorem d_259_3 : decode M_259.2.2.1 3 = .ok (.bipush 6, 2) := by decide +kernel
theorem d_259_5 : decode M_259.2.2.1 5 = .ok (.if_icmp .gt 19, 3) := by decide +kernel
theorem d_259_8 : decode M_259.2.2.1 8 = .ok (.aload_n 0, 1) := by decide +kernel
theorem d_259_9 : decode M_259.2.2.1 9 = .ok (.iload_n 1, 1) := by decide +kernel
theorem d_259_10 : decode M_259.2.2.1 10 = .ok (.invokevirtual 76, 3) := by decide +kernel
theorem d_259_13 : decode M_259.2.2.1 13 = .ok (.ifCond .eq 5, 3) := by decide +kernel
theorem d_259_16 : decode M_259.2.2.1 16 = .ok (.iload_n 1, 1) := by decide +kernel
theorem d_259_17 : decode M_259.2.2.1 17 = .ok (.ireturn, 1) := by decide +kernel
theorem d_259_18 : decode M_259.2.2.1 18 = .ok (.iinc 1 1, 3) := by decide +kernel
theorem d_259_21 : decode M_259.2.2.1 21 = .ok (.goto (-19), 3) := by decide +kernel
theorem d_259_24 : decode M_259.2.2.1 24 = .ok (.iconst (-1), 1) := by decide +kernel
theorem d_259_25 : decode M_259.2.2.1 25 = .ok (.ireturn, 1) := by decide +kernel
