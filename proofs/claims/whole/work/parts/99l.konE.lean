/-! the constructors' instructions and names (printed by wip/gen/g99l.py) -/
theorem d_Ch_init_0 : decode prog_2_method_1_code 0 = .ok (.aload_n 0, 1) := by decide +kernel
theorem d_Ch_init_1 : decode prog_2_method_1_code 1 = .ok (.invokespecial 3, 3) := by decide +kernel
theorem d_Ch_init_4 : decode prog_2_method_1_code 4 = .ok (.aload_n 0, 1) := by decide +kernel
theorem d_Ch_init_5 : decode prog_2_method_1_code 5 = .ok (.bipush 12, 2) := by decide +kernel
theorem d_Ch_init_7 : decode prog_2_method_1_code 7 = .ok (.newarray .long, 2) := by decide +kernel
theorem d_Ch_init_9 : decode prog_2_method_1_code 9 = .ok (.putfield 9, 3) := by decide +kernel
theorem d_Ch_init_12 : decode prog_2_method_1_code 12 = .ok (.aload_n 0, 1) := by decide +kernel
theorem d_Ch_init_13 : decode prog_2_method_1_code 13 = .ok (.aload_n 1, 1) := by decide +kernel
theorem d_Ch_init_14 : decode prog_2_method_1_code 14 = .ok (.putfield 15, 3) := by decide +kernel
theorem d_Ch_init_17 : decode prog_2_method_1_code 17 = .ok (.aload_n 0, 1) := by decide +kernel
theorem d_Ch_init_18 : decode prog_2_method_1_code 18 = .ok (.aload_n 2, 1) := by decide +kernel
theorem d_Ch_init_19 : decode prog_2_method_1_code 19 = .ok (.putfield 19, 3) := by decide +kernel
theorem d_Ch_init_22 : decode prog_2_method_1_code 22 = .ok (.aload_n 0, 1) := by decide +kernel
theorem d_Ch_init_23 : decode prog_2_method_1_code 23 = .ok (.aload_n 3, 1) := by decide +kernel
theorem d_Ch_init_24 : decode prog_2_method_1_code 24 = .ok (.putfield 23, 3) := by decide +kernel
theorem d_Ch_init_27 : decode prog_2_method_1_code 27 = .ok (.return_, 1) := by decide +kernel
def Y_Ch_init : Mi := (⟨"CauseBook$Chances", "<init>", "(LCauseBook$Model;LCauseBook$Codes;[I)V"⟩, prog_2_method_1_code, 4, none, 1, 12)
theorem K_Ch_init : kb_Y Y_Ch_init 3 := ⟨cw_295, cw_9, cw_296, ⟨by decide, by decide⟩, by decide +kernel, rfl, rfl⟩
theorem d_Cr_init_0 : decode prog_3_method_1_code 0 = .ok (.aload_n 0, 1) := by decide +kernel
theorem d_Cr_init_1 : decode prog_3_method_1_code 1 = .ok (.invokespecial 3, 3) := by decide +kernel
theorem d_Cr_init_4 : decode prog_3_method_1_code 4 = .ok (.aload_n 0, 1) := by decide +kernel
theorem d_Cr_init_5 : decode prog_3_method_1_code 5 = .ok (.sipush 240, 3) := by decide +kernel
theorem d_Cr_init_8 : decode prog_3_method_1_code 8 = .ok (.newarray .int, 2) := by decide +kernel
theorem d_Cr_init_10 : decode prog_3_method_1_code 10 = .ok (.putfield 9, 3) := by decide +kernel
theorem d_Cr_init_13 : decode prog_3_method_1_code 13 = .ok (.aload_n 0, 1) := by decide +kernel
theorem d_Cr_init_14 : decode prog_3_method_1_code 14 = .ok (.aload_n 1, 1) := by decide +kernel
theorem d_Cr_init_15 : decode prog_3_method_1_code 15 = .ok (.putfield 15, 3) := by decide +kernel
theorem d_Cr_init_18 : decode prog_3_method_1_code 18 = .ok (.aload_n 0, 1) := by decide +kernel
theorem d_Cr_init_19 : decode prog_3_method_1_code 19 = .ok (.aload_n 2, 1) := by decide +kernel
theorem d_Cr_init_20 : decode prog_3_method_1_code 20 = .ok (.putfield 19, 3) := by decide +kernel
theorem d_Cr_init_23 : decode prog_3_method_1_code 23 = .ok (.aload_n 0, 1) := by decide +kernel
theorem d_Cr_init_24 : decode prog_3_method_1_code 24 = .ok (.aload_n 3, 1) := by decide +kernel
theorem d_Cr_init_25 : decode prog_3_method_1_code 25 = .ok (.putfield 23, 3) := by decide +kernel
theorem d_Cr_init_28 : decode prog_3_method_1_code 28 = .ok (.return_, 1) := by decide +kernel
def Y_Cr_init : Mi := (⟨"CauseBook$Chronicle", "<init>", "(LCauseBook$Model;LCauseBook$Codes;[I)V"⟩, prog_3_method_1_code, 4, none, 1, 12)
theorem K_Cr_init : kb_Y Y_Cr_init 3 := ⟨cw_346, cw_11, cw_347, ⟨by decide, by decide⟩, by decide +kernel, rfl, rfl⟩
theorem d_Co_init_0 : decode prog_4_method_1_code 0 = .ok (.aload_n 0, 1) := by decide +kernel
theorem d_Co_init_1 : decode prog_4_method_1_code 1 = .ok (.invokespecial 3, 3) := by decide +kernel
theorem d_Co_init_4 : decode prog_4_method_1_code 4 = .ok (.aload_n 0, 1) := by decide +kernel
theorem d_Co_init_5 : decode prog_4_method_1_code 5 = .ok (.bipush 12, 2) := by decide +kernel
theorem d_Co_init_7 : decode prog_4_method_1_code 7 = .ok (.newarray .int, 2) := by decide +kernel
theorem d_Co_init_9 : decode prog_4_method_1_code 9 = .ok (.putfield 9, 3) := by decide +kernel
theorem d_Co_init_12 : decode prog_4_method_1_code 12 = .ok (.aload_n 0, 1) := by decide +kernel
theorem d_Co_init_13 : decode prog_4_method_1_code 13 = .ok (.sipush 144, 3) := by decide +kernel
theorem d_Co_init_16 : decode prog_4_method_1_code 16 = .ok (.newarray .int, 2) := by decide +kernel
theorem d_Co_init_18 : decode prog_4_method_1_code 18 = .ok (.putfield 15, 3) := by decide +kernel
theorem d_Co_init_21 : decode prog_4_method_1_code 21 = .ok (.aload_n 0, 1) := by decide +kernel
theorem d_Co_init_22 : decode prog_4_method_1_code 22 = .ok (.sipush 298, 3) := by decide +kernel
theorem d_Co_init_25 : decode prog_4_method_1_code 25 = .ok (.newarray .int, 2) := by decide +kernel
theorem d_Co_init_27 : decode prog_4_method_1_code 27 = .ok (.putfield 18, 3) := by decide +kernel
theorem d_Co_init_30 : decode prog_4_method_1_code 30 = .ok (.aload_n 0, 1) := by decide +kernel
theorem d_Co_init_31 : decode prog_4_method_1_code 31 = .ok (.sipush 298, 3) := by decide +kernel
theorem d_Co_init_34 : decode prog_4_method_1_code 34 = .ok (.newarray .int, 2) := by decide +kernel
theorem d_Co_init_36 : decode prog_4_method_1_code 36 = .ok (.putfield 21, 3) := by decide +kernel
theorem d_Co_init_39 : decode prog_4_method_1_code 39 = .ok (.aload_n 0, 1) := by decide +kernel
theorem d_Co_init_40 : decode prog_4_method_1_code 40 = .ok (.sipush 298, 3) := by decide +kernel
theorem d_Co_init_43 : decode prog_4_method_1_code 43 = .ok (.newarray .int, 2) := by decide +kernel
theorem d_Co_init_45 : decode prog_4_method_1_code 45 = .ok (.putfield 24, 3) := by decide +kernel
theorem d_Co_init_48 : decode prog_4_method_1_code 48 = .ok (.aload_n 0, 1) := by decide +kernel
theorem d_Co_init_49 : decode prog_4_method_1_code 49 = .ok (.aload_n 1, 1) := by decide +kernel
theorem d_Co_init_50 : decode prog_4_method_1_code 50 = .ok (.putfield 27, 3) := by decide +kernel
theorem d_Co_init_53 : decode prog_4_method_1_code 53 = .ok (.aload_n 0, 1) := by decide +kernel
theorem d_Co_init_54 : decode prog_4_method_1_code 54 = .ok (.aload_n 2, 1) := by decide +kernel
theorem d_Co_init_55 : decode prog_4_method_1_code 55 = .ok (.putfield 31, 3) := by decide +kernel
theorem d_Co_init_58 : decode prog_4_method_1_code 58 = .ok (.aload_n 0, 1) := by decide +kernel
theorem d_Co_init_59 : decode prog_4_method_1_code 59 = .ok (.aload_n 3, 1) := by decide +kernel
theorem d_Co_init_60 : decode prog_4_method_1_code 60 = .ok (.putfield 35, 3) := by decide +kernel
theorem d_Co_init_63 : decode prog_4_method_1_code 63 = .ok (.aload_n 0, 1) := by decide +kernel
theorem d_Co_init_64 : decode prog_4_method_1_code 64 = .ok (.aload 4, 2) := by decide +kernel
theorem d_Co_init_66 : decode prog_4_method_1_code 66 = .ok (.putfield 39, 3) := by decide +kernel
theorem d_Co_init_69 : decode prog_4_method_1_code 69 = .ok (.return_, 1) := by decide +kernel
def Y_Co_init : Mi := (⟨"CauseBook$Codes", "<init>", "(LCauseBook$Model;LCauseBook$Spreader;LCauseBook$Roll;LCauseBook$Roll;)V"⟩, prog_4_method_1_code, 5, none, 1, 12)
theorem K_Co_init : kb_Y Y_Co_init 4 := ⟨cw_205, cw_7, cw_206, ⟨by decide, by decide⟩, by decide +kernel, rfl, rfl⟩
theorem d_De_init_0 : decode prog_5_method_1_code 0 = .ok (.aload_n 0, 1) := by decide +kernel
theorem d_De_init_1 : decode prog_5_method_1_code 1 = .ok (.invokespecial 3, 3) := by decide +kernel
theorem d_De_init_4 : decode prog_5_method_1_code 4 = .ok (.aload_n 0, 1) := by decide +kernel
theorem d_De_init_5 : decode prog_5_method_1_code 5 = .ok (.aload_n 1, 1) := by decide +kernel
theorem d_De_init_6 : decode prog_5_method_1_code 6 = .ok (.putfield 9, 3) := by decide +kernel
theorem d_De_init_9 : decode prog_5_method_1_code 9 = .ok (.aload_n 0, 1) := by decide +kernel
theorem d_De_init_10 : decode prog_5_method_1_code 10 = .ok (.aload_n 2, 1) := by decide +kernel
theorem d_De_init_11 : decode prog_5_method_1_code 11 = .ok (.putfield 15, 3) := by decide +kernel
theorem d_De_init_14 : decode prog_5_method_1_code 14 = .ok (.return_, 1) := by decide +kernel
def Y_De_init : Mi := (⟨"CauseBook$Decoder", "<init>", "(LCauseBook$Model;LCauseBook$Codes;)V"⟩, prog_5_method_1_code, 3, none, 1, 12)
theorem K_De_init : kb_Y Y_De_init 2 := ⟨cw_274, cw_8, cw_275, ⟨by decide, by decide⟩, by decide +kernel, rfl, rfl⟩
theorem d_Hi_init_0 : decode prog_6_method_1_code 0 = .ok (.aload_n 0, 1) := by decide +kernel
theorem d_Hi_init_1 : decode prog_6_method_1_code 1 = .ok (.invokespecial 3, 3) := by decide +kernel
theorem d_Hi_init_4 : decode prog_6_method_1_code 4 = .ok (.aload_n 0, 1) := by decide +kernel
theorem d_Hi_init_5 : decode prog_6_method_1_code 5 = .ok (.bipush 10, 2) := by decide +kernel
theorem d_Hi_init_7 : decode prog_6_method_1_code 7 = .ok (.anewarray 9, 3) := by decide +kernel
theorem d_Hi_init_10 : decode prog_6_method_1_code 10 = .ok (.putfield 11, 3) := by decide +kernel
theorem d_Hi_init_13 : decode prog_6_method_1_code 13 = .ok (.aload_n 0, 1) := by decide +kernel
theorem d_Hi_init_14 : decode prog_6_method_1_code 14 = .ok (.bipush 10, 2) := by decide +kernel
theorem d_Hi_init_16 : decode prog_6_method_1_code 16 = .ok (.newarray .int, 2) := by decide +kernel
theorem d_Hi_init_18 : decode prog_6_method_1_code 18 = .ok (.putfield 17, 3) := by decide +kernel
theorem d_Hi_init_21 : decode prog_6_method_1_code 21 = .ok (.iconst 0, 1) := by decide +kernel
theorem d_Hi_init_22 : decode prog_6_method_1_code 22 = .ok (.istore_n 1, 1) := by decide +kernel
theorem d_Hi_init_23 : decode prog_6_method_1_code 23 = .ok (.iload_n 1, 1) := by decide +kernel
theorem d_Hi_init_24 : decode prog_6_method_1_code 24 = .ok (.bipush 10, 2) := by decide +kernel
theorem d_Hi_init_26 : decode prog_6_method_1_code 26 = .ok (.if_icmp .ge 22, 3) := by decide +kernel
theorem d_Hi_init_29 : decode prog_6_method_1_code 29 = .ok (.aload_n 0, 1) := by decide +kernel
theorem d_Hi_init_30 : decode prog_6_method_1_code 30 = .ok (.getfield 11, 3) := by decide +kernel
theorem d_Hi_init_33 : decode prog_6_method_1_code 33 = .ok (.iload_n 1, 1) := by decide +kernel
theorem d_Hi_init_34 : decode prog_6_method_1_code 34 = .ok (.new 9, 3) := by decide +kernel
theorem d_Hi_init_37 : decode prog_6_method_1_code 37 = .ok (.dup, 1) := by decide +kernel
theorem d_Hi_init_38 : decode prog_6_method_1_code 38 = .ok (.invokespecial 21, 3) := by decide +kernel
theorem d_Hi_init_41 : decode prog_6_method_1_code 41 = .ok (.aastore, 1) := by decide +kernel
theorem d_Hi_init_42 : decode prog_6_method_1_code 42 = .ok (.iinc 1 1, 3) := by decide +kernel
theorem d_Hi_init_45 : decode prog_6_method_1_code 45 = .ok (.goto (-22), 3) := by decide +kernel
theorem d_Hi_init_48 : decode prog_6_method_1_code 48 = .ok (.return_, 1) := by decide +kernel
def Y_Hi_init : Mi := (⟨"CauseBook$History", "<init>", "()V"⟩, prog_6_method_1_code, 2, none, 2, 40)
theorem K_Hi_init : kb_Y Y_Hi_init 0 := ⟨cw_98, cw_3, cw_99, ⟨by decide, by decide⟩, by decide +kernel, rfl, rfl⟩
theorem d_Mo_init_0 : decode prog_7_method_1_code 0 = .ok (.aload_n 0, 1) := by decide +kernel
theorem d_Mo_init_1 : decode prog_7_method_1_code 1 = .ok (.invokespecial 3, 3) := by decide +kernel
theorem d_Mo_init_4 : decode prog_7_method_1_code 4 = .ok (.aload_n 0, 1) := by decide +kernel
theorem d_Mo_init_5 : decode prog_7_method_1_code 5 = .ok (.bipush 10, 2) := by decide +kernel
theorem d_Mo_init_7 : decode prog_7_method_1_code 7 = .ok (.newarray .int, 2) := by decide +kernel
theorem d_Mo_init_9 : decode prog_7_method_1_code 9 = .ok (.putfield 9, 3) := by decide +kernel
theorem d_Mo_init_12 : decode prog_7_method_1_code 12 = .ok (.aload_n 0, 1) := by decide +kernel
theorem d_Mo_init_13 : decode prog_7_method_1_code 13 = .ok (.bipush 60, 2) := by decide +kernel
theorem d_Mo_init_15 : decode prog_7_method_1_code 15 = .ok (.newarray .int, 2) := by decide +kernel
theorem d_Mo_init_17 : decode prog_7_method_1_code 17 = .ok (.putfield 15, 3) := by decide +kernel
theorem d_Mo_init_20 : decode prog_7_method_1_code 20 = .ok (.aload_n 0, 1) := by decide +kernel
theorem d_Mo_init_21 : decode prog_7_method_1_code 21 = .ok (.bipush 60, 2) := by decide +kernel
theorem d_Mo_init_23 : decode prog_7_method_1_code 23 = .ok (.newarray .int, 2) := by decide +kernel
theorem d_Mo_init_25 : decode prog_7_method_1_code 25 = .ok (.putfield 18, 3) := by decide +kernel
theorem d_Mo_init_28 : decode prog_7_method_1_code 28 = .ok (.aload_n 0, 1) := by decide +kernel
theorem d_Mo_init_29 : decode prog_7_method_1_code 29 = .ok (.bipush 32, 2) := by decide +kernel
theorem d_Mo_init_31 : decode prog_7_method_1_code 31 = .ok (.newarray .int, 2) := by decide +kernel
theorem d_Mo_init_33 : decode prog_7_method_1_code 33 = .ok (.putfield 21, 3) := by decide +kernel
theorem d_Mo_init_36 : decode prog_7_method_1_code 36 = .ok (.aload_n 0, 1) := by decide +kernel
theorem d_Mo_init_37 : decode prog_7_method_1_code 37 = .ok (.bipush 32, 2) := by decide +kernel
theorem d_Mo_init_39 : decode prog_7_method_1_code 39 = .ok (.newarray .int, 2) := by decide +kernel
theorem d_Mo_init_41 : decode prog_7_method_1_code 41 = .ok (.putfield 24, 3) := by decide +kernel
theorem d_Mo_init_44 : decode prog_7_method_1_code 44 = .ok (.aload_n 0, 1) := by decide +kernel
theorem d_Mo_init_45 : decode prog_7_method_1_code 45 = .ok (.bipush 20, 2) := by decide +kernel
theorem d_Mo_init_47 : decode prog_7_method_1_code 47 = .ok (.newarray .int, 2) := by decide +kernel
theorem d_Mo_init_49 : decode prog_7_method_1_code 49 = .ok (.putfield 27, 3) := by decide +kernel
theorem d_Mo_init_52 : decode prog_7_method_1_code 52 = .ok (.aload_n 0, 1) := by decide +kernel
theorem d_Mo_init_53 : decode prog_7_method_1_code 53 = .ok (.bipush 20, 2) := by decide +kernel
theorem d_Mo_init_55 : decode prog_7_method_1_code 55 = .ok (.newarray .int, 2) := by decide +kernel
theorem d_Mo_init_57 : decode prog_7_method_1_code 57 = .ok (.putfield 30, 3) := by decide +kernel
theorem d_Mo_init_60 : decode prog_7_method_1_code 60 = .ok (.return_, 1) := by decide +kernel
def Y_Mo_init : Mi := (⟨"CauseBook$Model", "<init>", "()V"⟩, prog_7_method_1_code, 1, none, 1, 12)
theorem K_Mo_init : kb_Y Y_Mo_init 0 := ⟨cw_28, cw_2, cw_29, ⟨by decide, by decide⟩, by decide +kernel, rfl, rfl⟩
theorem d_Re_init_0 : decode prog_8_method_1_code 0 = .ok (.aload_n 0, 1) := by decide +kernel
theorem d_Re_init_1 : decode prog_8_method_1_code 1 = .ok (.invokespecial 3, 3) := by decide +kernel
theorem d_Re_init_4 : decode prog_8_method_1_code 4 = .ok (.aload_n 0, 1) := by decide +kernel
theorem d_Re_init_5 : decode prog_8_method_1_code 5 = .ok (.bipush 78, 2) := by decide +kernel
theorem d_Re_init_7 : decode prog_8_method_1_code 7 = .ok (.newarray .int, 2) := by decide +kernel
theorem d_Re_init_9 : decode prog_8_method_1_code 9 = .ok (.putfield 9, 3) := by decide +kernel
theorem d_Re_init_12 : decode prog_8_method_1_code 12 = .ok (.aload_n 0, 1) := by decide +kernel
theorem d_Re_init_13 : decode prog_8_method_1_code 13 = .ok (.bipush 78, 2) := by decide +kernel
theorem d_Re_init_15 : decode prog_8_method_1_code 15 = .ok (.newarray .int, 2) := by decide +kernel
theorem d_Re_init_17 : decode prog_8_method_1_code 17 = .ok (.putfield 15, 3) := by decide +kernel
theorem d_Re_init_20 : decode prog_8_method_1_code 20 = .ok (.aload_n 0, 1) := by decide +kernel
theorem d_Re_init_21 : decode prog_8_method_1_code 21 = .ok (.aload_n 1, 1) := by decide +kernel
theorem d_Re_init_22 : decode prog_8_method_1_code 22 = .ok (.putfield 18, 3) := by decide +kernel
theorem d_Re_init_25 : decode prog_8_method_1_code 25 = .ok (.return_, 1) := by decide +kernel
def Y_Re_init : Mi := (⟨"CauseBook$Reducer", "<init>", "(LCauseBook$Codes;)V"⟩, prog_8_method_1_code, 2, none, 1, 12)
theorem K_Re_init : kb_Y Y_Re_init 1 := ⟨cw_324, cw_10, cw_325, ⟨by decide, by decide⟩, by decide +kernel, rfl, rfl⟩
theorem d_Rf_init_0 : decode prog_9_method_1_code 0 = .ok (.aload_n 0, 1) := by decide +kernel
theorem d_Rf_init_1 : decode prog_9_method_1_code 1 = .ok (.invokespecial 3, 3) := by decide +kernel
theorem d_Rf_init_4 : decode prog_9_method_1_code 4 = .ok (.aload_n 0, 1) := by decide +kernel
theorem d_Rf_init_5 : decode prog_9_method_1_code 5 = .ok (.iconst 4, 1) := by decide +kernel
theorem d_Rf_init_6 : decode prog_9_method_1_code 6 = .ok (.newarray .int, 2) := by decide +kernel
theorem d_Rf_init_8 : decode prog_9_method_1_code 8 = .ok (.putfield 9, 3) := by decide +kernel
theorem d_Rf_init_11 : decode prog_9_method_1_code 11 = .ok (.return_, 1) := by decide +kernel
def Y_Rf_init : Mi := (⟨"CauseBook$Refusals", "<init>", "()V"⟩, prog_9_method_1_code, 1, none, 1, 12)
theorem K_Rf_init : kb_Y Y_Rf_init 0 := ⟨cw_121, cw_4, cw_122, ⟨by decide, by decide⟩, by decide +kernel, rfl, rfl⟩
theorem d_Ro_init_0 : decode prog_10_method_1_code 0 = .ok (.aload_n 0, 1) := by decide +kernel
theorem d_Ro_init_1 : decode prog_10_method_1_code 1 = .ok (.invokespecial 3, 3) := by decide +kernel
theorem d_Ro_init_4 : decode prog_10_method_1_code 4 = .ok (.aload_n 0, 1) := by decide +kernel
theorem d_Ro_init_5 : decode prog_10_method_1_code 5 = .ok (.bipush 12, 2) := by decide +kernel
theorem d_Ro_init_7 : decode prog_10_method_1_code 7 = .ok (.newarray .int, 2) := by decide +kernel
theorem d_Ro_init_9 : decode prog_10_method_1_code 9 = .ok (.putfield 9, 3) := by decide +kernel
theorem d_Ro_init_12 : decode prog_10_method_1_code 12 = .ok (.aload_n 0, 1) := by decide +kernel
theorem d_Ro_init_13 : decode prog_10_method_1_code 13 = .ok (.bipush 12, 2) := by decide +kernel
theorem d_Ro_init_15 : decode prog_10_method_1_code 15 = .ok (.newarray .int, 2) := by decide +kernel
theorem d_Ro_init_17 : decode prog_10_method_1_code 17 = .ok (.putfield 15, 3) := by decide +kernel
theorem d_Ro_init_20 : decode prog_10_method_1_code 20 = .ok (.aload_n 0, 1) := by decide +kernel
theorem d_Ro_init_21 : decode prog_10_method_1_code 21 = .ok (.bipush 12, 2) := by decide +kernel
theorem d_Ro_init_23 : decode prog_10_method_1_code 23 = .ok (.newarray .int, 2) := by decide +kernel
theorem d_Ro_init_25 : decode prog_10_method_1_code 25 = .ok (.putfield 18, 3) := by decide +kernel
theorem d_Ro_init_28 : decode prog_10_method_1_code 28 = .ok (.return_, 1) := by decide +kernel
def Y_Ro_init : Mi := (⟨"CauseBook$Roll", "<init>", "()V"⟩, prog_10_method_1_code, 1, none, 1, 12)
theorem K_Ro_init : kb_Y Y_Ro_init 0 := ⟨cw_137, cw_5, cw_138, ⟨by decide, by decide⟩, by decide +kernel, rfl, rfl⟩
theorem d_Sp_init_0 : decode prog_11_method_1_code 0 = .ok (.aload_n 0, 1) := by decide +kernel
theorem d_Sp_init_1 : decode prog_11_method_1_code 1 = .ok (.invokespecial 3, 3) := by decide +kernel
theorem d_Sp_init_4 : decode prog_11_method_1_code 4 = .ok (.aload_n 0, 1) := by decide +kernel
theorem d_Sp_init_5 : decode prog_11_method_1_code 5 = .ok (.bipush 80, 2) := by decide +kernel
theorem d_Sp_init_7 : decode prog_11_method_1_code 7 = .ok (.newarray .int, 2) := by decide +kernel
theorem d_Sp_init_9 : decode prog_11_method_1_code 9 = .ok (.putfield 9, 3) := by decide +kernel
theorem d_Sp_init_12 : decode prog_11_method_1_code 12 = .ok (.aload_n 0, 1) := by decide +kernel
theorem d_Sp_init_13 : decode prog_11_method_1_code 13 = .ok (.bipush 8, 2) := by decide +kernel
theorem d_Sp_init_15 : decode prog_11_method_1_code 15 = .ok (.newarray .int, 2) := by decide +kernel
theorem d_Sp_init_17 : decode prog_11_method_1_code 17 = .ok (.putfield 15, 3) := by decide +kernel
theorem d_Sp_init_20 : decode prog_11_method_1_code 20 = .ok (.aload_n 0, 1) := by decide +kernel
theorem d_Sp_init_21 : decode prog_11_method_1_code 21 = .ok (.bipush 30, 2) := by decide +kernel
theorem d_Sp_init_23 : decode prog_11_method_1_code 23 = .ok (.newarray .int, 2) := by decide +kernel
theorem d_Sp_init_25 : decode prog_11_method_1_code 25 = .ok (.putfield 18, 3) := by decide +kernel
theorem d_Sp_init_28 : decode prog_11_method_1_code 28 = .ok (.aload_n 0, 1) := by decide +kernel
theorem d_Sp_init_29 : decode prog_11_method_1_code 29 = .ok (.bipush 30, 2) := by decide +kernel
theorem d_Sp_init_31 : decode prog_11_method_1_code 31 = .ok (.newarray .int, 2) := by decide +kernel
theorem d_Sp_init_33 : decode prog_11_method_1_code 33 = .ok (.putfield 21, 3) := by decide +kernel
theorem d_Sp_init_36 : decode prog_11_method_1_code 36 = .ok (.aload_n 0, 1) := by decide +kernel
theorem d_Sp_init_37 : decode prog_11_method_1_code 37 = .ok (.iconst 4, 1) := by decide +kernel
theorem d_Sp_init_38 : decode prog_11_method_1_code 38 = .ok (.newarray .int, 2) := by decide +kernel
theorem d_Sp_init_40 : decode prog_11_method_1_code 40 = .ok (.putfield 24, 3) := by decide +kernel
theorem d_Sp_init_43 : decode prog_11_method_1_code 43 = .ok (.aload_n 0, 1) := by decide +kernel
theorem d_Sp_init_44 : decode prog_11_method_1_code 44 = .ok (.aload_n 1, 1) := by decide +kernel
theorem d_Sp_init_45 : decode prog_11_method_1_code 45 = .ok (.putfield 27, 3) := by decide +kernel
theorem d_Sp_init_48 : decode prog_11_method_1_code 48 = .ok (.aload_n 0, 1) := by decide +kernel
theorem d_Sp_init_49 : decode prog_11_method_1_code 49 = .ok (.aload_n 2, 1) := by decide +kernel
theorem d_Sp_init_50 : decode prog_11_method_1_code 50 = .ok (.putfield 31, 3) := by decide +kernel
theorem d_Sp_init_53 : decode prog_11_method_1_code 53 = .ok (.return_, 1) := by decide +kernel
def Y_Sp_init : Mi := (⟨"CauseBook$Spreader", "<init>", "(LCauseBook$Model;LCauseBook$Roll;)V"⟩, prog_11_method_1_code, 3, none, 1, 12)
theorem K_Sp_init : kb_Y Y_Sp_init 2 := ⟨cw_171, cw_6, cw_172, ⟨by decide, by decide⟩, by decide +kernel, rfl, rfl⟩
theorem d_CB_init_0 : decode prog_1_method_1_code 0 = .ok (.aload_n 0, 1) := by decide +kernel
theorem d_CB_init_1 : decode prog_1_method_1_code 1 = .ok (.invokespecial 3, 3) := by decide +kernel
theorem d_CB_init_4 : decode prog_1_method_1_code 4 = .ok (.aload_n 0, 1) := by decide +kernel
theorem d_CB_init_5 : decode prog_1_method_1_code 5 = .ok (.new 9, 3) := by decide +kernel
theorem d_CB_init_8 : decode prog_1_method_1_code 8 = .ok (.dup, 1) := by decide +kernel
theorem d_CB_init_9 : decode prog_1_method_1_code 9 = .ok (.invokespecial 11, 3) := by decide +kernel
theorem d_CB_init_12 : decode prog_1_method_1_code 12 = .ok (.putfield 12, 3) := by decide +kernel
theorem d_CB_init_15 : decode prog_1_method_1_code 15 = .ok (.aload_n 0, 1) := by decide +kernel
theorem d_CB_init_16 : decode prog_1_method_1_code 16 = .ok (.new 16, 3) := by decide +kernel
theorem d_CB_init_19 : decode prog_1_method_1_code 19 = .ok (.dup, 1) := by decide +kernel
theorem d_CB_init_20 : decode prog_1_method_1_code 20 = .ok (.invokespecial 18, 3) := by decide +kernel
theorem d_CB_init_23 : decode prog_1_method_1_code 23 = .ok (.putfield 19, 3) := by decide +kernel
theorem d_CB_init_26 : decode prog_1_method_1_code 26 = .ok (.aload_n 0, 1) := by decide +kernel
theorem d_CB_init_27 : decode prog_1_method_1_code 27 = .ok (.iconst 2, 1) := by decide +kernel
theorem d_CB_init_28 : decode prog_1_method_1_code 28 = .ok (.anewarray 9, 3) := by decide +kernel
theorem d_CB_init_31 : decode prog_1_method_1_code 31 = .ok (.putfield 23, 3) := by decide +kernel
theorem d_CB_init_34 : decode prog_1_method_1_code 34 = .ok (.aload_n 0, 1) := by decide +kernel
theorem d_CB_init_35 : decode prog_1_method_1_code 35 = .ok (.iconst 2, 1) := by decide +kernel
theorem d_CB_init_36 : decode prog_1_method_1_code 36 = .ok (.newarray .boolean, 2) := by decide +kernel
theorem d_CB_init_38 : decode prog_1_method_1_code 38 = .ok (.putfield 27, 3) := by decide +kernel
theorem d_CB_init_41 : decode prog_1_method_1_code 41 = .ok (.aload_n 0, 1) := by decide +kernel
theorem d_CB_init_42 : decode prog_1_method_1_code 42 = .ok (.new 31, 3) := by decide +kernel
theorem d_CB_init_45 : decode prog_1_method_1_code 45 = .ok (.dup, 1) := by decide +kernel
theorem d_CB_init_46 : decode prog_1_method_1_code 46 = .ok (.invokespecial 33, 3) := by decide +kernel
theorem d_CB_init_49 : decode prog_1_method_1_code 49 = .ok (.putfield 34, 3) := by decide +kernel
theorem d_CB_init_52 : decode prog_1_method_1_code 52 = .ok (.aload_n 0, 1) := by decide +kernel
theorem d_CB_init_53 : decode prog_1_method_1_code 53 = .ok (.iconst 4, 1) := by decide +kernel
theorem d_CB_init_54 : decode prog_1_method_1_code 54 = .ok (.newarray .int, 2) := by decide +kernel
theorem d_CB_init_56 : decode prog_1_method_1_code 56 = .ok (.putfield 38, 3) := by decide +kernel
theorem d_CB_init_59 : decode prog_1_method_1_code 59 = .ok (.aload_n 0, 1) := by decide +kernel
theorem d_CB_init_60 : decode prog_1_method_1_code 60 = .ok (.new 42, 3) := by decide +kernel
theorem d_CB_init_63 : decode prog_1_method_1_code 63 = .ok (.dup, 1) := by decide +kernel
theorem d_CB_init_64 : decode prog_1_method_1_code 64 = .ok (.invokespecial 44, 3) := by decide +kernel
theorem d_CB_init_67 : decode prog_1_method_1_code 67 = .ok (.putfield 45, 3) := by decide +kernel
theorem d_CB_init_70 : decode prog_1_method_1_code 70 = .ok (.aload_n 0, 1) := by decide +kernel
theorem d_CB_init_71 : decode prog_1_method_1_code 71 = .ok (.new 42, 3) := by decide +kernel
theorem d_CB_init_74 : decode prog_1_method_1_code 74 = .ok (.dup, 1) := by decide +kernel
theorem d_CB_init_75 : decode prog_1_method_1_code 75 = .ok (.invokespecial 44, 3) := by decide +kernel
theorem d_CB_init_78 : decode prog_1_method_1_code 78 = .ok (.putfield 49, 3) := by decide +kernel
theorem d_CB_init_81 : decode prog_1_method_1_code 81 = .ok (.aload_n 0, 1) := by decide +kernel
theorem d_CB_init_82 : decode prog_1_method_1_code 82 = .ok (.new 52, 3) := by decide +kernel
theorem d_CB_init_85 : decode prog_1_method_1_code 85 = .ok (.dup, 1) := by decide +kernel
theorem d_CB_init_86 : decode prog_1_method_1_code 86 = .ok (.aload_n 0, 1) := by decide +kernel
theorem d_CB_init_87 : decode prog_1_method_1_code 87 = .ok (.getfield 12, 3) := by decide +kernel
theorem d_CB_init_90 : decode prog_1_method_1_code 90 = .ok (.aload_n 0, 1) := by decide +kernel
theorem d_CB_init_91 : decode prog_1_method_1_code 91 = .ok (.getfield 45, 3) := by decide +kernel
theorem d_CB_init_94 : decode prog_1_method_1_code 94 = .ok (.invokespecial 54, 3) := by decide +kernel
theorem d_CB_init_97 : decode prog_1_method_1_code 97 = .ok (.putfield 57, 3) := by decide +kernel
theorem d_CB_init_100 : decode prog_1_method_1_code 100 = .ok (.aload_n 0, 1) := by decide +kernel
theorem d_CB_init_101 : decode prog_1_method_1_code 101 = .ok (.new 61, 3) := by decide +kernel
theorem d_CB_init_104 : decode prog_1_method_1_code 104 = .ok (.dup, 1) := by decide +kernel
theorem d_CB_init_105 : decode prog_1_method_1_code 105 = .ok (.aload_n 0, 1) := by decide +kernel
theorem d_CB_init_106 : decode prog_1_method_1_code 106 = .ok (.getfield 12, 3) := by decide +kernel
theorem d_CB_init_109 : decode prog_1_method_1_code 109 = .ok (.aload_n 0, 1) := by decide +kernel
theorem d_CB_init_110 : decode prog_1_method_1_code 110 = .ok (.getfield 57, 3) := by decide +kernel
theorem d_CB_init_113 : decode prog_1_method_1_code 113 = .ok (.aload_n 0, 1) := by decide +kernel
theorem d_CB_init_114 : decode prog_1_method_1_code 114 = .ok (.getfield 45, 3) := by decide +kernel
theorem d_CB_init_117 : decode prog_1_method_1_code 117 = .ok (.aload_n 0, 1) := by decide +kernel
theorem d_CB_init_118 : decode prog_1_method_1_code 118 = .ok (.getfield 49, 3) := by decide +kernel
theorem d_CB_init_121 : decode prog_1_method_1_code 121 = .ok (.invokespecial 63, 3) := by decide +kernel
theorem d_CB_init_124 : decode prog_1_method_1_code 124 = .ok (.putfield 66, 3) := by decide +kernel
theorem d_CB_init_127 : decode prog_1_method_1_code 127 = .ok (.aload_n 0, 1) := by decide +kernel
theorem d_CB_init_128 : decode prog_1_method_1_code 128 = .ok (.new 70, 3) := by decide +kernel
theorem d_CB_init_131 : decode prog_1_method_1_code 131 = .ok (.dup, 1) := by decide +kernel
theorem d_CB_init_132 : decode prog_1_method_1_code 132 = .ok (.aload_n 0, 1) := by decide +kernel
theorem d_CB_init_133 : decode prog_1_method_1_code 133 = .ok (.getfield 12, 3) := by decide +kernel
theorem d_CB_init_136 : decode prog_1_method_1_code 136 = .ok (.aload_n 0, 1) := by decide +kernel
theorem d_CB_init_137 : decode prog_1_method_1_code 137 = .ok (.getfield 66, 3) := by decide +kernel
theorem d_CB_init_140 : decode prog_1_method_1_code 140 = .ok (.invokespecial 72, 3) := by decide +kernel
theorem d_CB_init_143 : decode prog_1_method_1_code 143 = .ok (.putfield 75, 3) := by decide +kernel
theorem d_CB_init_146 : decode prog_1_method_1_code 146 = .ok (.aload_n 0, 1) := by decide +kernel
theorem d_CB_init_147 : decode prog_1_method_1_code 147 = .ok (.new 79, 3) := by decide +kernel
theorem d_CB_init_150 : decode prog_1_method_1_code 150 = .ok (.dup, 1) := by decide +kernel
theorem d_CB_init_151 : decode prog_1_method_1_code 151 = .ok (.aload_n 0, 1) := by decide +kernel
theorem d_CB_init_152 : decode prog_1_method_1_code 152 = .ok (.getfield 12, 3) := by decide +kernel
theorem d_CB_init_155 : decode prog_1_method_1_code 155 = .ok (.aload_n 0, 1) := by decide +kernel
theorem d_CB_init_156 : decode prog_1_method_1_code 156 = .ok (.getfield 66, 3) := by decide +kernel
theorem d_CB_init_159 : decode prog_1_method_1_code 159 = .ok (.aload_n 0, 1) := by decide +kernel
theorem d_CB_init_160 : decode prog_1_method_1_code 160 = .ok (.getfield 38, 3) := by decide +kernel
theorem d_CB_init_163 : decode prog_1_method_1_code 163 = .ok (.invokespecial 81, 3) := by decide +kernel
theorem d_CB_init_166 : decode prog_1_method_1_code 166 = .ok (.putfield 84, 3) := by decide +kernel
theorem d_CB_init_169 : decode prog_1_method_1_code 169 = .ok (.aload_n 0, 1) := by decide +kernel
theorem d_CB_init_170 : decode prog_1_method_1_code 170 = .ok (.new 88, 3) := by decide +kernel
theorem d_CB_init_173 : decode prog_1_method_1_code 173 = .ok (.dup, 1) := by decide +kernel
theorem d_CB_init_174 : decode prog_1_method_1_code 174 = .ok (.aload_n 0, 1) := by decide +kernel
theorem d_CB_init_175 : decode prog_1_method_1_code 175 = .ok (.getfield 66, 3) := by decide +kernel
theorem d_CB_init_178 : decode prog_1_method_1_code 178 = .ok (.invokespecial 90, 3) := by decide +kernel
theorem d_CB_init_181 : decode prog_1_method_1_code 181 = .ok (.putfield 93, 3) := by decide +kernel
theorem d_CB_init_184 : decode prog_1_method_1_code 184 = .ok (.aload_n 0, 1) := by decide +kernel
theorem d_CB_init_185 : decode prog_1_method_1_code 185 = .ok (.new 97, 3) := by decide +kernel
theorem d_CB_init_188 : decode prog_1_method_1_code 188 = .ok (.dup, 1) := by decide +kernel
theorem d_CB_init_189 : decode prog_1_method_1_code 189 = .ok (.aload_n 0, 1) := by decide +kernel
theorem d_CB_init_190 : decode prog_1_method_1_code 190 = .ok (.getfield 12, 3) := by decide +kernel
theorem d_CB_init_193 : decode prog_1_method_1_code 193 = .ok (.aload_n 0, 1) := by decide +kernel
theorem d_CB_init_194 : decode prog_1_method_1_code 194 = .ok (.getfield 66, 3) := by decide +kernel
theorem d_CB_init_197 : decode prog_1_method_1_code 197 = .ok (.aload_n 0, 1) := by decide +kernel
theorem d_CB_init_198 : decode prog_1_method_1_code 198 = .ok (.getfield 38, 3) := by decide +kernel
theorem d_CB_init_201 : decode prog_1_method_1_code 201 = .ok (.invokespecial 99, 3) := by decide +kernel
theorem d_CB_init_204 : decode prog_1_method_1_code 204 = .ok (.putfield 100, 3) := by decide +kernel
theorem d_CB_init_207 : decode prog_1_method_1_code 207 = .ok (.iconst 0, 1) := by decide +kernel
theorem d_CB_init_208 : decode prog_1_method_1_code 208 = .ok (.istore_n 1, 1) := by decide +kernel
theorem d_CB_init_209 : decode prog_1_method_1_code 209 = .ok (.iload_n 1, 1) := by decide +kernel
theorem d_CB_init_210 : decode prog_1_method_1_code 210 = .ok (.iconst 2, 1) := by decide +kernel
theorem d_CB_init_211 : decode prog_1_method_1_code 211 = .ok (.if_icmp .ge 22, 3) := by decide +kernel
theorem d_CB_init_214 : decode prog_1_method_1_code 214 = .ok (.aload_n 0, 1) := by decide +kernel
theorem d_CB_init_215 : decode prog_1_method_1_code 215 = .ok (.getfield 23, 3) := by decide +kernel
theorem d_CB_init_218 : decode prog_1_method_1_code 218 = .ok (.iload_n 1, 1) := by decide +kernel
theorem d_CB_init_219 : decode prog_1_method_1_code 219 = .ok (.new 9, 3) := by decide +kernel
theorem d_CB_init_222 : decode prog_1_method_1_code 222 = .ok (.dup, 1) := by decide +kernel
theorem d_CB_init_223 : decode prog_1_method_1_code 223 = .ok (.invokespecial 11, 3) := by decide +kernel
theorem d_CB_init_226 : decode prog_1_method_1_code 226 = .ok (.aastore, 1) := by decide +kernel
theorem d_CB_init_227 : decode prog_1_method_1_code 227 = .ok (.iinc 1 1, 3) := by decide +kernel
theorem d_CB_init_230 : decode prog_1_method_1_code 230 = .ok (.goto (-21), 3) := by decide +kernel
theorem d_CB_init_233 : decode prog_1_method_1_code 233 = .ok (.getstatic 104, 3) := by decide +kernel
theorem d_CB_init_236 : decode prog_1_method_1_code 236 = .ok (.iconst 0, 1) := by decide +kernel
theorem d_CB_init_237 : decode prog_1_method_1_code 237 = .ok (.aload_n 0, 1) := by decide +kernel
theorem d_CB_init_238 : decode prog_1_method_1_code 238 = .ok (.getfield 38, 3) := by decide +kernel
theorem d_CB_init_241 : decode prog_1_method_1_code 241 = .ok (.iconst 0, 1) := by decide +kernel
theorem d_CB_init_242 : decode prog_1_method_1_code 242 = .ok (.iconst 4, 1) := by decide +kernel
theorem d_CB_init_243 : decode prog_1_method_1_code 243 = .ok (.invokestatic 107, 3) := by decide +kernel
theorem d_CB_init_246 : decode prog_1_method_1_code 246 = .ok (.return_, 1) := by decide +kernel
def Y_CB_init : Mi := (⟨"CauseBook", "<init>", "()V"⟩, prog_1_method_1_code, 2, none, 3, 120)
theorem K_CB_init : kb_Y Y_CB_init 0 := ⟨cw_20, cw_1, cw_21, ⟨by decide, by decide⟩, by decide +kernel, rfl, rfl⟩
theorem d_RM_init_0 : decode prog_13_method_1_code 0 = .ok (.aload_n 0, 1) := by decide +kernel
theorem d_RM_init_1 : decode prog_13_method_1_code 1 = .ok (.invokespecial 1, 3) := by decide +kernel
theorem d_RM_init_4 : decode prog_13_method_1_code 4 = .ok (.aload_n 0, 1) := by decide +kernel
theorem d_RM_init_5 : decode prog_13_method_1_code 5 = .ok (.bipush 6, 2) := by decide +kernel
theorem d_RM_init_7 : decode prog_13_method_1_code 7 = .ok (.newarray .int, 2) := by decide +kernel
theorem d_RM_init_9 : decode prog_13_method_1_code 9 = .ok (.putfield 7, 3) := by decide +kernel
theorem d_RM_init_12 : decode prog_13_method_1_code 12 = .ok (.aload_n 0, 1) := by decide +kernel
theorem d_RM_init_13 : decode prog_13_method_1_code 13 = .ok (.iconst 4, 1) := by decide +kernel
theorem d_RM_init_14 : decode prog_13_method_1_code 14 = .ok (.newarray .int, 2) := by decide +kernel
theorem d_RM_init_16 : decode prog_13_method_1_code 16 = .ok (.putfield 13, 3) := by decide +kernel
theorem d_RM_init_19 : decode prog_13_method_1_code 19 = .ok (.aload_n 0, 1) := by decide +kernel
theorem d_RM_init_20 : decode prog_13_method_1_code 20 = .ok (.sipush 240, 3) := by decide +kernel
theorem d_RM_init_23 : decode prog_13_method_1_code 23 = .ok (.newarray .int, 2) := by decide +kernel
theorem d_RM_init_25 : decode prog_13_method_1_code 25 = .ok (.putfield 16, 3) := by decide +kernel
theorem d_RM_init_28 : decode prog_13_method_1_code 28 = .ok (.aload_n 0, 1) := by decide +kernel
theorem d_RM_init_29 : decode prog_13_method_1_code 29 = .ok (.sipush 2400, 3) := by decide +kernel
theorem d_RM_init_32 : decode prog_13_method_1_code 32 = .ok (.newarray .int, 2) := by decide +kernel
theorem d_RM_init_34 : decode prog_13_method_1_code 34 = .ok (.putfield 19, 3) := by decide +kernel
theorem d_RM_init_37 : decode prog_13_method_1_code 37 = .ok (.aload_n 0, 1) := by decide +kernel
theorem d_RM_init_38 : decode prog_13_method_1_code 38 = .ok (.bipush 10, 2) := by decide +kernel
theorem d_RM_init_40 : decode prog_13_method_1_code 40 = .ok (.newarray .int, 2) := by decide +kernel
theorem d_RM_init_42 : decode prog_13_method_1_code 42 = .ok (.putfield 22, 3) := by decide +kernel
theorem d_RM_init_45 : decode prog_13_method_1_code 45 = .ok (.aload_n 0, 1) := by decide +kernel
theorem d_RM_init_46 : decode prog_13_method_1_code 46 = .ok (.sipush 480, 3) := by decide +kernel
theorem d_RM_init_49 : decode prog_13_method_1_code 49 = .ok (.newarray .int, 2) := by decide +kernel
theorem d_RM_init_51 : decode prog_13_method_1_code 51 = .ok (.putfield 25, 3) := by decide +kernel
theorem d_RM_init_54 : decode prog_13_method_1_code 54 = .ok (.aload_n 0, 1) := by decide +kernel
theorem d_RM_init_55 : decode prog_13_method_1_code 55 = .ok (.iconst 2, 1) := by decide +kernel
theorem d_RM_init_56 : decode prog_13_method_1_code 56 = .ok (.newarray .boolean, 2) := by decide +kernel
theorem d_RM_init_58 : decode prog_13_method_1_code 58 = .ok (.putfield 28, 3) := by decide +kernel
theorem d_RM_init_61 : decode prog_13_method_1_code 61 = .ok (.aload_n 0, 1) := by decide +kernel
theorem d_RM_init_62 : decode prog_13_method_1_code 62 = .ok (.bipush 12, 2) := by decide +kernel
theorem d_RM_init_64 : decode prog_13_method_1_code 64 = .ok (.newarray .int, 2) := by decide +kernel
theorem d_RM_init_66 : decode prog_13_method_1_code 66 = .ok (.putfield 32, 3) := by decide +kernel
theorem d_RM_init_69 : decode prog_13_method_1_code 69 = .ok (.aload_n 0, 1) := by decide +kernel
theorem d_RM_init_70 : decode prog_13_method_1_code 70 = .ok (.bipush 12, 2) := by decide +kernel
theorem d_RM_init_72 : decode prog_13_method_1_code 72 = .ok (.newarray .int, 2) := by decide +kernel
theorem d_RM_init_74 : decode prog_13_method_1_code 74 = .ok (.putfield 35, 3) := by decide +kernel
theorem d_RM_init_77 : decode prog_13_method_1_code 77 = .ok (.aload_n 0, 1) := by decide +kernel
theorem d_RM_init_78 : decode prog_13_method_1_code 78 = .ok (.bipush 12, 2) := by decide +kernel
theorem d_RM_init_80 : decode prog_13_method_1_code 80 = .ok (.newarray .int, 2) := by decide +kernel
theorem d_RM_init_82 : decode prog_13_method_1_code 82 = .ok (.putfield 38, 3) := by decide +kernel
theorem d_RM_init_85 : decode prog_13_method_1_code 85 = .ok (.aload_n 0, 1) := by decide +kernel
theorem d_RM_init_86 : decode prog_13_method_1_code 86 = .ok (.bipush 12, 2) := by decide +kernel
theorem d_RM_init_88 : decode prog_13_method_1_code 88 = .ok (.newarray .int, 2) := by decide +kernel
theorem d_RM_init_90 : decode prog_13_method_1_code 90 = .ok (.putfield 41, 3) := by decide +kernel
theorem d_RM_init_93 : decode prog_13_method_1_code 93 = .ok (.aload_n 0, 1) := by decide +kernel
theorem d_RM_init_94 : decode prog_13_method_1_code 94 = .ok (.bipush 80, 2) := by decide +kernel
theorem d_RM_init_96 : decode prog_13_method_1_code 96 = .ok (.newarray .int, 2) := by decide +kernel
theorem d_RM_init_98 : decode prog_13_method_1_code 98 = .ok (.putfield 44, 3) := by decide +kernel
theorem d_RM_init_101 : decode prog_13_method_1_code 101 = .ok (.aload_n 0, 1) := by decide +kernel
theorem d_RM_init_102 : decode prog_13_method_1_code 102 = .ok (.bipush 12, 2) := by decide +kernel
theorem d_RM_init_104 : decode prog_13_method_1_code 104 = .ok (.newarray .int, 2) := by decide +kernel
theorem d_RM_init_106 : decode prog_13_method_1_code 106 = .ok (.putfield 47, 3) := by decide +kernel
theorem d_RM_init_109 : decode prog_13_method_1_code 109 = .ok (.aload_n 0, 1) := by decide +kernel
theorem d_RM_init_110 : decode prog_13_method_1_code 110 = .ok (.bipush 12, 2) := by decide +kernel
theorem d_RM_init_112 : decode prog_13_method_1_code 112 = .ok (.newarray .int, 2) := by decide +kernel
theorem d_RM_init_114 : decode prog_13_method_1_code 114 = .ok (.putfield 50, 3) := by decide +kernel
theorem d_RM_init_117 : decode prog_13_method_1_code 117 = .ok (.aload_n 0, 1) := by decide +kernel
theorem d_RM_init_118 : decode prog_13_method_1_code 118 = .ok (.bipush 60, 2) := by decide +kernel
theorem d_RM_init_120 : decode prog_13_method_1_code 120 = .ok (.newarray .int, 2) := by decide +kernel
theorem d_RM_init_122 : decode prog_13_method_1_code 122 = .ok (.putfield 53, 3) := by decide +kernel
theorem d_RM_init_125 : decode prog_13_method_1_code 125 = .ok (.aload_n 0, 1) := by decide +kernel
theorem d_RM_init_126 : decode prog_13_method_1_code 126 = .ok (.sipush 1600, 3) := by decide +kernel
theorem d_RM_init_129 : decode prog_13_method_1_code 129 = .ok (.newarray .int, 2) := by decide +kernel
theorem d_RM_init_131 : decode prog_13_method_1_code 131 = .ok (.putfield 56, 3) := by decide +kernel
theorem d_RM_init_134 : decode prog_13_method_1_code 134 = .ok (.aload_n 0, 1) := by decide +kernel
theorem d_RM_init_135 : decode prog_13_method_1_code 135 = .ok (.getfield 13, 3) := by decide +kernel
theorem d_RM_init_138 : decode prog_13_method_1_code 138 = .ok (.iconst 0, 1) := by decide +kernel
theorem d_RM_init_139 : decode prog_13_method_1_code 139 = .ok (.iconst 2, 1) := by decide +kernel
theorem d_RM_init_140 : decode prog_13_method_1_code 140 = .ok (.iastore, 1) := by decide +kernel
theorem d_RM_init_141 : decode prog_13_method_1_code 141 = .ok (.aload_n 0, 1) := by decide +kernel
theorem d_RM_init_142 : decode prog_13_method_1_code 142 = .ok (.getfield 13, 3) := by decide +kernel
theorem d_RM_init_145 : decode prog_13_method_1_code 145 = .ok (.iconst 1, 1) := by decide +kernel
theorem d_RM_init_146 : decode prog_13_method_1_code 146 = .ok (.iconst 1, 1) := by decide +kernel
theorem d_RM_init_147 : decode prog_13_method_1_code 147 = .ok (.iastore, 1) := by decide +kernel
theorem d_RM_init_148 : decode prog_13_method_1_code 148 = .ok (.aload_n 0, 1) := by decide +kernel
theorem d_RM_init_149 : decode prog_13_method_1_code 149 = .ok (.getfield 13, 3) := by decide +kernel
theorem d_RM_init_152 : decode prog_13_method_1_code 152 = .ok (.iconst 2, 1) := by decide +kernel
theorem d_RM_init_153 : decode prog_13_method_1_code 153 = .ok (.iconst 1, 1) := by decide +kernel
theorem d_RM_init_154 : decode prog_13_method_1_code 154 = .ok (.iastore, 1) := by decide +kernel
theorem d_RM_init_155 : decode prog_13_method_1_code 155 = .ok (.aload_n 0, 1) := by decide +kernel
theorem d_RM_init_156 : decode prog_13_method_1_code 156 = .ok (.getfield 13, 3) := by decide +kernel
theorem d_RM_init_159 : decode prog_13_method_1_code 159 = .ok (.iconst 3, 1) := by decide +kernel
theorem d_RM_init_160 : decode prog_13_method_1_code 160 = .ok (.iconst 1, 1) := by decide +kernel
theorem d_RM_init_161 : decode prog_13_method_1_code 161 = .ok (.iastore, 1) := by decide +kernel
theorem d_RM_init_162 : decode prog_13_method_1_code 162 = .ok (.return_, 1) := by decide +kernel
def Y_RM_init : Mi := (⟨"CauseBookModel", "<init>", "()V"⟩, prog_13_method_1_code, 1, none, 1, 12)
theorem K_RM_init : kb_Y Y_RM_init 0 := ⟨cw_1053, cw_13, cw_1054, ⟨by decide, by decide⟩, by decide +kernel, rfl, rfl⟩
section KZO
variable {g : cb_G} {al : Nat → Nat}
theorem kzo_0 : cb_E (kg g al) mz 0 = .inr (10, [.ref (al 1), .ref (al 9), .ref (al 92), .ref (al 93), .ref (al 94), .ref (al 96), .ref (al 97), .ref (al 101), .ref (al 105), .ref (al 111), .ref (al 117), .ref (al 118), .ref (al 120), .ref (al 123)]) := by
  rw [cb_E4 (show cb_kd 0 = (4, 10) from rfl)]
  have e : (List.range (cb_nf 10)).map (fun j => cv (cb_al (kg g al)) (cb_fv mz 0 10 j)) = [cv (cb_al (kg g al)) (cb_fv mz 0 10 0), cv (cb_al (kg g al)) (cb_fv mz 0 10 1), cv (cb_al (kg g al)) (cb_fv mz 0 10 2), cv (cb_al (kg g al)) (cb_fv mz 0 10 3), cv (cb_al (kg g al)) (cb_fv mz 0 10 4), cv (cb_al (kg g al)) (cb_fv mz 0 10 5), cv (cb_al (kg g al)) (cb_fv mz 0 10 6), cv (cb_al (kg g al)) (cb_fv mz 0 10 7), cv (cb_al (kg g al)) (cb_fv mz 0 10 8), cv (cb_al (kg g al)) (cb_fv mz 0 10 9), cv (cb_al (kg g al)) (cb_fv mz 0 10 10), cv (cb_al (kg g al)) (cb_fv mz 0 10 11), cv (cb_al (kg g al)) (cb_fv mz 0 10 12), cv (cb_al (kg g al)) (cb_fv mz 0 10 13)] := rfl
  rw [e, kz_ref (k := 0) (ci := 10) (j := 0) rfl (by decide), kz_ref (k := 0) (ci := 10) (j := 1) rfl (by decide), kz_ref (k := 0) (ci := 10) (j := 2) rfl (by decide), kz_ref (k := 0) (ci := 10) (j := 3) rfl (by decide), kz_ref (k := 0) (ci := 10) (j := 4) rfl (by decide), kz_ref (k := 0) (ci := 10) (j := 5) rfl (by decide), kz_ref (k := 0) (ci := 10) (j := 6) rfl (by decide), kz_ref (k := 0) (ci := 10) (j := 7) rfl (by decide), kz_ref (k := 0) (ci := 10) (j := 8) rfl (by decide), kz_ref (k := 0) (ci := 10) (j := 9) rfl (by decide), kz_ref (k := 0) (ci := 10) (j := 10) rfl (by decide), kz_ref (k := 0) (ci := 10) (j := 11) rfl (by decide), kz_ref (k := 0) (ci := 10) (j := 12) rfl (by decide), kz_ref (k := 0) (ci := 10) (j := 13) rfl (by decide)]
  rfl
theorem kzo_9 : cb_E (kg g al) mz 9 = .inr (4, [.ref (al 10), .ref (al 11), .int 0, .int 0]) := by
  rw [cb_E4 (show cb_kd 9 = (4, 4) from rfl)]
  have e : (List.range (cb_nf 4)).map (fun j => cv (cb_al (kg g al)) (cb_fv mz 9 4 j)) = [cv (cb_al (kg g al)) (cb_fv mz 9 4 0), cv (cb_al (kg g al)) (cb_fv mz 9 4 1), cv (cb_al (kg g al)) (cb_fv mz 9 4 2), cv (cb_al (kg g al)) (cb_fv mz 9 4 3)] := rfl
  rw [e, kz_ref (k := 9) (ci := 4) (j := 0) rfl (by decide), kz_ref (k := 9) (ci := 4) (j := 1) rfl (by decide), kz_int (k := 9) (ci := 4) (j := 2) (Or.inl rfl) (by decide) (by decide), kz_int (k := 9) (ci := 4) (j := 3) (Or.inl rfl) (by decide) (by decide)]
  rfl
theorem kzo_94 : cb_E (kg g al) mz 94 = .inr (7, [.ref (al 95), .int 0]) := by
  rw [cb_E4 (show cb_kd 94 = (4, 7) from rfl)]
  have e : (List.range (cb_nf 7)).map (fun j => cv (cb_al (kg g al)) (cb_fv mz 94 7 j)) = [cv (cb_al (kg g al)) (cb_fv mz 94 7 0), cv (cb_al (kg g al)) (cb_fv mz 94 7 1)] := rfl
  rw [e, kz_ref (k := 94) (ci := 7) (j := 0) rfl (by decide), kz_int (k := 94) (ci := 7) (j := 1) (Or.inl rfl) (by decide) (by decide)]
  rfl
theorem kzo_97 : cb_E (kg g al) mz 97 = .inr (8, [.int 0, .ref (al 98), .ref (al 99), .ref (al 100)]) := by
  rw [cb_E4 (show cb_kd 97 = (4, 8) from rfl)]
  have e : (List.range (cb_nf 8)).map (fun j => cv (cb_al (kg g al)) (cb_fv mz 97 8 j)) = [cv (cb_al (kg g al)) (cb_fv mz 97 8 0), cv (cb_al (kg g al)) (cb_fv mz 97 8 1), cv (cb_al (kg g al)) (cb_fv mz 97 8 2), cv (cb_al (kg g al)) (cb_fv mz 97 8 3)] := rfl
  rw [e, kz_int (k := 97) (ci := 8) (j := 0) (Or.inl rfl) (by decide) (by decide), kz_ref (k := 97) (ci := 8) (j := 1) rfl (by decide), kz_ref (k := 97) (ci := 8) (j := 2) rfl (by decide), kz_ref (k := 97) (ci := 8) (j := 3) rfl (by decide)]
  rfl
theorem kzo_101 : cb_E (kg g al) mz 101 = .inr (8, [.int 0, .ref (al 102), .ref (al 103), .ref (al 104)]) := by
  rw [cb_E4 (show cb_kd 101 = (4, 8) from rfl)]
  have e : (List.range (cb_nf 8)).map (fun j => cv (cb_al (kg g al)) (cb_fv mz 101 8 j)) = [cv (cb_al (kg g al)) (cb_fv mz 101 8 0), cv (cb_al (kg g al)) (cb_fv mz 101 8 1), cv (cb_al (kg g al)) (cb_fv mz 101 8 2), cv (cb_al (kg g al)) (cb_fv mz 101 8 3)] := rfl
  rw [e, kz_int (k := 101) (ci := 8) (j := 0) (Or.inl rfl) (by decide) (by decide), kz_ref (k := 101) (ci := 8) (j := 1) rfl (by decide), kz_ref (k := 101) (ci := 8) (j := 2) rfl (by decide), kz_ref (k := 101) (ci := 8) (j := 3) rfl (by decide)]
  rfl
theorem kzo_105 : cb_E (kg g al) mz 105 = .inr (9, [.ref (al 1), .ref (al 97), .ref (al 106), .ref (al 107), .ref (al 108), .ref (al 109), .ref (al 110), .int 0, .int 0]) := by
  rw [cb_E4 (show cb_kd 105 = (4, 9) from rfl)]
  have e : (List.range (cb_nf 9)).map (fun j => cv (cb_al (kg g al)) (cb_fv mz 105 9 j)) = [cv (cb_al (kg g al)) (cb_fv mz 105 9 0), cv (cb_al (kg g al)) (cb_fv mz 105 9 1), cv (cb_al (kg g al)) (cb_fv mz 105 9 2), cv (cb_al (kg g al)) (cb_fv mz 105 9 3), cv (cb_al (kg g al)) (cb_fv mz 105 9 4), cv (cb_al (kg g al)) (cb_fv mz 105 9 5), cv (cb_al (kg g al)) (cb_fv mz 105 9 6), cv (cb_al (kg g al)) (cb_fv mz 105 9 7), cv (cb_al (kg g al)) (cb_fv mz 105 9 8)] := rfl
  rw [e, kz_ref (k := 105) (ci := 9) (j := 0) rfl (by decide), kz_ref (k := 105) (ci := 9) (j := 1) rfl (by decide), kz_ref (k := 105) (ci := 9) (j := 2) rfl (by decide), kz_ref (k := 105) (ci := 9) (j := 3) rfl (by decide), kz_ref (k := 105) (ci := 9) (j := 4) rfl (by decide), kz_ref (k := 105) (ci := 9) (j := 5) rfl (by decide), kz_ref (k := 105) (ci := 9) (j := 6) rfl (by decide), kz_int (k := 105) (ci := 9) (j := 7) (Or.inl rfl) (by decide) (by decide), kz_int (k := 105) (ci := 9) (j := 8) (Or.inr rfl) (by decide) (by decide)]
  rfl
theorem kzo_111 : cb_E (kg g al) mz 111 = .inr (2, [.ref (al 1), .ref (al 105), .ref (al 97), .ref (al 101), .ref (al 112), .ref (al 113), .ref (al 114), .ref (al 115), .ref (al 116), .int 0, .int 0, .int 0, .int 0, .int 0, .int 0]) := by
  rw [cb_E4 (show cb_kd 111 = (4, 2) from rfl)]
  have e : (List.range (cb_nf 2)).map (fun j => cv (cb_al (kg g al)) (cb_fv mz 111 2 j)) = [cv (cb_al (kg g al)) (cb_fv mz 111 2 0), cv (cb_al (kg g al)) (cb_fv mz 111 2 1), cv (cb_al (kg g al)) (cb_fv mz 111 2 2), cv (cb_al (kg g al)) (cb_fv mz 111 2 3), cv (cb_al (kg g al)) (cb_fv mz 111 2 4), cv (cb_al (kg g al)) (cb_fv mz 111 2 5), cv (cb_al (kg g al)) (cb_fv mz 111 2 6), cv (cb_al (kg g al)) (cb_fv mz 111 2 7), cv (cb_al (kg g al)) (cb_fv mz 111 2 8), cv (cb_al (kg g al)) (cb_fv mz 111 2 9), cv (cb_al (kg g al)) (cb_fv mz 111 2 10), cv (cb_al (kg g al)) (cb_fv mz 111 2 11), cv (cb_al (kg g al)) (cb_fv mz 111 2 12), cv (cb_al (kg g al)) (cb_fv mz 111 2 13), cv (cb_al (kg g al)) (cb_fv mz 111 2 14)] := rfl
  rw [e, kz_ref (k := 111) (ci := 2) (j := 0) rfl (by decide), kz_ref (k := 111) (ci := 2) (j := 1) rfl (by decide), kz_ref (k := 111) (ci := 2) (j := 2) rfl (by decide), kz_ref (k := 111) (ci := 2) (j := 3) rfl (by decide), kz_ref (k := 111) (ci := 2) (j := 4) rfl (by decide), kz_ref (k := 111) (ci := 2) (j := 5) rfl (by decide), kz_ref (k := 111) (ci := 2) (j := 6) rfl (by decide), kz_ref (k := 111) (ci := 2) (j := 7) rfl (by decide), kz_ref (k := 111) (ci := 2) (j := 8) rfl (by decide), kz_int (k := 111) (ci := 2) (j := 9) (Or.inl rfl) (by decide) (by decide), kz_int (k := 111) (ci := 2) (j := 10) (Or.inl rfl) (by decide) (by decide), kz_int (k := 111) (ci := 2) (j := 11) (Or.inl rfl) (by decide) (by decide), kz_int (k := 111) (ci := 2) (j := 12) (Or.inr rfl) (by decide) (by decide), kz_int (k := 111) (ci := 2) (j := 13) (Or.inr rfl) (by decide) (by decide), kz_int (k := 111) (ci := 2) (j := 14) (Or.inr rfl) (by decide) (by decide)]
  rfl
theorem kzo_117 : cb_E (kg g al) mz 117 = .inr (3, [.ref (al 1), .ref (al 111), .int 0, .int 0]) := by
  rw [cb_E4 (show cb_kd 117 = (4, 3) from rfl)]
  have e : (List.range (cb_nf 3)).map (fun j => cv (cb_al (kg g al)) (cb_fv mz 117 3 j)) = [cv (cb_al (kg g al)) (cb_fv mz 117 3 0), cv (cb_al (kg g al)) (cb_fv mz 117 3 1), cv (cb_al (kg g al)) (cb_fv mz 117 3 2), cv (cb_al (kg g al)) (cb_fv mz 117 3 3)] := rfl
  rw [e, kz_ref (k := 117) (ci := 3) (j := 0) rfl (by decide), kz_ref (k := 117) (ci := 3) (j := 1) rfl (by decide), kz_int (k := 117) (ci := 3) (j := 2) (Or.inl rfl) (by decide) (by decide), kz_int (k := 117) (ci := 3) (j := 3) (Or.inl rfl) (by decide) (by decide)]
  rfl
theorem kzo_118 : cb_E (kg g al) mz 118 = .inr (0, [.ref (al 1), .ref (al 111), .ref (al 96), .ref (al 119), .long 0, .long 0]) := by
  rw [cb_E4 (show cb_kd 118 = (4, 0) from rfl)]
  have e : (List.range (cb_nf 0)).map (fun j => cv (cb_al (kg g al)) (cb_fv mz 118 0 j)) = [cv (cb_al (kg g al)) (cb_fv mz 118 0 0), cv (cb_al (kg g al)) (cb_fv mz 118 0 1), cv (cb_al (kg g al)) (cb_fv mz 118 0 2), cv (cb_al (kg g al)) (cb_fv mz 118 0 3), cv (cb_al (kg g al)) (cb_fv mz 118 0 4), cv (cb_al (kg g al)) (cb_fv mz 118 0 5)] := rfl
  rw [e, kz_ref (k := 118) (ci := 0) (j := 0) rfl (by decide), kz_ref (k := 118) (ci := 0) (j := 1) rfl (by decide), kz_ref (k := 118) (ci := 0) (j := 2) rfl (by decide), kz_ref (k := 118) (ci := 0) (j := 3) rfl (by decide), kz_long (k := 118) (ci := 0) (j := 4) rfl, kz_long (k := 118) (ci := 0) (j := 5) rfl]
  rfl
theorem kzo_120 : cb_E (kg g al) mz 120 = .inr (6, [.ref (al 111), .ref (al 121), .ref (al 122), .int 0, .int 0]) := by
  rw [cb_E4 (show cb_kd 120 = (4, 6) from rfl)]
  have e : (List.range (cb_nf 6)).map (fun j => cv (cb_al (kg g al)) (cb_fv mz 120 6 j)) = [cv (cb_al (kg g al)) (cb_fv mz 120 6 0), cv (cb_al (kg g al)) (cb_fv mz 120 6 1), cv (cb_al (kg g al)) (cb_fv mz 120 6 2), cv (cb_al (kg g al)) (cb_fv mz 120 6 3), cv (cb_al (kg g al)) (cb_fv mz 120 6 4)] := rfl
  rw [e, kz_ref (k := 120) (ci := 6) (j := 0) rfl (by decide), kz_ref (k := 120) (ci := 6) (j := 1) rfl (by decide), kz_ref (k := 120) (ci := 6) (j := 2) rfl (by decide), kz_int (k := 120) (ci := 6) (j := 3) (Or.inl rfl) (by decide) (by decide), kz_int (k := 120) (ci := 6) (j := 4) (Or.inl rfl) (by decide) (by decide)]
  rfl
theorem kzo_123 : cb_E (kg g al) mz 123 = .inr (1, [.ref (al 1), .ref (al 111), .ref (al 96), .ref (al 124), .int 0]) := by
  rw [cb_E4 (show cb_kd 123 = (4, 1) from rfl)]
  have e : (List.range (cb_nf 1)).map (fun j => cv (cb_al (kg g al)) (cb_fv mz 123 1 j)) = [cv (cb_al (kg g al)) (cb_fv mz 123 1 0), cv (cb_al (kg g al)) (cb_fv mz 123 1 1), cv (cb_al (kg g al)) (cb_fv mz 123 1 2), cv (cb_al (kg g al)) (cb_fv mz 123 1 3), cv (cb_al (kg g al)) (cb_fv mz 123 1 4)] := rfl
  rw [e, kz_ref (k := 123) (ci := 1) (j := 0) rfl (by decide), kz_ref (k := 123) (ci := 1) (j := 1) rfl (by decide), kz_ref (k := 123) (ci := 1) (j := 2) rfl (by decide), kz_ref (k := 123) (ci := 1) (j := 3) rfl (by decide), kz_int (k := 123) (ci := 1) (j := 4) (Or.inl rfl) (by decide) (by decide)]
  rfl
theorem kzo_141 : cb_E (kg g al) mz 141 = .inr (11, [.int 0, .int 0, .ref (al 142), .ref (al 143), .ref (al 144), .ref (al 145), .ref (al 146), .int 0, .ref (al 147), .ref (al 148), .ref (al 149), .ref (al 150), .int 0, .ref (al 151), .ref (al 152), .int 0, .ref (al 153), .ref (al 154), .int 0, .int 0, .int 0, .ref (al 155), .ref (al 156), .ref (al 157), .int 0]) := by
  rw [cb_E4 (show cb_kd 141 = (4, 11) from rfl)]
  have e : (List.range (cb_nf 11)).map (fun j => cv (cb_al (kg g al)) (cb_fv mz 141 11 j)) = [cv (cb_al (kg g al)) (cb_fv mz 141 11 0), cv (cb_al (kg g al)) (cb_fv mz 141 11 1), cv (cb_al (kg g al)) (cb_fv mz 141 11 2), cv (cb_al (kg g al)) (cb_fv mz 141 11 3), cv (cb_al (kg g al)) (cb_fv mz 141 11 4), cv (cb_al (kg g al)) (cb_fv mz 141 11 5), cv (cb_al (kg g al)) (cb_fv mz 141 11 6), cv (cb_al (kg g al)) (cb_fv mz 141 11 7), cv (cb_al (kg g al)) (cb_fv mz 141 11 8), cv (cb_al (kg g al)) (cb_fv mz 141 11 9), cv (cb_al (kg g al)) (cb_fv mz 141 11 10), cv (cb_al (kg g al)) (cb_fv mz 141 11 11), cv (cb_al (kg g al)) (cb_fv mz 141 11 12), cv (cb_al (kg g al)) (cb_fv mz 141 11 13), cv (cb_al (kg g al)) (cb_fv mz 141 11 14), cv (cb_al (kg g al)) (cb_fv mz 141 11 15), cv (cb_al (kg g al)) (cb_fv mz 141 11 16), cv (cb_al (kg g al)) (cb_fv mz 141 11 17), cv (cb_al (kg g al)) (cb_fv mz 141 11 18), cv (cb_al (kg g al)) (cb_fv mz 141 11 19), cv (cb_al (kg g al)) (cb_fv mz 141 11 20), cv (cb_al (kg g al)) (cb_fv mz 141 11 21), cv (cb_al (kg g al)) (cb_fv mz 141 11 22), cv (cb_al (kg g al)) (cb_fv mz 141 11 23), cv (cb_al (kg g al)) (cb_fv mz 141 11 24)] := rfl
  rw [e, kz_int (k := 141) (ci := 11) (j := 0) (Or.inl rfl) (by decide) (by decide), kz_int (k := 141) (ci := 11) (j := 1) (Or.inl rfl) (by decide) (by decide), kz_ref (k := 141) (ci := 11) (j := 2) rfl (by decide), kz_ref (k := 141) (ci := 11) (j := 3) rfl (by decide), kz_ref (k := 141) (ci := 11) (j := 4) rfl (by decide), kz_ref (k := 141) (ci := 11) (j := 5) rfl (by decide), kz_ref (k := 141) (ci := 11) (j := 6) rfl (by decide), kz_int (k := 141) (ci := 11) (j := 7) (Or.inl rfl) (by decide) (by decide), kz_ref (k := 141) (ci := 11) (j := 8) rfl (by decide), kz_ref (k := 141) (ci := 11) (j := 9) rfl (by decide), kz_ref (k := 141) (ci := 11) (j := 10) rfl (by decide), kz_ref (k := 141) (ci := 11) (j := 11) rfl (by decide), kz_int (k := 141) (ci := 11) (j := 12) (Or.inl rfl) (by decide) (by decide), kz_ref (k := 141) (ci := 11) (j := 13) rfl (by decide), kz_ref (k := 141) (ci := 11) (j := 14) rfl (by decide), kz_int (k := 141) (ci := 11) (j := 15) (Or.inl rfl) (by decide) (by decide), kz_ref (k := 141) (ci := 11) (j := 16) rfl (by decide), kz_ref (k := 141) (ci := 11) (j := 17) rfl (by decide), kz_int (k := 141) (ci := 11) (j := 18) (Or.inl rfl) (by decide) (by decide), kz_int (k := 141) (ci := 11) (j := 19) (Or.inl rfl) (by decide) (by decide), kz_int (k := 141) (ci := 11) (j := 20) (Or.inl rfl) (by decide) (by decide), kz_ref (k := 141) (ci := 11) (j := 21) rfl (by decide), kz_ref (k := 141) (ci := 11) (j := 22) rfl (by decide), kz_ref (k := 141) (ci := 11) (j := 23) rfl (by decide), kz_int (k := 141) (ci := 11) (j := 24) (Or.inl rfl) (by decide) (by decide)]
  rfl
end KZO
