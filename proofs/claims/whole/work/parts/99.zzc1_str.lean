/-! the String's methods that Reader calls: names, code, decoded rows, words of the tables (printed by str.py) -/
def sy_length : MethodName := ⟨"java/lang/String", "length", "()I"⟩
theorem sd_length_0 : decode prog_23_method_54_code 0 = .ok (.aload_n 0, 1) := by decide +kernel
theorem sd_length_1 : decode prog_23_method_54_code 1 = .ok (.getfield 9, 3) := by decide +kernel
theorem sd_length_4 : decode prog_23_method_54_code 4 = .ok (.arraylength, 1) := by decide +kernel
theorem sd_length_5 : decode prog_23_method_54_code 5 = .ok (.aload_n 0, 1) := by decide +kernel
theorem sd_length_6 : decode prog_23_method_54_code 6 = .ok (.invokevirtual 335, 3) := by decide +kernel
theorem sd_length_9 : decode prog_23_method_54_code 9 = .ok (.ishr, 1) := by decide +kernel
theorem sd_length_10 : decode prog_23_method_54_code 10 = .ok (.ireturn, 1) := by decide +kernel
theorem sw_length_c : Cond.code sy_length prog_23_method_54_code 1 (some .int) ∈ kTB := kin_ok (i := 807) (by decide +kernel)
theorem sw_length_k : Cond.instanceMethod sy_length ∈ kTB := kin_ok (i := 805) (by decide +kernel)
theorem sw_length_s : Cond.selects "java/lang/String" sy_length sy_length ∈ kTB := kin_ok (i := 806) (by decide +kernel)
theorem sw_length_lR : Cond.methodLink "MenOnCradles$Reader" 94 sy_length ∈ kTB := kin_ok (i := 804) (by decide +kernel)
theorem sw_length_lS : Cond.methodLink "java/lang/String" 505 sy_length ∈ kTB := kin_ok (i := 866) (by decide +kernel)
def sy_coder : MethodName := ⟨"java/lang/String", "coder", "()B"⟩
theorem sd_coder_0 : decode prog_23_method_152_code 0 = .ok (.getstatic 38, 3) := by decide +kernel
theorem sd_coder_3 : decode prog_23_method_152_code 3 = .ok (.ifCond .eq 10, 3) := by decide +kernel
theorem sd_coder_6 : decode prog_23_method_152_code 6 = .ok (.aload_n 0, 1) := by decide +kernel
theorem sd_coder_7 : decode prog_23_method_152_code 7 = .ok (.getfield 15, 3) := by decide +kernel
theorem sd_coder_10 : decode prog_23_method_152_code 10 = .ok (.goto 4, 3) := by decide +kernel
theorem sd_coder_13 : decode prog_23_method_152_code 13 = .ok (.iconst 1, 1) := by decide +kernel
theorem sd_coder_14 : decode prog_23_method_152_code 14 = .ok (.ireturn, 1) := by decide +kernel
theorem sw_coder_c : Cond.code sy_coder prog_23_method_152_code 1 (some .byte) ∈ kTB := kin_ok (i := 811) (by decide +kernel)
theorem sw_coder_k : Cond.instanceMethod sy_coder ∈ kTB := kin_ok (i := 809) (by decide +kernel)
theorem sw_coder_s : Cond.selects "java/lang/String" sy_coder sy_coder ∈ kTB := kin_ok (i := 810) (by decide +kernel)
theorem sw_coder_lS : Cond.methodLink "java/lang/String" 335 sy_coder ∈ kTB := kin_ok (i := 808) (by decide +kernel)
def sy_charAt : MethodName := ⟨"java/lang/String", "charAt", "(I)C"⟩
theorem sd_charAt_0 : decode prog_23_method_56_code 0 = .ok (.aload_n 0, 1) := by decide +kernel
theorem sd_charAt_1 : decode prog_23_method_56_code 1 = .ok (.invokevirtual 492, 3) := by decide +kernel
theorem sd_charAt_4 : decode prog_23_method_56_code 4 = .ok (.ifCond .eq 12, 3) := by decide +kernel
theorem sd_charAt_7 : decode prog_23_method_56_code 7 = .ok (.aload_n 0, 1) := by decide +kernel
theorem sd_charAt_8 : decode prog_23_method_56_code 8 = .ok (.getfield 9, 3) := by decide +kernel
theorem sd_charAt_11 : decode prog_23_method_56_code 11 = .ok (.iload_n 1, 1) := by decide +kernel
theorem sd_charAt_12 : decode prog_23_method_56_code 12 = .ok (.invokestatic 495, 3) := by decide +kernel
theorem sd_charAt_15 : decode prog_23_method_56_code 15 = .ok (.ireturn, 1) := by decide +kernel
theorem sd_charAt_16 : decode prog_23_method_56_code 16 = .ok (.aload_n 0, 1) := by decide +kernel
theorem sd_charAt_17 : decode prog_23_method_56_code 17 = .ok (.getfield 9, 3) := by decide +kernel
theorem sd_charAt_20 : decode prog_23_method_56_code 20 = .ok (.iload_n 1, 1) := by decide +kernel
theorem sd_charAt_21 : decode prog_23_method_56_code 21 = .ok (.invokestatic 498, 3) := by decide +kernel
theorem sd_charAt_24 : decode prog_23_method_56_code 24 = .ok (.ireturn, 1) := by decide +kernel
theorem sw_charAt_c : Cond.code sy_charAt prog_23_method_56_code 2 (some .char) ∈ kTB := kin_ok (i := 817) (by decide +kernel)
theorem sw_charAt_k : Cond.instanceMethod sy_charAt ∈ kTB := kin_ok (i := 815) (by decide +kernel)
theorem sw_charAt_s : Cond.selects "java/lang/String" sy_charAt sy_charAt ∈ kTB := kin_ok (i := 816) (by decide +kernel)
theorem sw_charAt_lR : Cond.methodLink "MenOnCradles$Reader" 97 sy_charAt ∈ kTB := kin_ok (i := 814) (by decide +kernel)
def sy_isLatin1 : MethodName := ⟨"java/lang/String", "isLatin1", "()Z"⟩
theorem sd_isLatin1_0 : decode prog_23_method_154_code 0 = .ok (.getstatic 38, 3) := by decide +kernel
theorem sd_isLatin1_3 : decode prog_23_method_154_code 3 = .ok (.ifCond .eq 14, 3) := by decide +kernel
theorem sd_isLatin1_6 : decode prog_23_method_154_code 6 = .ok (.aload_n 0, 1) := by decide +kernel
theorem sd_isLatin1_7 : decode prog_23_method_154_code 7 = .ok (.getfield 15, 3) := by decide +kernel
theorem sd_isLatin1_10 : decode prog_23_method_154_code 10 = .ok (.ifCond .ne 7, 3) := by decide +kernel
theorem sd_isLatin1_13 : decode prog_23_method_154_code 13 = .ok (.iconst 1, 1) := by decide +kernel
theorem sd_isLatin1_14 : decode prog_23_method_154_code 14 = .ok (.goto 4, 3) := by decide +kernel
theorem sd_isLatin1_17 : decode prog_23_method_154_code 17 = .ok (.iconst 0, 1) := by decide +kernel
theorem sd_isLatin1_18 : decode prog_23_method_154_code 18 = .ok (.ireturn, 1) := by decide +kernel
theorem sw_isLatin1_c : Cond.code sy_isLatin1 prog_23_method_154_code 1 (some .boolean) ∈ kTB := kin_ok (i := 821) (by decide +kernel)
theorem sw_isLatin1_k : Cond.instanceMethod sy_isLatin1 ∈ kTB := kin_ok (i := 819) (by decide +kernel)
theorem sw_isLatin1_s : Cond.selects "java/lang/String" sy_isLatin1 sy_isLatin1 ∈ kTB := kin_ok (i := 820) (by decide +kernel)
theorem sw_isLatin1_lS : Cond.methodLink "java/lang/String" 492 sy_isLatin1 ∈ kTB := kin_ok (i := 818) (by decide +kernel)
def sy_l_charAt : MethodName := ⟨"java/lang/StringLatin1", "charAt", "([BI)C"⟩
theorem sd_l_charAt_0 : decode prog_24_method_2_code 0 = .ok (.iload_n 1, 1) := by decide +kernel
theorem sd_l_charAt_1 : decode prog_24_method_2_code 1 = .ok (.aload_n 0, 1) := by decide +kernel
theorem sd_l_charAt_2 : decode prog_24_method_2_code 2 = .ok (.arraylength, 1) := by decide +kernel
theorem sd_l_charAt_3 : decode prog_24_method_2_code 3 = .ok (.invokestatic 9, 3) := by decide +kernel
theorem sd_l_charAt_6 : decode prog_24_method_2_code 6 = .ok (.aload_n 0, 1) := by decide +kernel
theorem sd_l_charAt_7 : decode prog_24_method_2_code 7 = .ok (.iload_n 1, 1) := by decide +kernel
theorem sd_l_charAt_8 : decode prog_24_method_2_code 8 = .ok (.baload, 1) := by decide +kernel
theorem sd_l_charAt_9 : decode prog_24_method_2_code 9 = .ok (.sipush 255, 3) := by decide +kernel
theorem sd_l_charAt_12 : decode prog_24_method_2_code 12 = .ok (.iand, 1) := by decide +kernel
theorem sd_l_charAt_13 : decode prog_24_method_2_code 13 = .ok (.i2c, 1) := by decide +kernel
theorem sd_l_charAt_14 : decode prog_24_method_2_code 14 = .ok (.ireturn, 1) := by decide +kernel
theorem sw_l_charAt_c : Cond.code sy_l_charAt prog_24_method_2_code 2 (some .char) ∈ kTB := kin_ok (i := 824) (by decide +kernel)
theorem sw_l_charAt_k : Cond.static sy_l_charAt ∈ kTB := kin_ok (i := 823) (by decide +kernel)
theorem sw_l_charAt_lS : Cond.methodLink "java/lang/String" 495 sy_l_charAt ∈ kTB := kin_ok (i := 822) (by decide +kernel)
def sy_check : MethodName := ⟨"java/lang/String", "checkIndex", "(II)V"⟩
theorem sd_check_0 : decode prog_23_method_155_code 0 = .ok (.iload_n 0, 1) := by decide +kernel
theorem sd_check_1 : decode prog_23_method_155_code 1 = .ok (.iload_n 1, 1) := by decide +kernel
theorem sd_check_2 : decode prog_23_method_155_code 2 = .ok (.getstatic 1053, 3) := by decide +kernel
theorem sd_check_5 : decode prog_23_method_155_code 5 = .ok (.invokestatic 1059, 3) := by decide +kernel
theorem sd_check_8 : decode prog_23_method_155_code 8 = .ok (.pop, 1) := by decide +kernel
theorem sd_check_9 : decode prog_23_method_155_code 9 = .ok (.return_, 1) := by decide +kernel
theorem sw_check_c : Cond.code sy_check prog_23_method_155_code 2 none ∈ kTB := kin_ok (i := 827) (by decide +kernel)
theorem sw_check_k : Cond.static sy_check ∈ kTB := kin_ok (i := 826) (by decide +kernel)
theorem sw_check_lL : Cond.methodLink "java/lang/StringLatin1" 9 sy_check ∈ kTB := kin_ok (i := 825) (by decide +kernel)
def sy_p_check : MethodName := ⟨"jdk/internal/util/Preconditions", "checkIndex", "(IILjava/util/function/BiFunction;)I"⟩
theorem sd_p_check_0 : decode prog_31_method_11_code 0 = .ok (.iload_n 0, 1) := by decide +kernel
theorem sd_p_check_1 : decode prog_31_method_11_code 1 = .ok (.ifCond .lt 8, 3) := by decide +kernel
theorem sd_p_check_4 : decode prog_31_method_11_code 4 = .ok (.iload_n 0, 1) := by decide +kernel
theorem sd_p_check_5 : decode prog_31_method_11_code 5 = .ok (.iload_n 1, 1) := by decide +kernel
theorem sd_p_check_6 : decode prog_31_method_11_code 6 = .ok (.if_icmp .lt 10, 3) := by decide +kernel
theorem sd_p_check_9 : decode prog_31_method_11_code 9 = .ok (.aload_n 2, 1) := by decide +kernel
theorem sd_p_check_10 : decode prog_31_method_11_code 10 = .ok (.iload_n 0, 1) := by decide +kernel
theorem sd_p_check_11 : decode prog_31_method_11_code 11 = .ok (.iload_n 1, 1) := by decide +kernel
theorem sd_p_check_12 : decode prog_31_method_11_code 12 = .ok (.invokestatic 95, 3) := by decide +kernel
theorem sd_p_check_15 : decode prog_31_method_11_code 15 = .ok (.athrow, 1) := by decide +kernel
theorem sd_p_check_16 : decode prog_31_method_11_code 16 = .ok (.iload_n 0, 1) := by decide +kernel
theorem sd_p_check_17 : decode prog_31_method_11_code 17 = .ok (.ireturn, 1) := by decide +kernel
theorem sw_p_check_c : Cond.code sy_p_check prog_31_method_11_code 3 (some .int) ∈ kTB := kin_ok (i := 832) (by decide +kernel)
theorem sw_p_check_k : Cond.static sy_p_check ∈ kTB := kin_ok (i := 831) (by decide +kernel)
theorem sw_p_check_lS : Cond.methodLink "java/lang/String" 1059 sy_p_check ∈ kTB := kin_ok (i := 830) (by decide +kernel)
def sy_indexOf : MethodName := ⟨"java/lang/String", "indexOf", "(I)I"⟩
theorem sd_indexOf_0 : decode prog_23_method_79_code 0 = .ok (.aload_n 0, 1) := by decide +kernel
theorem sd_indexOf_1 : decode prog_23_method_79_code 1 = .ok (.iload_n 1, 1) := by decide +kernel
theorem sd_indexOf_2 : decode prog_23_method_79_code 2 = .ok (.iconst 0, 1) := by decide +kernel
theorem sd_indexOf_3 : decode prog_23_method_79_code 3 = .ok (.invokevirtual 633, 3) := by decide +kernel
theorem sd_indexOf_6 : decode prog_23_method_79_code 6 = .ok (.ireturn, 1) := by decide +kernel
theorem sw_indexOf_c : Cond.code sy_indexOf prog_23_method_79_code 2 (some .int) ∈ kTB := kin_ok (i := 861) (by decide +kernel)
theorem sw_indexOf_k : Cond.instanceMethod sy_indexOf ∈ kTB := kin_ok (i := 859) (by decide +kernel)
theorem sw_indexOf_s : Cond.selects "java/lang/String" sy_indexOf sy_indexOf ∈ kTB := kin_ok (i := 860) (by decide +kernel)
theorem sw_indexOf_lR : Cond.methodLink "MenOnCradles$Reader" 80 sy_indexOf ∈ kTB := kin_ok (i := 858) (by decide +kernel)
def sy_indexOf2 : MethodName := ⟨"java/lang/String", "indexOf", "(II)I"⟩
theorem sd_indexOf2_0 : decode prog_23_method_80_code 0 = .ok (.aload_n 0, 1) := by decide +kernel
theorem sd_indexOf2_1 : decode prog_23_method_80_code 1 = .ok (.invokevirtual 492, 3) := by decide +kernel
theorem sd_indexOf2_4 : decode prog_23_method_80_code 4 = .ok (.ifCond .eq 19, 3) := by decide +kernel
theorem sd_indexOf2_7 : decode prog_23_method_80_code 7 = .ok (.aload_n 0, 1) := by decide +kernel
theorem sd_indexOf2_8 : decode prog_23_method_80_code 8 = .ok (.getfield 9, 3) := by decide +kernel
theorem sd_indexOf2_11 : decode prog_23_method_80_code 11 = .ok (.iload_n 1, 1) := by decide +kernel
theorem sd_indexOf2_12 : decode prog_23_method_80_code 12 = .ok (.iload_n 2, 1) := by decide +kernel
theorem sd_indexOf2_13 : decode prog_23_method_80_code 13 = .ok (.aload_n 0, 1) := by decide +kernel
theorem sd_indexOf2_14 : decode prog_23_method_80_code 14 = .ok (.invokevirtual 505, 3) := by decide +kernel
theorem sd_indexOf2_17 : decode prog_23_method_80_code 17 = .ok (.invokestatic 637, 3) := by decide +kernel
theorem sd_indexOf2_20 : decode prog_23_method_80_code 20 = .ok (.goto 16, 3) := by decide +kernel
theorem sd_indexOf2_23 : decode prog_23_method_80_code 23 = .ok (.aload_n 0, 1) := by decide +kernel
theorem sd_indexOf2_24 : decode prog_23_method_80_code 24 = .ok (.getfield 9, 3) := by decide +kernel
theorem sd_indexOf2_27 : decode prog_23_method_80_code 27 = .ok (.iload_n 1, 1) := by decide +kernel
theorem sd_indexOf2_28 : decode prog_23_method_80_code 28 = .ok (.iload_n 2, 1) := by decide +kernel
theorem sd_indexOf2_29 : decode prog_23_method_80_code 29 = .ok (.aload_n 0, 1) := by decide +kernel
theorem sd_indexOf2_30 : decode prog_23_method_80_code 30 = .ok (.invokevirtual 505, 3) := by decide +kernel
theorem sd_indexOf2_33 : decode prog_23_method_80_code 33 = .ok (.invokestatic 640, 3) := by decide +kernel
theorem sd_indexOf2_36 : decode prog_23_method_80_code 36 = .ok (.ireturn, 1) := by decide +kernel
theorem sw_indexOf2_c : Cond.code sy_indexOf2 prog_23_method_80_code 3 (some .int) ∈ kTB := kin_ok (i := 865) (by decide +kernel)
theorem sw_indexOf2_k : Cond.instanceMethod sy_indexOf2 ∈ kTB := kin_ok (i := 863) (by decide +kernel)
theorem sw_indexOf2_s : Cond.selects "java/lang/String" sy_indexOf2 sy_indexOf2 ∈ kTB := kin_ok (i := 864) (by decide +kernel)
theorem sw_indexOf2_lS : Cond.methodLink "java/lang/String" 633 sy_indexOf2 ∈ kTB := kin_ok (i := 862) (by decide +kernel)
def sy_l_indexOf : MethodName := ⟨"java/lang/StringLatin1", "indexOf", "([BIII)I"⟩
theorem sd_l_indexOf_0 : decode prog_24_method_22_code 0 = .ok (.iload_n 1, 1) := by decide +kernel
theorem sd_l_indexOf_1 : decode prog_24_method_22_code 1 = .ok (.invokestatic 88, 3) := by decide +kernel
theorem sd_l_indexOf_4 : decode prog_24_method_22_code 4 = .ok (.ifCond .ne 5, 3) := by decide +kernel
theorem sd_l_indexOf_7 : decode prog_24_method_22_code 7 = .ok (.iconst (-1), 1) := by decide +kernel
theorem sd_l_indexOf_8 : decode prog_24_method_22_code 8 = .ok (.ireturn, 1) := by decide +kernel
theorem sd_l_indexOf_9 : decode prog_24_method_22_code 9 = .ok (.iload_n 2, 1) := by decide +kernel
theorem sd_l_indexOf_10 : decode prog_24_method_22_code 10 = .ok (.iconst 0, 1) := by decide +kernel
theorem sd_l_indexOf_11 : decode prog_24_method_22_code 11 = .ok (.invokestatic 92, 3) := by decide +kernel
theorem sd_l_indexOf_14 : decode prog_24_method_22_code 14 = .ok (.istore_n 2, 1) := by decide +kernel
theorem sd_l_indexOf_15 : decode prog_24_method_22_code 15 = .ok (.iload_n 3, 1) := by decide +kernel
theorem sd_l_indexOf_16 : decode prog_24_method_22_code 16 = .ok (.aload_n 0, 1) := by decide +kernel
theorem sd_l_indexOf_17 : decode prog_24_method_22_code 17 = .ok (.arraylength, 1) := by decide +kernel
theorem sd_l_indexOf_18 : decode prog_24_method_22_code 18 = .ok (.invokestatic 38, 3) := by decide +kernel
theorem sd_l_indexOf_21 : decode prog_24_method_22_code 21 = .ok (.istore_n 3, 1) := by decide +kernel
theorem sd_l_indexOf_22 : decode prog_24_method_22_code 22 = .ok (.iload_n 2, 1) := by decide +kernel
theorem sd_l_indexOf_23 : decode prog_24_method_22_code 23 = .ok (.iload_n 3, 1) := by decide +kernel
theorem sd_l_indexOf_24 : decode prog_24_method_22_code 24 = .ok (.if_icmp .lt 5, 3) := by decide +kernel
theorem sd_l_indexOf_27 : decode prog_24_method_22_code 27 = .ok (.iconst (-1), 1) := by decide +kernel
theorem sd_l_indexOf_28 : decode prog_24_method_22_code 28 = .ok (.ireturn, 1) := by decide +kernel
theorem sd_l_indexOf_29 : decode prog_24_method_22_code 29 = .ok (.aload_n 0, 1) := by decide +kernel
theorem sd_l_indexOf_30 : decode prog_24_method_22_code 30 = .ok (.iload_n 1, 1) := by decide +kernel
theorem sd_l_indexOf_31 : decode prog_24_method_22_code 31 = .ok (.iload_n 2, 1) := by decide +kernel
theorem sd_l_indexOf_32 : decode prog_24_method_22_code 32 = .ok (.iload_n 3, 1) := by decide +kernel
theorem sd_l_indexOf_33 : decode prog_24_method_22_code 33 = .ok (.invokestatic 95, 3) := by decide +kernel
theorem sd_l_indexOf_36 : decode prog_24_method_22_code 36 = .ok (.ireturn, 1) := by decide +kernel
theorem sw_l_indexOf_c : Cond.code sy_l_indexOf prog_24_method_22_code 4 (some .int) ∈ kTB := kin_ok (i := 869) (by decide +kernel)
theorem sw_l_indexOf_k : Cond.static sy_l_indexOf ∈ kTB := kin_ok (i := 868) (by decide +kernel)
theorem sw_l_indexOf_lS : Cond.methodLink "java/lang/String" 637 sy_l_indexOf ∈ kTB := kin_ok (i := 867) (by decide +kernel)
def sy_enc : MethodName := ⟨"java/lang/StringLatin1", "canEncode", "(I)Z"⟩
theorem sd_enc_0 : decode prog_24_method_4_code 0 = .ok (.iload_n 0, 1) := by decide +kernel
theorem sd_enc_1 : decode prog_24_method_4_code 1 = .ok (.ifCond .lt 14, 3) := by decide +kernel
theorem sd_enc_4 : decode prog_24_method_4_code 4 = .ok (.iload_n 0, 1) := by decide +kernel
theorem sd_enc_5 : decode prog_24_method_4_code 5 = .ok (.sipush 255, 3) := by decide +kernel
theorem sd_enc_8 : decode prog_24_method_4_code 8 = .ok (.if_icmp .gt 7, 3) := by decide +kernel
theorem sd_enc_11 : decode prog_24_method_4_code 11 = .ok (.iconst 1, 1) := by decide +kernel
theorem sd_enc_12 : decode prog_24_method_4_code 12 = .ok (.goto 4, 3) := by decide +kernel
theorem sd_enc_15 : decode prog_24_method_4_code 15 = .ok (.iconst 0, 1) := by decide +kernel
theorem sd_enc_16 : decode prog_24_method_4_code 16 = .ok (.ireturn, 1) := by decide +kernel
theorem sw_enc_c : Cond.code sy_enc prog_24_method_4_code 1 (some .boolean) ∈ kTB := kin_ok (i := 872) (by decide +kernel)
theorem sw_enc_k : Cond.static sy_enc ∈ kTB := kin_ok (i := 871) (by decide +kernel)
theorem sw_enc_lL : Cond.methodLink "java/lang/StringLatin1" 88 sy_enc ∈ kTB := kin_ok (i := 870) (by decide +kernel)
def sy_l_char : MethodName := ⟨"java/lang/StringLatin1", "indexOfChar", "([BIII)I"⟩
theorem sd_l_char_0 : decode prog_24_method_23_code 0 = .ok (.iload_n 1, 1) := by decide +kernel
theorem sd_l_char_1 : decode prog_24_method_23_code 1 = .ok (.i2b, 1) := by decide +kernel
theorem sd_l_char_2 : decode prog_24_method_23_code 2 = .ok (.istore 4, 2) := by decide +kernel
theorem sd_l_char_4 : decode prog_24_method_23_code 4 = .ok (.iload_n 2, 1) := by decide +kernel
theorem sd_l_char_5 : decode prog_24_method_23_code 5 = .ok (.istore 5, 2) := by decide +kernel
theorem sd_l_char_7 : decode prog_24_method_23_code 7 = .ok (.iload 5, 2) := by decide +kernel
theorem sd_l_char_9 : decode prog_24_method_23_code 9 = .ok (.iload_n 3, 1) := by decide +kernel
theorem sd_l_char_10 : decode prog_24_method_23_code 10 = .ok (.if_icmp .ge 21, 3) := by decide +kernel
theorem sd_l_char_13 : decode prog_24_method_23_code 13 = .ok (.aload_n 0, 1) := by decide +kernel
theorem sd_l_char_14 : decode prog_24_method_23_code 14 = .ok (.iload 5, 2) := by decide +kernel
theorem sd_l_char_16 : decode prog_24_method_23_code 16 = .ok (.baload, 1) := by decide +kernel
theorem sd_l_char_17 : decode prog_24_method_23_code 17 = .ok (.iload 4, 2) := by decide +kernel
theorem sd_l_char_19 : decode prog_24_method_23_code 19 = .ok (.if_icmp .ne 6, 3) := by decide +kernel
theorem sd_l_char_22 : decode prog_24_method_23_code 22 = .ok (.iload 5, 2) := by decide +kernel
theorem sd_l_char_24 : decode prog_24_method_23_code 24 = .ok (.ireturn, 1) := by decide +kernel
theorem sd_l_char_25 : decode prog_24_method_23_code 25 = .ok (.iinc 5 1, 3) := by decide +kernel
theorem sd_l_char_28 : decode prog_24_method_23_code 28 = .ok (.goto (-21), 3) := by decide +kernel
theorem sd_l_char_31 : decode prog_24_method_23_code 31 = .ok (.iconst (-1), 1) := by decide +kernel
theorem sd_l_char_32 : decode prog_24_method_23_code 32 = .ok (.ireturn, 1) := by decide +kernel
theorem sw_l_char_c : Cond.code sy_l_char prog_24_method_23_code 6 (some .int) ∈ kTB := kin_ok (i := 879) (by decide +kernel)
theorem sw_l_char_k : Cond.static sy_l_char ∈ kTB := kin_ok (i := 878) (by decide +kernel)
theorem sw_l_char_lL : Cond.methodLink "java/lang/StringLatin1" 95 sy_l_char ∈ kTB := kin_ok (i := 877) (by decide +kernel)
theorem sw_i_S : Cond.initialized "java/lang/String" ∈ kTB := kin_ok (i := 171) (by decide +kernel)
theorem sw_i_L1 : Cond.initialized "java/lang/StringLatin1" ∈ kTB := kin_ok (i := 172) (by decide +kernel)
theorem sw_i_PC : Cond.initialized "jdk/internal/util/Preconditions" ∈ kTB := kin_ok (i := 173) (by decide +kernel)
theorem sw_i_Math : Cond.initialized "java/lang/Math" ∈ kTB := kin_ok (i := 159) (by decide +kernel)
theorem sw_f_value : Cond.fieldLink "java/lang/String" 9 "java/lang/String" "value" "[B" ∈ kTB := kin_ok (i := 2724) (by decide +kernel)
theorem sw_f_coder : Cond.fieldLink "java/lang/String" 15 "java/lang/String" "coder" "B" ∈ kTB := kin_ok (i := 2725) (by decide +kernel)
theorem sw_f_compact : Cond.fieldLink "java/lang/String" 38 "java/lang/String" "COMPACT_STRINGS" "Z" ∈ kTB := kin_ok (i := 812) (by decide +kernel)
theorem sw_f_form : Cond.fieldLink "java/lang/String" 1053 "jdk/internal/util/Preconditions" "SIOOBE_FORMATTER" "Ljava/util/function/BiFunction;" ∈ kTB := kin_ok (i := 828) (by decide +kernel)
theorem sw_max_l : Cond.methodLink "java/lang/StringLatin1" 92 Lib.Math.max.name ∈ kTB := kin_ok (i := 873) (by decide +kernel)
theorem sw_max_k : Cond.static Lib.Math.max.name ∈ kTB := kin_ok (i := 199) (by decide +kernel)
theorem sw_max_c : Cond.code Lib.Math.max.name Lib.Math.max.code 2 (some .int) ∈ kTB := kin_ok (i := 200) (by decide +kernel)
theorem sw_min_l : Cond.methodLink "java/lang/StringLatin1" 38 Lib.Math.min.name ∈ kTB := kin_ok (i := 874) (by decide +kernel)
theorem sw_min_k : Cond.static Lib.Math.min.name ∈ kTB := kin_ok (i := 875) (by decide +kernel)
theorem sw_min_c : Cond.code Lib.Math.min.name Lib.Math.min.code 2 (some .int) ∈ kTB := kin_ok (i := 876) (by decide +kernel)
