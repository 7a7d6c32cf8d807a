/-! texts: the JDK's methods over the two constants -/
def y_ci : MethodName := ⟨"jdk/internal/util/Preconditions", "checkIndex", "(IILjava/util/function/BiFunction;)I"⟩
abbrev b_ci : ByteArray := prog_23_method_11_code
theorem w_ci_c : Cond.code y_ci b_ci 3 (some .int) ∈ mm_tG := mm_tw (p := 658) (by decide +kernel) rfl
theorem w_ci_s : Cond.static y_ci ∈ mm_tG := mm_tw (p := 657) (by decide +kernel) rfl
theorem w_ci_n : (parseMethodDescriptor y_ci.desc).map (fun d => d.parameters.length) = some 3 := by decide +kernel
theorem d_ci_0 : decode b_ci 0 = .ok (.iload_n 0, 1) := by decide +kernel
theorem d_ci_1 : decode b_ci 1 = .ok (.ifCond .lt 8, 3) := by decide +kernel
theorem d_ci_4 : decode b_ci 4 = .ok (.iload_n 0, 1) := by decide +kernel
theorem d_ci_5 : decode b_ci 5 = .ok (.iload_n 1, 1) := by decide +kernel
theorem d_ci_6 : decode b_ci 6 = .ok (.if_icmp .lt 10, 3) := by decide +kernel
theorem d_ci_16 : decode b_ci 16 = .ok (.iload_n 0, 1) := by decide +kernel
theorem d_ci_17 : decode b_ci 17 = .ok (.ireturn, 1) := by decide +kernel
def y_ck : MethodName := ⟨"java/lang/String", "checkIndex", "(II)V"⟩
abbrev b_ck : ByteArray := prog_18_method_155_code
theorem w_ck_c : Cond.code y_ck b_ck 2 none ∈ mm_tG := mm_tw (p := 653) (by decide +kernel) rfl
theorem w_ck_s : Cond.static y_ck ∈ mm_tG := mm_tw (p := 652) (by decide +kernel) rfl
theorem w_ck_n : (parseMethodDescriptor y_ck.desc).map (fun d => d.parameters.length) = some 2 := by decide +kernel
theorem d_ck_0 : decode b_ck 0 = .ok (.iload_n 0, 1) := by decide +kernel
theorem d_ck_1 : decode b_ck 1 = .ok (.iload_n 1, 1) := by decide +kernel
theorem d_ck_2 : decode b_ck 2 = .ok (.getstatic 1053, 3) := by decide +kernel
theorem d_ck_5 : decode b_ck 5 = .ok (.invokestatic 1059, 3) := by decide +kernel
theorem d_ck_8 : decode b_ck 8 = .ok (.pop, 1) := by decide +kernel
theorem d_ck_9 : decode b_ck 9 = .ok (.return_, 1) := by decide +kernel
def y_lc : MethodName := ⟨"java/lang/StringLatin1", "charAt", "([BI)C"⟩
abbrev b_lc : ByteArray := prog_19_method_2_code
theorem w_lc_c : Cond.code y_lc b_lc 2 (some .char) ∈ mm_tG := mm_tw (p := 650) (by decide +kernel) rfl
theorem w_lc_s : Cond.static y_lc ∈ mm_tG := mm_tw (p := 649) (by decide +kernel) rfl
theorem w_lc_n : (parseMethodDescriptor y_lc.desc).map (fun d => d.parameters.length) = some 2 := by decide +kernel
theorem d_lc_0 : decode b_lc 0 = .ok (.iload_n 1, 1) := by decide +kernel
theorem d_lc_1 : decode b_lc 1 = .ok (.aload_n 0, 1) := by decide +kernel
theorem d_lc_2 : decode b_lc 2 = .ok (.arraylength, 1) := by decide +kernel
theorem d_lc_3 : decode b_lc 3 = .ok (.invokestatic 9, 3) := by decide +kernel
theorem d_lc_6 : decode b_lc 6 = .ok (.aload_n 0, 1) := by decide +kernel
theorem d_lc_7 : decode b_lc 7 = .ok (.iload_n 1, 1) := by decide +kernel
theorem d_lc_8 : decode b_lc 8 = .ok (.baload, 1) := by decide +kernel
theorem d_lc_9 : decode b_lc 9 = .ok (.sipush 255, 3) := by decide +kernel
theorem d_lc_12 : decode b_lc 12 = .ok (.iand, 1) := by decide +kernel
theorem d_lc_13 : decode b_lc 13 = .ok (.i2c, 1) := by decide +kernel
theorem d_lc_14 : decode b_lc 14 = .ok (.ireturn, 1) := by decide +kernel
def y_il : MethodName := ⟨"java/lang/String", "isLatin1", "()Z"⟩
abbrev b_il : ByteArray := prog_18_method_154_code
theorem w_il_c : Cond.code y_il b_il 1 (some .boolean) ∈ mm_tG := mm_tw (p := 645) (by decide +kernel) rfl
theorem w_il_i : Cond.instanceMethod y_il ∈ mm_tG := mm_tw (p := 643) (by decide +kernel) rfl
theorem w_il_v : Cond.selects "java/lang/String" y_il y_il ∈ mm_tG := mm_tw (p := 644) (by decide +kernel) rfl
theorem w_il_n : (parseMethodDescriptor y_il.desc).map (fun d => d.parameters.length) = some 0 := by decide +kernel
theorem d_il_0 : decode b_il 0 = .ok (.getstatic 38, 3) := by decide +kernel
theorem d_il_3 : decode b_il 3 = .ok (.ifCond .eq 14, 3) := by decide +kernel
theorem d_il_6 : decode b_il 6 = .ok (.aload_n 0, 1) := by decide +kernel
theorem d_il_7 : decode b_il 7 = .ok (.getfield 15, 3) := by decide +kernel
theorem d_il_10 : decode b_il 10 = .ok (.ifCond .ne 7, 3) := by decide +kernel
theorem d_il_13 : decode b_il 13 = .ok (.iconst 1, 1) := by decide +kernel
theorem d_il_14 : decode b_il 14 = .ok (.goto 4, 3) := by decide +kernel
theorem d_il_17 : decode b_il 17 = .ok (.iconst 0, 1) := by decide +kernel
theorem d_il_18 : decode b_il 18 = .ok (.ireturn, 1) := by decide +kernel
def y_ca : MethodName := ⟨"java/lang/String", "charAt", "(I)C"⟩
abbrev b_ca : ByteArray := prog_18_method_56_code
theorem w_ca_c : Cond.code y_ca b_ca 2 (some .char) ∈ mm_tG := mm_tw (p := 641) (by decide +kernel) rfl
theorem w_ca_i : Cond.instanceMethod y_ca ∈ mm_tG := mm_tw (p := 639) (by decide +kernel) rfl
theorem w_ca_v : Cond.selects "java/lang/String" y_ca y_ca ∈ mm_tG := mm_tw (p := 640) (by decide +kernel) rfl
theorem w_ca_n : (parseMethodDescriptor y_ca.desc).map (fun d => d.parameters.length) = some 1 := by decide +kernel
theorem d_ca_0 : decode b_ca 0 = .ok (.aload_n 0, 1) := by decide +kernel
theorem d_ca_1 : decode b_ca 1 = .ok (.invokevirtual 492, 3) := by decide +kernel
theorem d_ca_4 : decode b_ca 4 = .ok (.ifCond .eq 12, 3) := by decide +kernel
theorem d_ca_7 : decode b_ca 7 = .ok (.aload_n 0, 1) := by decide +kernel
theorem d_ca_8 : decode b_ca 8 = .ok (.getfield 9, 3) := by decide +kernel
theorem d_ca_11 : decode b_ca 11 = .ok (.iload_n 1, 1) := by decide +kernel
theorem d_ca_12 : decode b_ca 12 = .ok (.invokestatic 495, 3) := by decide +kernel
theorem d_ca_15 : decode b_ca 15 = .ok (.ireturn, 1) := by decide +kernel
def y_ce : MethodName := ⟨"java/lang/StringLatin1", "canEncode", "(I)Z"⟩
abbrev b_ce : ByteArray := prog_19_method_4_code
theorem w_ce_c : Cond.code y_ce b_ce 1 (some .boolean) ∈ mm_tG := mm_tw (p := 700) (by decide +kernel) rfl
theorem w_ce_s : Cond.static y_ce ∈ mm_tG := mm_tw (p := 699) (by decide +kernel) rfl
theorem w_ce_n : (parseMethodDescriptor y_ce.desc).map (fun d => d.parameters.length) = some 1 := by decide +kernel
theorem d_ce_0 : decode b_ce 0 = .ok (.iload_n 0, 1) := by decide +kernel
theorem d_ce_1 : decode b_ce 1 = .ok (.ifCond .lt 14, 3) := by decide +kernel
theorem d_ce_4 : decode b_ce 4 = .ok (.iload_n 0, 1) := by decide +kernel
theorem d_ce_5 : decode b_ce 5 = .ok (.sipush 255, 3) := by decide +kernel
theorem d_ce_8 : decode b_ce 8 = .ok (.if_icmp .gt 7, 3) := by decide +kernel
theorem d_ce_11 : decode b_ce 11 = .ok (.iconst 1, 1) := by decide +kernel
theorem d_ce_12 : decode b_ce 12 = .ok (.goto 4, 3) := by decide +kernel
theorem d_ce_15 : decode b_ce 15 = .ok (.iconst 0, 1) := by decide +kernel
theorem d_ce_16 : decode b_ce 16 = .ok (.ireturn, 1) := by decide +kernel
def y_ic : MethodName := ⟨"java/lang/StringLatin1", "indexOfCha\x72", "([BIII)I"⟩
abbrev b_ic : ByteArray := prog_19_method_23_code
theorem w_ic_c : Cond.code y_ic b_ic 6 (some .int) ∈ mm_tG := mm_tw (p := 709) (by decide +kernel) rfl
theorem w_ic_s : Cond.static y_ic ∈ mm_tG := mm_tw (p := 708) (by decide +kernel) rfl
theorem w_ic_n : (parseMethodDescriptor y_ic.desc).map (fun d => d.parameters.length) = some 4 := by decide +kernel
theorem d_ic_0 : decode b_ic 0 = .ok (.iload_n 1, 1) := by decide +kernel
theorem d_ic_1 : decode b_ic 1 = .ok (.i2b, 1) := by decide +kernel
theorem d_ic_2 : decode b_ic 2 = .ok (.istore 4, 2) := by decide +kernel
theorem d_ic_4 : decode b_ic 4 = .ok (.iload_n 2, 1) := by decide +kernel
theorem d_ic_5 : decode b_ic 5 = .ok (.istore 5, 2) := by decide +kernel
theorem d_ic_7 : decode b_ic 7 = .ok (.iload 5, 2) := by decide +kernel
theorem d_ic_9 : decode b_ic 9 = .ok (.iload_n 3, 1) := by decide +kernel
theorem d_ic_10 : decode b_ic 10 = .ok (.if_icmp .ge 21, 3) := by decide +kernel
theorem d_ic_13 : decode b_ic 13 = .ok (.aload_n 0, 1) := by decide +kernel
theorem d_ic_14 : decode b_ic 14 = .ok (.iload 5, 2) := by decide +kernel
theorem d_ic_16 : decode b_ic 16 = .ok (.baload, 1) := by decide +kernel
theorem d_ic_17 : decode b_ic 17 = .ok (.iload 4, 2) := by decide +kernel
theorem d_ic_19 : decode b_ic 19 = .ok (.if_icmp .ne 6, 3) := by decide +kernel
theorem d_ic_22 : decode b_ic 22 = .ok (.iload 5, 2) := by decide +kernel
theorem d_ic_24 : decode b_ic 24 = .ok (.ireturn, 1) := by decide +kernel
theorem d_ic_25 : decode b_ic 25 = .ok (.iinc 5 1, 3) := by decide +kernel
theorem d_ic_28 : decode b_ic 28 = .ok (.goto (-21), 3) := by decide +kernel
theorem d_ic_31 : decode b_ic 31 = .ok (.iconst (-1), 1) := by decide +kernel
theorem d_ic_32 : decode b_ic 32 = .ok (.ireturn, 1) := by decide +kernel
def y_li : MethodName := ⟨"java/lang/StringLatin1", "indexOf", "([BIII)I"⟩
abbrev b_li : ByteArray := prog_19_method_22_code
theorem w_li_c : Cond.code y_li b_li 4 (some .int) ∈ mm_tG := mm_tw (p := 697) (by decide +kernel) rfl
theorem w_li_s : Cond.static y_li ∈ mm_tG := mm_tw (p := 696) (by decide +kernel) rfl
theorem w_li_n : (parseMethodDescriptor y_li.desc).map (fun d => d.parameters.length) = some 4 := by decide +kernel
theorem d_li_0 : decode b_li 0 = .ok (.iload_n 1, 1) := by decide +kernel
theorem d_li_1 : decode b_li 1 = .ok (.invokestatic 88, 3) := by decide +kernel
theorem d_li_4 : decode b_li 4 = .ok (.ifCond .ne 5, 3) := by decide +kernel
theorem d_li_7 : decode b_li 7 = .ok (.iconst (-1), 1) := by decide +kernel
theorem d_li_8 : decode b_li 8 = .ok (.ireturn, 1) := by decide +kernel
theorem d_li_9 : decode b_li 9 = .ok (.iload_n 2, 1) := by decide +kernel
theorem d_li_10 : decode b_li 10 = .ok (.iconst 0, 1) := by decide +kernel
theorem d_li_11 : decode b_li 11 = .ok (.invokestatic 92, 3) := by decide +kernel
theorem d_li_14 : decode b_li 14 = .ok (.istore_n 2, 1) := by decide +kernel
theorem d_li_15 : decode b_li 15 = .ok (.iload_n 3, 1) := by decide +kernel
theorem d_li_16 : decode b_li 16 = .ok (.aload_n 0, 1) := by decide +kernel
theorem d_li_17 : decode b_li 17 = .ok (.arraylength, 1) := by decide +kernel
theorem d_li_18 : decode b_li 18 = .ok (.invokestatic 38, 3) := by decide +kernel
theorem d_li_21 : decode b_li 21 = .ok (.istore_n 3, 1) := by decide +kernel
theorem d_li_22 : decode b_li 22 = .ok (.iload_n 2, 1) := by decide +kernel
theorem d_li_23 : decode b_li 23 = .ok (.iload_n 3, 1) := by decide +kernel
theorem d_li_24 : decode b_li 24 = .ok (.if_icmp .lt 5, 3) := by decide +kernel
theorem d_li_27 : decode b_li 27 = .ok (.iconst (-1), 1) := by decide +kernel
theorem d_li_28 : decode b_li 28 = .ok (.ireturn, 1) := by decide +kernel
theorem d_li_29 : decode b_li 29 = .ok (.aload_n 0, 1) := by decide +kernel
theorem d_li_30 : decode b_li 30 = .ok (.iload_n 1, 1) := by decide +kernel
theorem d_li_31 : decode b_li 31 = .ok (.iload_n 2, 1) := by decide +kernel
theorem d_li_32 : decode b_li 32 = .ok (.iload_n 3, 1) := by decide +kernel
theorem d_li_33 : decode b_li 33 = .ok (.invokestatic 95, 3) := by decide +kernel
theorem d_li_36 : decode b_li 36 = .ok (.ireturn, 1) := by decide +kernel
def y_co : MethodName := ⟨"java/lang/String", "code\x72", "()B"⟩
abbrev b_co : ByteArray := prog_18_method_152_code
theorem w_co_c : Cond.code y_co b_co 1 (some .byte) ∈ mm_tG := mm_tw (p := 694) (by decide +kernel) rfl
theorem w_co_i : Cond.instanceMethod y_co ∈ mm_tG := mm_tw (p := 692) (by decide +kernel) rfl
theorem w_co_v : Cond.selects "java/lang/String" y_co y_co ∈ mm_tG := mm_tw (p := 693) (by decide +kernel) rfl
theorem w_co_n : (parseMethodDescriptor y_co.desc).map (fun d => d.parameters.length) = some 0 := by decide +kernel
theorem d_co_0 : decode b_co 0 = .ok (.getstatic 38, 3) := by decide +kernel
theorem d_co_3 : decode b_co 3 = .ok (.ifCond .eq 10, 3) := by decide +kernel
theorem d_co_6 : decode b_co 6 = .ok (.aload_n 0, 1) := by decide +kernel
theorem d_co_7 : decode b_co 7 = .ok (.getfield 15, 3) := by decide +kernel
theorem d_co_10 : decode b_co 10 = .ok (.goto 4, 3) := by decide +kernel
theorem d_co_13 : decode b_co 13 = .ok (.iconst 1, 1) := by decide +kernel
theorem d_co_14 : decode b_co 14 = .ok (.ireturn, 1) := by decide +kernel
def y_le : MethodName := ⟨"java/lang/String", "length", "()I"⟩
abbrev b_le : ByteArray := prog_18_method_54_code
theorem w_le_c : Cond.code y_le b_le 1 (some .int) ∈ mm_tG := mm_tw (p := 690) (by decide +kernel) rfl
theorem w_le_i : Cond.instanceMethod y_le ∈ mm_tG := mm_tw (p := 688) (by decide +kernel) rfl
theorem w_le_v : Cond.selects "java/lang/String" y_le y_le ∈ mm_tG := mm_tw (p := 689) (by decide +kernel) rfl
theorem w_le_n : (parseMethodDescriptor y_le.desc).map (fun d => d.parameters.length) = some 0 := by decide +kernel
theorem d_le_0 : decode b_le 0 = .ok (.aload_n 0, 1) := by decide +kernel
theorem d_le_1 : decode b_le 1 = .ok (.getfield 9, 3) := by decide +kernel
theorem d_le_4 : decode b_le 4 = .ok (.arraylength, 1) := by decide +kernel
theorem d_le_5 : decode b_le 5 = .ok (.aload_n 0, 1) := by decide +kernel
theorem d_le_6 : decode b_le 6 = .ok (.invokevirtual 335, 3) := by decide +kernel
theorem d_le_9 : decode b_le 9 = .ok (.ishr, 1) := by decide +kernel
theorem d_le_10 : decode b_le 10 = .ok (.ireturn, 1) := by decide +kernel
def y_i2 : MethodName := ⟨"java/lang/String", "indexOf", "(II)I"⟩
abbrev b_i2 : ByteArray := prog_18_method_80_code
theorem w_i2_c : Cond.code y_i2 b_i2 3 (some .int) ∈ mm_tG := mm_tw (p := 686) (by decide +kernel) rfl
theorem w_i2_i : Cond.instanceMethod y_i2 ∈ mm_tG := mm_tw (p := 684) (by decide +kernel) rfl
theorem w_i2_v : Cond.selects "java/lang/String" y_i2 y_i2 ∈ mm_tG := mm_tw (p := 685) (by decide +kernel) rfl
theorem w_i2_n : (parseMethodDescriptor y_i2.desc).map (fun d => d.parameters.length) = some 2 := by decide +kernel
theorem d_i2_0 : decode b_i2 0 = .ok (.aload_n 0, 1) := by decide +kernel
theorem d_i2_1 : decode b_i2 1 = .ok (.invokevirtual 492, 3) := by decide +kernel
theorem d_i2_4 : decode b_i2 4 = .ok (.ifCond .eq 19, 3) := by decide +kernel
theorem d_i2_7 : decode b_i2 7 = .ok (.aload_n 0, 1) := by decide +kernel
theorem d_i2_8 : decode b_i2 8 = .ok (.getfield 9, 3) := by decide +kernel
theorem d_i2_11 : decode b_i2 11 = .ok (.iload_n 1, 1) := by decide +kernel
theorem d_i2_12 : decode b_i2 12 = .ok (.iload_n 2, 1) := by decide +kernel
theorem d_i2_13 : decode b_i2 13 = .ok (.aload_n 0, 1) := by decide +kernel
theorem d_i2_14 : decode b_i2 14 = .ok (.invokevirtual 505, 3) := by decide +kernel
theorem d_i2_17 : decode b_i2 17 = .ok (.invokestatic 637, 3) := by decide +kernel
theorem d_i2_20 : decode b_i2 20 = .ok (.goto 16, 3) := by decide +kernel
theorem d_i2_36 : decode b_i2 36 = .ok (.ireturn, 1) := by decide +kernel
def y_i1 : MethodName := ⟨"java/lang/String", "indexOf", "(I)I"⟩
abbrev b_i1 : ByteArray := prog_18_method_79_code
theorem w_i1_c : Cond.code y_i1 b_i1 2 (some .int) ∈ mm_tG := mm_tw (p := 682) (by decide +kernel) rfl
theorem w_i1_i : Cond.instanceMethod y_i1 ∈ mm_tG := mm_tw (p := 680) (by decide +kernel) rfl
theorem w_i1_v : Cond.selects "java/lang/String" y_i1 y_i1 ∈ mm_tG := mm_tw (p := 681) (by decide +kernel) rfl
theorem w_i1_n : (parseMethodDescriptor y_i1.desc).map (fun d => d.parameters.length) = some 1 := by decide +kernel
theorem d_i1_0 : decode b_i1 0 = .ok (.aload_n 0, 1) := by decide +kernel
theorem d_i1_1 : decode b_i1 1 = .ok (.iload_n 1, 1) := by decide +kernel
theorem d_i1_2 : decode b_i1 2 = .ok (.iconst 0, 1) := by decide +kernel
theorem d_i1_3 : decode b_i1 3 = .ok (.invokevirtual 633, 3) := by decide +kernel
theorem d_i1_6 : decode b_i1 6 = .ok (.ireturn, 1) := by decide +kernel
theorem w_iniS : Cond.initialized "java/lang/String" ∈ mm_tG := mm_tw (p := 135) (by decide +kernel) rfl
theorem w_iniL : Cond.initialized "java/lang/StringLatin1" ∈ mm_tG := mm_tw (p := 136) (by decide +kernel) rfl
theorem w_iniP : Cond.initialized "jdk/internal/util/Preconditions" ∈ mm_tG := mm_tw (p := 137) (by decide +kernel) rfl
theorem w_l_ca : Cond.methodLink "CradlePairs$Tokens" 78 y_ca ∈ mm_tG := mm_tw (p := 638) (by decide +kernel) rfl
theorem w_l_i1 : Cond.methodLink "CradlePairs$Tokens" 67 y_i1 ∈ mm_tG := mm_tw (p := 679) (by decide +kernel) rfl
theorem w_l_il : Cond.methodLink "java/lang/String" 492 y_il ∈ mm_tG := mm_tw (p := 642) (by decide +kernel) rfl
theorem w_l_lc : Cond.methodLink "java/lang/String" 495 y_lc ∈ mm_tG := mm_tw (p := 648) (by decide +kernel) rfl
theorem w_l_ck : Cond.methodLink "java/lang/StringLatin1" 9 y_ck ∈ mm_tG := mm_tw (p := 651) (by decide +kernel) rfl
theorem w_l_ci : Cond.methodLink "java/lang/String" 1059 y_ci ∈ mm_tG := mm_tw (p := 656) (by decide +kernel) rfl
theorem w_l_i2 : Cond.methodLink "java/lang/String" 633 y_i2 ∈ mm_tG := mm_tw (p := 683) (by decide +kernel) rfl
theorem w_l_le : Cond.methodLink "java/lang/String" 505 y_le ∈ mm_tG := mm_tw (p := 687) (by decide +kernel) rfl
theorem w_l_co : Cond.methodLink "java/lang/String" 335 y_co ∈ mm_tG := mm_tw (p := 691) (by decide +kernel) rfl
theorem w_l_li : Cond.methodLink "java/lang/String" 637 y_li ∈ mm_tG := mm_tw (p := 695) (by decide +kernel) rfl
theorem w_l_ce : Cond.methodLink "java/lang/StringLatin1" 88 y_ce ∈ mm_tG := mm_tw (p := 698) (by decide +kernel) rfl
theorem w_l_ic : Cond.methodLink "java/lang/StringLatin1" 95 y_ic ∈ mm_tG := mm_tw (p := 707) (by decide +kernel) rfl
theorem w_l_mx : Cond.methodLink "java/lang/StringLatin1" 92 Lib.Math.max.name ∈ mm_tG := mm_tw (p := 701) (by decide +kernel) rfl
theorem w_l_mn : Cond.methodLink "java/lang/StringLatin1" 38 Lib.Math.min.name ∈ mm_tG := mm_tw (p := 704) (by decide +kernel) rfl
theorem w_f_cs : Cond.fieldLink "java/lang/String" 38 "java/lang/String" "COMPACT_STRINGS" "Z" ∈ mm_tG := mm_tw (p := 646) (by decide +kernel) rfl
theorem w_f_co : Cond.fieldLink "java/lang/String" 15 "java/lang/String" "code\x72" "B" ∈ mm_tG := mm_tw (p := 1968) (by decide +kernel) rfl
theorem w_f_va : Cond.fieldLink "java/lang/String" 9 "java/lang/String" "value" "[B" ∈ mm_tG := mm_tw (p := 1969) (by decide +kernel) rfl
theorem w_f_sf : Cond.fieldLink "java/lang/String" 1053 "jdk/internal/util/Preconditions" "SIOOBE_FORMATTER" "Ljava/util/function/BiFunction;" ∈ mm_tG := mm_tw (p := 654) (by decide +kernel) rfl
