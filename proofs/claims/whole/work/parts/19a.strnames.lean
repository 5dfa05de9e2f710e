/-! ===== the two calls on the constant text: String.length(), String.charAt(k) (text laid by genstr.py) ===== -/
def sy_len : MethodName := ⟨"java/lang/String", "length", "()I"⟩
abbrev sb_len : ByteArray := prog_17_method_54_code
theorem sc_len : Cond.code sy_len sb_len 1 (some .int) ∈ lw_tbl := (mt1 _ (List.mem_of_getElem? (i := 62) (by decide +kernel)))
theorem si_len : Cond.instanceMethod sy_len ∈ lw_tbl := (mt1 _ (List.mem_of_getElem? (i := 60) (by decide +kernel)))
theorem sv_len : Cond.selects "java/lang/String" sy_len sy_len ∈ lw_tbl := (mt1 _ (List.mem_of_getElem? (i := 61) (by decide +kernel)))
theorem sp_len : plainName sy_len.cls = true := by decide +kernel
theorem sn_len : sy_len.cls ≠ "java/lang/invoke/MethodHandle" ∧ sy_len.cls ≠ "java/lang/invoke/VarHandle" ∧ (parseMethodDescriptor sy_len.desc).map (fun d => d.parameters.length) = some 0 := by decide +kernel
theorem sd_len_0 : decode sb_len 0 = .ok (.aload_n 0, 1) := by decide +kernel
theorem sd_len_1 : decode sb_len 1 = .ok (.getfield 9, 3) := by decide +kernel
theorem sd_len_4 : decode sb_len 4 = .ok (.arraylength, 1) := by decide +kernel
theorem sd_len_5 : decode sb_len 5 = .ok (.aload_n 0, 1) := by decide +kernel
theorem sd_len_6 : decode sb_len 6 = .ok (.invokevirtual 335, 3) := by decide +kernel
theorem sd_len_9 : decode sb_len 9 = .ok (.ishr, 1) := by decide +kernel
theorem sd_len_10 : decode sb_len 10 = .ok (.ireturn, 1) := by decide +kernel
def sy_chr : MethodName := ⟨"java/lang/String", "charAt", "(I)C"⟩
abbrev sb_chr : ByteArray := prog_17_method_56_code
theorem sc_chr : Cond.code sy_chr sb_chr 2 (some .char) ∈ lw_tbl := (mt1 _ (List.mem_of_getElem? (i := 72) (by decide +kernel)))
theorem si_chr : Cond.instanceMethod sy_chr ∈ lw_tbl := (mt1 _ (List.mem_of_getElem? (i := 70) (by decide +kernel)))
theorem sv_chr : Cond.selects "java/lang/String" sy_chr sy_chr ∈ lw_tbl := (mt1 _ (List.mem_of_getElem? (i := 71) (by decide +kernel)))
theorem sp_chr : plainName sy_chr.cls = true := by decide +kernel
theorem sn_chr : sy_chr.cls ≠ "java/lang/invoke/MethodHandle" ∧ sy_chr.cls ≠ "java/lang/invoke/VarHandle" ∧ (parseMethodDescriptor sy_chr.desc).map (fun d => d.parameters.length) = some 1 := by decide +kernel
theorem sd_chr_0 : decode sb_chr 0 = .ok (.aload_n 0, 1) := by decide +kernel
theorem sd_chr_1 : decode sb_chr 1 = .ok (.invokevirtual 492, 3) := by decide +kernel
theorem sd_chr_4 : decode sb_chr 4 = .ok (.ifCond .eq 12, 3) := by decide +kernel
theorem sd_chr_7 : decode sb_chr 7 = .ok (.aload_n 0, 1) := by decide +kernel
theorem sd_chr_8 : decode sb_chr 8 = .ok (.getfield 9, 3) := by decide +kernel
theorem sd_chr_11 : decode sb_chr 11 = .ok (.iload_n 1, 1) := by decide +kernel
theorem sd_chr_12 : decode sb_chr 12 = .ok (.invokestatic 495, 3) := by decide +kernel
theorem sd_chr_15 : decode sb_chr 15 = .ok (.ireturn, 1) := by decide +kernel
theorem sd_chr_16 : decode sb_chr 16 = .ok (.aload_n 0, 1) := by decide +kernel
theorem sd_chr_17 : decode sb_chr 17 = .ok (.getfield 9, 3) := by decide +kernel
theorem sd_chr_20 : decode sb_chr 20 = .ok (.iload_n 1, 1) := by decide +kernel
theorem sd_chr_21 : decode sb_chr 21 = .ok (.invokestatic 498, 3) := by decide +kernel
theorem sd_chr_24 : decode sb_chr 24 = .ok (.ireturn, 1) := by decide +kernel
def sy_cod : MethodName := ⟨"java/lang/String", "coder", "()B"⟩
abbrev sb_cod : ByteArray := prog_17_method_152_code
theorem sc_cod : Cond.code sy_cod sb_cod 1 (some .byte) ∈ lw_tbl := (mt1 _ (List.mem_of_getElem? (i := 66) (by decide +kernel)))
theorem si_cod : Cond.instanceMethod sy_cod ∈ lw_tbl := (mt1 _ (List.mem_of_getElem? (i := 64) (by decide +kernel)))
theorem sv_cod : Cond.selects "java/lang/String" sy_cod sy_cod ∈ lw_tbl := (mt1 _ (List.mem_of_getElem? (i := 65) (by decide +kernel)))
theorem sp_cod : plainName sy_cod.cls = true := by decide +kernel
theorem sn_cod : sy_cod.cls ≠ "java/lang/invoke/MethodHandle" ∧ sy_cod.cls ≠ "java/lang/invoke/VarHandle" ∧ (parseMethodDescriptor sy_cod.desc).map (fun d => d.parameters.length) = some 0 := by decide +kernel
theorem sd_cod_0 : decode sb_cod 0 = .ok (.getstatic 38, 3) := by decide +kernel
theorem sd_cod_3 : decode sb_cod 3 = .ok (.ifCond .eq 10, 3) := by decide +kernel
theorem sd_cod_6 : decode sb_cod 6 = .ok (.aload_n 0, 1) := by decide +kernel
theorem sd_cod_7 : decode sb_cod 7 = .ok (.getfield 15, 3) := by decide +kernel
theorem sd_cod_10 : decode sb_cod 10 = .ok (.goto 4, 3) := by decide +kernel
theorem sd_cod_13 : decode sb_cod 13 = .ok (.iconst 1, 1) := by decide +kernel
theorem sd_cod_14 : decode sb_cod 14 = .ok (.ireturn, 1) := by decide +kernel
def sy_lat : MethodName := ⟨"java/lang/String", "isLatin1", "()Z"⟩
abbrev sb_lat : ByteArray := prog_17_method_154_code
theorem sc_lat : Cond.code sy_lat sb_lat 1 (some .boolean) ∈ lw_tbl := (mt1 _ (List.mem_of_getElem? (i := 76) (by decide +kernel)))
theorem si_lat : Cond.instanceMethod sy_lat ∈ lw_tbl := (mt1 _ (List.mem_of_getElem? (i := 74) (by decide +kernel)))
theorem sv_lat : Cond.selects "java/lang/String" sy_lat sy_lat ∈ lw_tbl := (mt1 _ (List.mem_of_getElem? (i := 75) (by decide +kernel)))
theorem sp_lat : plainName sy_lat.cls = true := by decide +kernel
theorem sn_lat : sy_lat.cls ≠ "java/lang/invoke/MethodHandle" ∧ sy_lat.cls ≠ "java/lang/invoke/VarHandle" ∧ (parseMethodDescriptor sy_lat.desc).map (fun d => d.parameters.length) = some 0 := by decide +kernel
theorem sd_lat_0 : decode sb_lat 0 = .ok (.getstatic 38, 3) := by decide +kernel
theorem sd_lat_3 : decode sb_lat 3 = .ok (.ifCond .eq 14, 3) := by decide +kernel
theorem sd_lat_6 : decode sb_lat 6 = .ok (.aload_n 0, 1) := by decide +kernel
theorem sd_lat_7 : decode sb_lat 7 = .ok (.getfield 15, 3) := by decide +kernel
theorem sd_lat_10 : decode sb_lat 10 = .ok (.ifCond .ne 7, 3) := by decide +kernel
theorem sd_lat_13 : decode sb_lat 13 = .ok (.iconst 1, 1) := by decide +kernel
theorem sd_lat_14 : decode sb_lat 14 = .ok (.goto 4, 3) := by decide +kernel
theorem sd_lat_17 : decode sb_lat 17 = .ok (.iconst 0, 1) := by decide +kernel
theorem sd_lat_18 : decode sb_lat 18 = .ok (.ireturn, 1) := by decide +kernel
def sy_chk : MethodName := ⟨"java/lang/String", "checkIndex", "(II)V"⟩
abbrev sb_chk : ByteArray := prog_17_method_155_code
theorem sc_chk : Cond.code sy_chk sb_chk 2 (none) ∈ lw_tbl := (mt1 _ (List.mem_of_getElem? (i := 82) (by decide +kernel)))
theorem ss_chk : Cond.static sy_chk ∈ lw_tbl := (mt1 _ (List.mem_of_getElem? (i := 81) (by decide +kernel)))
theorem sp_chk : plainName sy_chk.cls = true := by decide +kernel
theorem sn_chk : sy_chk.cls ≠ "java/lang/invoke/MethodHandle" ∧ sy_chk.cls ≠ "java/lang/invoke/VarHandle" ∧ (parseMethodDescriptor sy_chk.desc).map (fun d => d.parameters.length) = some 2 := by decide +kernel
theorem sd_chk_0 : decode sb_chk 0 = .ok (.iload_n 0, 1) := by decide +kernel
theorem sd_chk_1 : decode sb_chk 1 = .ok (.iload_n 1, 1) := by decide +kernel
theorem sd_chk_2 : decode sb_chk 2 = .ok (.getstatic 1053, 3) := by decide +kernel
theorem sd_chk_5 : decode sb_chk 5 = .ok (.invokestatic 1059, 3) := by decide +kernel
theorem sd_chk_8 : decode sb_chk 8 = .ok (.pop, 1) := by decide +kernel
theorem sd_chk_9 : decode sb_chk 9 = .ok (.return_, 1) := by decide +kernel
def sy_ch1 : MethodName := ⟨"java/lang/StringLatin1", "charAt", "([BI)C"⟩
abbrev sb_ch1 : ByteArray := prog_18_method_2_code
theorem sc_ch1 : Cond.code sy_ch1 sb_ch1 2 (some .char) ∈ lw_tbl := (mt1 _ (List.mem_of_getElem? (i := 79) (by decide +kernel)))
theorem ss_ch1 : Cond.static sy_ch1 ∈ lw_tbl := (mt1 _ (List.mem_of_getElem? (i := 78) (by decide +kernel)))
theorem sp_ch1 : plainName sy_ch1.cls = true := by decide +kernel
theorem sn_ch1 : sy_ch1.cls ≠ "java/lang/invoke/MethodHandle" ∧ sy_ch1.cls ≠ "java/lang/invoke/VarHandle" ∧ (parseMethodDescriptor sy_ch1.desc).map (fun d => d.parameters.length) = some 2 := by decide +kernel
theorem sd_ch1_0 : decode sb_ch1 0 = .ok (.iload_n 1, 1) := by decide +kernel
theorem sd_ch1_1 : decode sb_ch1 1 = .ok (.aload_n 0, 1) := by decide +kernel
theorem sd_ch1_2 : decode sb_ch1 2 = .ok (.arraylength, 1) := by decide +kernel
theorem sd_ch1_3 : decode sb_ch1 3 = .ok (.invokestatic 9, 3) := by decide +kernel
theorem sd_ch1_6 : decode sb_ch1 6 = .ok (.aload_n 0, 1) := by decide +kernel
theorem sd_ch1_7 : decode sb_ch1 7 = .ok (.iload_n 1, 1) := by decide +kernel
theorem sd_ch1_8 : decode sb_ch1 8 = .ok (.baload, 1) := by decide +kernel
theorem sd_ch1_9 : decode sb_ch1 9 = .ok (.sipush 255, 3) := by decide +kernel
theorem sd_ch1_12 : decode sb_ch1 12 = .ok (.iand, 1) := by decide +kernel
theorem sd_ch1_13 : decode sb_ch1 13 = .ok (.i2c, 1) := by decide +kernel
theorem sd_ch1_14 : decode sb_ch1 14 = .ok (.ireturn, 1) := by decide +kernel
def sy_chp : MethodName := ⟨"jdk/internal/util/Preconditions", "checkIndex", "(IILjava/util/function/BiFunction;)I"⟩
abbrev sb_chp : ByteArray := prog_22_method_11_code
theorem sc_chp : Cond.code sy_chp sb_chp 3 (some .int) ∈ lw_tbl := (mt1 _ (List.mem_of_getElem? (i := 87) (by decide +kernel)))
theorem ss_chp : Cond.static sy_chp ∈ lw_tbl := (mt1 _ (List.mem_of_getElem? (i := 86) (by decide +kernel)))
theorem sp_chp : plainName sy_chp.cls = true := by decide +kernel
theorem sn_chp : sy_chp.cls ≠ "java/lang/invoke/MethodHandle" ∧ sy_chp.cls ≠ "java/lang/invoke/VarHandle" ∧ (parseMethodDescriptor sy_chp.desc).map (fun d => d.parameters.length) = some 3 := by decide +kernel
theorem sd_chp_0 : decode sb_chp 0 = .ok (.iload_n 0, 1) := by decide +kernel
theorem sd_chp_1 : decode sb_chp 1 = .ok (.ifCond .lt 8, 3) := by decide +kernel
theorem sd_chp_4 : decode sb_chp 4 = .ok (.iload_n 0, 1) := by decide +kernel
theorem sd_chp_5 : decode sb_chp 5 = .ok (.iload_n 1, 1) := by decide +kernel
theorem sd_chp_6 : decode sb_chp 6 = .ok (.if_icmp .lt 10, 3) := by decide +kernel
theorem sd_chp_9 : decode sb_chp 9 = .ok (.aload_n 2, 1) := by decide +kernel
theorem sd_chp_10 : decode sb_chp 10 = .ok (.iload_n 0, 1) := by decide +kernel
theorem sd_chp_11 : decode sb_chp 11 = .ok (.iload_n 1, 1) := by decide +kernel
theorem sd_chp_12 : decode sb_chp 12 = .ok (.invokestatic 95, 3) := by decide +kernel
theorem sd_chp_15 : decode sb_chp 15 = .ok (.athrow, 1) := by decide +kernel
theorem sd_chp_16 : decode sb_chp 16 = .ok (.iload_n 0, 1) := by decide +kernel
theorem sd_chp_17 : decode sb_chp 17 = .ok (.ireturn, 1) := by decide +kernel
theorem sini_s : Cond.initialized "java/lang/String" ∈ lw_tbl := (mt1 _ (List.mem_of_getElem? (i := 4) (by decide +kernel)))
theorem sini_l : Cond.initialized "java/lang/StringLatin1" ∈ lw_tbl := (mt1 _ (List.mem_of_getElem? (i := 5) (by decide +kernel)))
theorem sini_p : Cond.initialized "jdk/internal/util/Preconditions" ∈ lw_tbl := (mt1 _ (List.mem_of_getElem? (i := 6) (by decide +kernel)))
theorem sm_String_335 : Cond.methodLink "java/lang/String" 335 ⟨"java/lang/String", "coder", "()B"⟩ ∈ lw_tbl := (mt1 _ (List.mem_of_getElem? (i := 63) (by decide +kernel)))
theorem sf_String_38 : Cond.fieldLink "java/lang/String" 38 "java/lang/String" "COMPACT_STRINGS" "Z" ∈ lw_tbl := (mt1 _ (List.mem_of_getElem? (i := 67) (by decide +kernel)))
theorem sm_String_492 : Cond.methodLink "java/lang/String" 492 ⟨"java/lang/String", "isLatin1", "()Z"⟩ ∈ lw_tbl := (mt1 _ (List.mem_of_getElem? (i := 73) (by decide +kernel)))
theorem sm_String_495 : Cond.methodLink "java/lang/String" 495 ⟨"java/lang/StringLatin1", "charAt", "([BI)C"⟩ ∈ lw_tbl := (mt1 _ (List.mem_of_getElem? (i := 77) (by decide +kernel)))
theorem sm_StringLatin1_9 : Cond.methodLink "java/lang/StringLatin1" 9 ⟨"java/lang/String", "checkIndex", "(II)V"⟩ ∈ lw_tbl := (mt1 _ (List.mem_of_getElem? (i := 80) (by decide +kernel)))
theorem sf_String_1053 : Cond.fieldLink "java/lang/String" 1053 "jdk/internal/util/Preconditions" "SIOOBE_FORMATTER" "Ljava/util/function/BiFunction;" ∈ lw_tbl := (mt1 _ (List.mem_of_getElem? (i := 83) (by decide +kernel)))
theorem sm_String_1059 : Cond.methodLink "java/lang/String" 1059 ⟨"jdk/internal/util/Preconditions", "checkIndex", "(IILjava/util/function/BiFunction;)I"⟩ ∈ lw_tbl := (mt1 _ (List.mem_of_getElem? (i := 85) (by decide +kernel)))
theorem sm_String_498 : Cond.methodLink "java/lang/String" 498 ⟨"java/lang/StringUTF16", "charAt", "([BI)C"⟩ ∈ lw_tbl := (mt1 _ (List.mem_of_getElem? (i := 88) (by decide +kernel)))
theorem sm_StringUTF16_67 : Cond.methodLink "java/lang/StringUTF16" 67 ⟨"java/lang/StringUTF16", "checkIndex", "(I[B)V"⟩ ∈ lw_tbl := (mt1 _ (List.mem_of_getElem? (i := 91) (by decide +kernel)))
theorem sm_StringUTF16_48 : Cond.methodLink "java/lang/StringUTF16" 48 ⟨"java/lang/StringUTF16", "length", "([B)I"⟩ ∈ lw_tbl := (mt1 _ (List.mem_of_getElem? (i := 94) (by decide +kernel)))
theorem sm_StringUTF16_414 : Cond.methodLink "java/lang/StringUTF16" 414 ⟨"java/lang/String", "checkIndex", "(II)V"⟩ ∈ lw_tbl := (mt1 _ (List.mem_of_getElem? (i := 97) (by decide +kernel)))
theorem sm_StringUTF16_71 : Cond.methodLink "java/lang/StringUTF16" 71 ⟨"java/lang/StringUTF16", "getChar", "([BI)C"⟩ ∈ lw_tbl := (mt1 _ (List.mem_of_getElem? (i := 98) (by decide +kernel)))
theorem sf_StringUTF16_44 : Cond.fieldLink "java/lang/StringUTF16" 44 "java/lang/StringUTF16" "$assertionsDisabled" "Z" ∈ lw_tbl := (mt1 _ (List.mem_of_getElem? (i := 101) (by decide +kernel)))
theorem sf_StringUTF16_59 : Cond.fieldLink "java/lang/StringUTF16" 59 "java/lang/StringUTF16" "HI_BYTE_SHIFT" "I" ∈ lw_tbl := (mt1 _ (List.mem_of_getElem? (i := 103) (by decide +kernel)))
theorem sf_StringUTF16_63 : Cond.fieldLink "java/lang/StringUTF16" 63 "java/lang/StringUTF16" "LO_BYTE_SHIFT" "I" ∈ lw_tbl := (mt1 _ (List.mem_of_getElem? (i := 105) (by decide +kernel)))
theorem sf_String_9 : Cond.fieldLink "java/lang/String" 9 "java/lang/String" "value" "[B" ∈ lw_tbl := (mt10 _ (List.mem_of_getElem? (i := 86) (by decide +kernel)))
theorem sf_String_15 : Cond.fieldLink "java/lang/String" 15 "java/lang/String" "coder" "B" ∈ lw_tbl := (mt10 _ (List.mem_of_getElem? (i := 87) (by decide +kernel)))
theorem sm_Tape_31 : Cond.methodLink "EmptyChairs$Tape" 31 ⟨"java/lang/String", "length", "()I"⟩ ∈ lw_tbl := (mt1 _ (List.mem_of_getElem? (i := 59) (by decide +kernel)))
theorem sm_Tape_37 : Cond.methodLink "EmptyChairs$Tape" 37 ⟨"java/lang/String", "charAt", "(I)C"⟩ ∈ lw_tbl := (mt1 _ (List.mem_of_getElem? (i := 69) (by decide +kernel)))
