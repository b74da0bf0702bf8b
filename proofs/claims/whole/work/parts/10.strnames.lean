/-! String constants: length() and charAt() -/
def sy_len : MethodName := ⟨"java/lang/String", "length", "()I"⟩
abbrev sw_len : List Cond := .code sy_len prog_17_method_54_code 1 (some .int) :: gw
theorem sd_len_0 : decode prog_17_method_54_code 0 = .ok (.aload_n 0, 1) := by decide +kernel
theorem sd_len_1 : decode prog_17_method_54_code 1 = .ok (.getfield 9, 3) := by decide +kernel
theorem sd_len_4 : decode prog_17_method_54_code 4 = .ok (.arraylength, 1) := by decide +kernel
theorem sd_len_5 : decode prog_17_method_54_code 5 = .ok (.aload_n 0, 1) := by decide +kernel
theorem sd_len_6 : decode prog_17_method_54_code 6 = .ok (.invokevirtual 335, 3) := by decide +kernel
theorem sd_len_9 : decode prog_17_method_54_code 9 = .ok (.ishr, 1) := by decide +kernel
theorem sd_len_10 : decode prog_17_method_54_code 10 = .ok (.ireturn, 1) := by decide +kernel
def sy_coder : MethodName := ⟨"java/lang/String", "coder", "()B"⟩
abbrev sw_coder : List Cond := .code sy_coder prog_17_method_152_code 1 (some .byte) :: gw
theorem sd_coder_0 : decode prog_17_method_152_code 0 = .ok (.getstatic 38, 3) := by decide +kernel
theorem sd_coder_3 : decode prog_17_method_152_code 3 = .ok (.ifCond .eq (10), 3) := by decide +kernel
theorem sd_coder_6 : decode prog_17_method_152_code 6 = .ok (.aload_n 0, 1) := by decide +kernel
theorem sd_coder_7 : decode prog_17_method_152_code 7 = .ok (.getfield 15, 3) := by decide +kernel
theorem sd_coder_10 : decode prog_17_method_152_code 10 = .ok (.goto (4), 3) := by decide +kernel
theorem sd_coder_13 : decode prog_17_method_152_code 13 = .ok (.iconst (1), 1) := by decide +kernel
theorem sd_coder_14 : decode prog_17_method_152_code 14 = .ok (.ireturn, 1) := by decide +kernel
def sy_charAt : MethodName := ⟨"java/lang/String", "charAt", "(I)C"⟩
abbrev sw_charAt : List Cond := .code sy_charAt prog_17_method_56_code 2 (some .char) :: gw
theorem sd_charAt_0 : decode prog_17_method_56_code 0 = .ok (.aload_n 0, 1) := by decide +kernel
theorem sd_charAt_1 : decode prog_17_method_56_code 1 = .ok (.invokevirtual 492, 3) := by decide +kernel
theorem sd_charAt_4 : decode prog_17_method_56_code 4 = .ok (.ifCond .eq (12), 3) := by decide +kernel
theorem sd_charAt_7 : decode prog_17_method_56_code 7 = .ok (.aload_n 0, 1) := by decide +kernel
theorem sd_charAt_8 : decode prog_17_method_56_code 8 = .ok (.getfield 9, 3) := by decide +kernel
theorem sd_charAt_11 : decode prog_17_method_56_code 11 = .ok (.iload_n 1, 1) := by decide +kernel
theorem sd_charAt_12 : decode prog_17_method_56_code 12 = .ok (.invokestatic 495, 3) := by decide +kernel
theorem sd_charAt_15 : decode prog_17_method_56_code 15 = .ok (.ireturn, 1) := by decide +kernel
theorem sd_charAt_16 : decode prog_17_method_56_code 16 = .ok (.aload_n 0, 1) := by decide +kernel
theorem sd_charAt_17 : decode prog_17_method_56_code 17 = .ok (.getfield 9, 3) := by decide +kernel
theorem sd_charAt_20 : decode prog_17_method_56_code 20 = .ok (.iload_n 1, 1) := by decide +kernel
theorem sd_charAt_21 : decode prog_17_method_56_code 21 = .ok (.invokestatic 498, 3) := by decide +kernel
theorem sd_charAt_24 : decode prog_17_method_56_code 24 = .ok (.ireturn, 1) := by decide +kernel
def sy_isL : MethodName := ⟨"java/lang/String", "isLatin1", "()Z"⟩
abbrev sw_isL : List Cond := .code sy_isL prog_17_method_154_code 1 (some .boolean) :: gw
theorem sd_isL_0 : decode prog_17_method_154_code 0 = .ok (.getstatic 38, 3) := by decide +kernel
theorem sd_isL_3 : decode prog_17_method_154_code 3 = .ok (.ifCond .eq (14), 3) := by decide +kernel
theorem sd_isL_6 : decode prog_17_method_154_code 6 = .ok (.aload_n 0, 1) := by decide +kernel
theorem sd_isL_7 : decode prog_17_method_154_code 7 = .ok (.getfield 15, 3) := by decide +kernel
theorem sd_isL_10 : decode prog_17_method_154_code 10 = .ok (.ifCond .ne (7), 3) := by decide +kernel
theorem sd_isL_13 : decode prog_17_method_154_code 13 = .ok (.iconst (1), 1) := by decide +kernel
theorem sd_isL_14 : decode prog_17_method_154_code 14 = .ok (.goto (4), 3) := by decide +kernel
theorem sd_isL_17 : decode prog_17_method_154_code 17 = .ok (.iconst (0), 1) := by decide +kernel
theorem sd_isL_18 : decode prog_17_method_154_code 18 = .ok (.ireturn, 1) := by decide +kernel
def sy_lat : MethodName := ⟨"java/lang/StringLatin1", "charAt", "([BI)C"⟩
abbrev sw_lat : List Cond := .code sy_lat prog_18_method_2_code 2 (some .char) :: gw
theorem sd_lat_0 : decode prog_18_method_2_code 0 = .ok (.iload_n 1, 1) := by decide +kernel
theorem sd_lat_1 : decode prog_18_method_2_code 1 = .ok (.aload_n 0, 1) := by decide +kernel
theorem sd_lat_2 : decode prog_18_method_2_code 2 = .ok (.arraylength, 1) := by decide +kernel
theorem sd_lat_3 : decode prog_18_method_2_code 3 = .ok (.invokestatic 9, 3) := by decide +kernel
theorem sd_lat_6 : decode prog_18_method_2_code 6 = .ok (.aload_n 0, 1) := by decide +kernel
theorem sd_lat_7 : decode prog_18_method_2_code 7 = .ok (.iload_n 1, 1) := by decide +kernel
theorem sd_lat_8 : decode prog_18_method_2_code 8 = .ok (.baload, 1) := by decide +kernel
theorem sd_lat_9 : decode prog_18_method_2_code 9 = .ok (.sipush (255), 3) := by decide +kernel
theorem sd_lat_12 : decode prog_18_method_2_code 12 = .ok (.iand, 1) := by decide +kernel
theorem sd_lat_13 : decode prog_18_method_2_code 13 = .ok (.i2c, 1) := by decide +kernel
theorem sd_lat_14 : decode prog_18_method_2_code 14 = .ok (.ireturn, 1) := by decide +kernel
def sy_chk : MethodName := ⟨"java/lang/String", "checkIndex", "(II)V"⟩
abbrev sw_chk : List Cond := .code sy_chk prog_17_method_155_code 2 none :: gw
theorem sd_chk_0 : decode prog_17_method_155_code 0 = .ok (.iload_n 0, 1) := by decide +kernel
theorem sd_chk_1 : decode prog_17_method_155_code 1 = .ok (.iload_n 1, 1) := by decide +kernel
theorem sd_chk_2 : decode prog_17_method_155_code 2 = .ok (.getstatic 1053, 3) := by decide +kernel
theorem sd_chk_5 : decode prog_17_method_155_code 5 = .ok (.invokestatic 1059, 3) := by decide +kernel
theorem sd_chk_8 : decode prog_17_method_155_code 8 = .ok (.pop, 1) := by decide +kernel
theorem sd_chk_9 : decode prog_17_method_155_code 9 = .ok (.return_, 1) := by decide +kernel
def sy_pre : MethodName := ⟨"jdk/internal/util/Preconditions", "checkIndex", "(IILjava/util/function/BiFunction;)I"⟩
abbrev sw_pre : List Cond := .code sy_pre prog_22_method_11_code 3 (some .int) :: gw
theorem sd_pre_0 : decode prog_22_method_11_code 0 = .ok (.iload_n 0, 1) := by decide +kernel
theorem sd_pre_1 : decode prog_22_method_11_code 1 = .ok (.ifCond .lt (8), 3) := by decide +kernel
theorem sd_pre_4 : decode prog_22_method_11_code 4 = .ok (.iload_n 0, 1) := by decide +kernel
theorem sd_pre_5 : decode prog_22_method_11_code 5 = .ok (.iload_n 1, 1) := by decide +kernel
theorem sd_pre_6 : decode prog_22_method_11_code 6 = .ok (.if_icmp .lt (10), 3) := by decide +kernel
theorem sd_pre_9 : decode prog_22_method_11_code 9 = .ok (.aload_n 2, 1) := by decide +kernel
theorem sd_pre_10 : decode prog_22_method_11_code 10 = .ok (.iload_n 0, 1) := by decide +kernel
theorem sd_pre_11 : decode prog_22_method_11_code 11 = .ok (.iload_n 1, 1) := by decide +kernel
theorem sd_pre_12 : decode prog_22_method_11_code 12 = .ok (.invokestatic 95, 3) := by decide +kernel
theorem sd_pre_15 : decode prog_22_method_11_code 15 = .ok (.athrow, 1) := by decide +kernel
theorem sd_pre_16 : decode prog_22_method_11_code 16 = .ok (.iload_n 0, 1) := by decide +kernel
theorem sd_pre_17 : decode prog_22_method_11_code 17 = .ok (.ireturn, 1) := by decide +kernel
theorem sg_c_len : Cond.code sy_len prog_17_method_54_code 1 (some .int) ∈ gw := gw_of (List.mem_of_getElem? (i := 405) (by decide +kernel)) rfl
theorem sg_i_len : Cond.instanceMethod sy_len ∈ gw := gw_of (List.mem_of_getElem? (i := 403) (by decide +kernel)) rfl
theorem sg_s_len : Cond.selects "java/lang/String" sy_len sy_len ∈ gw := gw_of (List.mem_of_getElem? (i := 404) (by decide +kernel)) rfl
theorem sg_c_coder : Cond.code sy_coder prog_17_method_152_code 1 (some .byte) ∈ gw := gw_of (List.mem_of_getElem? (i := 409) (by decide +kernel)) rfl
theorem sg_i_coder : Cond.instanceMethod sy_coder ∈ gw := gw_of (List.mem_of_getElem? (i := 407) (by decide +kernel)) rfl
theorem sg_s_coder : Cond.selects "java/lang/String" sy_coder sy_coder ∈ gw := gw_of (List.mem_of_getElem? (i := 408) (by decide +kernel)) rfl
theorem sg_c_charAt : Cond.code sy_charAt prog_17_method_56_code 2 (some .char) ∈ gw := gw_of (List.mem_of_getElem? (i := 415) (by decide +kernel)) rfl
theorem sg_i_charAt : Cond.instanceMethod sy_charAt ∈ gw := gw_of (List.mem_of_getElem? (i := 413) (by decide +kernel)) rfl
theorem sg_s_charAt : Cond.selects "java/lang/String" sy_charAt sy_charAt ∈ gw := gw_of (List.mem_of_getElem? (i := 414) (by decide +kernel)) rfl
theorem sg_c_isL : Cond.code sy_isL prog_17_method_154_code 1 (some .boolean) ∈ gw := gw_of (List.mem_of_getElem? (i := 419) (by decide +kernel)) rfl
theorem sg_i_isL : Cond.instanceMethod sy_isL ∈ gw := gw_of (List.mem_of_getElem? (i := 417) (by decide +kernel)) rfl
theorem sg_s_isL : Cond.selects "java/lang/String" sy_isL sy_isL ∈ gw := gw_of (List.mem_of_getElem? (i := 418) (by decide +kernel)) rfl
theorem sg_c_lat : Cond.code sy_lat prog_18_method_2_code 2 (some .char) ∈ gw := gw_of (List.mem_of_getElem? (i := 422) (by decide +kernel)) rfl
theorem sg_t_lat : Cond.static sy_lat ∈ gw := gw_of (List.mem_of_getElem? (i := 421) (by decide +kernel)) rfl
theorem sg_c_chk : Cond.code sy_chk prog_17_method_155_code 2 none ∈ gw := gw_of (List.mem_of_getElem? (i := 425) (by decide +kernel)) rfl
theorem sg_t_chk : Cond.static sy_chk ∈ gw := gw_of (List.mem_of_getElem? (i := 424) (by decide +kernel)) rfl
theorem sg_c_pre : Cond.code sy_pre prog_22_method_11_code 3 (some .int) ∈ gw := gw_of (List.mem_of_getElem? (i := 430) (by decide +kernel)) rfl
theorem sg_t_pre : Cond.static sy_pre ∈ gw := gw_of (List.mem_of_getElem? (i := 429) (by decide +kernel)) rfl
theorem sg_m_coder : Cond.methodLink "java/lang/String" 335 sy_coder ∈ gw := gw_of (List.mem_of_getElem? (i := 406) (by decide +kernel)) rfl
theorem sg_m_isL : Cond.methodLink "java/lang/String" 492 sy_isL ∈ gw := gw_of (List.mem_of_getElem? (i := 416) (by decide +kernel)) rfl
theorem sg_m_lat : Cond.methodLink "java/lang/String" 495 sy_lat ∈ gw := gw_of (List.mem_of_getElem? (i := 420) (by decide +kernel)) rfl
theorem sg_m_chk : Cond.methodLink "java/lang/StringLatin1" 9 sy_chk ∈ gw := gw_of (List.mem_of_getElem? (i := 423) (by decide +kernel)) rfl
theorem sg_m_pre : Cond.methodLink "java/lang/String" 1059 sy_pre ∈ gw := gw_of (List.mem_of_getElem? (i := 428) (by decide +kernel)) rfl
theorem sg_f9 : Cond.fieldLink "java/lang/String" 9 "java/lang/String" "value" "[B" ∈ gw := gw_of (List.mem_of_getElem? (i := 3406) (by decide +kernel)) rfl
theorem sg_f15 : Cond.fieldLink "java/lang/String" 15 "java/lang/String" "coder" "B" ∈ gw := gw_of (List.mem_of_getElem? (i := 3407) (by decide +kernel)) rfl
theorem sg_f38 : Cond.fieldLink "java/lang/String" 38 "java/lang/String" "COMPACT_STRINGS" "Z" ∈ gw := gw_of (List.mem_of_getElem? (i := 410) (by decide +kernel)) rfl
theorem sg_f1053 : Cond.fieldLink "java/lang/String" 1053 "jdk/internal/util/Preconditions" "SIOOBE_FORMATTER" "Ljava/util/function/BiFunction;" ∈ gw := gw_of (List.mem_of_getElem? (i := 426) (by decide +kernel)) rfl
theorem sg_nS : Cond.initialized "java/lang/String" ∈ gw := gw_of (List.mem_of_getElem? (i := 230) (by decide +kernel)) rfl
theorem sg_nL : Cond.initialized "java/lang/StringLatin1" ∈ gw := gw_of (List.mem_of_getElem? (i := 231) (by decide +kernel)) rfl
theorem sg_nP : Cond.initialized "jdk/internal/util/Preconditions" ∈ gw := gw_of (List.mem_of_getElem? (i := 232) (by decide +kernel)) rfl
