def y_AC_ctor : MethodName := ⟨"java/util/AbstractCollection", "<init>", "()V"⟩
abbrev b_AC_ctor : ByteArray := prog_22_method_1_code
theorem cb_AC_ctor : CB y_AC_ctor b_AC_ctor 1 none 0 := ⟨tm (i := 3) (by decide +kernel), tm (i := 54) (by decide +kernel), ⟨by decide +kernel, by decide +kernel⟩, by decide +kernel⟩
def y_AL_ctor : MethodName := ⟨"java/util/AbstractList", "<init>", "()V"⟩
abbrev b_AL_ctor : ByteArray := prog_23_method_1_code
theorem cb_AL_ctor : CB y_AL_ctor b_AL_ctor 1 none 0 := ⟨tm (i := 4) (by decide +kernel), tm (i := 51) (by decide +kernel), ⟨by decide +kernel, by decide +kernel⟩, by decide +kernel⟩
theorem ci_AL_1 : CI "java/util/AbstractList" 1 y_AC_ctor b_AC_ctor 1 0 := ⟨cb_AC_ctor, tm (i := 52) (by decide +kernel), tm (i := 53) (by decide +kernel), by decide +kernel⟩
theorem fl_AL_7 : FL "java/util/AbstractList" 7 5 0 := ⟨_, _, _, rfl, by decide, Or.inl (tm (i := 60) (by decide +kernel))⟩
theorem flp_AL_7 : FLP "java/util/AbstractList" 7 5 0 .int := ⟨fl_AL_7, fun Cn T N h => by
  have e : (Cn, T, N) = ("java/util/ArrayList", q_List, 3) := Option.some.inj (h.symm.trans (rfl : ccl[5]? = some ("java/util/ArrayList", q_List, 3)))
  cases e
  exact ⟨rfl, by decide +kernel⟩⟩
def y_A_ctor : MethodName := ⟨"java/util/ArrayList", "<init>", "()V"⟩
abbrev b_A_ctor : ByteArray := prog_24_method_2_code
theorem cb_A_ctor : CB y_A_ctor b_A_ctor 1 none 0 := ⟨tm (i := 5) (by decide +kernel), tm (i := 48) (by decide +kernel), ⟨by decide +kernel, by decide +kernel⟩, by decide +kernel⟩
theorem ci_A_1 : CI "java/util/ArrayList" 1 y_AL_ctor b_AL_ctor 1 0 := ⟨cb_AL_ctor, tm (i := 49) (by decide +kernel), tm (i := 50) (by decide +kernel), by decide +kernel⟩
theorem fl_A_9 : FL "java/util/ArrayList" 9 5 1 := ⟨_, _, _, rfl, by decide, Or.inl (tm (i := 58) (by decide +kernel))⟩
theorem flp_A_9 : FLP "java/util/ArrayList" 9 5 1 (.array (.object "java/lang/Object")) := ⟨fl_A_9, fun Cn T N h => by
  have e : (Cn, T, N) = ("java/util/ArrayList", q_List, 3) := Option.some.inj (h.symm.trans (rfl : ccl[5]? = some ("java/util/ArrayList", q_List, 3)))
  cases e
  exact ⟨rfl, by decide +kernel⟩⟩
def y_R_fill : MethodName := ⟨"java/util/Arrays", "fill", "([II)V"⟩
abbrev b_R_fill : ByteArray := prog_25_method_103_code
theorem cb_R_fill : CB y_R_fill b_R_fill 4 none 2 := ⟨tm (i := 6) (by decide +kernel), tm (i := 72) (by decide +kernel), ⟨by decide +kernel, by decide +kernel⟩, by decide +kernel⟩
def y_S_newLength : MethodName := ⟨"jdk/internal/util/ArraysSupport", "newLength", "(III)I"⟩
abbrev b_S_newLength : ByteArray := prog_32_method_27_code
theorem cb_S_newLength : CB y_S_newLength b_S_newLength 4 (some .int) 3 := ⟨tm (i := 20) (by decide +kernel), tm (i := 277) (by decide +kernel), ⟨by decide +kernel, by decide +kernel⟩, by decide +kernel⟩
def y_R_copyOf3 : MethodName := ⟨"java/util/Arrays", "copyOf", "([Ljava/lang/Object;ILjava/lang/Class;)[Ljava/lang/Object;"⟩
abbrev b_R_copyOf3 : ByteArray := prog_25_method_120_code
theorem cb_R_copyOf3 : CB y_R_copyOf3 b_R_copyOf3 4 (some (.array (.object "java/lang/Object"))) 3 := ⟨tm (i := 6) (by decide +kernel), tm (i := 306) (by decide +kernel), ⟨by decide +kernel, by decide +kernel⟩, by decide +kernel⟩
def y_R_copyOf : MethodName := ⟨"java/util/Arrays", "copyOf", "([Ljava/lang/Object;I)[Ljava/lang/Object;"⟩
abbrev b_R_copyOf : ByteArray := prog_25_method_119_code
theorem cb_R_copyOf : CB y_R_copyOf b_R_copyOf 2 (some (.array (.object "java/lang/Object"))) 2 := ⟨tm (i := 6) (by decide +kernel), tm (i := 287) (by decide +kernel), ⟨by decide +kernel, by decide +kernel⟩, by decide +kernel⟩
theorem cs_R_300 : CS "java/util/Arrays" 300 y_R_copyOf3 b_R_copyOf3 4 (some (.array (.object "java/lang/Object"))) 3 := ⟨cb_R_copyOf3, Or.inl (tm (i := 304) (by decide +kernel)), tm (i := 305) (by decide +kernel)⟩
def y_A_grow1 : MethodName := ⟨"java/util/ArrayList", "grow", "(I)[Ljava/lang/Object;"⟩
abbrev b_A_grow1 : ByteArray := prog_24_method_6_code
theorem cb_A_grow1 : CB y_A_grow1 b_A_grow1 4 (some (.array (.object "java/lang/Object"))) 1 := ⟨tm (i := 5) (by decide +kernel), tm (i := 274) (by decide +kernel), ⟨by decide +kernel, by decide +kernel⟩, by decide +kernel⟩
theorem cs_A_73 : CS "java/util/ArrayList" 73 y_S_newLength b_S_newLength 4 (some .int) 3 := ⟨cb_S_newLength, Or.inl (tm (i := 275) (by decide +kernel)), tm (i := 276) (by decide +kernel)⟩
theorem cs_A_66 : CS "java/util/ArrayList" 66 y_R_copyOf b_R_copyOf 2 (some (.array (.object "java/lang/Object"))) 2 := ⟨cb_R_copyOf, Or.inl (tm (i := 285) (by decide +kernel)), tm (i := 286) (by decide +kernel)⟩
def y_A_grow : MethodName := ⟨"java/util/ArrayList", "grow", "()[Ljava/lang/Object;"⟩
abbrev b_A_grow : ByteArray := prog_24_method_7_code
theorem cb_A_grow : CB y_A_grow b_A_grow 1 (some (.array (.object "java/lang/Object"))) 0 := ⟨tm (i := 5) (by decide +kernel), tm (i := 270) (by decide +kernel), ⟨by decide +kernel, by decide +kernel⟩, by decide +kernel⟩
theorem fl_A_48 : FL "java/util/ArrayList" 48 5 2 := ⟨_, _, _, rfl, by decide, Or.inl (tm (i := 59) (by decide +kernel))⟩
theorem cv_A_69 : CV "java/util/ArrayList" 69 y_A_grow1 b_A_grow1 4 (some (.array (.object "java/lang/Object"))) 1 := ⟨cb_A_grow1, tm (i := 271) (by decide +kernel), tm (i := 273) (by decide +kernel), List.mem_append_left _ (List.mem_of_getElem? (i := 5) (by decide +kernel))⟩
def y_A_add3 : MethodName := ⟨"java/util/ArrayList", "add", "(Ljava/lang/Object;[Ljava/lang/Object;I)V"⟩
abbrev b_A_add3 : ByteArray := prog_24_method_24_code
theorem cb_A_add3 : CB y_A_add3 b_A_add3 4 none 3 := ⟨tm (i := 5) (by decide +kernel), tm (i := 266) (by decide +kernel), ⟨by decide +kernel, by decide +kernel⟩, by decide +kernel⟩
theorem flp_A_48 : FLP "java/util/ArrayList" 48 5 2 .int := ⟨fl_A_48, fun Cn T N h => by
  have e : (Cn, T, N) = ("java/util/ArrayList", q_List, 3) := Option.some.inj (h.symm.trans (rfl : ccl[5]? = some ("java/util/ArrayList", q_List, 3)))
  cases e
  exact ⟨rfl, by decide +kernel⟩⟩
theorem cv_A_129 : CV "java/util/ArrayList" 129 y_A_grow b_A_grow 1 (some (.array (.object "java/lang/Object"))) 0 := ⟨cb_A_grow, tm (i := 267) (by decide +kernel), tm (i := 269) (by decide +kernel), List.mem_append_left _ (List.mem_of_getElem? (i := 4) (by decide +kernel))⟩
def y_A_add : MethodName := ⟨"java/util/ArrayList", "add", "(Ljava/lang/Object;)Z"⟩
abbrev b_A_add : ByteArray := prog_24_method_25_code
theorem cb_A_add : CB y_A_add b_A_add 2 (some .boolean) 1 := ⟨tm (i := 5) (by decide +kernel), tm (i := 262) (by decide +kernel), ⟨by decide +kernel, by decide +kernel⟩, by decide +kernel⟩
theorem fl_A_63 : FL "java/util/ArrayList" 63 5 0 := ⟨_, _, _, rfl, by decide, Or.inr (Or.inr ⟨"java/util/ArrayList", tm (i := 61) (by decide +kernel), tm (i := 62) (by decide +kernel)⟩)⟩
theorem flp_A_63 : FLP "java/util/ArrayList" 63 5 0 .int := ⟨fl_A_63, fun Cn T N h => by
  have e : (Cn, T, N) = ("java/util/ArrayList", q_List, 3) := Option.some.inj (h.symm.trans (rfl : ccl[5]? = some ("java/util/ArrayList", q_List, 3)))
  cases e
  exact ⟨rfl, by decide +kernel⟩⟩
theorem cv_A_131 : CV "java/util/ArrayList" 131 y_A_add3 b_A_add3 4 none 3 := ⟨cb_A_add3, tm (i := 263) (by decide +kernel), tm (i := 265) (by decide +kernel), List.mem_append_left _ (List.mem_of_getElem? (i := 3) (by decide +kernel))⟩
def y_A_size : MethodName := ⟨"java/util/ArrayList", "size", "()I"⟩
abbrev b_A_size : ByteArray := prog_24_method_8_code
theorem cb_A_size : CB y_A_size b_A_size 1 (some .int) 0 := ⟨tm (i := 5) (by decide +kernel), tm (i := 325) (by decide +kernel), ⟨by decide +kernel, by decide +kernel⟩, by decide +kernel⟩
def y_PC_checkIndex : MethodName := ⟨"jdk/internal/util/Preconditions", "checkIndex", "(IILjava/util/function/BiFunction;)I"⟩
abbrev b_PC_checkIndex : ByteArray := prog_33_method_11_code
theorem cb_PC_checkIndex : CB y_PC_checkIndex b_PC_checkIndex 3 (some .int) 3 := ⟨tm (i := 17) (by decide +kernel), tm (i := 510) (by decide +kernel), ⟨by decide +kernel, by decide +kernel⟩, by decide +kernel⟩
def y_O_checkIndex : MethodName := ⟨"java/util/Objects", "checkIndex", "(II)I"⟩
abbrev b_O_checkIndex : ByteArray := prog_29_method_17_code
theorem cb_O_checkIndex : CB y_O_checkIndex b_O_checkIndex 2 (some .int) 2 := ⟨tm (i := 16) (by decide +kernel), tm (i := 507) (by decide +kernel), ⟨by decide +kernel, by decide +kernel⟩, by decide +kernel⟩
theorem cs_O_105 : CS "java/util/Objects" 105 y_PC_checkIndex b_PC_checkIndex 3 (some .int) 3 := ⟨cb_PC_checkIndex, Or.inl (tm (i := 508) (by decide +kernel)), tm (i := 509) (by decide +kernel)⟩
def y_A_elementData : MethodName := ⟨"java/util/ArrayList", "elementData", "(I)Ljava/lang/Object;"⟩
abbrev b_A_elementData : ByteArray := prog_24_method_18_code
theorem cb_A_elementData : CB y_A_elementData b_A_elementData 2 (some (.object "java/lang/Object")) 1 := ⟨tm (i := 5) (by decide +kernel), tm (i := 514) (by decide +kernel), ⟨by decide +kernel, by decide +kernel⟩, by decide +kernel⟩
def y_A_get : MethodName := ⟨"java/util/ArrayList", "get", "(I)Ljava/lang/Object;"⟩
abbrev b_A_get : ByteArray := prog_24_method_20_code
theorem cb_A_get : CB y_A_get b_A_get 2 (some (.object "java/lang/Object")) 1 := ⟨tm (i := 5) (by decide +kernel), tm (i := 504) (by decide +kernel), ⟨by decide +kernel, by decide +kernel⟩, by decide +kernel⟩
theorem cs_A_118 : CS "java/util/ArrayList" 118 y_O_checkIndex b_O_checkIndex 2 (some .int) 2 := ⟨cb_O_checkIndex, Or.inl (tm (i := 505) (by decide +kernel)), tm (i := 506) (by decide +kernel)⟩
theorem cv_A_123 : CV "java/util/ArrayList" 123 y_A_elementData b_A_elementData 2 (some (.object "java/lang/Object")) 1 := ⟨cb_A_elementData, tm (i := 511) (by decide +kernel), tm (i := 512) (by decide +kernel), tm (i := 513) (by decide +kernel)⟩
def y_I_bitCount : MethodName := ⟨"java/lang/Integer", "bitCount", "(I)I"⟩
abbrev b_I_bitCount : ByteArray := prog_14_method_49_code
theorem cb_I_bitCount : CB y_I_bitCount b_I_bitCount 1 (some .int) 1 := ⟨tm (i := 23) (by decide +kernel), tm (i := 596) (by decide +kernel), ⟨by decide +kernel, by decide +kernel⟩, by decide +kernel⟩
def y_A_fastRemove : MethodName := ⟨"java/util/ArrayList", "fastRemove", "([Ljava/lang/Object;I)V"⟩
abbrev b_A_fastRemove : ByteArray := prog_24_method_39_code
theorem cb_A_fastRemove : CB y_A_fastRemove b_A_fastRemove 4 none 2 := ⟨tm (i := 5) (by decide +kernel), tm (i := 640) (by decide +kernel), ⟨by decide +kernel, by decide +kernel⟩, by decide +kernel⟩
def y_A_remove : MethodName := ⟨"java/util/ArrayList", "remove", "(I)Ljava/lang/Object;"⟩
abbrev b_A_remove : ByteArray := prog_24_method_29_code
theorem cb_A_remove : CB y_A_remove b_A_remove 4 (some (.object "java/lang/Object")) 1 := ⟨tm (i := 5) (by decide +kernel), tm (i := 636) (by decide +kernel), ⟨by decide +kernel, by decide +kernel⟩, by decide +kernel⟩
theorem cv_A_144 : CV "java/util/ArrayList" 144 y_A_fastRemove b_A_fastRemove 4 none 2 := ⟨cb_A_fastRemove, tm (i := 637) (by decide +kernel), tm (i := 639) (by decide +kernel), List.mem_append_left _ (List.mem_of_getElem? (i := 10) (by decide +kernel))⟩
theorem d_AC_ctor_0 : decode b_AC_ctor 0 = .ok (.aload_n 0, 1) := by decide +kernel
theorem d_AC_ctor_1 : decode b_AC_ctor 1 = .ok (.invokespecial 1, 3) := by decide +kernel
theorem d_AC_ctor_4 : decode b_AC_ctor 4 = .ok (.return_, 1) := by decide +kernel
theorem d_AL_ctor_0 : decode b_AL_ctor 0 = .ok (.aload_n 0, 1) := by decide +kernel
theorem d_AL_ctor_1 : decode b_AL_ctor 1 = .ok (.invokespecial 1, 3) := by decide +kernel
theorem d_AL_ctor_4 : decode b_AL_ctor 4 = .ok (.aload_n 0, 1) := by decide +kernel
theorem d_AL_ctor_5 : decode b_AL_ctor 5 = .ok (.iconst 0, 1) := by decide +kernel
theorem d_AL_ctor_6 : decode b_AL_ctor 6 = .ok (.putfield 7, 3) := by decide +kernel
theorem d_AL_ctor_9 : decode b_AL_ctor 9 = .ok (.return_, 1) := by decide +kernel
theorem d_A_ctor_0 : decode b_A_ctor 0 = .ok (.aload_n 0, 1) := by decide +kernel
theorem d_A_ctor_1 : decode b_A_ctor 1 = .ok (.invokespecial 1, 3) := by decide +kernel
theorem d_A_ctor_4 : decode b_A_ctor 4 = .ok (.aload_n 0, 1) := by decide +kernel
theorem d_A_ctor_5 : decode b_A_ctor 5 = .ok (.getstatic 39, 3) := by decide +kernel
theorem d_A_ctor_8 : decode b_A_ctor 8 = .ok (.putfield 9, 3) := by decide +kernel
theorem d_A_ctor_11 : decode b_A_ctor 11 = .ok (.return_, 1) := by decide +kernel
theorem d_R_fill_0 : decode b_R_fill 0 = .ok (.iconst 0, 1) := by decide +kernel
theorem d_R_fill_1 : decode b_R_fill 1 = .ok (.istore_n 2, 1) := by decide +kernel
theorem d_R_fill_2 : decode b_R_fill 2 = .ok (.aload_n 0, 1) := by decide +kernel
theorem d_R_fill_3 : decode b_R_fill 3 = .ok (.arraylength, 1) := by decide +kernel
theorem d_R_fill_4 : decode b_R_fill 4 = .ok (.istore_n 3, 1) := by decide +kernel
theorem d_R_fill_5 : decode b_R_fill 5 = .ok (.iload_n 2, 1) := by decide +kernel
theorem d_R_fill_6 : decode b_R_fill 6 = .ok (.iload_n 3, 1) := by decide +kernel
theorem d_R_fill_7 : decode b_R_fill 7 = .ok (.if_icmp .ge 13, 3) := by decide +kernel
theorem d_R_fill_10 : decode b_R_fill 10 = .ok (.aload_n 0, 1) := by decide +kernel
theorem d_R_fill_11 : decode b_R_fill 11 = .ok (.iload_n 2, 1) := by decide +kernel
theorem d_R_fill_12 : decode b_R_fill 12 = .ok (.iload_n 1, 1) := by decide +kernel
theorem d_R_fill_13 : decode b_R_fill 13 = .ok (.iastore, 1) := by decide +kernel
theorem d_R_fill_14 : decode b_R_fill 14 = .ok (.iinc 2 1, 3) := by decide +kernel
theorem d_R_fill_17 : decode b_R_fill 17 = .ok (.goto (-12), 3) := by decide +kernel
theorem d_R_fill_20 : decode b_R_fill 20 = .ok (.return_, 1) := by decide +kernel
theorem d_S_newLength_0 : decode b_S_newLength 0 = .ok (.iload_n 0, 1) := by decide +kernel
theorem d_S_newLength_1 : decode b_S_newLength 1 = .ok (.iload_n 1, 1) := by decide +kernel
theorem d_S_newLength_2 : decode b_S_newLength 2 = .ok (.iload_n 2, 1) := by decide +kernel
theorem d_S_newLength_3 : decode b_S_newLength 3 = .ok (.invokestatic 194, 3) := by decide +kernel
theorem d_S_newLength_6 : decode b_S_newLength 6 = .ok (.iadd, 1) := by decide +kernel
theorem d_S_newLength_7 : decode b_S_newLength 7 = .ok (.istore_n 3, 1) := by decide +kernel
theorem d_S_newLength_8 : decode b_S_newLength 8 = .ok (.iconst 0, 1) := by decide +kernel
theorem d_S_newLength_9 : decode b_S_newLength 9 = .ok (.iload_n 3, 1) := by decide +kernel
theorem d_S_newLength_10 : decode b_S_newLength 10 = .ok (.if_icmp .ge 11, 3) := by decide +kernel
theorem d_S_newLength_13 : decode b_S_newLength 13 = .ok (.iload_n 3, 1) := by decide +kernel
theorem d_S_newLength_14 : decode b_S_newLength 14 = .ok (.ldc 200, 2) := by decide +kernel
theorem d_S_newLength_16 : decode b_S_newLength 16 = .ok (.if_icmp .gt 5, 3) := by decide +kernel
theorem d_S_newLength_19 : decode b_S_newLength 19 = .ok (.iload_n 3, 1) := by decide +kernel
theorem d_S_newLength_20 : decode b_S_newLength 20 = .ok (.ireturn, 1) := by decide +kernel
theorem d_R_copyOf3_0 : decode b_R_copyOf3 0 = .ok (.aload_n 2, 1) := by decide +kernel
theorem d_R_copyOf3_1 : decode b_R_copyOf3 1 = .ok (.ldc 110, 2) := by decide +kernel
theorem d_R_copyOf3_3 : decode b_R_copyOf3 3 = .ok (.if_acmp .ne 10, 3) := by decide +kernel
theorem d_R_copyOf3_6 : decode b_R_copyOf3 6 = .ok (.iload_n 1, 1) := by decide +kernel
theorem d_R_copyOf3_7 : decode b_R_copyOf3 7 = .ok (.anewarray 2, 3) := by decide +kernel
theorem d_R_copyOf3_10 : decode b_R_copyOf3 10 = .ok (.goto 14, 3) := by decide +kernel
theorem d_R_copyOf3_24 : decode b_R_copyOf3 24 = .ok (.astore_n 3, 1) := by decide +kernel
theorem d_R_copyOf3_25 : decode b_R_copyOf3 25 = .ok (.aload_n 0, 1) := by decide +kernel
theorem d_R_copyOf3_26 : decode b_R_copyOf3 26 = .ok (.iconst 0, 1) := by decide +kernel
theorem d_R_copyOf3_27 : decode b_R_copyOf3 27 = .ok (.aload_n 3, 1) := by decide +kernel
theorem d_R_copyOf3_28 : decode b_R_copyOf3 28 = .ok (.iconst 0, 1) := by decide +kernel
theorem d_R_copyOf3_29 : decode b_R_copyOf3 29 = .ok (.aload_n 0, 1) := by decide +kernel
theorem d_R_copyOf3_30 : decode b_R_copyOf3 30 = .ok (.arraylength, 1) := by decide +kernel
theorem d_R_copyOf3_31 : decode b_R_copyOf3 31 = .ok (.iload_n 1, 1) := by decide +kernel
theorem d_R_copyOf3_32 : decode b_R_copyOf3 32 = .ok (.invokestatic 304, 3) := by decide +kernel
theorem d_R_copyOf3_35 : decode b_R_copyOf3 35 = .ok (.invokestatic 150, 3) := by decide +kernel
theorem d_R_copyOf3_38 : decode b_R_copyOf3 38 = .ok (.aload_n 3, 1) := by decide +kernel
theorem d_R_copyOf3_39 : decode b_R_copyOf3 39 = .ok (.areturn, 1) := by decide +kernel
theorem d_R_copyOf_0 : decode b_R_copyOf 0 = .ok (.aload_n 0, 1) := by decide +kernel
theorem d_R_copyOf_1 : decode b_R_copyOf 1 = .ok (.iload_n 1, 1) := by decide +kernel
theorem d_R_copyOf_2 : decode b_R_copyOf 2 = .ok (.aload_n 0, 1) := by decide +kernel
theorem d_R_copyOf_3 : decode b_R_copyOf 3 = .ok (.invokevirtual 86, 3) := by decide +kernel
theorem d_R_copyOf_6 : decode b_R_copyOf 6 = .ok (.invokestatic 300, 3) := by decide +kernel
theorem d_R_copyOf_9 : decode b_R_copyOf 9 = .ok (.areturn, 1) := by decide +kernel
theorem d_A_grow1_0 : decode b_A_grow1 0 = .ok (.aload_n 0, 1) := by decide +kernel
theorem d_A_grow1_1 : decode b_A_grow1 1 = .ok (.getfield 9, 3) := by decide +kernel
theorem d_A_grow1_4 : decode b_A_grow1 4 = .ok (.arraylength, 1) := by decide +kernel
theorem d_A_grow1_5 : decode b_A_grow1 5 = .ok (.istore_n 2, 1) := by decide +kernel
theorem d_A_grow1_6 : decode b_A_grow1 6 = .ok (.iload_n 2, 1) := by decide +kernel
theorem d_A_grow1_7 : decode b_A_grow1 7 = .ok (.ifCond .gt 13, 3) := by decide +kernel
theorem d_A_grow1_10 : decode b_A_grow1 10 = .ok (.aload_n 0, 1) := by decide +kernel
theorem d_A_grow1_11 : decode b_A_grow1 11 = .ok (.getfield 9, 3) := by decide +kernel
theorem d_A_grow1_14 : decode b_A_grow1 14 = .ok (.getstatic 39, 3) := by decide +kernel
theorem d_A_grow1_17 : decode b_A_grow1 17 = .ok (.if_acmp .eq 28, 3) := by decide +kernel
theorem d_A_grow1_20 : decode b_A_grow1 20 = .ok (.iload_n 2, 1) := by decide +kernel
theorem d_A_grow1_21 : decode b_A_grow1 21 = .ok (.iload_n 1, 1) := by decide +kernel
theorem d_A_grow1_22 : decode b_A_grow1 22 = .ok (.iload_n 2, 1) := by decide +kernel
theorem d_A_grow1_23 : decode b_A_grow1 23 = .ok (.isub, 1) := by decide +kernel
theorem d_A_grow1_24 : decode b_A_grow1 24 = .ok (.iload_n 2, 1) := by decide +kernel
theorem d_A_grow1_25 : decode b_A_grow1 25 = .ok (.iconst 1, 1) := by decide +kernel
theorem d_A_grow1_26 : decode b_A_grow1 26 = .ok (.ishr, 1) := by decide +kernel
theorem d_A_grow1_27 : decode b_A_grow1 27 = .ok (.invokestatic 73, 3) := by decide +kernel
theorem d_A_grow1_30 : decode b_A_grow1 30 = .ok (.istore_n 3, 1) := by decide +kernel
theorem d_A_grow1_31 : decode b_A_grow1 31 = .ok (.aload_n 0, 1) := by decide +kernel
theorem d_A_grow1_32 : decode b_A_grow1 32 = .ok (.aload_n 0, 1) := by decide +kernel
theorem d_A_grow1_33 : decode b_A_grow1 33 = .ok (.getfield 9, 3) := by decide +kernel
theorem d_A_grow1_36 : decode b_A_grow1 36 = .ok (.iload_n 3, 1) := by decide +kernel
theorem d_A_grow1_37 : decode b_A_grow1 37 = .ok (.invokestatic 66, 3) := by decide +kernel
theorem d_A_grow1_40 : decode b_A_grow1 40 = .ok (.dup_x1, 1) := by decide +kernel
theorem d_A_grow1_41 : decode b_A_grow1 41 = .ok (.putfield 9, 3) := by decide +kernel
theorem d_A_grow1_44 : decode b_A_grow1 44 = .ok (.areturn, 1) := by decide +kernel
theorem d_A_grow1_45 : decode b_A_grow1 45 = .ok (.aload_n 0, 1) := by decide +kernel
theorem d_A_grow1_46 : decode b_A_grow1 46 = .ok (.bipush 10, 2) := by decide +kernel
theorem d_A_grow1_48 : decode b_A_grow1 48 = .ok (.iload_n 1, 1) := by decide +kernel
theorem d_A_grow1_49 : decode b_A_grow1 49 = .ok (.invokestatic 79, 3) := by decide +kernel
theorem d_A_grow1_52 : decode b_A_grow1 52 = .ok (.anewarray 7, 3) := by decide +kernel
theorem d_A_grow1_55 : decode b_A_grow1 55 = .ok (.dup_x1, 1) := by decide +kernel
theorem d_A_grow1_56 : decode b_A_grow1 56 = .ok (.putfield 9, 3) := by decide +kernel
theorem d_A_grow1_59 : decode b_A_grow1 59 = .ok (.areturn, 1) := by decide +kernel
theorem d_A_grow_0 : decode b_A_grow 0 = .ok (.aload_n 0, 1) := by decide +kernel
theorem d_A_grow_1 : decode b_A_grow 1 = .ok (.aload_n 0, 1) := by decide +kernel
theorem d_A_grow_2 : decode b_A_grow 2 = .ok (.getfield 48, 3) := by decide +kernel
theorem d_A_grow_5 : decode b_A_grow 5 = .ok (.iconst 1, 1) := by decide +kernel
theorem d_A_grow_6 : decode b_A_grow 6 = .ok (.iadd, 1) := by decide +kernel
theorem d_A_grow_7 : decode b_A_grow 7 = .ok (.invokevirtual 69, 3) := by decide +kernel
theorem d_A_grow_10 : decode b_A_grow 10 = .ok (.areturn, 1) := by decide +kernel
theorem d_A_add3_0 : decode b_A_add3 0 = .ok (.iload_n 3, 1) := by decide +kernel
theorem d_A_add3_1 : decode b_A_add3 1 = .ok (.aload_n 2, 1) := by decide +kernel
theorem d_A_add3_2 : decode b_A_add3 2 = .ok (.arraylength, 1) := by decide +kernel
theorem d_A_add3_3 : decode b_A_add3 3 = .ok (.if_icmp .ne 8, 3) := by decide +kernel
theorem d_A_add3_6 : decode b_A_add3 6 = .ok (.aload_n 0, 1) := by decide +kernel
theorem d_A_add3_7 : decode b_A_add3 7 = .ok (.invokevirtual 129, 3) := by decide +kernel
theorem d_A_add3_10 : decode b_A_add3 10 = .ok (.astore_n 2, 1) := by decide +kernel
theorem d_A_add3_11 : decode b_A_add3 11 = .ok (.aload_n 2, 1) := by decide +kernel
theorem d_A_add3_12 : decode b_A_add3 12 = .ok (.iload_n 3, 1) := by decide +kernel
theorem d_A_add3_13 : decode b_A_add3 13 = .ok (.aload_n 1, 1) := by decide +kernel
theorem d_A_add3_14 : decode b_A_add3 14 = .ok (.aastore, 1) := by decide +kernel
theorem d_A_add3_15 : decode b_A_add3 15 = .ok (.aload_n 0, 1) := by decide +kernel
theorem d_A_add3_16 : decode b_A_add3 16 = .ok (.iload_n 3, 1) := by decide +kernel
theorem d_A_add3_17 : decode b_A_add3 17 = .ok (.iconst 1, 1) := by decide +kernel
theorem d_A_add3_18 : decode b_A_add3 18 = .ok (.iadd, 1) := by decide +kernel
theorem d_A_add3_19 : decode b_A_add3 19 = .ok (.putfield 48, 3) := by decide +kernel
theorem d_A_add3_22 : decode b_A_add3 22 = .ok (.return_, 1) := by decide +kernel
theorem d_A_add_0 : decode b_A_add 0 = .ok (.aload_n 0, 1) := by decide +kernel
theorem d_A_add_1 : decode b_A_add 1 = .ok (.dup, 1) := by decide +kernel
theorem d_A_add_2 : decode b_A_add 2 = .ok (.getfield 63, 3) := by decide +kernel
theorem d_A_add_5 : decode b_A_add 5 = .ok (.iconst 1, 1) := by decide +kernel
theorem d_A_add_6 : decode b_A_add 6 = .ok (.iadd, 1) := by decide +kernel
theorem d_A_add_7 : decode b_A_add 7 = .ok (.putfield 63, 3) := by decide +kernel
theorem d_A_add_10 : decode b_A_add 10 = .ok (.aload_n 0, 1) := by decide +kernel
theorem d_A_add_11 : decode b_A_add 11 = .ok (.aload_n 1, 1) := by decide +kernel
theorem d_A_add_12 : decode b_A_add 12 = .ok (.aload_n 0, 1) := by decide +kernel
theorem d_A_add_13 : decode b_A_add 13 = .ok (.getfield 9, 3) := by decide +kernel
theorem d_A_add_16 : decode b_A_add 16 = .ok (.aload_n 0, 1) := by decide +kernel
theorem d_A_add_17 : decode b_A_add 17 = .ok (.getfield 48, 3) := by decide +kernel
theorem d_A_add_20 : decode b_A_add 20 = .ok (.invokevirtual 131, 3) := by decide +kernel
theorem d_A_add_23 : decode b_A_add 23 = .ok (.iconst 1, 1) := by decide +kernel
theorem d_A_add_24 : decode b_A_add 24 = .ok (.ireturn, 1) := by decide +kernel
theorem d_A_size_0 : decode b_A_size 0 = .ok (.aload_n 0, 1) := by decide +kernel
theorem d_A_size_1 : decode b_A_size 1 = .ok (.getfield 48, 3) := by decide +kernel
theorem d_A_size_4 : decode b_A_size 4 = .ok (.ireturn, 1) := by decide +kernel
theorem d_PC_checkIndex_0 : decode b_PC_checkIndex 0 = .ok (.iload_n 0, 1) := by decide +kernel
theorem d_PC_checkIndex_1 : decode b_PC_checkIndex 1 = .ok (.ifCond .lt 8, 3) := by decide +kernel
theorem d_PC_checkIndex_4 : decode b_PC_checkIndex 4 = .ok (.iload_n 0, 1) := by decide +kernel
theorem d_PC_checkIndex_5 : decode b_PC_checkIndex 5 = .ok (.iload_n 1, 1) := by decide +kernel
theorem d_PC_checkIndex_6 : decode b_PC_checkIndex 6 = .ok (.if_icmp .lt 10, 3) := by decide +kernel
theorem d_PC_checkIndex_16 : decode b_PC_checkIndex 16 = .ok (.iload_n 0, 1) := by decide +kernel
theorem d_PC_checkIndex_17 : decode b_PC_checkIndex 17 = .ok (.ireturn, 1) := by decide +kernel
theorem d_O_checkIndex_0 : decode b_O_checkIndex 0 = .ok (.iload_n 0, 1) := by decide +kernel
theorem d_O_checkIndex_1 : decode b_O_checkIndex 1 = .ok (.iload_n 1, 1) := by decide +kernel
theorem d_O_checkIndex_2 : decode b_O_checkIndex 2 = .ok (.aconst_null, 1) := by decide +kernel
theorem d_O_checkIndex_3 : decode b_O_checkIndex 3 = .ok (.invokestatic 105, 3) := by decide +kernel
theorem d_O_checkIndex_6 : decode b_O_checkIndex 6 = .ok (.ireturn, 1) := by decide +kernel
theorem d_A_elementData_0 : decode b_A_elementData 0 = .ok (.aload_n 0, 1) := by decide +kernel
theorem d_A_elementData_1 : decode b_A_elementData 1 = .ok (.getfield 9, 3) := by decide +kernel
theorem d_A_elementData_4 : decode b_A_elementData 4 = .ok (.iload_n 1, 1) := by decide +kernel
theorem d_A_elementData_5 : decode b_A_elementData 5 = .ok (.aaload, 1) := by decide +kernel
theorem d_A_elementData_6 : decode b_A_elementData 6 = .ok (.areturn, 1) := by decide +kernel
theorem d_A_get_0 : decode b_A_get 0 = .ok (.iload_n 1, 1) := by decide +kernel
theorem d_A_get_1 : decode b_A_get 1 = .ok (.aload_n 0, 1) := by decide +kernel
theorem d_A_get_2 : decode b_A_get 2 = .ok (.getfield 48, 3) := by decide +kernel
theorem d_A_get_5 : decode b_A_get 5 = .ok (.invokestatic 118, 3) := by decide +kernel
theorem d_A_get_8 : decode b_A_get 8 = .ok (.pop, 1) := by decide +kernel
theorem d_A_get_9 : decode b_A_get 9 = .ok (.aload_n 0, 1) := by decide +kernel
theorem d_A_get_10 : decode b_A_get 10 = .ok (.iload_n 1, 1) := by decide +kernel
theorem d_A_get_11 : decode b_A_get 11 = .ok (.invokevirtual 123, 3) := by decide +kernel
theorem d_A_get_14 : decode b_A_get 14 = .ok (.areturn, 1) := by decide +kernel
theorem d_I_bitCount_0 : decode b_I_bitCount 0 = .ok (.iload_n 0, 1) := by decide +kernel
theorem d_I_bitCount_1 : decode b_I_bitCount 1 = .ok (.iload_n 0, 1) := by decide +kernel
theorem d_I_bitCount_2 : decode b_I_bitCount 2 = .ok (.iconst 1, 1) := by decide +kernel
theorem d_I_bitCount_3 : decode b_I_bitCount 3 = .ok (.iushr, 1) := by decide +kernel
theorem d_I_bitCount_4 : decode b_I_bitCount 4 = .ok (.ldc_w 265, 3) := by decide +kernel
theorem d_I_bitCount_7 : decode b_I_bitCount 7 = .ok (.iand, 1) := by decide +kernel
theorem d_I_bitCount_8 : decode b_I_bitCount 8 = .ok (.isub, 1) := by decide +kernel
theorem d_I_bitCount_9 : decode b_I_bitCount 9 = .ok (.istore_n 0, 1) := by decide +kernel
theorem d_I_bitCount_10 : decode b_I_bitCount 10 = .ok (.iload_n 0, 1) := by decide +kernel
theorem d_I_bitCount_11 : decode b_I_bitCount 11 = .ok (.ldc_w 266, 3) := by decide +kernel
theorem d_I_bitCount_14 : decode b_I_bitCount 14 = .ok (.iand, 1) := by decide +kernel
theorem d_I_bitCount_15 : decode b_I_bitCount 15 = .ok (.iload_n 0, 1) := by decide +kernel
theorem d_I_bitCount_16 : decode b_I_bitCount 16 = .ok (.iconst 2, 1) := by decide +kernel
theorem d_I_bitCount_17 : decode b_I_bitCount 17 = .ok (.iushr, 1) := by decide +kernel
theorem d_I_bitCount_18 : decode b_I_bitCount 18 = .ok (.ldc_w 266, 3) := by decide +kernel
theorem d_I_bitCount_21 : decode b_I_bitCount 21 = .ok (.iand, 1) := by decide +kernel
theorem d_I_bitCount_22 : decode b_I_bitCount 22 = .ok (.iadd, 1) := by decide +kernel
theorem d_I_bitCount_23 : decode b_I_bitCount 23 = .ok (.istore_n 0, 1) := by decide +kernel
theorem d_I_bitCount_24 : decode b_I_bitCount 24 = .ok (.iload_n 0, 1) := by decide +kernel
theorem d_I_bitCount_25 : decode b_I_bitCount 25 = .ok (.iload_n 0, 1) := by decide +kernel
theorem d_I_bitCount_26 : decode b_I_bitCount 26 = .ok (.iconst 4, 1) := by decide +kernel
theorem d_I_bitCount_27 : decode b_I_bitCount 27 = .ok (.iushr, 1) := by decide +kernel
theorem d_I_bitCount_28 : decode b_I_bitCount 28 = .ok (.iadd, 1) := by decide +kernel
theorem d_I_bitCount_29 : decode b_I_bitCount 29 = .ok (.ldc_w 267, 3) := by decide +kernel
theorem d_I_bitCount_32 : decode b_I_bitCount 32 = .ok (.iand, 1) := by decide +kernel
theorem d_I_bitCount_33 : decode b_I_bitCount 33 = .ok (.istore_n 0, 1) := by decide +kernel
theorem d_I_bitCount_34 : decode b_I_bitCount 34 = .ok (.iload_n 0, 1) := by decide +kernel
theorem d_I_bitCount_35 : decode b_I_bitCount 35 = .ok (.iload_n 0, 1) := by decide +kernel
theorem d_I_bitCount_36 : decode b_I_bitCount 36 = .ok (.bipush 8, 2) := by decide +kernel
theorem d_I_bitCount_38 : decode b_I_bitCount 38 = .ok (.iushr, 1) := by decide +kernel
theorem d_I_bitCount_39 : decode b_I_bitCount 39 = .ok (.iadd, 1) := by decide +kernel
theorem d_I_bitCount_40 : decode b_I_bitCount 40 = .ok (.istore_n 0, 1) := by decide +kernel
theorem d_I_bitCount_41 : decode b_I_bitCount 41 = .ok (.iload_n 0, 1) := by decide +kernel
theorem d_I_bitCount_42 : decode b_I_bitCount 42 = .ok (.iload_n 0, 1) := by decide +kernel
theorem d_I_bitCount_43 : decode b_I_bitCount 43 = .ok (.bipush 16, 2) := by decide +kernel
theorem d_I_bitCount_45 : decode b_I_bitCount 45 = .ok (.iushr, 1) := by decide +kernel
theorem d_I_bitCount_46 : decode b_I_bitCount 46 = .ok (.iadd, 1) := by decide +kernel
theorem d_I_bitCount_47 : decode b_I_bitCount 47 = .ok (.istore_n 0, 1) := by decide +kernel
theorem d_I_bitCount_48 : decode b_I_bitCount 48 = .ok (.iload_n 0, 1) := by decide +kernel
theorem d_I_bitCount_49 : decode b_I_bitCount 49 = .ok (.bipush 63, 2) := by decide +kernel
theorem d_I_bitCount_51 : decode b_I_bitCount 51 = .ok (.iand, 1) := by decide +kernel
theorem d_I_bitCount_52 : decode b_I_bitCount 52 = .ok (.ireturn, 1) := by decide +kernel
theorem d_A_fastRemove_0 : decode b_A_fastRemove 0 = .ok (.aload_n 0, 1) := by decide +kernel
theorem d_A_fastRemove_1 : decode b_A_fastRemove 1 = .ok (.dup, 1) := by decide +kernel
theorem d_A_fastRemove_2 : decode b_A_fastRemove 2 = .ok (.getfield 63, 3) := by decide +kernel
theorem d_A_fastRemove_5 : decode b_A_fastRemove 5 = .ok (.iconst 1, 1) := by decide +kernel
theorem d_A_fastRemove_6 : decode b_A_fastRemove 6 = .ok (.iadd, 1) := by decide +kernel
theorem d_A_fastRemove_7 : decode b_A_fastRemove 7 = .ok (.putfield 63, 3) := by decide +kernel
theorem d_A_fastRemove_10 : decode b_A_fastRemove 10 = .ok (.aload_n 0, 1) := by decide +kernel
theorem d_A_fastRemove_11 : decode b_A_fastRemove 11 = .ok (.getfield 48, 3) := by decide +kernel
theorem d_A_fastRemove_14 : decode b_A_fastRemove 14 = .ok (.iconst 1, 1) := by decide +kernel
theorem d_A_fastRemove_15 : decode b_A_fastRemove 15 = .ok (.isub, 1) := by decide +kernel
theorem d_A_fastRemove_16 : decode b_A_fastRemove 16 = .ok (.dup, 1) := by decide +kernel
theorem d_A_fastRemove_17 : decode b_A_fastRemove 17 = .ok (.istore_n 3, 1) := by decide +kernel
theorem d_A_fastRemove_18 : decode b_A_fastRemove 18 = .ok (.iload_n 2, 1) := by decide +kernel
theorem d_A_fastRemove_19 : decode b_A_fastRemove 19 = .ok (.if_icmp .le 15, 3) := by decide +kernel
theorem d_A_fastRemove_34 : decode b_A_fastRemove 34 = .ok (.aload_n 1, 1) := by decide +kernel
theorem d_A_fastRemove_35 : decode b_A_fastRemove 35 = .ok (.aload_n 0, 1) := by decide +kernel
theorem d_A_fastRemove_36 : decode b_A_fastRemove 36 = .ok (.iload_n 3, 1) := by decide +kernel
theorem d_A_fastRemove_37 : decode b_A_fastRemove 37 = .ok (.dup_x1, 1) := by decide +kernel
theorem d_A_fastRemove_38 : decode b_A_fastRemove 38 = .ok (.putfield 48, 3) := by decide +kernel
theorem d_A_fastRemove_41 : decode b_A_fastRemove 41 = .ok (.aconst_null, 1) := by decide +kernel
theorem d_A_fastRemove_42 : decode b_A_fastRemove 42 = .ok (.aastore, 1) := by decide +kernel
theorem d_A_fastRemove_43 : decode b_A_fastRemove 43 = .ok (.return_, 1) := by decide +kernel
theorem d_A_remove_0 : decode b_A_remove 0 = .ok (.iload_n 1, 1) := by decide +kernel
theorem d_A_remove_1 : decode b_A_remove 1 = .ok (.aload_n 0, 1) := by decide +kernel
theorem d_A_remove_2 : decode b_A_remove 2 = .ok (.getfield 48, 3) := by decide +kernel
theorem d_A_remove_5 : decode b_A_remove 5 = .ok (.invokestatic 118, 3) := by decide +kernel
theorem d_A_remove_8 : decode b_A_remove 8 = .ok (.pop, 1) := by decide +kernel
theorem d_A_remove_9 : decode b_A_remove 9 = .ok (.aload_n 0, 1) := by decide +kernel
theorem d_A_remove_10 : decode b_A_remove 10 = .ok (.getfield 9, 3) := by decide +kernel
theorem d_A_remove_13 : decode b_A_remove 13 = .ok (.astore_n 2, 1) := by decide +kernel
theorem d_A_remove_14 : decode b_A_remove 14 = .ok (.aload_n 2, 1) := by decide +kernel
theorem d_A_remove_15 : decode b_A_remove 15 = .ok (.iload_n 1, 1) := by decide +kernel
theorem d_A_remove_16 : decode b_A_remove 16 = .ok (.aaload, 1) := by decide +kernel
theorem d_A_remove_17 : decode b_A_remove 17 = .ok (.astore_n 3, 1) := by decide +kernel
theorem d_A_remove_18 : decode b_A_remove 18 = .ok (.aload_n 0, 1) := by decide +kernel
theorem d_A_remove_19 : decode b_A_remove 19 = .ok (.aload_n 2, 1) := by decide +kernel
theorem d_A_remove_20 : decode b_A_remove 20 = .ok (.iload_n 1, 1) := by decide +kernel
theorem d_A_remove_21 : decode b_A_remove 21 = .ok (.invokevirtual 144, 3) := by decide +kernel
theorem d_A_remove_24 : decode b_A_remove 24 = .ok (.aload_n 3, 1) := by decide +kernel
theorem d_A_remove_25 : decode b_A_remove 25 = .ok (.areturn, 1) := by decide +kernel
