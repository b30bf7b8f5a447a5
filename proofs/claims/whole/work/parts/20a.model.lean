def y_M_ctor : MethodName := ⟨"FencedBrokerModel", "<init>", "()V"⟩
abbrev b_M_ctor : ByteArray := prog_7_method_1_code
theorem cb_M_ctor : CB y_M_ctor b_M_ctor 2 none 0 := ⟨tm (i := 9) (by decide +kernel), tm (i := 815) (by decide +kernel), ⟨by decide +kernel, by decide +kernel⟩, by decide +kernel⟩
theorem fl_M_7 : FL "FencedBrokerModel" 7 6 1 := ⟨_, _, _, rfl, by decide, Or.inl (tm (i := 818) (by decide +kernel))⟩
theorem flf_M_7 : FLF "FencedBrokerModel" 7 6 1 (.array .int) := fun Cn T N h => by
  have e : (Cn, T, N) = ("FencedBrokerModel", q_Model, 24) := Option.some.inj (h.symm.trans (rfl : ccl[6]? = some ("FencedBrokerModel", q_Model, 24)))
  cases e
  exact ⟨by decide, rfl, rfl, by decide +kernel, tm (i := 818) (by decide +kernel)⟩
theorem fl_M_13 : FL "FencedBrokerModel" 13 6 2 := ⟨_, _, _, rfl, by decide, Or.inl (tm (i := 819) (by decide +kernel))⟩
theorem flf_M_13 : FLF "FencedBrokerModel" 13 6 2 (.array .int) := fun Cn T N h => by
  have e : (Cn, T, N) = ("FencedBrokerModel", q_Model, 24) := Option.some.inj (h.symm.trans (rfl : ccl[6]? = some ("FencedBrokerModel", q_Model, 24)))
  cases e
  exact ⟨by decide, rfl, rfl, by decide +kernel, tm (i := 819) (by decide +kernel)⟩
theorem fl_M_16 : FL "FencedBrokerModel" 16 6 3 := ⟨_, _, _, rfl, by decide, Or.inl (tm (i := 820) (by decide +kernel))⟩
theorem flf_M_16 : FLF "FencedBrokerModel" 16 6 3 (.array .int) := fun Cn T N h => by
  have e : (Cn, T, N) = ("FencedBrokerModel", q_Model, 24) := Option.some.inj (h.symm.trans (rfl : ccl[6]? = some ("FencedBrokerModel", q_Model, 24)))
  cases e
  exact ⟨by decide, rfl, rfl, by decide +kernel, tm (i := 820) (by decide +kernel)⟩
theorem fl_M_19 : FL "FencedBrokerModel" 19 6 4 := ⟨_, _, _, rfl, by decide, Or.inl (tm (i := 821) (by decide +kernel))⟩
theorem flf_M_19 : FLF "FencedBrokerModel" 19 6 4 (.array .int) := fun Cn T N h => by
  have e : (Cn, T, N) = ("FencedBrokerModel", q_Model, 24) := Option.some.inj (h.symm.trans (rfl : ccl[6]? = some ("FencedBrokerModel", q_Model, 24)))
  cases e
  exact ⟨by decide, rfl, rfl, by decide +kernel, tm (i := 821) (by decide +kernel)⟩
theorem fl_M_22 : FL "FencedBrokerModel" 22 6 5 := ⟨_, _, _, rfl, by decide, Or.inl (tm (i := 822) (by decide +kernel))⟩
theorem flf_M_22 : FLF "FencedBrokerModel" 22 6 5 (.array .int) := fun Cn T N h => by
  have e : (Cn, T, N) = ("FencedBrokerModel", q_Model, 24) := Option.some.inj (h.symm.trans (rfl : ccl[6]? = some ("FencedBrokerModel", q_Model, 24)))
  cases e
  exact ⟨by decide, rfl, rfl, by decide +kernel, tm (i := 822) (by decide +kernel)⟩
theorem fl_M_25 : FL "FencedBrokerModel" 25 6 6 := ⟨_, _, _, rfl, by decide, Or.inl (tm (i := 823) (by decide +kernel))⟩
theorem flf_M_25 : FLF "FencedBrokerModel" 25 6 6 (.array .int) := fun Cn T N h => by
  have e : (Cn, T, N) = ("FencedBrokerModel", q_Model, 24) := Option.some.inj (h.symm.trans (rfl : ccl[6]? = some ("FencedBrokerModel", q_Model, 24)))
  cases e
  exact ⟨by decide, rfl, rfl, by decide +kernel, tm (i := 823) (by decide +kernel)⟩
theorem fl_M_28 : FL "FencedBrokerModel" 28 6 7 := ⟨_, _, _, rfl, by decide, Or.inl (tm (i := 824) (by decide +kernel))⟩
theorem flf_M_28 : FLF "FencedBrokerModel" 28 6 7 (.array .int) := fun Cn T N h => by
  have e : (Cn, T, N) = ("FencedBrokerModel", q_Model, 24) := Option.some.inj (h.symm.trans (rfl : ccl[6]? = some ("FencedBrokerModel", q_Model, 24)))
  cases e
  exact ⟨by decide, rfl, rfl, by decide +kernel, tm (i := 824) (by decide +kernel)⟩
theorem fl_M_31 : FL "FencedBrokerModel" 31 6 8 := ⟨_, _, _, rfl, by decide, Or.inl (tm (i := 825) (by decide +kernel))⟩
theorem flf_M_31 : FLF "FencedBrokerModel" 31 6 8 (.array .int) := fun Cn T N h => by
  have e : (Cn, T, N) = ("FencedBrokerModel", q_Model, 24) := Option.some.inj (h.symm.trans (rfl : ccl[6]? = some ("FencedBrokerModel", q_Model, 24)))
  cases e
  exact ⟨by decide, rfl, rfl, by decide +kernel, tm (i := 825) (by decide +kernel)⟩
theorem fl_M_34 : FL "FencedBrokerModel" 34 6 9 := ⟨_, _, _, rfl, by decide, Or.inl (tm (i := 826) (by decide +kernel))⟩
theorem flf_M_34 : FLF "FencedBrokerModel" 34 6 9 (.array .int) := fun Cn T N h => by
  have e : (Cn, T, N) = ("FencedBrokerModel", q_Model, 24) := Option.some.inj (h.symm.trans (rfl : ccl[6]? = some ("FencedBrokerModel", q_Model, 24)))
  cases e
  exact ⟨by decide, rfl, rfl, by decide +kernel, tm (i := 826) (by decide +kernel)⟩
theorem fl_M_37 : FL "FencedBrokerModel" 37 6 10 := ⟨_, _, _, rfl, by decide, Or.inl (tm (i := 827) (by decide +kernel))⟩
theorem flf_M_37 : FLF "FencedBrokerModel" 37 6 10 (.array .int) := fun Cn T N h => by
  have e : (Cn, T, N) = ("FencedBrokerModel", q_Model, 24) := Option.some.inj (h.symm.trans (rfl : ccl[6]? = some ("FencedBrokerModel", q_Model, 24)))
  cases e
  exact ⟨by decide, rfl, rfl, by decide +kernel, tm (i := 827) (by decide +kernel)⟩
theorem fl_M_40 : FL "FencedBrokerModel" 40 6 11 := ⟨_, _, _, rfl, by decide, Or.inl (tm (i := 828) (by decide +kernel))⟩
theorem flf_M_40 : FLF "FencedBrokerModel" 40 6 11 (.array .int) := fun Cn T N h => by
  have e : (Cn, T, N) = ("FencedBrokerModel", q_Model, 24) := Option.some.inj (h.symm.trans (rfl : ccl[6]? = some ("FencedBrokerModel", q_Model, 24)))
  cases e
  exact ⟨by decide, rfl, rfl, by decide +kernel, tm (i := 828) (by decide +kernel)⟩
theorem fl_M_43 : FL "FencedBrokerModel" 43 6 12 := ⟨_, _, _, rfl, by decide, Or.inl (tm (i := 829) (by decide +kernel))⟩
theorem flf_M_43 : FLF "FencedBrokerModel" 43 6 12 (.array .int) := fun Cn T N h => by
  have e : (Cn, T, N) = ("FencedBrokerModel", q_Model, 24) := Option.some.inj (h.symm.trans (rfl : ccl[6]? = some ("FencedBrokerModel", q_Model, 24)))
  cases e
  exact ⟨by decide, rfl, rfl, by decide +kernel, tm (i := 829) (by decide +kernel)⟩
theorem fl_M_46 : FL "FencedBrokerModel" 46 6 13 := ⟨_, _, _, rfl, by decide, Or.inl (tm (i := 830) (by decide +kernel))⟩
theorem flf_M_46 : FLF "FencedBrokerModel" 46 6 13 (.array .int) := fun Cn T N h => by
  have e : (Cn, T, N) = ("FencedBrokerModel", q_Model, 24) := Option.some.inj (h.symm.trans (rfl : ccl[6]? = some ("FencedBrokerModel", q_Model, 24)))
  cases e
  exact ⟨by decide, rfl, rfl, by decide +kernel, tm (i := 830) (by decide +kernel)⟩
theorem fl_M_49 : FL "FencedBrokerModel" 49 6 14 := ⟨_, _, _, rfl, by decide, Or.inl (tm (i := 831) (by decide +kernel))⟩
theorem flf_M_49 : FLF "FencedBrokerModel" 49 6 14 (.array .int) := fun Cn T N h => by
  have e : (Cn, T, N) = ("FencedBrokerModel", q_Model, 24) := Option.some.inj (h.symm.trans (rfl : ccl[6]? = some ("FencedBrokerModel", q_Model, 24)))
  cases e
  exact ⟨by decide, rfl, rfl, by decide +kernel, tm (i := 831) (by decide +kernel)⟩
theorem fl_M_52 : FL "FencedBrokerModel" 52 6 15 := ⟨_, _, _, rfl, by decide, Or.inl (tm (i := 832) (by decide +kernel))⟩
theorem flf_M_52 : FLF "FencedBrokerModel" 52 6 15 (.array .int) := fun Cn T N h => by
  have e : (Cn, T, N) = ("FencedBrokerModel", q_Model, 24) := Option.some.inj (h.symm.trans (rfl : ccl[6]? = some ("FencedBrokerModel", q_Model, 24)))
  cases e
  exact ⟨by decide, rfl, rfl, by decide +kernel, tm (i := 832) (by decide +kernel)⟩
theorem fl_M_55 : FL "FencedBrokerModel" 55 6 17 := ⟨_, _, _, rfl, by decide, Or.inl (tm (i := 834) (by decide +kernel))⟩
theorem flf_M_55 : FLF "FencedBrokerModel" 55 6 17 (.array .int) := fun Cn T N h => by
  have e : (Cn, T, N) = ("FencedBrokerModel", q_Model, 24) := Option.some.inj (h.symm.trans (rfl : ccl[6]? = some ("FencedBrokerModel", q_Model, 24)))
  cases e
  exact ⟨by decide, rfl, rfl, by decide +kernel, tm (i := 834) (by decide +kernel)⟩
theorem fl_M_58 : FL "FencedBrokerModel" 58 6 18 := ⟨_, _, _, rfl, by decide, Or.inl (tm (i := 835) (by decide +kernel))⟩
theorem flf_M_58 : FLF "FencedBrokerModel" 58 6 18 (.array .boolean) := fun Cn T N h => by
  have e : (Cn, T, N) = ("FencedBrokerModel", q_Model, 24) := Option.some.inj (h.symm.trans (rfl : ccl[6]? = some ("FencedBrokerModel", q_Model, 24)))
  cases e
  exact ⟨by decide, rfl, rfl, by decide +kernel, tm (i := 835) (by decide +kernel)⟩
theorem fl_M_62 : FL "FencedBrokerModel" 62 6 19 := ⟨_, _, _, rfl, by decide, Or.inl (tm (i := 836) (by decide +kernel))⟩
theorem flf_M_62 : FLF "FencedBrokerModel" 62 6 19 (.array .int) := fun Cn T N h => by
  have e : (Cn, T, N) = ("FencedBrokerModel", q_Model, 24) := Option.some.inj (h.symm.trans (rfl : ccl[6]? = some ("FencedBrokerModel", q_Model, 24)))
  cases e
  exact ⟨by decide, rfl, rfl, by decide +kernel, tm (i := 836) (by decide +kernel)⟩
theorem fl_M_65 : FL "FencedBrokerModel" 65 6 20 := ⟨_, _, _, rfl, by decide, Or.inl (tm (i := 837) (by decide +kernel))⟩
theorem flf_M_65 : FLF "FencedBrokerModel" 65 6 20 (.array .int) := fun Cn T N h => by
  have e : (Cn, T, N) = ("FencedBrokerModel", q_Model, 24) := Option.some.inj (h.symm.trans (rfl : ccl[6]? = some ("FencedBrokerModel", q_Model, 24)))
  cases e
  exact ⟨by decide, rfl, rfl, by decide +kernel, tm (i := 837) (by decide +kernel)⟩
theorem fl_M_68 : FL "FencedBrokerModel" 68 6 21 := ⟨_, _, _, rfl, by decide, Or.inl (tm (i := 838) (by decide +kernel))⟩
theorem flf_M_68 : FLF "FencedBrokerModel" 68 6 21 (.array .int) := fun Cn T N h => by
  have e : (Cn, T, N) = ("FencedBrokerModel", q_Model, 24) := Option.some.inj (h.symm.trans (rfl : ccl[6]? = some ("FencedBrokerModel", q_Model, 24)))
  cases e
  exact ⟨by decide, rfl, rfl, by decide +kernel, tm (i := 838) (by decide +kernel)⟩
def y_M_thrown : MethodName := ⟨"FencedBrokerModel", "thrown", "()I"⟩
abbrev b_M_thrown : ByteArray := prog_7_method_2_code
theorem cb_M_thrown : CB y_M_thrown b_M_thrown 1 (some .int) 0 := ⟨tm (i := 9) (by decide +kernel), tm (i := 893) (by decide +kernel), ⟨by decide +kernel, by decide +kernel⟩, by decide +kernel⟩
theorem fl_M_71 : FL "FencedBrokerModel" 71 6 0 := ⟨_, _, _, rfl, by decide, Or.inl (tm (i := 817) (by decide +kernel))⟩
def y_M_out : MethodName := ⟨"FencedBrokerModel", "out", "(II)Z"⟩
abbrev b_M_out : ByteArray := prog_7_method_4_code
theorem cb_M_out : CB y_M_out b_M_out 3 (some .boolean) 2 := ⟨tm (i := 9) (by decide +kernel), tm (i := 901) (by decide +kernel), ⟨by decide +kernel, by decide +kernel⟩, by decide +kernel⟩
def y_M_fail : MethodName := ⟨"FencedBrokerModel", "fail", "(I)I"⟩
abbrev b_M_fail : ByteArray := prog_7_method_3_code
theorem cb_M_fail : CB y_M_fail b_M_fail 2 (some .int) 1 := ⟨tm (i := 9) (by decide +kernel), tm (i := 905) (by decide +kernel), ⟨by decide +kernel, by decide +kernel⟩, by decide +kernel⟩
theorem flp_M_71 : FLP "FencedBrokerModel" 71 6 0 .int := ⟨fl_M_71, fun Cn T N h => by
  have e : (Cn, T, N) = ("FencedBrokerModel", q_Model, 24) := Option.some.inj (h.symm.trans (rfl : ccl[6]? = some ("FencedBrokerModel", q_Model, 24)))
  cases e
  exact ⟨rfl, by decide +kernel⟩⟩
def y_M_abort : MethodName := ⟨"FencedBrokerModel", "abort", "(I)V"⟩
abbrev b_M_abort : ByteArray := prog_7_method_12_code
theorem cb_M_abort : CB y_M_abort b_M_abort 2 none 1 := ⟨tm (i := 9) (by decide +kernel), tm (i := 909) (by decide +kernel), ⟨by decide +kernel, by decide +kernel⟩, by decide +kernel⟩
def y_M_init : MethodName := ⟨"FencedBrokerModel", "init", "(I)I"⟩
abbrev b_M_init : ByteArray := prog_7_method_13_code
theorem cb_M_init : CB y_M_init b_M_init 2 (some .int) 1 := ⟨tm (i := 9) (by decide +kernel), tm (i := 897) (by decide +kernel), ⟨by decide +kernel, by decide +kernel⟩, by decide +kernel⟩
theorem cv_M_83 : CV "FencedBrokerModel" 83 y_M_out b_M_out 3 (some .boolean) 2 := ⟨cb_M_out, tm (i := 898) (by decide +kernel), tm (i := 900) (by decide +kernel), List.mem_append_left _ (List.mem_of_getElem? (i := 20) (by decide +kernel))⟩
theorem cv_M_86 : CV "FencedBrokerModel" 86 y_M_fail b_M_fail 2 (some .int) 1 := ⟨cb_M_fail, tm (i := 902) (by decide +kernel), tm (i := 904) (by decide +kernel), List.mem_append_left _ (List.mem_of_getElem? (i := 21) (by decide +kernel))⟩
theorem cv_M_90 : CV "FencedBrokerModel" 90 y_M_abort b_M_abort 2 none 1 := ⟨cb_M_abort, tm (i := 906) (by decide +kernel), tm (i := 908) (by decide +kernel), List.mem_append_left _ (List.mem_of_getElem? (i := 22) (by decide +kernel))⟩
def y_M_check : MethodName := ⟨"FencedBrokerModel", "check", "(III)I"⟩
abbrev b_M_check : ByteArray := prog_7_method_14_code
theorem cb_M_check : CB y_M_check b_M_check 4 (some .int) 3 := ⟨tm (i := 9) (by decide +kernel), tm (i := 917) (by decide +kernel), ⟨by decide +kernel, by decide +kernel⟩, by decide +kernel⟩
def y_M_begin : MethodName := ⟨"FencedBrokerModel", "begin", "(II)I"⟩
abbrev b_M_begin : ByteArray := prog_7_method_15_code
theorem cb_M_begin : CB y_M_begin b_M_begin 4 (some .int) 2 := ⟨tm (i := 9) (by decide +kernel), tm (i := 913) (by decide +kernel), ⟨by decide +kernel, by decide +kernel⟩, by decide +kernel⟩
theorem cv_M_94 : CV "FencedBrokerModel" 94 y_M_check b_M_check 4 (some .int) 3 := ⟨cb_M_check, tm (i := 914) (by decide +kernel), tm (i := 916) (by decide +kernel), List.mem_append_left _ (List.mem_of_getElem? (i := 23) (by decide +kernel))⟩
theorem fl_M_98 : FL "FencedBrokerModel" 98 6 16 := ⟨_, _, _, rfl, by decide, Or.inl (tm (i := 833) (by decide +kernel))⟩
theorem flp_M_98 : FLP "FencedBrokerModel" 98 6 16 .int := ⟨fl_M_98, fun Cn T N h => by
  have e : (Cn, T, N) = ("FencedBrokerModel", q_Model, 24) := Option.some.inj (h.symm.trans (rfl : ccl[6]? = some ("FencedBrokerModel", q_Model, 24)))
  cases e
  exact ⟨rfl, by decide +kernel⟩⟩
theorem fl_M_101 : FL "FencedBrokerModel" 101 6 22 := ⟨_, _, _, rfl, by decide, Or.inl (tm (i := 839) (by decide +kernel))⟩
def y_M_ofProducer : MethodName := ⟨"FencedBrokerModel", "ofProducer", "(II)Z"⟩
abbrev b_M_ofProducer : ByteArray := prog_7_method_7_code
theorem cb_M_ofProducer : CB y_M_ofProducer b_M_ofProducer 3 (some .boolean) 2 := ⟨tm (i := 9) (by decide +kernel), tm (i := 929) (by decide +kernel), ⟨by decide +kernel, by decide +kernel⟩, by decide +kernel⟩
def y_M_recent : MethodName := ⟨"FencedBrokerModel", "recent", "(III)I"⟩
abbrev b_M_recent : ByteArray := prog_7_method_9_code
theorem cb_M_recent : CB y_M_recent b_M_recent 6 (some .int) 3 := ⟨tm (i := 9) (by decide +kernel), tm (i := 925) (by decide +kernel), ⟨by decide +kernel, by decide +kernel⟩, by decide +kernel⟩
theorem cv_M_75 : CV "FencedBrokerModel" 75 y_M_ofProducer b_M_ofProducer 3 (some .boolean) 2 := ⟨cb_M_ofProducer, tm (i := 926) (by decide +kernel), tm (i := 928) (by decide +kernel), List.mem_append_left _ (List.mem_of_getElem? (i := 25) (by decide +kernel))⟩
def y_M_next : MethodName := ⟨"FencedBrokerModel", "next", "(II)I"⟩
abbrev b_M_next : ByteArray := prog_7_method_8_code
theorem cb_M_next : CB y_M_next b_M_next 5 (some .int) 2 := ⟨tm (i := 9) (by decide +kernel), tm (i := 933) (by decide +kernel), ⟨by decide +kernel, by decide +kernel⟩, by decide +kernel⟩
def y_M_full : MethodName := ⟨"FencedBrokerModel", "full", "(I)Z"⟩
abbrev b_M_full : ByteArray := prog_7_method_6_code
theorem cb_M_full : CB y_M_full b_M_full 2 (some .boolean) 1 := ⟨tm (i := 9) (by decide +kernel), tm (i := 937) (by decide +kernel), ⟨by decide +kernel, by decide +kernel⟩, by decide +kernel⟩
def y_M_put : MethodName := ⟨"FencedBrokerModel", "put", "(IIIII)I"⟩
abbrev b_M_put : ByteArray := prog_7_method_5_code
theorem cb_M_put : CB y_M_put b_M_put 7 (some .int) 5 := ⟨tm (i := 9) (by decide +kernel), tm (i := 941) (by decide +kernel), ⟨by decide +kernel, by decide +kernel⟩, by decide +kernel⟩
def y_M_send : MethodName := ⟨"FencedBrokerModel", "send", "(IIIII)I"⟩
abbrev b_M_send : ByteArray := prog_7_method_16_code
theorem cb_M_send : CB y_M_send b_M_send 7 (some .int) 5 := ⟨tm (i := 9) (by decide +kernel), tm (i := 921) (by decide +kernel), ⟨by decide +kernel, by decide +kernel⟩, by decide +kernel⟩
theorem cv_M_104 : CV "FencedBrokerModel" 104 y_M_recent b_M_recent 6 (some .int) 3 := ⟨cb_M_recent, tm (i := 922) (by decide +kernel), tm (i := 924) (by decide +kernel), List.mem_append_left _ (List.mem_of_getElem? (i := 24) (by decide +kernel))⟩
theorem cv_M_115 : CV "FencedBrokerModel" 115 y_M_put b_M_put 7 (some .int) 5 := ⟨cb_M_put, tm (i := 938) (by decide +kernel), tm (i := 940) (by decide +kernel), List.mem_append_left _ (List.mem_of_getElem? (i := 28) (by decide +kernel))⟩
theorem cv_M_111 : CV "FencedBrokerModel" 111 y_M_full b_M_full 2 (some .boolean) 1 := ⟨cb_M_full, tm (i := 934) (by decide +kernel), tm (i := 936) (by decide +kernel), List.mem_append_left _ (List.mem_of_getElem? (i := 27) (by decide +kernel))⟩
theorem cv_M_107 : CV "FencedBrokerModel" 107 y_M_next b_M_next 5 (some .int) 2 := ⟨cb_M_next, tm (i := 930) (by decide +kernel), tm (i := 932) (by decide +kernel), List.mem_append_left _ (List.mem_of_getElem? (i := 26) (by decide +kernel))⟩
def y_M_pend : MethodName := ⟨"FencedBrokerModel", "pend", "(IIIII)I"⟩
abbrev b_M_pend : ByteArray := prog_7_method_17_code
theorem cb_M_pend : CB y_M_pend b_M_pend 8 (some .int) 5 := ⟨tm (i := 9) (by decide +kernel), tm (i := 945) (by decide +kernel), ⟨by decide +kernel, by decide +kernel⟩, by decide +kernel⟩
def y_M_ones : MethodName := ⟨"FencedBrokerModel", "ones", "(I)I"⟩
abbrev b_M_ones : ByteArray := prog_7_method_18_code
theorem cb_M_ones : CB y_M_ones b_M_ones 4 (some .int) 1 := ⟨tm (i := 9) (by decide +kernel), tm (i := 953) (by decide +kernel), ⟨by decide +kernel, by decide +kernel⟩, by decide +kernel⟩
def y_M_finish : MethodName := ⟨"FencedBrokerModel", "finish", "(IIZ)I"⟩
abbrev b_M_finish : ByteArray := prog_7_method_19_code
theorem cb_M_finish : CB y_M_finish b_M_finish 7 (some .int) 3 := ⟨tm (i := 9) (by decide +kernel), tm (i := 949) (by decide +kernel), ⟨by decide +kernel, by decide +kernel⟩, by decide +kernel⟩
theorem cv_M_119 : CV "FencedBrokerModel" 119 y_M_ones b_M_ones 4 (some .int) 1 := ⟨cb_M_ones, tm (i := 950) (by decide +kernel), tm (i := 952) (by decide +kernel), List.mem_append_left _ (List.mem_of_getElem? (i := 29) (by decide +kernel))⟩
def y_M_marked : MethodName := ⟨"FencedBrokerModel", "marked", "(IIIZ)Z"⟩
abbrev b_M_marked : ByteArray := prog_7_method_10_code
theorem cb_M_marked : CB y_M_marked b_M_marked 6 (some .boolean) 4 := ⟨tm (i := 9) (by decide +kernel), tm (i := 965) (by decide +kernel), ⟨by decide +kernel, by decide +kernel⟩, by decide +kernel⟩
def y_M_stepOf : MethodName := ⟨"FencedBrokerModel", "stepOf", "(I)I"⟩
abbrev b_M_stepOf : ByteArray := prog_7_method_20_code
theorem cb_M_stepOf : CB y_M_stepOf b_M_stepOf 3 (some .int) 1 := ⟨tm (i := 9) (by decide +kernel), tm (i := 961) (by decide +kernel), ⟨by decide +kernel, by decide +kernel⟩, by decide +kernel⟩
theorem cv_M_79 : CV "FencedBrokerModel" 79 y_M_marked b_M_marked 6 (some .boolean) 4 := ⟨cb_M_marked, tm (i := 962) (by decide +kernel), tm (i := 964) (by decide +kernel), List.mem_append_left _ (List.mem_of_getElem? (i := 31) (by decide +kernel))⟩
def y_M_step : MethodName := ⟨"FencedBrokerModel", "step", "()I"⟩
abbrev b_M_step : ByteArray := prog_7_method_21_code
theorem cb_M_step : CB y_M_step b_M_step 3 (some .int) 0 := ⟨tm (i := 9) (by decide +kernel), tm (i := 957) (by decide +kernel), ⟨by decide +kernel, by decide +kernel⟩, by decide +kernel⟩
theorem cv_M_122 : CV "FencedBrokerModel" 122 y_M_stepOf b_M_stepOf 3 (some .int) 1 := ⟨cb_M_stepOf, tm (i := 958) (by decide +kernel), tm (i := 960) (by decide +kernel), List.mem_append_left _ (List.mem_of_getElem? (i := 30) (by decide +kernel))⟩
def y_M_plain : MethodName := ⟨"FencedBrokerModel", "plain", "(II)I"⟩
abbrev b_M_plain : ByteArray := prog_7_method_22_code
theorem cb_M_plain : CB y_M_plain b_M_plain 3 (some .int) 2 := ⟨tm (i := 9) (by decide +kernel), tm (i := 969) (by decide +kernel), ⟨by decide +kernel, by decide +kernel⟩, by decide +kernel⟩
def y_M_copy : MethodName := ⟨"FencedBrokerModel", "copy", "(II)I"⟩
abbrev b_M_copy : ByteArray := prog_7_method_23_code
theorem cb_M_copy : CB y_M_copy b_M_copy 3 (some .int) 2 := ⟨tm (i := 9) (by decide +kernel), tm (i := 973) (by decide +kernel), ⟨by decide +kernel, by decide +kernel⟩, by decide +kernel⟩
def y_M_lose : MethodName := ⟨"FencedBrokerModel", "lose", "(I)I"⟩
abbrev b_M_lose : ByteArray := prog_7_method_24_code
theorem cb_M_lose : CB y_M_lose b_M_lose 3 (some .int) 1 := ⟨tm (i := 9) (by decide +kernel), tm (i := 977) (by decide +kernel), ⟨by decide +kernel, by decide +kernel⟩, by decide +kernel⟩
def y_M_stable : MethodName := ⟨"FencedBrokerModel", "stable", "(I)I"⟩
abbrev b_M_stable : ByteArray := prog_7_method_11_code
theorem cb_M_stable : CB y_M_stable b_M_stable 4 (some .int) 1 := ⟨tm (i := 9) (by decide +kernel), tm (i := 985) (by decide +kernel), ⟨by decide +kernel, by decide +kernel⟩, by decide +kernel⟩
def y_M_fetch : MethodName := ⟨"FencedBrokerModel", "fetch", "(IIZ)I"⟩
abbrev b_M_fetch : ByteArray := prog_7_method_25_code
theorem cb_M_fetch : CB y_M_fetch b_M_fetch 7 (some .int) 3 := ⟨tm (i := 9) (by decide +kernel), tm (i := 981) (by decide +kernel), ⟨by decide +kernel, by decide +kernel⟩, by decide +kernel⟩
theorem fl_M_128 : FL "FencedBrokerModel" 128 6 23 := ⟨_, _, _, rfl, by decide, Or.inl (tm (i := 840) (by decide +kernel))⟩
theorem flp_M_128 : FLP "FencedBrokerModel" 128 6 23 .int := ⟨fl_M_128, fun Cn T N h => by
  have e : (Cn, T, N) = ("FencedBrokerModel", q_Model, 24) := Option.some.inj (h.symm.trans (rfl : ccl[6]? = some ("FencedBrokerModel", q_Model, 24)))
  cases e
  exact ⟨rfl, by decide +kernel⟩⟩
theorem cv_M_125 : CV "FencedBrokerModel" 125 y_M_stable b_M_stable 4 (some .int) 1 := ⟨cb_M_stable, tm (i := 982) (by decide +kernel), tm (i := 984) (by decide +kernel), List.mem_append_left _ (List.mem_of_getElem? (i := 32) (by decide +kernel))⟩
def y_M_last : MethodName := ⟨"FencedBrokerModel", "last", "()I"⟩
abbrev b_M_last : ByteArray := prog_7_method_26_code
theorem cb_M_last : CB y_M_last b_M_last 1 (some .int) 0 := ⟨tm (i := 9) (by decide +kernel), tm (i := 989) (by decide +kernel), ⟨by decide +kernel, by decide +kernel⟩, by decide +kernel⟩
def y_M_trim : MethodName := ⟨"FencedBrokerModel", "trim", "(II)I"⟩
abbrev b_M_trim : ByteArray := prog_7_method_27_code
theorem cb_M_trim : CB y_M_trim b_M_trim 4 (some .int) 2 := ⟨tm (i := 9) (by decide +kernel), tm (i := 993) (by decide +kernel), ⟨by decide +kernel, by decide +kernel⟩, by decide +kernel⟩
def y_M_has : MethodName := ⟨"FencedBrokerModel", "has", "(II)I"⟩
abbrev b_M_has : ByteArray := prog_7_method_28_code
theorem cb_M_has : CB y_M_has b_M_has 5 (some .int) 2 := ⟨tm (i := 9) (by decide +kernel), tm (i := 1005) (by decide +kernel), ⟨by decide +kernel, by decide +kernel⟩, by decide +kernel⟩
def y_M_fewest : MethodName := ⟨"FencedBrokerModel", "fewest", "(I)I"⟩
abbrev b_M_fewest : ByteArray := prog_7_method_30_code
theorem cb_M_fewest : CB y_M_fewest b_M_fewest 4 (some .int) 1 := ⟨tm (i := 9) (by decide +kernel), tm (i := 1009) (by decide +kernel), ⟨by decide +kernel, by decide +kernel⟩, by decide +kernel⟩
theorem cv_M_131 : CV "FencedBrokerModel" 131 y_M_has b_M_has 5 (some .int) 2 := ⟨cb_M_has, tm (i := 1002) (by decide +kernel), tm (i := 1004) (by decide +kernel), List.mem_append_left _ (List.mem_of_getElem? (i := 34) (by decide +kernel))⟩
def y_M_share : MethodName := ⟨"FencedBrokerModel", "share", "(I)V"⟩
abbrev b_M_share : ByteArray := prog_7_method_29_code
theorem cb_M_share : CB y_M_share b_M_share 9 none 1 := ⟨tm (i := 9) (by decide +kernel), tm (i := 1001) (by decide +kernel), ⟨by decide +kernel, by decide +kernel⟩, by decide +kernel⟩
theorem cv_M_134 : CV "FencedBrokerModel" 134 y_M_fewest b_M_fewest 4 (some .int) 1 := ⟨cb_M_fewest, tm (i := 1006) (by decide +kernel), tm (i := 1008) (by decide +kernel), List.mem_append_left _ (List.mem_of_getElem? (i := 35) (by decide +kernel))⟩
def y_M_join : MethodName := ⟨"FencedBrokerModel", "join", "(II)I"⟩
abbrev b_M_join : ByteArray := prog_7_method_31_code
theorem cb_M_join : CB y_M_join b_M_join 3 (some .int) 2 := ⟨tm (i := 9) (by decide +kernel), tm (i := 997) (by decide +kernel), ⟨by decide +kernel, by decide +kernel⟩, by decide +kernel⟩
theorem cv_M_137 : CV "FencedBrokerModel" 137 y_M_share b_M_share 9 none 1 := ⟨cb_M_share, tm (i := 998) (by decide +kernel), tm (i := 1000) (by decide +kernel), List.mem_append_left _ (List.mem_of_getElem? (i := 33) (by decide +kernel))⟩
def y_M_leave : MethodName := ⟨"FencedBrokerModel", "leave", "(II)I"⟩
abbrev b_M_leave : ByteArray := prog_7_method_32_code
theorem cb_M_leave : CB y_M_leave b_M_leave 3 (some .int) 2 := ⟨tm (i := 9) (by decide +kernel), tm (i := 1013) (by decide +kernel), ⟨by decide +kernel, by decide +kernel⟩, by decide +kernel⟩
def y_M_beat : MethodName := ⟨"FencedBrokerModel", "beat", "(III)I"⟩
abbrev b_M_beat : ByteArray := prog_7_method_33_code
theorem cb_M_beat : CB y_M_beat b_M_beat 6 (some .int) 3 := ⟨tm (i := 9) (by decide +kernel), tm (i := 1017) (by decide +kernel), ⟨by decide +kernel, by decide +kernel⟩, by decide +kernel⟩
def y_M_mark : MethodName := ⟨"FencedBrokerModel", "mark", "(IIIII)I"⟩
abbrev b_M_mark : ByteArray := prog_7_method_34_code
theorem cb_M_mark : CB y_M_mark b_M_mark 7 (some .int) 5 := ⟨tm (i := 9) (by decide +kernel), tm (i := 1021) (by decide +kernel), ⟨by decide +kernel, by decide +kernel⟩, by decide +kernel⟩
def y_M_tick : MethodName := ⟨"FencedBrokerModel", "tick", "(I)I"⟩
abbrev b_M_tick : ByteArray := prog_7_method_35_code
theorem cb_M_tick : CB y_M_tick b_M_tick 6 (some .int) 1 := ⟨tm (i := 9) (by decide +kernel), tm (i := 1025) (by decide +kernel), ⟨by decide +kernel, by decide +kernel⟩, by decide +kernel⟩
theorem flp_M_101 : FLP "FencedBrokerModel" 101 6 22 .int := ⟨fl_M_101, fun Cn T N h => by
  have e : (Cn, T, N) = ("FencedBrokerModel", q_Model, 24) := Option.some.inj (h.symm.trans (rfl : ccl[6]? = some ("FencedBrokerModel", q_Model, 24)))
  cases e
  exact ⟨rfl, by decide +kernel⟩⟩
def y_M_edge : MethodName := ⟨"FencedBrokerModel", "edge", "(II)I"⟩
abbrev b_M_edge : ByteArray := prog_7_method_36_code
theorem cb_M_edge : CB y_M_edge b_M_edge 3 (some .int) 2 := ⟨tm (i := 9) (by decide +kernel), tm (i := 1029) (by decide +kernel), ⟨by decide +kernel, by decide +kernel⟩, by decide +kernel⟩
def y_M_fact : MethodName := ⟨"FencedBrokerModel", "fact", "(II)I"⟩
abbrev b_M_fact : ByteArray := prog_7_method_37_code
theorem cb_M_fact : CB y_M_fact b_M_fact 3 (some .int) 2 := ⟨tm (i := 9) (by decide +kernel), tm (i := 1033) (by decide +kernel), ⟨by decide +kernel, by decide +kernel⟩, by decide +kernel⟩
theorem d_M_ctor_0 : decode b_M_ctor 0 = .ok (.aload_n 0, 1) := by decide +kernel
theorem d_M_ctor_1 : decode b_M_ctor 1 = .ok (.invokespecial 1, 3) := by decide +kernel
theorem d_M_ctor_4 : decode b_M_ctor 4 = .ok (.aload_n 0, 1) := by decide +kernel
theorem d_M_ctor_5 : decode b_M_ctor 5 = .ok (.sipush 2080, 3) := by decide +kernel
theorem d_M_ctor_8 : decode b_M_ctor 8 = .ok (.newarray .int, 2) := by decide +kernel
theorem d_M_ctor_10 : decode b_M_ctor 10 = .ok (.putfield 7, 3) := by decide +kernel
theorem d_M_ctor_13 : decode b_M_ctor 13 = .ok (.aload_n 0, 1) := by decide +kernel
theorem d_M_ctor_14 : decode b_M_ctor 14 = .ok (.sipush 2080, 3) := by decide +kernel
theorem d_M_ctor_17 : decode b_M_ctor 17 = .ok (.newarray .int, 2) := by decide +kernel
theorem d_M_ctor_19 : decode b_M_ctor 19 = .ok (.putfield 13, 3) := by decide +kernel
theorem d_M_ctor_22 : decode b_M_ctor 22 = .ok (.aload_n 0, 1) := by decide +kernel
theorem d_M_ctor_23 : decode b_M_ctor 23 = .ok (.sipush 2080, 3) := by decide +kernel
theorem d_M_ctor_26 : decode b_M_ctor 26 = .ok (.newarray .int, 2) := by decide +kernel
theorem d_M_ctor_28 : decode b_M_ctor 28 = .ok (.putfield 16, 3) := by decide +kernel
theorem d_M_ctor_31 : decode b_M_ctor 31 = .ok (.aload_n 0, 1) := by decide +kernel
theorem d_M_ctor_32 : decode b_M_ctor 32 = .ok (.sipush 2080, 3) := by decide +kernel
theorem d_M_ctor_35 : decode b_M_ctor 35 = .ok (.newarray .int, 2) := by decide +kernel
theorem d_M_ctor_37 : decode b_M_ctor 37 = .ok (.putfield 19, 3) := by decide +kernel
theorem d_M_ctor_40 : decode b_M_ctor 40 = .ok (.aload_n 0, 1) := by decide +kernel
theorem d_M_ctor_41 : decode b_M_ctor 41 = .ok (.sipush 2080, 3) := by decide +kernel
theorem d_M_ctor_44 : decode b_M_ctor 44 = .ok (.newarray .int, 2) := by decide +kernel
theorem d_M_ctor_46 : decode b_M_ctor 46 = .ok (.putfield 22, 3) := by decide +kernel
theorem d_M_ctor_49 : decode b_M_ctor 49 = .ok (.aload_n 0, 1) := by decide +kernel
theorem d_M_ctor_50 : decode b_M_ctor 50 = .ok (.sipush 2080, 3) := by decide +kernel
theorem d_M_ctor_53 : decode b_M_ctor 53 = .ok (.newarray .int, 2) := by decide +kernel
theorem d_M_ctor_55 : decode b_M_ctor 55 = .ok (.putfield 25, 3) := by decide +kernel
theorem d_M_ctor_58 : decode b_M_ctor 58 = .ok (.aload_n 0, 1) := by decide +kernel
theorem d_M_ctor_59 : decode b_M_ctor 59 = .ok (.iconst 4, 1) := by decide +kernel
theorem d_M_ctor_60 : decode b_M_ctor 60 = .ok (.newarray .int, 2) := by decide +kernel
theorem d_M_ctor_62 : decode b_M_ctor 62 = .ok (.putfield 28, 3) := by decide +kernel
theorem d_M_ctor_65 : decode b_M_ctor 65 = .ok (.aload_n 0, 1) := by decide +kernel
theorem d_M_ctor_66 : decode b_M_ctor 66 = .ok (.iconst 4, 1) := by decide +kernel
theorem d_M_ctor_67 : decode b_M_ctor 67 = .ok (.newarray .int, 2) := by decide +kernel
theorem d_M_ctor_69 : decode b_M_ctor 69 = .ok (.putfield 31, 3) := by decide +kernel
theorem d_M_ctor_72 : decode b_M_ctor 72 = .ok (.aload_n 0, 1) := by decide +kernel
theorem d_M_ctor_73 : decode b_M_ctor 73 = .ok (.iconst 4, 1) := by decide +kernel
theorem d_M_ctor_74 : decode b_M_ctor 74 = .ok (.newarray .int, 2) := by decide +kernel
theorem d_M_ctor_76 : decode b_M_ctor 76 = .ok (.putfield 34, 3) := by decide +kernel
theorem d_M_ctor_79 : decode b_M_ctor 79 = .ok (.aload_n 0, 1) := by decide +kernel
theorem d_M_ctor_80 : decode b_M_ctor 80 = .ok (.iconst 4, 1) := by decide +kernel
theorem d_M_ctor_81 : decode b_M_ctor 81 = .ok (.newarray .int, 2) := by decide +kernel
theorem d_M_ctor_83 : decode b_M_ctor 83 = .ok (.putfield 37, 3) := by decide +kernel
theorem d_M_ctor_86 : decode b_M_ctor 86 = .ok (.aload_n 0, 1) := by decide +kernel
theorem d_M_ctor_87 : decode b_M_ctor 87 = .ok (.iconst 4, 1) := by decide +kernel
theorem d_M_ctor_88 : decode b_M_ctor 88 = .ok (.newarray .int, 2) := by decide +kernel
theorem d_M_ctor_90 : decode b_M_ctor 90 = .ok (.putfield 40, 3) := by decide +kernel
theorem d_M_ctor_93 : decode b_M_ctor 93 = .ok (.aload_n 0, 1) := by decide +kernel
theorem d_M_ctor_94 : decode b_M_ctor 94 = .ok (.iconst 4, 1) := by decide +kernel
theorem d_M_ctor_95 : decode b_M_ctor 95 = .ok (.newarray .int, 2) := by decide +kernel
theorem d_M_ctor_97 : decode b_M_ctor 97 = .ok (.putfield 43, 3) := by decide +kernel
theorem d_M_ctor_100 : decode b_M_ctor 100 = .ok (.aload_n 0, 1) := by decide +kernel
theorem d_M_ctor_101 : decode b_M_ctor 101 = .ok (.iconst 4, 1) := by decide +kernel
theorem d_M_ctor_102 : decode b_M_ctor 102 = .ok (.newarray .int, 2) := by decide +kernel
theorem d_M_ctor_104 : decode b_M_ctor 104 = .ok (.putfield 46, 3) := by decide +kernel
theorem d_M_ctor_107 : decode b_M_ctor 107 = .ok (.aload_n 0, 1) := by decide +kernel
theorem d_M_ctor_108 : decode b_M_ctor 108 = .ok (.iconst 4, 1) := by decide +kernel
theorem d_M_ctor_109 : decode b_M_ctor 109 = .ok (.newarray .int, 2) := by decide +kernel
theorem d_M_ctor_111 : decode b_M_ctor 111 = .ok (.putfield 49, 3) := by decide +kernel
theorem d_M_ctor_114 : decode b_M_ctor 114 = .ok (.aload_n 0, 1) := by decide +kernel
theorem d_M_ctor_115 : decode b_M_ctor 115 = .ok (.bipush 32, 2) := by decide +kernel
theorem d_M_ctor_117 : decode b_M_ctor 117 = .ok (.newarray .int, 2) := by decide +kernel
theorem d_M_ctor_119 : decode b_M_ctor 119 = .ok (.putfield 52, 3) := by decide +kernel
theorem d_M_ctor_122 : decode b_M_ctor 122 = .ok (.aload_n 0, 1) := by decide +kernel
theorem d_M_ctor_123 : decode b_M_ctor 123 = .ok (.iconst 2, 1) := by decide +kernel
theorem d_M_ctor_124 : decode b_M_ctor 124 = .ok (.newarray .int, 2) := by decide +kernel
theorem d_M_ctor_126 : decode b_M_ctor 126 = .ok (.putfield 55, 3) := by decide +kernel
theorem d_M_ctor_129 : decode b_M_ctor 129 = .ok (.aload_n 0, 1) := by decide +kernel
theorem d_M_ctor_130 : decode b_M_ctor 130 = .ok (.bipush 8, 2) := by decide +kernel
theorem d_M_ctor_132 : decode b_M_ctor 132 = .ok (.newarray .boolean, 2) := by decide +kernel
theorem d_M_ctor_134 : decode b_M_ctor 134 = .ok (.putfield 58, 3) := by decide +kernel
theorem d_M_ctor_137 : decode b_M_ctor 137 = .ok (.aload_n 0, 1) := by decide +kernel
theorem d_M_ctor_138 : decode b_M_ctor 138 = .ok (.bipush 8, 2) := by decide +kernel
theorem d_M_ctor_140 : decode b_M_ctor 140 = .ok (.newarray .int, 2) := by decide +kernel
theorem d_M_ctor_142 : decode b_M_ctor 142 = .ok (.putfield 62, 3) := by decide +kernel
theorem d_M_ctor_145 : decode b_M_ctor 145 = .ok (.aload_n 0, 1) := by decide +kernel
theorem d_M_ctor_146 : decode b_M_ctor 146 = .ok (.bipush 8, 2) := by decide +kernel
theorem d_M_ctor_148 : decode b_M_ctor 148 = .ok (.newarray .int, 2) := by decide +kernel
theorem d_M_ctor_150 : decode b_M_ctor 150 = .ok (.putfield 65, 3) := by decide +kernel
theorem d_M_ctor_153 : decode b_M_ctor 153 = .ok (.aload_n 0, 1) := by decide +kernel
theorem d_M_ctor_154 : decode b_M_ctor 154 = .ok (.bipush 8, 2) := by decide +kernel
theorem d_M_ctor_156 : decode b_M_ctor 156 = .ok (.newarray .int, 2) := by decide +kernel
theorem d_M_ctor_158 : decode b_M_ctor 158 = .ok (.putfield 68, 3) := by decide +kernel
theorem d_M_ctor_161 : decode b_M_ctor 161 = .ok (.iconst 0, 1) := by decide +kernel
theorem d_M_ctor_162 : decode b_M_ctor 162 = .ok (.istore_n 1, 1) := by decide +kernel
theorem d_M_ctor_163 : decode b_M_ctor 163 = .ok (.iload_n 1, 1) := by decide +kernel
theorem d_M_ctor_164 : decode b_M_ctor 164 = .ok (.iconst 4, 1) := by decide +kernel
theorem d_M_ctor_165 : decode b_M_ctor 165 = .ok (.if_icmp .ge 16, 3) := by decide +kernel
theorem d_M_ctor_168 : decode b_M_ctor 168 = .ok (.aload_n 0, 1) := by decide +kernel
theorem d_M_ctor_169 : decode b_M_ctor 169 = .ok (.getfield 37, 3) := by decide +kernel
theorem d_M_ctor_172 : decode b_M_ctor 172 = .ok (.iload_n 1, 1) := by decide +kernel
theorem d_M_ctor_173 : decode b_M_ctor 173 = .ok (.iconst (-1), 1) := by decide +kernel
theorem d_M_ctor_174 : decode b_M_ctor 174 = .ok (.iastore, 1) := by decide +kernel
theorem d_M_ctor_175 : decode b_M_ctor 175 = .ok (.iinc 1 1, 3) := by decide +kernel
theorem d_M_ctor_178 : decode b_M_ctor 178 = .ok (.goto (-15), 3) := by decide +kernel
theorem d_M_ctor_181 : decode b_M_ctor 181 = .ok (.iconst 0, 1) := by decide +kernel
theorem d_M_ctor_182 : decode b_M_ctor 182 = .ok (.istore_n 1, 1) := by decide +kernel
theorem d_M_ctor_183 : decode b_M_ctor 183 = .ok (.iload_n 1, 1) := by decide +kernel
theorem d_M_ctor_184 : decode b_M_ctor 184 = .ok (.bipush 8, 2) := by decide +kernel
theorem d_M_ctor_186 : decode b_M_ctor 186 = .ok (.if_icmp .ge 23, 3) := by decide +kernel
theorem d_M_ctor_189 : decode b_M_ctor 189 = .ok (.aload_n 0, 1) := by decide +kernel
theorem d_M_ctor_190 : decode b_M_ctor 190 = .ok (.getfield 65, 3) := by decide +kernel
theorem d_M_ctor_193 : decode b_M_ctor 193 = .ok (.iload_n 1, 1) := by decide +kernel
theorem d_M_ctor_194 : decode b_M_ctor 194 = .ok (.iconst (-1), 1) := by decide +kernel
theorem d_M_ctor_195 : decode b_M_ctor 195 = .ok (.iastore, 1) := by decide +kernel
theorem d_M_ctor_196 : decode b_M_ctor 196 = .ok (.aload_n 0, 1) := by decide +kernel
theorem d_M_ctor_197 : decode b_M_ctor 197 = .ok (.getfield 68, 3) := by decide +kernel
theorem d_M_ctor_200 : decode b_M_ctor 200 = .ok (.iload_n 1, 1) := by decide +kernel
theorem d_M_ctor_201 : decode b_M_ctor 201 = .ok (.iconst (-1), 1) := by decide +kernel
theorem d_M_ctor_202 : decode b_M_ctor 202 = .ok (.iastore, 1) := by decide +kernel
theorem d_M_ctor_203 : decode b_M_ctor 203 = .ok (.iinc 1 1, 3) := by decide +kernel
theorem d_M_ctor_206 : decode b_M_ctor 206 = .ok (.goto (-23), 3) := by decide +kernel
theorem d_M_ctor_209 : decode b_M_ctor 209 = .ok (.return_, 1) := by decide +kernel
theorem d_M_thrown_0 : decode b_M_thrown 0 = .ok (.aload_n 0, 1) := by decide +kernel
theorem d_M_thrown_1 : decode b_M_thrown 1 = .ok (.getfield 71, 3) := by decide +kernel
theorem d_M_thrown_4 : decode b_M_thrown 4 = .ok (.ireturn, 1) := by decide +kernel
theorem d_M_out_0 : decode b_M_out 0 = .ok (.iload_n 1, 1) := by decide +kernel
theorem d_M_out_1 : decode b_M_out 1 = .ok (.ifCond .lt 8, 3) := by decide +kernel
theorem d_M_out_4 : decode b_M_out 4 = .ok (.iload_n 1, 1) := by decide +kernel
theorem d_M_out_5 : decode b_M_out 5 = .ok (.iload_n 2, 1) := by decide +kernel
theorem d_M_out_6 : decode b_M_out 6 = .ok (.if_icmp .lt 7, 3) := by decide +kernel
theorem d_M_out_9 : decode b_M_out 9 = .ok (.iconst 1, 1) := by decide +kernel
theorem d_M_out_10 : decode b_M_out 10 = .ok (.goto 4, 3) := by decide +kernel
theorem d_M_out_13 : decode b_M_out 13 = .ok (.iconst 0, 1) := by decide +kernel
theorem d_M_out_14 : decode b_M_out 14 = .ok (.ireturn, 1) := by decide +kernel
theorem d_M_fail_0 : decode b_M_fail 0 = .ok (.aload_n 0, 1) := by decide +kernel
theorem d_M_fail_1 : decode b_M_fail 1 = .ok (.iload_n 1, 1) := by decide +kernel
theorem d_M_fail_2 : decode b_M_fail 2 = .ok (.putfield 71, 3) := by decide +kernel
theorem d_M_fail_5 : decode b_M_fail 5 = .ok (.iconst 0, 1) := by decide +kernel
theorem d_M_fail_6 : decode b_M_fail 6 = .ok (.ireturn, 1) := by decide +kernel
theorem d_M_abort_0 : decode b_M_abort 0 = .ok (.aload_n 0, 1) := by decide +kernel
theorem d_M_abort_1 : decode b_M_abort 1 = .ok (.getfield 40, 3) := by decide +kernel
theorem d_M_abort_4 : decode b_M_abort 4 = .ok (.iload_n 1, 1) := by decide +kernel
theorem d_M_abort_5 : decode b_M_abort 5 = .ok (.dup2, 1) := by decide +kernel
theorem d_M_abort_6 : decode b_M_abort 6 = .ok (.iaload, 1) := by decide +kernel
theorem d_M_abort_7 : decode b_M_abort 7 = .ok (.iconst 1, 1) := by decide +kernel
theorem d_M_abort_8 : decode b_M_abort 8 = .ok (.iadd, 1) := by decide +kernel
theorem d_M_abort_9 : decode b_M_abort 9 = .ok (.iastore, 1) := by decide +kernel
theorem d_M_abort_10 : decode b_M_abort 10 = .ok (.aload_n 0, 1) := by decide +kernel
theorem d_M_abort_11 : decode b_M_abort 11 = .ok (.getfield 37, 3) := by decide +kernel
theorem d_M_abort_14 : decode b_M_abort 14 = .ok (.iload_n 1, 1) := by decide +kernel
theorem d_M_abort_15 : decode b_M_abort 15 = .ok (.iconst 3, 1) := by decide +kernel
theorem d_M_abort_16 : decode b_M_abort 16 = .ok (.iastore, 1) := by decide +kernel
theorem d_M_abort_17 : decode b_M_abort 17 = .ok (.return_, 1) := by decide +kernel
theorem d_M_init_0 : decode b_M_init 0 = .ok (.aload_n 0, 1) := by decide +kernel
theorem d_M_init_1 : decode b_M_init 1 = .ok (.iconst 0, 1) := by decide +kernel
theorem d_M_init_2 : decode b_M_init 2 = .ok (.putfield 71, 3) := by decide +kernel
theorem d_M_init_5 : decode b_M_init 5 = .ok (.aload_n 0, 1) := by decide +kernel
theorem d_M_init_6 : decode b_M_init 6 = .ok (.iload_n 1, 1) := by decide +kernel
theorem d_M_init_7 : decode b_M_init 7 = .ok (.iconst 4, 1) := by decide +kernel
theorem d_M_init_8 : decode b_M_init 8 = .ok (.invokevirtual 83, 3) := by decide +kernel
theorem d_M_init_11 : decode b_M_init 11 = .ok (.ifCond .eq 9, 3) := by decide +kernel
theorem d_M_init_14 : decode b_M_init 14 = .ok (.aload_n 0, 1) := by decide +kernel
theorem d_M_init_15 : decode b_M_init 15 = .ok (.iconst 1, 1) := by decide +kernel
theorem d_M_init_16 : decode b_M_init 16 = .ok (.invokevirtual 86, 3) := by decide +kernel
theorem d_M_init_19 : decode b_M_init 19 = .ok (.ireturn, 1) := by decide +kernel
theorem d_M_init_20 : decode b_M_init 20 = .ok (.aload_n 0, 1) := by decide +kernel
theorem d_M_init_21 : decode b_M_init 21 = .ok (.getfield 37, 3) := by decide +kernel
theorem d_M_init_24 : decode b_M_init 24 = .ok (.iload_n 1, 1) := by decide +kernel
theorem d_M_init_25 : decode b_M_init 25 = .ok (.iaload, 1) := by decide +kernel
theorem d_M_init_26 : decode b_M_init 26 = .ok (.iconst 1, 1) := by decide +kernel
theorem d_M_init_27 : decode b_M_init 27 = .ok (.if_icmp .ne 11, 3) := by decide +kernel
theorem d_M_init_30 : decode b_M_init 30 = .ok (.aload_n 0, 1) := by decide +kernel
theorem d_M_init_31 : decode b_M_init 31 = .ok (.iload_n 1, 1) := by decide +kernel
theorem d_M_init_32 : decode b_M_init 32 = .ok (.invokevirtual 90, 3) := by decide +kernel
theorem d_M_init_35 : decode b_M_init 35 = .ok (.goto 54, 3) := by decide +kernel
theorem d_M_init_38 : decode b_M_init 38 = .ok (.aload_n 0, 1) := by decide +kernel
theorem d_M_init_39 : decode b_M_init 39 = .ok (.getfield 37, 3) := by decide +kernel
theorem d_M_init_42 : decode b_M_init 42 = .ok (.iload_n 1, 1) := by decide +kernel
theorem d_M_init_43 : decode b_M_init 43 = .ok (.iaload, 1) := by decide +kernel
theorem d_M_init_44 : decode b_M_init 44 = .ok (.iconst 1, 1) := by decide +kernel
theorem d_M_init_45 : decode b_M_init 45 = .ok (.if_icmp .ge 44, 3) := by decide +kernel
theorem d_M_init_48 : decode b_M_init 48 = .ok (.aload_n 0, 1) := by decide +kernel
theorem d_M_init_49 : decode b_M_init 49 = .ok (.getfield 40, 3) := by decide +kernel
theorem d_M_init_52 : decode b_M_init 52 = .ok (.iload_n 1, 1) := by decide +kernel
theorem d_M_init_53 : decode b_M_init 53 = .ok (.aload_n 0, 1) := by decide +kernel
theorem d_M_init_54 : decode b_M_init 54 = .ok (.getfield 37, 3) := by decide +kernel
theorem d_M_init_57 : decode b_M_init 57 = .ok (.iload_n 1, 1) := by decide +kernel
theorem d_M_init_58 : decode b_M_init 58 = .ok (.iaload, 1) := by decide +kernel
theorem d_M_init_59 : decode b_M_init 59 = .ok (.ifCond .ge 7, 3) := by decide +kernel
theorem d_M_init_62 : decode b_M_init 62 = .ok (.iconst 0, 1) := by decide +kernel
theorem d_M_init_63 : decode b_M_init 63 = .ok (.goto 11, 3) := by decide +kernel
theorem d_M_init_66 : decode b_M_init 66 = .ok (.aload_n 0, 1) := by decide +kernel
theorem d_M_init_67 : decode b_M_init 67 = .ok (.getfield 40, 3) := by decide +kernel
theorem d_M_init_70 : decode b_M_init 70 = .ok (.iload_n 1, 1) := by decide +kernel
theorem d_M_init_71 : decode b_M_init 71 = .ok (.iaload, 1) := by decide +kernel
theorem d_M_init_72 : decode b_M_init 72 = .ok (.iconst 1, 1) := by decide +kernel
theorem d_M_init_73 : decode b_M_init 73 = .ok (.iadd, 1) := by decide +kernel
theorem d_M_init_74 : decode b_M_init 74 = .ok (.iastore, 1) := by decide +kernel
theorem d_M_init_75 : decode b_M_init 75 = .ok (.aload_n 0, 1) := by decide +kernel
theorem d_M_init_76 : decode b_M_init 76 = .ok (.getfield 37, 3) := by decide +kernel
theorem d_M_init_79 : decode b_M_init 79 = .ok (.iload_n 1, 1) := by decide +kernel
theorem d_M_init_80 : decode b_M_init 80 = .ok (.iconst 0, 1) := by decide +kernel
theorem d_M_init_81 : decode b_M_init 81 = .ok (.iastore, 1) := by decide +kernel
theorem d_M_init_82 : decode b_M_init 82 = .ok (.aload_n 0, 1) := by decide +kernel
theorem d_M_init_83 : decode b_M_init 83 = .ok (.getfield 40, 3) := by decide +kernel
theorem d_M_init_86 : decode b_M_init 86 = .ok (.iload_n 1, 1) := by decide +kernel
theorem d_M_init_87 : decode b_M_init 87 = .ok (.iaload, 1) := by decide +kernel
theorem d_M_init_88 : decode b_M_init 88 = .ok (.ireturn, 1) := by decide +kernel
theorem d_M_init_89 : decode b_M_init 89 = .ok (.aload_n 0, 1) := by decide +kernel
theorem d_M_init_90 : decode b_M_init 90 = .ok (.iconst 2, 1) := by decide +kernel
theorem d_M_init_91 : decode b_M_init 91 = .ok (.invokevirtual 86, 3) := by decide +kernel
theorem d_M_init_94 : decode b_M_init 94 = .ok (.ireturn, 1) := by decide +kernel
theorem d_M_check_0 : decode b_M_check 0 = .ok (.aload_n 0, 1) := by decide +kernel
theorem d_M_check_1 : decode b_M_check 1 = .ok (.getfield 37, 3) := by decide +kernel
theorem d_M_check_4 : decode b_M_check 4 = .ok (.iload_n 1, 1) := by decide +kernel
theorem d_M_check_5 : decode b_M_check 5 = .ok (.iaload, 1) := by decide +kernel
theorem d_M_check_6 : decode b_M_check 6 = .ok (.ifCond .ge 5, 3) := by decide +kernel
theorem d_M_check_9 : decode b_M_check 9 = .ok (.iconst 2, 1) := by decide +kernel
theorem d_M_check_10 : decode b_M_check 10 = .ok (.ireturn, 1) := by decide +kernel
theorem d_M_check_11 : decode b_M_check 11 = .ok (.iload_n 2, 1) := by decide +kernel
theorem d_M_check_12 : decode b_M_check 12 = .ok (.aload_n 0, 1) := by decide +kernel
theorem d_M_check_13 : decode b_M_check 13 = .ok (.getfield 40, 3) := by decide +kernel
theorem d_M_check_16 : decode b_M_check 16 = .ok (.iload_n 1, 1) := by decide +kernel
theorem d_M_check_17 : decode b_M_check 17 = .ok (.iaload, 1) := by decide +kernel
theorem d_M_check_18 : decode b_M_check 18 = .ok (.if_icmp .ne 13, 3) := by decide +kernel
theorem d_M_check_21 : decode b_M_check 21 = .ok (.aload_n 0, 1) := by decide +kernel
theorem d_M_check_22 : decode b_M_check 22 = .ok (.getfield 37, 3) := by decide +kernel
theorem d_M_check_25 : decode b_M_check 25 = .ok (.iload_n 1, 1) := by decide +kernel
theorem d_M_check_26 : decode b_M_check 26 = .ok (.iaload, 1) := by decide +kernel
theorem d_M_check_27 : decode b_M_check 27 = .ok (.iload_n 3, 1) := by decide +kernel
theorem d_M_check_28 : decode b_M_check 28 = .ok (.if_icmp .eq 7, 3) := by decide +kernel
theorem d_M_check_31 : decode b_M_check 31 = .ok (.iconst 3, 1) := by decide +kernel
theorem d_M_check_32 : decode b_M_check 32 = .ok (.goto 4, 3) := by decide +kernel
theorem d_M_check_35 : decode b_M_check 35 = .ok (.iconst 0, 1) := by decide +kernel
theorem d_M_check_36 : decode b_M_check 36 = .ok (.ireturn, 1) := by decide +kernel
theorem d_M_begin_0 : decode b_M_begin 0 = .ok (.aload_n 0, 1) := by decide +kernel
theorem d_M_begin_1 : decode b_M_begin 1 = .ok (.aload_n 0, 1) := by decide +kernel
theorem d_M_begin_2 : decode b_M_begin 2 = .ok (.iload_n 1, 1) := by decide +kernel
theorem d_M_begin_3 : decode b_M_begin 3 = .ok (.iconst 4, 1) := by decide +kernel
theorem d_M_begin_4 : decode b_M_begin 4 = .ok (.invokevirtual 83, 3) := by decide +kernel
theorem d_M_begin_7 : decode b_M_begin 7 = .ok (.ifCond .eq 7, 3) := by decide +kernel
theorem d_M_begin_10 : decode b_M_begin 10 = .ok (.iconst 1, 1) := by decide +kernel
theorem d_M_begin_11 : decode b_M_begin 11 = .ok (.goto 10, 3) := by decide +kernel
theorem d_M_begin_14 : decode b_M_begin 14 = .ok (.aload_n 0, 1) := by decide +kernel
theorem d_M_begin_15 : decode b_M_begin 15 = .ok (.iload_n 1, 1) := by decide +kernel
theorem d_M_begin_16 : decode b_M_begin 16 = .ok (.iload_n 2, 1) := by decide +kernel
theorem d_M_begin_17 : decode b_M_begin 17 = .ok (.iconst 0, 1) := by decide +kernel
theorem d_M_begin_18 : decode b_M_begin 18 = .ok (.invokevirtual 94, 3) := by decide +kernel
theorem d_M_begin_21 : decode b_M_begin 21 = .ok (.putfield 71, 3) := by decide +kernel
theorem d_M_begin_24 : decode b_M_begin 24 = .ok (.aload_n 0, 1) := by decide +kernel
theorem d_M_begin_25 : decode b_M_begin 25 = .ok (.getfield 71, 3) := by decide +kernel
theorem d_M_begin_28 : decode b_M_begin 28 = .ok (.ifCond .le 5, 3) := by decide +kernel
theorem d_M_begin_31 : decode b_M_begin 31 = .ok (.iconst 0, 1) := by decide +kernel
theorem d_M_begin_32 : decode b_M_begin 32 = .ok (.ireturn, 1) := by decide +kernel
theorem d_M_begin_33 : decode b_M_begin 33 = .ok (.aload_n 0, 1) := by decide +kernel
theorem d_M_begin_34 : decode b_M_begin 34 = .ok (.getfield 98, 3) := by decide +kernel
theorem d_M_begin_37 : decode b_M_begin 37 = .ok (.bipush 40, 2) := by decide +kernel
theorem d_M_begin_39 : decode b_M_begin 39 = .ok (.if_icmp .ne 9, 3) := by decide +kernel
theorem d_M_begin_42 : decode b_M_begin 42 = .ok (.aload_n 0, 1) := by decide +kernel
theorem d_M_begin_43 : decode b_M_begin 43 = .ok (.iconst 3, 1) := by decide +kernel
theorem d_M_begin_44 : decode b_M_begin 44 = .ok (.invokevirtual 86, 3) := by decide +kernel
theorem d_M_begin_47 : decode b_M_begin 47 = .ok (.ireturn, 1) := by decide +kernel
theorem d_M_begin_48 : decode b_M_begin 48 = .ok (.aload_n 0, 1) := by decide +kernel
theorem d_M_begin_49 : decode b_M_begin 49 = .ok (.dup, 1) := by decide +kernel
theorem d_M_begin_50 : decode b_M_begin 50 = .ok (.getfield 98, 3) := by decide +kernel
theorem d_M_begin_53 : decode b_M_begin 53 = .ok (.iconst 1, 1) := by decide +kernel
theorem d_M_begin_54 : decode b_M_begin 54 = .ok (.iadd, 1) := by decide +kernel
theorem d_M_begin_55 : decode b_M_begin 55 = .ok (.putfield 98, 3) := by decide +kernel
theorem d_M_begin_58 : decode b_M_begin 58 = .ok (.aload_n 0, 1) := by decide +kernel
theorem d_M_begin_59 : decode b_M_begin 59 = .ok (.getfield 37, 3) := by decide +kernel
theorem d_M_begin_62 : decode b_M_begin 62 = .ok (.iload_n 1, 1) := by decide +kernel
theorem d_M_begin_63 : decode b_M_begin 63 = .ok (.iconst 1, 1) := by decide +kernel
theorem d_M_begin_64 : decode b_M_begin 64 = .ok (.iastore, 1) := by decide +kernel
theorem d_M_begin_65 : decode b_M_begin 65 = .ok (.aload_n 0, 1) := by decide +kernel
theorem d_M_begin_66 : decode b_M_begin 66 = .ok (.getfield 43, 3) := by decide +kernel
theorem d_M_begin_69 : decode b_M_begin 69 = .ok (.iload_n 1, 1) := by decide +kernel
theorem d_M_begin_70 : decode b_M_begin 70 = .ok (.aload_n 0, 1) := by decide +kernel
theorem d_M_begin_71 : decode b_M_begin 71 = .ok (.getfield 98, 3) := by decide +kernel
theorem d_M_begin_74 : decode b_M_begin 74 = .ok (.iastore, 1) := by decide +kernel
theorem d_M_begin_75 : decode b_M_begin 75 = .ok (.aload_n 0, 1) := by decide +kernel
theorem d_M_begin_76 : decode b_M_begin 76 = .ok (.getfield 46, 3) := by decide +kernel
theorem d_M_begin_79 : decode b_M_begin 79 = .ok (.iload_n 1, 1) := by decide +kernel
theorem d_M_begin_80 : decode b_M_begin 80 = .ok (.iconst 0, 1) := by decide +kernel
theorem d_M_begin_81 : decode b_M_begin 81 = .ok (.iastore, 1) := by decide +kernel
theorem d_M_begin_82 : decode b_M_begin 82 = .ok (.aload_n 0, 1) := by decide +kernel
theorem d_M_begin_83 : decode b_M_begin 83 = .ok (.getfield 49, 3) := by decide +kernel
theorem d_M_begin_86 : decode b_M_begin 86 = .ok (.iload_n 1, 1) := by decide +kernel
theorem d_M_begin_87 : decode b_M_begin 87 = .ok (.aload_n 0, 1) := by decide +kernel
theorem d_M_begin_88 : decode b_M_begin 88 = .ok (.getfield 101, 3) := by decide +kernel
theorem d_M_begin_91 : decode b_M_begin 91 = .ok (.iastore, 1) := by decide +kernel
theorem d_M_begin_92 : decode b_M_begin 92 = .ok (.iconst 0, 1) := by decide +kernel
theorem d_M_begin_93 : decode b_M_begin 93 = .ok (.istore_n 3, 1) := by decide +kernel
theorem d_M_begin_94 : decode b_M_begin 94 = .ok (.iload_n 3, 1) := by decide +kernel
theorem d_M_begin_95 : decode b_M_begin 95 = .ok (.bipush 8, 2) := by decide +kernel
theorem d_M_begin_97 : decode b_M_begin 97 = .ok (.if_icmp .ge 21, 3) := by decide +kernel
theorem d_M_begin_100 : decode b_M_begin 100 = .ok (.aload_n 0, 1) := by decide +kernel
theorem d_M_begin_101 : decode b_M_begin 101 = .ok (.getfield 52, 3) := by decide +kernel
theorem d_M_begin_104 : decode b_M_begin 104 = .ok (.bipush 8, 2) := by decide +kernel
theorem d_M_begin_106 : decode b_M_begin 106 = .ok (.iload_n 1, 1) := by decide +kernel
theorem d_M_begin_107 : decode b_M_begin 107 = .ok (.imul, 1) := by decide +kernel
theorem d_M_begin_108 : decode b_M_begin 108 = .ok (.iload_n 3, 1) := by decide +kernel
theorem d_M_begin_109 : decode b_M_begin 109 = .ok (.iadd, 1) := by decide +kernel
theorem d_M_begin_110 : decode b_M_begin 110 = .ok (.iconst (-1), 1) := by decide +kernel
theorem d_M_begin_111 : decode b_M_begin 111 = .ok (.iastore, 1) := by decide +kernel
theorem d_M_begin_112 : decode b_M_begin 112 = .ok (.iinc 3 1, 3) := by decide +kernel
theorem d_M_begin_115 : decode b_M_begin 115 = .ok (.goto (-21), 3) := by decide +kernel
theorem d_M_begin_118 : decode b_M_begin 118 = .ok (.aload_n 0, 1) := by decide +kernel
theorem d_M_begin_119 : decode b_M_begin 119 = .ok (.getfield 98, 3) := by decide +kernel
theorem d_M_begin_122 : decode b_M_begin 122 = .ok (.ireturn, 1) := by decide +kernel
theorem d_M_ofProducer_0 : decode b_M_ofProducer 0 = .ok (.aload_n 0, 1) := by decide +kernel
theorem d_M_ofProducer_1 : decode b_M_ofProducer 1 = .ok (.getfield 7, 3) := by decide +kernel
theorem d_M_ofProducer_4 : decode b_M_ofProducer 4 = .ok (.iload_n 1, 1) := by decide +kernel
theorem d_M_ofProducer_5 : decode b_M_ofProducer 5 = .ok (.iaload, 1) := by decide +kernel
theorem d_M_ofProducer_6 : decode b_M_ofProducer 6 = .ok (.iconst 1, 1) := by decide +kernel
theorem d_M_ofProducer_7 : decode b_M_ofProducer 7 = .ok (.if_icmp .ne 32, 3) := by decide +kernel
theorem d_M_ofProducer_10 : decode b_M_ofProducer 10 = .ok (.aload_n 0, 1) := by decide +kernel
theorem d_M_ofProducer_11 : decode b_M_ofProducer 11 = .ok (.getfield 16, 3) := by decide +kernel
theorem d_M_ofProducer_14 : decode b_M_ofProducer 14 = .ok (.iload_n 1, 1) := by decide +kernel
theorem d_M_ofProducer_15 : decode b_M_ofProducer 15 = .ok (.iaload, 1) := by decide +kernel
theorem d_M_ofProducer_16 : decode b_M_ofProducer 16 = .ok (.iload_n 2, 1) := by decide +kernel
theorem d_M_ofProducer_17 : decode b_M_ofProducer 17 = .ok (.if_icmp .ne 22, 3) := by decide +kernel
theorem d_M_ofProducer_20 : decode b_M_ofProducer 20 = .ok (.aload_n 0, 1) := by decide +kernel
theorem d_M_ofProducer_21 : decode b_M_ofProducer 21 = .ok (.getfield 19, 3) := by decide +kernel
theorem d_M_ofProducer_24 : decode b_M_ofProducer 24 = .ok (.iload_n 1, 1) := by decide +kernel
theorem d_M_ofProducer_25 : decode b_M_ofProducer 25 = .ok (.iaload, 1) := by decide +kernel
theorem d_M_ofProducer_26 : decode b_M_ofProducer 26 = .ok (.aload_n 0, 1) := by decide +kernel
theorem d_M_ofProducer_27 : decode b_M_ofProducer 27 = .ok (.getfield 40, 3) := by decide +kernel
theorem d_M_ofProducer_30 : decode b_M_ofProducer 30 = .ok (.iload_n 2, 1) := by decide +kernel
theorem d_M_ofProducer_31 : decode b_M_ofProducer 31 = .ok (.iaload, 1) := by decide +kernel
theorem d_M_ofProducer_32 : decode b_M_ofProducer 32 = .ok (.if_icmp .ne 7, 3) := by decide +kernel
theorem d_M_ofProducer_35 : decode b_M_ofProducer 35 = .ok (.iconst 1, 1) := by decide +kernel
theorem d_M_ofProducer_36 : decode b_M_ofProducer 36 = .ok (.goto 4, 3) := by decide +kernel
theorem d_M_ofProducer_39 : decode b_M_ofProducer 39 = .ok (.iconst 0, 1) := by decide +kernel
theorem d_M_ofProducer_40 : decode b_M_ofProducer 40 = .ok (.ireturn, 1) := by decide +kernel
theorem d_M_recent_0 : decode b_M_recent 0 = .ok (.iconst 0, 1) := by decide +kernel
theorem d_M_recent_1 : decode b_M_recent 1 = .ok (.istore 4, 2) := by decide +kernel
theorem d_M_recent_3 : decode b_M_recent 3 = .ok (.aload_n 0, 1) := by decide +kernel
theorem d_M_recent_4 : decode b_M_recent 4 = .ok (.getfield 28, 3) := by decide +kernel
theorem d_M_recent_7 : decode b_M_recent 7 = .ok (.iload_n 2, 1) := by decide +kernel
theorem d_M_recent_8 : decode b_M_recent 8 = .ok (.iaload, 1) := by decide +kernel
theorem d_M_recent_9 : decode b_M_recent 9 = .ok (.iconst 1, 1) := by decide +kernel
theorem d_M_recent_10 : decode b_M_recent 10 = .ok (.isub, 1) := by decide +kernel
theorem d_M_recent_11 : decode b_M_recent 11 = .ok (.istore 5, 2) := by decide +kernel
theorem d_M_recent_13 : decode b_M_recent 13 = .ok (.iload 5, 2) := by decide +kernel
theorem d_M_recent_15 : decode b_M_recent 15 = .ok (.ifCond .lt 57, 3) := by decide +kernel
theorem d_M_recent_18 : decode b_M_recent 18 = .ok (.iload 4, 2) := by decide +kernel
theorem d_M_recent_20 : decode b_M_recent 20 = .ok (.iconst 5, 1) := by decide +kernel
theorem d_M_recent_21 : decode b_M_recent 21 = .ok (.if_icmp .ge 51, 3) := by decide +kernel
theorem d_M_recent_24 : decode b_M_recent 24 = .ok (.aload_n 0, 1) := by decide +kernel
theorem d_M_recent_25 : decode b_M_recent 25 = .ok (.sipush 520, 3) := by decide +kernel
theorem d_M_recent_28 : decode b_M_recent 28 = .ok (.iload_n 2, 1) := by decide +kernel
theorem d_M_recent_29 : decode b_M_recent 29 = .ok (.imul, 1) := by decide +kernel
theorem d_M_recent_30 : decode b_M_recent 30 = .ok (.iload 5, 2) := by decide +kernel
theorem d_M_recent_32 : decode b_M_recent 32 = .ok (.iadd, 1) := by decide +kernel
theorem d_M_recent_33 : decode b_M_recent 33 = .ok (.iload_n 1, 1) := by decide +kernel
theorem d_M_recent_34 : decode b_M_recent 34 = .ok (.invokevirtual 75, 3) := by decide +kernel
theorem d_M_recent_37 : decode b_M_recent 37 = .ok (.ifCond .ne 6, 3) := by decide +kernel
theorem d_M_recent_40 : decode b_M_recent 40 = .ok (.goto 26, 3) := by decide +kernel
theorem d_M_recent_43 : decode b_M_recent 43 = .ok (.iinc 4 1, 3) := by decide +kernel
theorem d_M_recent_46 : decode b_M_recent 46 = .ok (.aload_n 0, 1) := by decide +kernel
theorem d_M_recent_47 : decode b_M_recent 47 = .ok (.getfield 22, 3) := by decide +kernel
theorem d_M_recent_50 : decode b_M_recent 50 = .ok (.sipush 520, 3) := by decide +kernel
theorem d_M_recent_53 : decode b_M_recent 53 = .ok (.iload_n 2, 1) := by decide +kernel
theorem d_M_recent_54 : decode b_M_recent 54 = .ok (.imul, 1) := by decide +kernel
theorem d_M_recent_55 : decode b_M_recent 55 = .ok (.iload 5, 2) := by decide +kernel
theorem d_M_recent_57 : decode b_M_recent 57 = .ok (.iadd, 1) := by decide +kernel
theorem d_M_recent_58 : decode b_M_recent 58 = .ok (.iaload, 1) := by decide +kernel
theorem d_M_recent_59 : decode b_M_recent 59 = .ok (.iload_n 3, 1) := by decide +kernel
theorem d_M_recent_60 : decode b_M_recent 60 = .ok (.if_icmp .ne 6, 3) := by decide +kernel
theorem d_M_recent_63 : decode b_M_recent 63 = .ok (.iload 5, 2) := by decide +kernel
theorem d_M_recent_65 : decode b_M_recent 65 = .ok (.ireturn, 1) := by decide +kernel
theorem d_M_recent_66 : decode b_M_recent 66 = .ok (.iinc 5 (-1), 3) := by decide +kernel
theorem d_M_recent_69 : decode b_M_recent 69 = .ok (.goto (-56), 3) := by decide +kernel
theorem d_M_recent_72 : decode b_M_recent 72 = .ok (.iconst (-1), 1) := by decide +kernel
theorem d_M_recent_73 : decode b_M_recent 73 = .ok (.ireturn, 1) := by decide +kernel
theorem d_M_next_0 : decode b_M_next 0 = .ok (.iconst 0, 1) := by decide +kernel
theorem d_M_next_1 : decode b_M_next 1 = .ok (.istore_n 3, 1) := by decide +kernel
theorem d_M_next_2 : decode b_M_next 2 = .ok (.sipush 520, 3) := by decide +kernel
theorem d_M_next_5 : decode b_M_next 5 = .ok (.iload_n 2, 1) := by decide +kernel
theorem d_M_next_6 : decode b_M_next 6 = .ok (.imul, 1) := by decide +kernel
theorem d_M_next_7 : decode b_M_next 7 = .ok (.istore 4, 2) := by decide +kernel
theorem d_M_next_9 : decode b_M_next 9 = .ok (.iload 4, 2) := by decide +kernel
theorem d_M_next_11 : decode b_M_next 11 = .ok (.sipush 520, 3) := by decide +kernel
theorem d_M_next_14 : decode b_M_next 14 = .ok (.iload_n 2, 1) := by decide +kernel
theorem d_M_next_15 : decode b_M_next 15 = .ok (.imul, 1) := by decide +kernel
theorem d_M_next_16 : decode b_M_next 16 = .ok (.aload_n 0, 1) := by decide +kernel
theorem d_M_next_17 : decode b_M_next 17 = .ok (.getfield 28, 3) := by decide +kernel
theorem d_M_next_20 : decode b_M_next 20 = .ok (.iload_n 2, 1) := by decide +kernel
theorem d_M_next_21 : decode b_M_next 21 = .ok (.iaload, 1) := by decide +kernel
theorem d_M_next_22 : decode b_M_next 22 = .ok (.iadd, 1) := by decide +kernel
theorem d_M_next_23 : decode b_M_next 23 = .ok (.if_icmp .ge 40, 3) := by decide +kernel
theorem d_M_next_26 : decode b_M_next 26 = .ok (.aload_n 0, 1) := by decide +kernel
theorem d_M_next_27 : decode b_M_next 27 = .ok (.iload 4, 2) := by decide +kernel
theorem d_M_next_29 : decode b_M_next 29 = .ok (.iload_n 1, 1) := by decide +kernel
theorem d_M_next_30 : decode b_M_next 30 = .ok (.invokevirtual 75, 3) := by decide +kernel
theorem d_M_next_33 : decode b_M_next 33 = .ok (.ifCond .eq 24, 3) := by decide +kernel
theorem d_M_next_36 : decode b_M_next 36 = .ok (.aload_n 0, 1) := by decide +kernel
theorem d_M_next_37 : decode b_M_next 37 = .ok (.getfield 22, 3) := by decide +kernel
theorem d_M_next_40 : decode b_M_next 40 = .ok (.iload 4, 2) := by decide +kernel
theorem d_M_next_42 : decode b_M_next 42 = .ok (.iaload, 1) := by decide +kernel
theorem d_M_next_43 : decode b_M_next 43 = .ok (.iload_n 3, 1) := by decide +kernel
theorem d_M_next_44 : decode b_M_next 44 = .ok (.if_icmp .lt 13, 3) := by decide +kernel
theorem d_M_next_47 : decode b_M_next 47 = .ok (.aload_n 0, 1) := by decide +kernel
theorem d_M_next_48 : decode b_M_next 48 = .ok (.getfield 22, 3) := by decide +kernel
theorem d_M_next_51 : decode b_M_next 51 = .ok (.iload 4, 2) := by decide +kernel
theorem d_M_next_53 : decode b_M_next 53 = .ok (.iaload, 1) := by decide +kernel
theorem d_M_next_54 : decode b_M_next 54 = .ok (.iconst 1, 1) := by decide +kernel
theorem d_M_next_55 : decode b_M_next 55 = .ok (.iadd, 1) := by decide +kernel
theorem d_M_next_56 : decode b_M_next 56 = .ok (.istore_n 3, 1) := by decide +kernel
theorem d_M_next_57 : decode b_M_next 57 = .ok (.iinc 4 1, 3) := by decide +kernel
theorem d_M_next_60 : decode b_M_next 60 = .ok (.goto (-51), 3) := by decide +kernel
theorem d_M_next_63 : decode b_M_next 63 = .ok (.iload_n 3, 1) := by decide +kernel
theorem d_M_next_64 : decode b_M_next 64 = .ok (.ireturn, 1) := by decide +kernel
theorem d_M_full_0 : decode b_M_full 0 = .ok (.aload_n 0, 1) := by decide +kernel
theorem d_M_full_1 : decode b_M_full 1 = .ok (.getfield 28, 3) := by decide +kernel
theorem d_M_full_4 : decode b_M_full 4 = .ok (.iload_n 1, 1) := by decide +kernel
theorem d_M_full_5 : decode b_M_full 5 = .ok (.iaload, 1) := by decide +kernel
theorem d_M_full_6 : decode b_M_full 6 = .ok (.aload_n 0, 1) := by decide +kernel
theorem d_M_full_7 : decode b_M_full 7 = .ok (.getfield 31, 3) := by decide +kernel
theorem d_M_full_10 : decode b_M_full 10 = .ok (.iload_n 1, 1) := by decide +kernel
theorem d_M_full_11 : decode b_M_full 11 = .ok (.iaload, 1) := by decide +kernel
theorem d_M_full_12 : decode b_M_full 12 = .ok (.isub, 1) := by decide +kernel
theorem d_M_full_13 : decode b_M_full 13 = .ok (.bipush 32, 2) := by decide +kernel
theorem d_M_full_15 : decode b_M_full 15 = .ok (.if_icmp .ge 15, 3) := by decide +kernel
theorem d_M_full_18 : decode b_M_full 18 = .ok (.aload_n 0, 1) := by decide +kernel
theorem d_M_full_19 : decode b_M_full 19 = .ok (.getfield 28, 3) := by decide +kernel
theorem d_M_full_22 : decode b_M_full 22 = .ok (.iload_n 1, 1) := by decide +kernel
theorem d_M_full_23 : decode b_M_full 23 = .ok (.iaload, 1) := by decide +kernel
theorem d_M_full_24 : decode b_M_full 24 = .ok (.sipush 400, 3) := by decide +kernel
theorem d_M_full_27 : decode b_M_full 27 = .ok (.if_icmp .lt 7, 3) := by decide +kernel
theorem d_M_full_30 : decode b_M_full 30 = .ok (.iconst 1, 1) := by decide +kernel
theorem d_M_full_31 : decode b_M_full 31 = .ok (.goto 4, 3) := by decide +kernel
theorem d_M_full_34 : decode b_M_full 34 = .ok (.iconst 0, 1) := by decide +kernel
theorem d_M_full_35 : decode b_M_full 35 = .ok (.ireturn, 1) := by decide +kernel
theorem d_M_put_0 : decode b_M_put 0 = .ok (.sipush 520, 3) := by decide +kernel
theorem d_M_put_3 : decode b_M_put 3 = .ok (.iload_n 1, 1) := by decide +kernel
theorem d_M_put_4 : decode b_M_put 4 = .ok (.imul, 1) := by decide +kernel
theorem d_M_put_5 : decode b_M_put 5 = .ok (.aload_n 0, 1) := by decide +kernel
theorem d_M_put_6 : decode b_M_put 6 = .ok (.getfield 28, 3) := by decide +kernel
theorem d_M_put_9 : decode b_M_put 9 = .ok (.iload_n 1, 1) := by decide +kernel
theorem d_M_put_10 : decode b_M_put 10 = .ok (.iaload, 1) := by decide +kernel
theorem d_M_put_11 : decode b_M_put 11 = .ok (.iadd, 1) := by decide +kernel
theorem d_M_put_12 : decode b_M_put 12 = .ok (.istore 6, 2) := by decide +kernel
theorem d_M_put_14 : decode b_M_put 14 = .ok (.aload_n 0, 1) := by decide +kernel
theorem d_M_put_15 : decode b_M_put 15 = .ok (.getfield 7, 3) := by decide +kernel
theorem d_M_put_18 : decode b_M_put 18 = .ok (.iload 6, 2) := by decide +kernel
theorem d_M_put_20 : decode b_M_put 20 = .ok (.iload_n 2, 1) := by decide +kernel
theorem d_M_put_21 : decode b_M_put 21 = .ok (.iastore, 1) := by decide +kernel
theorem d_M_put_22 : decode b_M_put 22 = .ok (.aload_n 0, 1) := by decide +kernel
theorem d_M_put_23 : decode b_M_put 23 = .ok (.getfield 13, 3) := by decide +kernel
theorem d_M_put_26 : decode b_M_put 26 = .ok (.iload 6, 2) := by decide +kernel
theorem d_M_put_28 : decode b_M_put 28 = .ok (.iload_n 3, 1) := by decide +kernel
theorem d_M_put_29 : decode b_M_put 29 = .ok (.iastore, 1) := by decide +kernel
theorem d_M_put_30 : decode b_M_put 30 = .ok (.aload_n 0, 1) := by decide +kernel
theorem d_M_put_31 : decode b_M_put 31 = .ok (.getfield 16, 3) := by decide +kernel
theorem d_M_put_34 : decode b_M_put 34 = .ok (.iload 6, 2) := by decide +kernel
theorem d_M_put_36 : decode b_M_put 36 = .ok (.iload 4, 2) := by decide +kernel
theorem d_M_put_38 : decode b_M_put 38 = .ok (.iastore, 1) := by decide +kernel
theorem d_M_put_39 : decode b_M_put 39 = .ok (.aload_n 0, 1) := by decide +kernel
theorem d_M_put_40 : decode b_M_put 40 = .ok (.getfield 19, 3) := by decide +kernel
theorem d_M_put_43 : decode b_M_put 43 = .ok (.iload 6, 2) := by decide +kernel
theorem d_M_put_45 : decode b_M_put 45 = .ok (.iload 4, 2) := by decide +kernel
theorem d_M_put_47 : decode b_M_put 47 = .ok (.ifCond .ge 7, 3) := by decide +kernel
theorem d_M_put_50 : decode b_M_put 50 = .ok (.iconst 0, 1) := by decide +kernel
theorem d_M_put_51 : decode b_M_put 51 = .ok (.goto 10, 3) := by decide +kernel
theorem d_M_put_54 : decode b_M_put 54 = .ok (.aload_n 0, 1) := by decide +kernel
theorem d_M_put_55 : decode b_M_put 55 = .ok (.getfield 40, 3) := by decide +kernel
theorem d_M_put_58 : decode b_M_put 58 = .ok (.iload 4, 2) := by decide +kernel
theorem d_M_put_60 : decode b_M_put 60 = .ok (.iaload, 1) := by decide +kernel
theorem d_M_put_61 : decode b_M_put 61 = .ok (.iastore, 1) := by decide +kernel
theorem d_M_put_62 : decode b_M_put 62 = .ok (.aload_n 0, 1) := by decide +kernel
theorem d_M_put_63 : decode b_M_put 63 = .ok (.getfield 22, 3) := by decide +kernel
theorem d_M_put_66 : decode b_M_put 66 = .ok (.iload 6, 2) := by decide +kernel
theorem d_M_put_68 : decode b_M_put 68 = .ok (.iload 5, 2) := by decide +kernel
theorem d_M_put_70 : decode b_M_put 70 = .ok (.iastore, 1) := by decide +kernel
theorem d_M_put_71 : decode b_M_put 71 = .ok (.aload_n 0, 1) := by decide +kernel
theorem d_M_put_72 : decode b_M_put 72 = .ok (.getfield 25, 3) := by decide +kernel
theorem d_M_put_75 : decode b_M_put 75 = .ok (.iload 6, 2) := by decide +kernel
theorem d_M_put_77 : decode b_M_put 77 = .ok (.iload 4, 2) := by decide +kernel
theorem d_M_put_79 : decode b_M_put 79 = .ok (.ifCond .ge 7, 3) := by decide +kernel
theorem d_M_put_82 : decode b_M_put 82 = .ok (.iconst 0, 1) := by decide +kernel
theorem d_M_put_83 : decode b_M_put 83 = .ok (.goto 10, 3) := by decide +kernel
theorem d_M_put_86 : decode b_M_put 86 = .ok (.aload_n 0, 1) := by decide +kernel
theorem d_M_put_87 : decode b_M_put 87 = .ok (.getfield 43, 3) := by decide +kernel
theorem d_M_put_90 : decode b_M_put 90 = .ok (.iload 4, 2) := by decide +kernel
theorem d_M_put_92 : decode b_M_put 92 = .ok (.iaload, 1) := by decide +kernel
theorem d_M_put_93 : decode b_M_put 93 = .ok (.iastore, 1) := by decide +kernel
theorem d_M_put_94 : decode b_M_put 94 = .ok (.aload_n 0, 1) := by decide +kernel
theorem d_M_put_95 : decode b_M_put 95 = .ok (.getfield 28, 3) := by decide +kernel
theorem d_M_put_98 : decode b_M_put 98 = .ok (.iload_n 1, 1) := by decide +kernel
theorem d_M_put_99 : decode b_M_put 99 = .ok (.dup2, 1) := by decide +kernel
theorem d_M_put_100 : decode b_M_put 100 = .ok (.iaload, 1) := by decide +kernel
theorem d_M_put_101 : decode b_M_put 101 = .ok (.iconst 1, 1) := by decide +kernel
theorem d_M_put_102 : decode b_M_put 102 = .ok (.iadd, 1) := by decide +kernel
theorem d_M_put_103 : decode b_M_put 103 = .ok (.iastore, 1) := by decide +kernel
theorem d_M_put_104 : decode b_M_put 104 = .ok (.aload_n 0, 1) := by decide +kernel
theorem d_M_put_105 : decode b_M_put 105 = .ok (.getfield 28, 3) := by decide +kernel
theorem d_M_put_108 : decode b_M_put 108 = .ok (.iload_n 1, 1) := by decide +kernel
theorem d_M_put_109 : decode b_M_put 109 = .ok (.iaload, 1) := by decide +kernel
theorem d_M_put_110 : decode b_M_put 110 = .ok (.iconst 1, 1) := by decide +kernel
theorem d_M_put_111 : decode b_M_put 111 = .ok (.isub, 1) := by decide +kernel
theorem d_M_put_112 : decode b_M_put 112 = .ok (.ireturn, 1) := by decide +kernel
theorem d_M_send_0 : decode b_M_send 0 = .ok (.aload_n 0, 1) := by decide +kernel
theorem d_M_send_1 : decode b_M_send 1 = .ok (.aload_n 0, 1) := by decide +kernel
theorem d_M_send_2 : decode b_M_send 2 = .ok (.iload_n 1, 1) := by decide +kernel
theorem d_M_send_3 : decode b_M_send 3 = .ok (.iconst 4, 1) := by decide +kernel
theorem d_M_send_4 : decode b_M_send 4 = .ok (.invokevirtual 83, 3) := by decide +kernel
theorem d_M_send_7 : decode b_M_send 7 = .ok (.ifCond .ne 24, 3) := by decide +kernel
theorem d_M_send_10 : decode b_M_send 10 = .ok (.aload_n 0, 1) := by decide +kernel
theorem d_M_send_11 : decode b_M_send 11 = .ok (.iload_n 3, 1) := by decide +kernel
theorem d_M_send_12 : decode b_M_send 12 = .ok (.iconst 4, 1) := by decide +kernel
theorem d_M_send_13 : decode b_M_send 13 = .ok (.invokevirtual 83, 3) := by decide +kernel
theorem d_M_send_16 : decode b_M_send 16 = .ok (.ifCond .ne 15, 3) := by decide +kernel
theorem d_M_send_19 : decode b_M_send 19 = .ok (.aload_n 0, 1) := by decide +kernel
theorem d_M_send_20 : decode b_M_send 20 = .ok (.iload 4, 2) := by decide +kernel
theorem d_M_send_22 : decode b_M_send 22 = .ok (.sipush 1001, 3) := by decide +kernel
theorem d_M_send_25 : decode b_M_send 25 = .ok (.invokevirtual 83, 3) := by decide +kernel
theorem d_M_send_28 : decode b_M_send 28 = .ok (.ifCond .eq 7, 3) := by decide +kernel
theorem d_M_send_31 : decode b_M_send 31 = .ok (.iconst 1, 1) := by decide +kernel
theorem d_M_send_32 : decode b_M_send 32 = .ok (.goto 10, 3) := by decide +kernel
theorem d_M_send_35 : decode b_M_send 35 = .ok (.aload_n 0, 1) := by decide +kernel
theorem d_M_send_36 : decode b_M_send 36 = .ok (.iload_n 1, 1) := by decide +kernel
theorem d_M_send_37 : decode b_M_send 37 = .ok (.iload_n 2, 1) := by decide +kernel
theorem d_M_send_38 : decode b_M_send 38 = .ok (.iconst 1, 1) := by decide +kernel
theorem d_M_send_39 : decode b_M_send 39 = .ok (.invokevirtual 94, 3) := by decide +kernel
theorem d_M_send_42 : decode b_M_send 42 = .ok (.putfield 71, 3) := by decide +kernel
theorem d_M_send_45 : decode b_M_send 45 = .ok (.aload_n 0, 1) := by decide +kernel
theorem d_M_send_46 : decode b_M_send 46 = .ok (.getfield 71, 3) := by decide +kernel
theorem d_M_send_49 : decode b_M_send 49 = .ok (.ifCond .le 5, 3) := by decide +kernel
theorem d_M_send_52 : decode b_M_send 52 = .ok (.iconst 0, 1) := by decide +kernel
theorem d_M_send_53 : decode b_M_send 53 = .ok (.ireturn, 1) := by decide +kernel
theorem d_M_send_54 : decode b_M_send 54 = .ok (.aload_n 0, 1) := by decide +kernel
theorem d_M_send_55 : decode b_M_send 55 = .ok (.iload_n 1, 1) := by decide +kernel
theorem d_M_send_56 : decode b_M_send 56 = .ok (.iload_n 3, 1) := by decide +kernel
theorem d_M_send_57 : decode b_M_send 57 = .ok (.iload 4, 2) := by decide +kernel
theorem d_M_send_59 : decode b_M_send 59 = .ok (.invokevirtual 104, 3) := by decide +kernel
theorem d_M_send_62 : decode b_M_send 62 = .ok (.istore 6, 2) := by decide +kernel
theorem d_M_send_64 : decode b_M_send 64 = .ok (.iload 6, 2) := by decide +kernel
theorem d_M_send_66 : decode b_M_send 66 = .ok (.ifCond .ge 20, 3) := by decide +kernel
theorem d_M_send_69 : decode b_M_send 69 = .ok (.iload 4, 2) := by decide +kernel
theorem d_M_send_71 : decode b_M_send 71 = .ok (.aload_n 0, 1) := by decide +kernel
theorem d_M_send_72 : decode b_M_send 72 = .ok (.iload_n 1, 1) := by decide +kernel
theorem d_M_send_73 : decode b_M_send 73 = .ok (.iload_n 3, 1) := by decide +kernel
theorem d_M_send_74 : decode b_M_send 74 = .ok (.invokevirtual 107, 3) := by decide +kernel
theorem d_M_send_77 : decode b_M_send 77 = .ok (.if_icmp .eq 9, 3) := by decide +kernel
theorem d_M_send_80 : decode b_M_send 80 = .ok (.aload_n 0, 1) := by decide +kernel
theorem d_M_send_81 : decode b_M_send 81 = .ok (.iconst 4, 1) := by decide +kernel
theorem d_M_send_82 : decode b_M_send 82 = .ok (.invokevirtual 86, 3) := by decide +kernel
theorem d_M_send_85 : decode b_M_send 85 = .ok (.ireturn, 1) := by decide +kernel
theorem d_M_send_86 : decode b_M_send 86 = .ok (.iload 6, 2) := by decide +kernel
theorem d_M_send_88 : decode b_M_send 88 = .ok (.ifCond .ge 17, 3) := by decide +kernel
theorem d_M_send_91 : decode b_M_send 91 = .ok (.aload_n 0, 1) := by decide +kernel
theorem d_M_send_92 : decode b_M_send 92 = .ok (.iload_n 3, 1) := by decide +kernel
theorem d_M_send_93 : decode b_M_send 93 = .ok (.invokevirtual 111, 3) := by decide +kernel
theorem d_M_send_96 : decode b_M_send 96 = .ok (.ifCond .eq 9, 3) := by decide +kernel
theorem d_M_send_99 : decode b_M_send 99 = .ok (.aload_n 0, 1) := by decide +kernel
theorem d_M_send_100 : decode b_M_send 100 = .ok (.iconst 3, 1) := by decide +kernel
theorem d_M_send_101 : decode b_M_send 101 = .ok (.invokevirtual 86, 3) := by decide +kernel
theorem d_M_send_104 : decode b_M_send 104 = .ok (.ireturn, 1) := by decide +kernel
theorem d_M_send_105 : decode b_M_send 105 = .ok (.aload_n 0, 1) := by decide +kernel
theorem d_M_send_106 : decode b_M_send 106 = .ok (.getfield 46, 3) := by decide +kernel
theorem d_M_send_109 : decode b_M_send 109 = .ok (.iload_n 1, 1) := by decide +kernel
theorem d_M_send_110 : decode b_M_send 110 = .ok (.dup2, 1) := by decide +kernel
theorem d_M_send_111 : decode b_M_send 111 = .ok (.iaload, 1) := by decide +kernel
theorem d_M_send_112 : decode b_M_send 112 = .ok (.iconst 1, 1) := by decide +kernel
theorem d_M_send_113 : decode b_M_send 113 = .ok (.iload_n 3, 1) := by decide +kernel
theorem d_M_send_114 : decode b_M_send 114 = .ok (.ishl, 1) := by decide +kernel
theorem d_M_send_115 : decode b_M_send 115 = .ok (.ior, 1) := by decide +kernel
theorem d_M_send_116 : decode b_M_send 116 = .ok (.iastore, 1) := by decide +kernel
theorem d_M_send_117 : decode b_M_send 117 = .ok (.iload 6, 2) := by decide +kernel
theorem d_M_send_119 : decode b_M_send 119 = .ok (.ifCond .lt 8, 3) := by decide +kernel
theorem d_M_send_122 : decode b_M_send 122 = .ok (.iload 6, 2) := by decide +kernel
theorem d_M_send_124 : decode b_M_send 124 = .ok (.goto 14, 3) := by decide +kernel
theorem d_M_send_127 : decode b_M_send 127 = .ok (.aload_n 0, 1) := by decide +kernel
theorem d_M_send_128 : decode b_M_send 128 = .ok (.iload_n 3, 1) := by decide +kernel
theorem d_M_send_129 : decode b_M_send 129 = .ok (.iconst 1, 1) := by decide +kernel
theorem d_M_send_130 : decode b_M_send 130 = .ok (.iload 5, 2) := by decide +kernel
theorem d_M_send_132 : decode b_M_send 132 = .ok (.iload_n 1, 1) := by decide +kernel
theorem d_M_send_133 : decode b_M_send 133 = .ok (.iload 4, 2) := by decide +kernel
theorem d_M_send_135 : decode b_M_send 135 = .ok (.invokevirtual 115, 3) := by decide +kernel
theorem d_M_send_138 : decode b_M_send 138 = .ok (.ireturn, 1) := by decide +kernel
theorem d_M_pend_0 : decode b_M_pend 0 = .ok (.aload_n 0, 1) := by decide +kernel
theorem d_M_pend_1 : decode b_M_pend 1 = .ok (.aload_n 0, 1) := by decide +kernel
theorem d_M_pend_2 : decode b_M_pend 2 = .ok (.iload_n 1, 1) := by decide +kernel
theorem d_M_pend_3 : decode b_M_pend 3 = .ok (.iconst 4, 1) := by decide +kernel
theorem d_M_pend_4 : decode b_M_pend 4 = .ok (.invokevirtual 83, 3) := by decide +kernel
theorem d_M_pend_7 : decode b_M_pend 7 = .ok (.ifCond .ne 34, 3) := by decide +kernel
theorem d_M_pend_10 : decode b_M_pend 10 = .ok (.aload_n 0, 1) := by decide +kernel
theorem d_M_pend_11 : decode b_M_pend 11 = .ok (.iload_n 3, 1) := by decide +kernel
theorem d_M_pend_12 : decode b_M_pend 12 = .ok (.iconst 2, 1) := by decide +kernel
theorem d_M_pend_13 : decode b_M_pend 13 = .ok (.invokevirtual 83, 3) := by decide +kernel
theorem d_M_pend_16 : decode b_M_pend 16 = .ok (.ifCond .ne 25, 3) := by decide +kernel
theorem d_M_pend_19 : decode b_M_pend 19 = .ok (.aload_n 0, 1) := by decide +kernel
theorem d_M_pend_20 : decode b_M_pend 20 = .ok (.iload 4, 2) := by decide +kernel
theorem d_M_pend_22 : decode b_M_pend 22 = .ok (.iconst 4, 1) := by decide +kernel
theorem d_M_pend_23 : decode b_M_pend 23 = .ok (.invokevirtual 83, 3) := by decide +kernel
theorem d_M_pend_26 : decode b_M_pend 26 = .ok (.ifCond .ne 15, 3) := by decide +kernel
theorem d_M_pend_29 : decode b_M_pend 29 = .ok (.aload_n 0, 1) := by decide +kernel
theorem d_M_pend_30 : decode b_M_pend 30 = .ok (.iload 5, 2) := by decide +kernel
theorem d_M_pend_32 : decode b_M_pend 32 = .ok (.sipush 601, 3) := by decide +kernel
theorem d_M_pend_35 : decode b_M_pend 35 = .ok (.invokevirtual 83, 3) := by decide +kernel
theorem d_M_pend_38 : decode b_M_pend 38 = .ok (.ifCond .eq 7, 3) := by decide +kernel
theorem d_M_pend_41 : decode b_M_pend 41 = .ok (.iconst 1, 1) := by decide +kernel
theorem d_M_pend_42 : decode b_M_pend 42 = .ok (.goto 10, 3) := by decide +kernel
theorem d_M_pend_45 : decode b_M_pend 45 = .ok (.aload_n 0, 1) := by decide +kernel
theorem d_M_pend_46 : decode b_M_pend 46 = .ok (.iload_n 1, 1) := by decide +kernel
theorem d_M_pend_47 : decode b_M_pend 47 = .ok (.iload_n 2, 1) := by decide +kernel
theorem d_M_pend_48 : decode b_M_pend 48 = .ok (.iconst 1, 1) := by decide +kernel
theorem d_M_pend_49 : decode b_M_pend 49 = .ok (.invokevirtual 94, 3) := by decide +kernel
theorem d_M_pend_52 : decode b_M_pend 52 = .ok (.putfield 71, 3) := by decide +kernel
theorem d_M_pend_55 : decode b_M_pend 55 = .ok (.aload_n 0, 1) := by decide +kernel
theorem d_M_pend_56 : decode b_M_pend 56 = .ok (.getfield 71, 3) := by decide +kernel
theorem d_M_pend_59 : decode b_M_pend 59 = .ok (.ifCond .le 5, 3) := by decide +kernel
theorem d_M_pend_62 : decode b_M_pend 62 = .ok (.iconst 0, 1) := by decide +kernel
theorem d_M_pend_63 : decode b_M_pend 63 = .ok (.ireturn, 1) := by decide +kernel
theorem d_M_pend_64 : decode b_M_pend 64 = .ok (.aload_n 0, 1) := by decide +kernel
theorem d_M_pend_65 : decode b_M_pend 65 = .ok (.getfield 52, 3) := by decide +kernel
theorem d_M_pend_68 : decode b_M_pend 68 = .ok (.bipush 8, 2) := by decide +kernel
theorem d_M_pend_70 : decode b_M_pend 70 = .ok (.iload_n 1, 1) := by decide +kernel
theorem d_M_pend_71 : decode b_M_pend 71 = .ok (.imul, 1) := by decide +kernel
theorem d_M_pend_72 : decode b_M_pend 72 = .ok (.iconst 4, 1) := by decide +kernel
theorem d_M_pend_73 : decode b_M_pend 73 = .ok (.iload_n 3, 1) := by decide +kernel
theorem d_M_pend_74 : decode b_M_pend 74 = .ok (.imul, 1) := by decide +kernel
theorem d_M_pend_75 : decode b_M_pend 75 = .ok (.iadd, 1) := by decide +kernel
theorem d_M_pend_76 : decode b_M_pend 76 = .ok (.iload 4, 2) := by decide +kernel
theorem d_M_pend_78 : decode b_M_pend 78 = .ok (.iadd, 1) := by decide +kernel
theorem d_M_pend_79 : decode b_M_pend 79 = .ok (.iload 5, 2) := by decide +kernel
theorem d_M_pend_81 : decode b_M_pend 81 = .ok (.iastore, 1) := by decide +kernel
theorem d_M_pend_82 : decode b_M_pend 82 = .ok (.iconst 0, 1) := by decide +kernel
theorem d_M_pend_83 : decode b_M_pend 83 = .ok (.istore 6, 2) := by decide +kernel
theorem d_M_pend_85 : decode b_M_pend 85 = .ok (.iconst 0, 1) := by decide +kernel
theorem d_M_pend_86 : decode b_M_pend 86 = .ok (.istore 7, 2) := by decide +kernel
theorem d_M_pend_88 : decode b_M_pend 88 = .ok (.iload 7, 2) := by decide +kernel
theorem d_M_pend_90 : decode b_M_pend 90 = .ok (.bipush 8, 2) := by decide +kernel
theorem d_M_pend_92 : decode b_M_pend 92 = .ok (.if_icmp .ge 34, 3) := by decide +kernel
theorem d_M_pend_95 : decode b_M_pend 95 = .ok (.iload 6, 2) := by decide +kernel
theorem d_M_pend_97 : decode b_M_pend 97 = .ok (.aload_n 0, 1) := by decide +kernel
theorem d_M_pend_98 : decode b_M_pend 98 = .ok (.getfield 52, 3) := by decide +kernel
theorem d_M_pend_101 : decode b_M_pend 101 = .ok (.bipush 8, 2) := by decide +kernel
theorem d_M_pend_103 : decode b_M_pend 103 = .ok (.iload_n 1, 1) := by decide +kernel
theorem d_M_pend_104 : decode b_M_pend 104 = .ok (.imul, 1) := by decide +kernel
theorem d_M_pend_105 : decode b_M_pend 105 = .ok (.iload 7, 2) := by decide +kernel
theorem d_M_pend_107 : decode b_M_pend 107 = .ok (.iadd, 1) := by decide +kernel
theorem d_M_pend_108 : decode b_M_pend 108 = .ok (.iaload, 1) := by decide +kernel
theorem d_M_pend_109 : decode b_M_pend 109 = .ok (.ifCond .lt 7, 3) := by decide +kernel
theorem d_M_pend_112 : decode b_M_pend 112 = .ok (.iconst 1, 1) := by decide +kernel
theorem d_M_pend_113 : decode b_M_pend 113 = .ok (.goto 4, 3) := by decide +kernel
theorem d_M_pend_116 : decode b_M_pend 116 = .ok (.iconst 0, 1) := by decide +kernel
theorem d_M_pend_117 : decode b_M_pend 117 = .ok (.iadd, 1) := by decide +kernel
theorem d_M_pend_118 : decode b_M_pend 118 = .ok (.istore 6, 2) := by decide +kernel
theorem d_M_pend_120 : decode b_M_pend 120 = .ok (.iinc 7 1, 3) := by decide +kernel
theorem d_M_pend_123 : decode b_M_pend 123 = .ok (.goto (-35), 3) := by decide +kernel
theorem d_M_pend_126 : decode b_M_pend 126 = .ok (.iload 6, 2) := by decide +kernel
theorem d_M_pend_128 : decode b_M_pend 128 = .ok (.ireturn, 1) := by decide +kernel
theorem d_M_ones_0 : decode b_M_ones 0 = .ok (.iconst 0, 1) := by decide +kernel
theorem d_M_ones_1 : decode b_M_ones 1 = .ok (.istore_n 2, 1) := by decide +kernel
theorem d_M_ones_2 : decode b_M_ones 2 = .ok (.iconst 0, 1) := by decide +kernel
theorem d_M_ones_3 : decode b_M_ones 3 = .ok (.istore_n 3, 1) := by decide +kernel
theorem d_M_ones_4 : decode b_M_ones 4 = .ok (.iload_n 3, 1) := by decide +kernel
theorem d_M_ones_5 : decode b_M_ones 5 = .ok (.iconst 4, 1) := by decide +kernel
theorem d_M_ones_6 : decode b_M_ones 6 = .ok (.if_icmp .ge 17, 3) := by decide +kernel
theorem d_M_ones_9 : decode b_M_ones 9 = .ok (.iload_n 2, 1) := by decide +kernel
theorem d_M_ones_10 : decode b_M_ones 10 = .ok (.iload_n 1, 1) := by decide +kernel
theorem d_M_ones_11 : decode b_M_ones 11 = .ok (.iload_n 3, 1) := by decide +kernel
theorem d_M_ones_12 : decode b_M_ones 12 = .ok (.ishr, 1) := by decide +kernel
theorem d_M_ones_13 : decode b_M_ones 13 = .ok (.iconst 1, 1) := by decide +kernel
theorem d_M_ones_14 : decode b_M_ones 14 = .ok (.iand, 1) := by decide +kernel
theorem d_M_ones_15 : decode b_M_ones 15 = .ok (.iadd, 1) := by decide +kernel
theorem d_M_ones_16 : decode b_M_ones 16 = .ok (.istore_n 2, 1) := by decide +kernel
theorem d_M_ones_17 : decode b_M_ones 17 = .ok (.iinc 3 1, 3) := by decide +kernel
theorem d_M_ones_20 : decode b_M_ones 20 = .ok (.goto (-16), 3) := by decide +kernel
theorem d_M_ones_23 : decode b_M_ones 23 = .ok (.iload_n 2, 1) := by decide +kernel
theorem d_M_ones_24 : decode b_M_ones 24 = .ok (.ireturn, 1) := by decide +kernel
theorem d_M_finish_0 : decode b_M_finish 0 = .ok (.aload_n 0, 1) := by decide +kernel
theorem d_M_finish_1 : decode b_M_finish 1 = .ok (.aload_n 0, 1) := by decide +kernel
theorem d_M_finish_2 : decode b_M_finish 2 = .ok (.iload_n 1, 1) := by decide +kernel
theorem d_M_finish_3 : decode b_M_finish 3 = .ok (.iconst 4, 1) := by decide +kernel
theorem d_M_finish_4 : decode b_M_finish 4 = .ok (.invokevirtual 83, 3) := by decide +kernel
theorem d_M_finish_7 : decode b_M_finish 7 = .ok (.ifCond .eq 7, 3) := by decide +kernel
theorem d_M_finish_10 : decode b_M_finish 10 = .ok (.iconst 1, 1) := by decide +kernel
theorem d_M_finish_11 : decode b_M_finish 11 = .ok (.goto 10, 3) := by decide +kernel
theorem d_M_finish_14 : decode b_M_finish 14 = .ok (.aload_n 0, 1) := by decide +kernel
theorem d_M_finish_15 : decode b_M_finish 15 = .ok (.iload_n 1, 1) := by decide +kernel
theorem d_M_finish_16 : decode b_M_finish 16 = .ok (.iload_n 2, 1) := by decide +kernel
theorem d_M_finish_17 : decode b_M_finish 17 = .ok (.iconst 1, 1) := by decide +kernel
theorem d_M_finish_18 : decode b_M_finish 18 = .ok (.invokevirtual 94, 3) := by decide +kernel
theorem d_M_finish_21 : decode b_M_finish 21 = .ok (.putfield 71, 3) := by decide +kernel
theorem d_M_finish_24 : decode b_M_finish 24 = .ok (.aload_n 0, 1) := by decide +kernel
theorem d_M_finish_25 : decode b_M_finish 25 = .ok (.getfield 71, 3) := by decide +kernel
theorem d_M_finish_28 : decode b_M_finish 28 = .ok (.ifCond .le 5, 3) := by decide +kernel
theorem d_M_finish_31 : decode b_M_finish 31 = .ok (.iconst 0, 1) := by decide +kernel
theorem d_M_finish_32 : decode b_M_finish 32 = .ok (.ireturn, 1) := by decide +kernel
theorem d_M_finish_33 : decode b_M_finish 33 = .ok (.iconst 0, 1) := by decide +kernel
theorem d_M_finish_34 : decode b_M_finish 34 = .ok (.istore 4, 2) := by decide +kernel
theorem d_M_finish_36 : decode b_M_finish 36 = .ok (.iload 4, 2) := by decide +kernel
theorem d_M_finish_38 : decode b_M_finish 38 = .ok (.iconst 4, 1) := by decide +kernel
theorem d_M_finish_39 : decode b_M_finish 39 = .ok (.if_icmp .ge 84, 3) := by decide +kernel
theorem d_M_finish_42 : decode b_M_finish 42 = .ok (.aload_n 0, 1) := by decide +kernel
theorem d_M_finish_43 : decode b_M_finish 43 = .ok (.getfield 34, 3) := by decide +kernel
theorem d_M_finish_46 : decode b_M_finish 46 = .ok (.iload 4, 2) := by decide +kernel
theorem d_M_finish_48 : decode b_M_finish 48 = .ok (.iaload, 1) := by decide +kernel
theorem d_M_finish_49 : decode b_M_finish 49 = .ok (.istore 5, 2) := by decide +kernel
theorem d_M_finish_51 : decode b_M_finish 51 = .ok (.iload_n 3, 1) := by decide +kernel
theorem d_M_finish_52 : decode b_M_finish 52 = .ok (.ifCond .eq 65, 3) := by decide +kernel
theorem d_M_finish_55 : decode b_M_finish 55 = .ok (.iload 5, 2) := by decide +kernel
theorem d_M_finish_57 : decode b_M_finish 57 = .ok (.aload_n 0, 1) := by decide +kernel
theorem d_M_finish_58 : decode b_M_finish 58 = .ok (.getfield 28, 3) := by decide +kernel
theorem d_M_finish_61 : decode b_M_finish 61 = .ok (.iload 4, 2) := by decide +kernel
theorem d_M_finish_63 : decode b_M_finish 63 = .ok (.iaload, 1) := by decide +kernel
theorem d_M_finish_64 : decode b_M_finish 64 = .ok (.if_icmp .ge 53, 3) := by decide +kernel
theorem d_M_finish_67 : decode b_M_finish 67 = .ok (.sipush 520, 3) := by decide +kernel
theorem d_M_finish_70 : decode b_M_finish 70 = .ok (.iload 4, 2) := by decide +kernel
theorem d_M_finish_72 : decode b_M_finish 72 = .ok (.imul, 1) := by decide +kernel
theorem d_M_finish_73 : decode b_M_finish 73 = .ok (.iload 5, 2) := by decide +kernel
theorem d_M_finish_75 : decode b_M_finish 75 = .ok (.iadd, 1) := by decide +kernel
theorem d_M_finish_76 : decode b_M_finish 76 = .ok (.istore 6, 2) := by decide +kernel
theorem d_M_finish_78 : decode b_M_finish 78 = .ok (.aload_n 0, 1) := by decide +kernel
theorem d_M_finish_79 : decode b_M_finish 79 = .ok (.getfield 7, 3) := by decide +kernel
theorem d_M_finish_82 : decode b_M_finish 82 = .ok (.iload 6, 2) := by decide +kernel
theorem d_M_finish_84 : decode b_M_finish 84 = .ok (.iaload, 1) := by decide +kernel
theorem d_M_finish_85 : decode b_M_finish 85 = .ok (.iconst 1, 1) := by decide +kernel
theorem d_M_finish_86 : decode b_M_finish 86 = .ok (.if_icmp .ne 25, 3) := by decide +kernel
theorem d_M_finish_89 : decode b_M_finish 89 = .ok (.aload_n 0, 1) := by decide +kernel
theorem d_M_finish_90 : decode b_M_finish 90 = .ok (.getfield 25, 3) := by decide +kernel
theorem d_M_finish_93 : decode b_M_finish 93 = .ok (.iload 6, 2) := by decide +kernel
theorem d_M_finish_95 : decode b_M_finish 95 = .ok (.iaload, 1) := by decide +kernel
theorem d_M_finish_96 : decode b_M_finish 96 = .ok (.aload_n 0, 1) := by decide +kernel
theorem d_M_finish_97 : decode b_M_finish 97 = .ok (.getfield 43, 3) := by decide +kernel
theorem d_M_finish_100 : decode b_M_finish 100 = .ok (.iload_n 1, 1) := by decide +kernel
theorem d_M_finish_101 : decode b_M_finish 101 = .ok (.iaload, 1) := by decide +kernel
theorem d_M_finish_102 : decode b_M_finish 102 = .ok (.if_icmp .ne 9, 3) := by decide +kernel
theorem d_M_finish_105 : decode b_M_finish 105 = .ok (.aload_n 0, 1) := by decide +kernel
theorem d_M_finish_106 : decode b_M_finish 106 = .ok (.iconst 4, 1) := by decide +kernel
theorem d_M_finish_107 : decode b_M_finish 107 = .ok (.invokevirtual 86, 3) := by decide +kernel
theorem d_M_finish_110 : decode b_M_finish 110 = .ok (.ireturn, 1) := by decide +kernel
theorem d_M_finish_111 : decode b_M_finish 111 = .ok (.iinc 5 1, 3) := by decide +kernel
theorem d_M_finish_114 : decode b_M_finish 114 = .ok (.goto (-63), 3) := by decide +kernel
theorem d_M_finish_117 : decode b_M_finish 117 = .ok (.iinc 4 1, 3) := by decide +kernel
theorem d_M_finish_120 : decode b_M_finish 120 = .ok (.goto (-84), 3) := by decide +kernel
theorem d_M_finish_123 : decode b_M_finish 123 = .ok (.aload_n 0, 1) := by decide +kernel
theorem d_M_finish_124 : decode b_M_finish 124 = .ok (.getfield 37, 3) := by decide +kernel
theorem d_M_finish_127 : decode b_M_finish 127 = .ok (.iload_n 1, 1) := by decide +kernel
theorem d_M_finish_128 : decode b_M_finish 128 = .ok (.iload_n 3, 1) := by decide +kernel
theorem d_M_finish_129 : decode b_M_finish 129 = .ok (.ifCond .eq 7, 3) := by decide +kernel
theorem d_M_finish_132 : decode b_M_finish 132 = .ok (.iconst 2, 1) := by decide +kernel
theorem d_M_finish_133 : decode b_M_finish 133 = .ok (.goto 4, 3) := by decide +kernel
theorem d_M_finish_136 : decode b_M_finish 136 = .ok (.iconst 3, 1) := by decide +kernel
theorem d_M_finish_137 : decode b_M_finish 137 = .ok (.iastore, 1) := by decide +kernel
theorem d_M_finish_138 : decode b_M_finish 138 = .ok (.aload_n 0, 1) := by decide +kernel
theorem d_M_finish_139 : decode b_M_finish 139 = .ok (.aload_n 0, 1) := by decide +kernel
theorem d_M_finish_140 : decode b_M_finish 140 = .ok (.getfield 46, 3) := by decide +kernel
theorem d_M_finish_143 : decode b_M_finish 143 = .ok (.iload_n 1, 1) := by decide +kernel
theorem d_M_finish_144 : decode b_M_finish 144 = .ok (.iaload, 1) := by decide +kernel
theorem d_M_finish_145 : decode b_M_finish 145 = .ok (.invokevirtual 119, 3) := by decide +kernel
theorem d_M_finish_148 : decode b_M_finish 148 = .ok (.ireturn, 1) := by decide +kernel
theorem d_M_marked_0 : decode b_M_marked 0 = .ok (.sipush 520, 3) := by decide +kernel
theorem d_M_marked_3 : decode b_M_marked 3 = .ok (.iload_n 1, 1) := by decide +kernel
theorem d_M_marked_4 : decode b_M_marked 4 = .ok (.imul, 1) := by decide +kernel
theorem d_M_marked_5 : decode b_M_marked 5 = .ok (.istore 5, 2) := by decide +kernel
theorem d_M_marked_7 : decode b_M_marked 7 = .ok (.iload 5, 2) := by decide +kernel
theorem d_M_marked_9 : decode b_M_marked 9 = .ok (.sipush 520, 3) := by decide +kernel
theorem d_M_marked_12 : decode b_M_marked 12 = .ok (.iload_n 1, 1) := by decide +kernel
theorem d_M_marked_13 : decode b_M_marked 13 = .ok (.imul, 1) := by decide +kernel
theorem d_M_marked_14 : decode b_M_marked 14 = .ok (.iload_n 3, 1) := by decide +kernel
theorem d_M_marked_15 : decode b_M_marked 15 = .ok (.iadd, 1) := by decide +kernel
theorem d_M_marked_16 : decode b_M_marked 16 = .ok (.if_icmp .ge 49, 3) := by decide +kernel
theorem d_M_marked_19 : decode b_M_marked 19 = .ok (.aload_n 0, 1) := by decide +kernel
theorem d_M_marked_20 : decode b_M_marked 20 = .ok (.getfield 7, 3) := by decide +kernel
theorem d_M_marked_23 : decode b_M_marked 23 = .ok (.iload 5, 2) := by decide +kernel
theorem d_M_marked_25 : decode b_M_marked 25 = .ok (.iaload, 1) := by decide +kernel
theorem d_M_marked_26 : decode b_M_marked 26 = .ok (.iconst 1, 1) := by decide +kernel
theorem d_M_marked_27 : decode b_M_marked 27 = .ok (.if_icmp .le 32, 3) := by decide +kernel
theorem d_M_marked_30 : decode b_M_marked 30 = .ok (.aload_n 0, 1) := by decide +kernel
theorem d_M_marked_31 : decode b_M_marked 31 = .ok (.getfield 25, 3) := by decide +kernel
theorem d_M_marked_34 : decode b_M_marked 34 = .ok (.iload 5, 2) := by decide +kernel
theorem d_M_marked_36 : decode b_M_marked 36 = .ok (.iaload, 1) := by decide +kernel
theorem d_M_marked_37 : decode b_M_marked 37 = .ok (.iload_n 2, 1) := by decide +kernel
theorem d_M_marked_38 : decode b_M_marked 38 = .ok (.if_icmp .ne 21, 3) := by decide +kernel
theorem d_M_marked_41 : decode b_M_marked 41 = .ok (.iload 4, 2) := by decide +kernel
theorem d_M_marked_43 : decode b_M_marked 43 = .ok (.ifCond .eq 14, 3) := by decide +kernel
theorem d_M_marked_46 : decode b_M_marked 46 = .ok (.aload_n 0, 1) := by decide +kernel
theorem d_M_marked_47 : decode b_M_marked 47 = .ok (.getfield 7, 3) := by decide +kernel
theorem d_M_marked_50 : decode b_M_marked 50 = .ok (.iload 5, 2) := by decide +kernel
theorem d_M_marked_52 : decode b_M_marked 52 = .ok (.iaload, 1) := by decide +kernel
theorem d_M_marked_53 : decode b_M_marked 53 = .ok (.iconst 3, 1) := by decide +kernel
theorem d_M_marked_54 : decode b_M_marked 54 = .ok (.if_icmp .ne 5, 3) := by decide +kernel
theorem d_M_marked_57 : decode b_M_marked 57 = .ok (.iconst 1, 1) := by decide +kernel
theorem d_M_marked_58 : decode b_M_marked 58 = .ok (.ireturn, 1) := by decide +kernel
theorem d_M_marked_59 : decode b_M_marked 59 = .ok (.iinc 5 1, 3) := by decide +kernel
theorem d_M_marked_62 : decode b_M_marked 62 = .ok (.goto (-55), 3) := by decide +kernel
theorem d_M_marked_65 : decode b_M_marked 65 = .ok (.iconst 0, 1) := by decide +kernel
theorem d_M_marked_66 : decode b_M_marked 66 = .ok (.ireturn, 1) := by decide +kernel
theorem d_M_stepOf_0 : decode b_M_stepOf 0 = .ok (.aload_n 0, 1) := by decide +kernel
theorem d_M_stepOf_1 : decode b_M_stepOf 1 = .ok (.getfield 46, 3) := by decide +kernel
theorem d_M_stepOf_4 : decode b_M_stepOf 4 = .ok (.iload_n 1, 1) := by decide +kernel
theorem d_M_stepOf_5 : decode b_M_stepOf 5 = .ok (.iaload, 1) := by decide +kernel
theorem d_M_stepOf_6 : decode b_M_stepOf 6 = .ok (.ifCond .ne 67, 3) := by decide +kernel
theorem d_M_stepOf_9 : decode b_M_stepOf 9 = .ok (.iconst 0, 1) := by decide +kernel
theorem d_M_stepOf_10 : decode b_M_stepOf 10 = .ok (.istore_n 2, 1) := by decide +kernel
theorem d_M_stepOf_11 : decode b_M_stepOf 11 = .ok (.iload_n 2, 1) := by decide +kernel
theorem d_M_stepOf_12 : decode b_M_stepOf 12 = .ok (.bipush 8, 2) := by decide +kernel
theorem d_M_stepOf_14 : decode b_M_stepOf 14 = .ok (.if_icmp .ge 50, 3) := by decide +kernel
theorem d_M_stepOf_17 : decode b_M_stepOf 17 = .ok (.aload_n 0, 1) := by decide +kernel
theorem d_M_stepOf_18 : decode b_M_stepOf 18 = .ok (.getfield 37, 3) := by decide +kernel
theorem d_M_stepOf_21 : decode b_M_stepOf 21 = .ok (.iload_n 1, 1) := by decide +kernel
theorem d_M_stepOf_22 : decode b_M_stepOf 22 = .ok (.iaload, 1) := by decide +kernel
theorem d_M_stepOf_23 : decode b_M_stepOf 23 = .ok (.iconst 2, 1) := by decide +kernel
theorem d_M_stepOf_24 : decode b_M_stepOf 24 = .ok (.if_icmp .ne 34, 3) := by decide +kernel
theorem d_M_stepOf_27 : decode b_M_stepOf 27 = .ok (.aload_n 0, 1) := by decide +kernel
theorem d_M_stepOf_28 : decode b_M_stepOf 28 = .ok (.getfield 52, 3) := by decide +kernel
theorem d_M_stepOf_31 : decode b_M_stepOf 31 = .ok (.bipush 8, 2) := by decide +kernel
theorem d_M_stepOf_33 : decode b_M_stepOf 33 = .ok (.iload_n 1, 1) := by decide +kernel
theorem d_M_stepOf_34 : decode b_M_stepOf 34 = .ok (.imul, 1) := by decide +kernel
theorem d_M_stepOf_35 : decode b_M_stepOf 35 = .ok (.iload_n 2, 1) := by decide +kernel
theorem d_M_stepOf_36 : decode b_M_stepOf 36 = .ok (.iadd, 1) := by decide +kernel
theorem d_M_stepOf_37 : decode b_M_stepOf 37 = .ok (.iaload, 1) := by decide +kernel
theorem d_M_stepOf_38 : decode b_M_stepOf 38 = .ok (.ifCond .lt 20, 3) := by decide +kernel
theorem d_M_stepOf_41 : decode b_M_stepOf 41 = .ok (.aload_n 0, 1) := by decide +kernel
theorem d_M_stepOf_42 : decode b_M_stepOf 42 = .ok (.getfield 68, 3) := by decide +kernel
theorem d_M_stepOf_45 : decode b_M_stepOf 45 = .ok (.iload_n 2, 1) := by decide +kernel
theorem d_M_stepOf_46 : decode b_M_stepOf 46 = .ok (.aload_n 0, 1) := by decide +kernel
theorem d_M_stepOf_47 : decode b_M_stepOf 47 = .ok (.getfield 52, 3) := by decide +kernel
theorem d_M_stepOf_50 : decode b_M_stepOf 50 = .ok (.bipush 8, 2) := by decide +kernel
theorem d_M_stepOf_52 : decode b_M_stepOf 52 = .ok (.iload_n 1, 1) := by decide +kernel
theorem d_M_stepOf_53 : decode b_M_stepOf 53 = .ok (.imul, 1) := by decide +kernel
theorem d_M_stepOf_54 : decode b_M_stepOf 54 = .ok (.iload_n 2, 1) := by decide +kernel
theorem d_M_stepOf_55 : decode b_M_stepOf 55 = .ok (.iadd, 1) := by decide +kernel
theorem d_M_stepOf_56 : decode b_M_stepOf 56 = .ok (.iaload, 1) := by decide +kernel
theorem d_M_stepOf_57 : decode b_M_stepOf 57 = .ok (.iastore, 1) := by decide +kernel
theorem d_M_stepOf_58 : decode b_M_stepOf 58 = .ok (.iinc 2 1, 3) := by decide +kernel
theorem d_M_stepOf_61 : decode b_M_stepOf 61 = .ok (.goto (-50), 3) := by decide +kernel
theorem d_M_stepOf_64 : decode b_M_stepOf 64 = .ok (.aload_n 0, 1) := by decide +kernel
theorem d_M_stepOf_65 : decode b_M_stepOf 65 = .ok (.getfield 37, 3) := by decide +kernel
theorem d_M_stepOf_68 : decode b_M_stepOf 68 = .ok (.iload_n 1, 1) := by decide +kernel
theorem d_M_stepOf_69 : decode b_M_stepOf 69 = .ok (.iconst 0, 1) := by decide +kernel
theorem d_M_stepOf_70 : decode b_M_stepOf 70 = .ok (.iastore, 1) := by decide +kernel
theorem d_M_stepOf_71 : decode b_M_stepOf 71 = .ok (.iconst 3, 1) := by decide +kernel
theorem d_M_stepOf_72 : decode b_M_stepOf 72 = .ok (.ireturn, 1) := by decide +kernel
theorem d_M_stepOf_73 : decode b_M_stepOf 73 = .ok (.iconst 0, 1) := by decide +kernel
theorem d_M_stepOf_74 : decode b_M_stepOf 74 = .ok (.istore_n 2, 1) := by decide +kernel
theorem d_M_stepOf_75 : decode b_M_stepOf 75 = .ok (.iload_n 2, 1) := by decide +kernel
theorem d_M_stepOf_76 : decode b_M_stepOf 76 = .ok (.iconst 4, 1) := by decide +kernel
theorem d_M_stepOf_77 : decode b_M_stepOf 77 = .ok (.if_icmp .ge 98, 3) := by decide +kernel
theorem d_M_stepOf_80 : decode b_M_stepOf 80 = .ok (.aload_n 0, 1) := by decide +kernel
theorem d_M_stepOf_81 : decode b_M_stepOf 81 = .ok (.getfield 46, 3) := by decide +kernel
theorem d_M_stepOf_84 : decode b_M_stepOf 84 = .ok (.iload_n 1, 1) := by decide +kernel
theorem d_M_stepOf_85 : decode b_M_stepOf 85 = .ok (.iaload, 1) := by decide +kernel
theorem d_M_stepOf_86 : decode b_M_stepOf 86 = .ok (.iload_n 2, 1) := by decide +kernel
theorem d_M_stepOf_87 : decode b_M_stepOf 87 = .ok (.ishr, 1) := by decide +kernel
theorem d_M_stepOf_88 : decode b_M_stepOf 88 = .ok (.iconst 1, 1) := by decide +kernel
theorem d_M_stepOf_89 : decode b_M_stepOf 89 = .ok (.iand, 1) := by decide +kernel
theorem d_M_stepOf_90 : decode b_M_stepOf 90 = .ok (.ifCond .ne 6, 3) := by decide +kernel
theorem d_M_stepOf_93 : decode b_M_stepOf 93 = .ok (.goto 76, 3) := by decide +kernel
theorem d_M_stepOf_96 : decode b_M_stepOf 96 = .ok (.aload_n 0, 1) := by decide +kernel
theorem d_M_stepOf_97 : decode b_M_stepOf 97 = .ok (.iload_n 2, 1) := by decide +kernel
theorem d_M_stepOf_98 : decode b_M_stepOf 98 = .ok (.aload_n 0, 1) := by decide +kernel
theorem d_M_stepOf_99 : decode b_M_stepOf 99 = .ok (.getfield 43, 3) := by decide +kernel
theorem d_M_stepOf_102 : decode b_M_stepOf 102 = .ok (.iload_n 1, 1) := by decide +kernel
theorem d_M_stepOf_103 : decode b_M_stepOf 103 = .ok (.iaload, 1) := by decide +kernel
theorem d_M_stepOf_104 : decode b_M_stepOf 104 = .ok (.aload_n 0, 1) := by decide +kernel
theorem d_M_stepOf_105 : decode b_M_stepOf 105 = .ok (.getfield 34, 3) := by decide +kernel
theorem d_M_stepOf_108 : decode b_M_stepOf 108 = .ok (.iload_n 2, 1) := by decide +kernel
theorem d_M_stepOf_109 : decode b_M_stepOf 109 = .ok (.iaload, 1) := by decide +kernel
theorem d_M_stepOf_110 : decode b_M_stepOf 110 = .ok (.iconst 0, 1) := by decide +kernel
theorem d_M_stepOf_111 : decode b_M_stepOf 111 = .ok (.invokevirtual 79, 3) := by decide +kernel
theorem d_M_stepOf_114 : decode b_M_stepOf 114 = .ok (.ifCond .eq 17, 3) := by decide +kernel
theorem d_M_stepOf_117 : decode b_M_stepOf 117 = .ok (.aload_n 0, 1) := by decide +kernel
theorem d_M_stepOf_118 : decode b_M_stepOf 118 = .ok (.getfield 46, 3) := by decide +kernel
theorem d_M_stepOf_121 : decode b_M_stepOf 121 = .ok (.iload_n 1, 1) := by decide +kernel
theorem d_M_stepOf_122 : decode b_M_stepOf 122 = .ok (.dup2, 1) := by decide +kernel
theorem d_M_stepOf_123 : decode b_M_stepOf 123 = .ok (.iaload, 1) := by decide +kernel
theorem d_M_stepOf_124 : decode b_M_stepOf 124 = .ok (.iconst 1, 1) := by decide +kernel
theorem d_M_stepOf_125 : decode b_M_stepOf 125 = .ok (.iload_n 2, 1) := by decide +kernel
theorem d_M_stepOf_126 : decode b_M_stepOf 126 = .ok (.ishl, 1) := by decide +kernel
theorem d_M_stepOf_127 : decode b_M_stepOf 127 = .ok (.isub, 1) := by decide +kernel
theorem d_M_stepOf_128 : decode b_M_stepOf 128 = .ok (.iastore, 1) := by decide +kernel
theorem d_M_stepOf_129 : decode b_M_stepOf 129 = .ok (.iconst 2, 1) := by decide +kernel
theorem d_M_stepOf_130 : decode b_M_stepOf 130 = .ok (.ireturn, 1) := by decide +kernel
theorem d_M_stepOf_131 : decode b_M_stepOf 131 = .ok (.aload_n 0, 1) := by decide +kernel
theorem d_M_stepOf_132 : decode b_M_stepOf 132 = .ok (.iload_n 2, 1) := by decide +kernel
theorem d_M_stepOf_133 : decode b_M_stepOf 133 = .ok (.aload_n 0, 1) := by decide +kernel
theorem d_M_stepOf_134 : decode b_M_stepOf 134 = .ok (.getfield 43, 3) := by decide +kernel
theorem d_M_stepOf_137 : decode b_M_stepOf 137 = .ok (.iload_n 1, 1) := by decide +kernel
theorem d_M_stepOf_138 : decode b_M_stepOf 138 = .ok (.iaload, 1) := by decide +kernel
theorem d_M_stepOf_139 : decode b_M_stepOf 139 = .ok (.aload_n 0, 1) := by decide +kernel
theorem d_M_stepOf_140 : decode b_M_stepOf 140 = .ok (.getfield 28, 3) := by decide +kernel
theorem d_M_stepOf_143 : decode b_M_stepOf 143 = .ok (.iload_n 2, 1) := by decide +kernel
theorem d_M_stepOf_144 : decode b_M_stepOf 144 = .ok (.iaload, 1) := by decide +kernel
theorem d_M_stepOf_145 : decode b_M_stepOf 145 = .ok (.iconst 0, 1) := by decide +kernel
theorem d_M_stepOf_146 : decode b_M_stepOf 146 = .ok (.invokevirtual 79, 3) := by decide +kernel
theorem d_M_stepOf_149 : decode b_M_stepOf 149 = .ok (.ifCond .ne 20, 3) := by decide +kernel
theorem d_M_stepOf_152 : decode b_M_stepOf 152 = .ok (.aload_n 0, 1) := by decide +kernel
theorem d_M_stepOf_153 : decode b_M_stepOf 153 = .ok (.iload_n 2, 1) := by decide +kernel
theorem d_M_stepOf_154 : decode b_M_stepOf 154 = .ok (.aload_n 0, 1) := by decide +kernel
theorem d_M_stepOf_155 : decode b_M_stepOf 155 = .ok (.getfield 37, 3) := by decide +kernel
theorem d_M_stepOf_158 : decode b_M_stepOf 158 = .ok (.iload_n 1, 1) := by decide +kernel
theorem d_M_stepOf_159 : decode b_M_stepOf 159 = .ok (.iaload, 1) := by decide +kernel
theorem d_M_stepOf_160 : decode b_M_stepOf 160 = .ok (.iconst 0, 1) := by decide +kernel
theorem d_M_stepOf_161 : decode b_M_stepOf 161 = .ok (.iload_n 1, 1) := by decide +kernel
theorem d_M_stepOf_162 : decode b_M_stepOf 162 = .ok (.iconst (-1), 1) := by decide +kernel
theorem d_M_stepOf_163 : decode b_M_stepOf 163 = .ok (.invokevirtual 115, 3) := by decide +kernel
theorem d_M_stepOf_166 : decode b_M_stepOf 166 = .ok (.pop, 1) := by decide +kernel
theorem d_M_stepOf_167 : decode b_M_stepOf 167 = .ok (.iconst 1, 1) := by decide +kernel
theorem d_M_stepOf_168 : decode b_M_stepOf 168 = .ok (.ireturn, 1) := by decide +kernel
theorem d_M_stepOf_169 : decode b_M_stepOf 169 = .ok (.iinc 2 1, 3) := by decide +kernel
theorem d_M_stepOf_172 : decode b_M_stepOf 172 = .ok (.goto (-97), 3) := by decide +kernel
theorem d_M_stepOf_175 : decode b_M_stepOf 175 = .ok (.iconst 0, 1) := by decide +kernel
theorem d_M_stepOf_176 : decode b_M_stepOf 176 = .ok (.ireturn, 1) := by decide +kernel
theorem d_M_step_0 : decode b_M_step 0 = .ok (.aload_n 0, 1) := by decide +kernel
theorem d_M_step_1 : decode b_M_step 1 = .ok (.iconst 0, 1) := by decide +kernel
theorem d_M_step_2 : decode b_M_step 2 = .ok (.putfield 71, 3) := by decide +kernel
theorem d_M_step_5 : decode b_M_step 5 = .ok (.iconst 0, 1) := by decide +kernel
theorem d_M_step_6 : decode b_M_step 6 = .ok (.istore_n 1, 1) := by decide +kernel
theorem d_M_step_7 : decode b_M_step 7 = .ok (.iload_n 1, 1) := by decide +kernel
theorem d_M_step_8 : decode b_M_step 8 = .ok (.iconst 4, 1) := by decide +kernel
theorem d_M_step_9 : decode b_M_step 9 = .ok (.if_icmp .ge 40, 3) := by decide +kernel
theorem d_M_step_12 : decode b_M_step 12 = .ok (.aload_n 0, 1) := by decide +kernel
theorem d_M_step_13 : decode b_M_step 13 = .ok (.getfield 37, 3) := by decide +kernel
theorem d_M_step_16 : decode b_M_step 16 = .ok (.iload_n 1, 1) := by decide +kernel
theorem d_M_step_17 : decode b_M_step 17 = .ok (.iaload, 1) := by decide +kernel
theorem d_M_step_18 : decode b_M_step 18 = .ok (.iconst 1, 1) := by decide +kernel
theorem d_M_step_19 : decode b_M_step 19 = .ok (.if_icmp .le 11, 3) := by decide +kernel
theorem d_M_step_22 : decode b_M_step 22 = .ok (.aload_n 0, 1) := by decide +kernel
theorem d_M_step_23 : decode b_M_step 23 = .ok (.iload_n 1, 1) := by decide +kernel
theorem d_M_step_24 : decode b_M_step 24 = .ok (.invokevirtual 122, 3) := by decide +kernel
theorem d_M_step_27 : decode b_M_step 27 = .ok (.goto 4, 3) := by decide +kernel
theorem d_M_step_30 : decode b_M_step 30 = .ok (.iconst 0, 1) := by decide +kernel
theorem d_M_step_31 : decode b_M_step 31 = .ok (.istore_n 2, 1) := by decide +kernel
theorem d_M_step_32 : decode b_M_step 32 = .ok (.iload_n 2, 1) := by decide +kernel
theorem d_M_step_33 : decode b_M_step 33 = .ok (.ifCond .le 10, 3) := by decide +kernel
theorem d_M_step_36 : decode b_M_step 36 = .ok (.bipush 10, 2) := by decide +kernel
theorem d_M_step_38 : decode b_M_step 38 = .ok (.iload_n 1, 1) := by decide +kernel
theorem d_M_step_39 : decode b_M_step 39 = .ok (.imul, 1) := by decide +kernel
theorem d_M_step_40 : decode b_M_step 40 = .ok (.iload_n 2, 1) := by decide +kernel
theorem d_M_step_41 : decode b_M_step 41 = .ok (.iadd, 1) := by decide +kernel
theorem d_M_step_42 : decode b_M_step 42 = .ok (.ireturn, 1) := by decide +kernel
theorem d_M_step_43 : decode b_M_step 43 = .ok (.iinc 1 1, 3) := by decide +kernel
theorem d_M_step_46 : decode b_M_step 46 = .ok (.goto (-39), 3) := by decide +kernel
theorem d_M_step_49 : decode b_M_step 49 = .ok (.iconst (-1), 1) := by decide +kernel
theorem d_M_step_50 : decode b_M_step 50 = .ok (.ireturn, 1) := by decide +kernel
theorem d_M_plain_0 : decode b_M_plain 0 = .ok (.aload_n 0, 1) := by decide +kernel
theorem d_M_plain_1 : decode b_M_plain 1 = .ok (.iconst 0, 1) := by decide +kernel
theorem d_M_plain_2 : decode b_M_plain 2 = .ok (.putfield 71, 3) := by decide +kernel
theorem d_M_plain_5 : decode b_M_plain 5 = .ok (.aload_n 0, 1) := by decide +kernel
theorem d_M_plain_6 : decode b_M_plain 6 = .ok (.iload_n 1, 1) := by decide +kernel
theorem d_M_plain_7 : decode b_M_plain 7 = .ok (.iconst 4, 1) := by decide +kernel
theorem d_M_plain_8 : decode b_M_plain 8 = .ok (.invokevirtual 83, 3) := by decide +kernel
theorem d_M_plain_11 : decode b_M_plain 11 = .ok (.ifCond .eq 9, 3) := by decide +kernel
theorem d_M_plain_14 : decode b_M_plain 14 = .ok (.aload_n 0, 1) := by decide +kernel
theorem d_M_plain_15 : decode b_M_plain 15 = .ok (.iconst 1, 1) := by decide +kernel
theorem d_M_plain_16 : decode b_M_plain 16 = .ok (.invokevirtual 86, 3) := by decide +kernel
theorem d_M_plain_19 : decode b_M_plain 19 = .ok (.ireturn, 1) := by decide +kernel
theorem d_M_plain_20 : decode b_M_plain 20 = .ok (.aload_n 0, 1) := by decide +kernel
theorem d_M_plain_21 : decode b_M_plain 21 = .ok (.iload_n 1, 1) := by decide +kernel
theorem d_M_plain_22 : decode b_M_plain 22 = .ok (.invokevirtual 111, 3) := by decide +kernel
theorem d_M_plain_25 : decode b_M_plain 25 = .ok (.ifCond .eq 11, 3) := by decide +kernel
theorem d_M_plain_28 : decode b_M_plain 28 = .ok (.aload_n 0, 1) := by decide +kernel
theorem d_M_plain_29 : decode b_M_plain 29 = .ok (.iconst 2, 1) := by decide +kernel
theorem d_M_plain_30 : decode b_M_plain 30 = .ok (.invokevirtual 86, 3) := by decide +kernel
theorem d_M_plain_33 : decode b_M_plain 33 = .ok (.goto 12, 3) := by decide +kernel
theorem d_M_plain_36 : decode b_M_plain 36 = .ok (.aload_n 0, 1) := by decide +kernel
theorem d_M_plain_37 : decode b_M_plain 37 = .ok (.iload_n 1, 1) := by decide +kernel
theorem d_M_plain_38 : decode b_M_plain 38 = .ok (.iconst 0, 1) := by decide +kernel
theorem d_M_plain_39 : decode b_M_plain 39 = .ok (.iload_n 2, 1) := by decide +kernel
theorem d_M_plain_40 : decode b_M_plain 40 = .ok (.iconst (-1), 1) := by decide +kernel
theorem d_M_plain_41 : decode b_M_plain 41 = .ok (.iconst (-1), 1) := by decide +kernel
theorem d_M_plain_42 : decode b_M_plain 42 = .ok (.invokevirtual 115, 3) := by decide +kernel
theorem d_M_plain_45 : decode b_M_plain 45 = .ok (.ireturn, 1) := by decide +kernel
theorem d_M_copy_0 : decode b_M_copy 0 = .ok (.aload_n 0, 1) := by decide +kernel
theorem d_M_copy_1 : decode b_M_copy 1 = .ok (.iconst 0, 1) := by decide +kernel
theorem d_M_copy_2 : decode b_M_copy 2 = .ok (.putfield 71, 3) := by decide +kernel
theorem d_M_copy_5 : decode b_M_copy 5 = .ok (.aload_n 0, 1) := by decide +kernel
theorem d_M_copy_6 : decode b_M_copy 6 = .ok (.iload_n 1, 1) := by decide +kernel
theorem d_M_copy_7 : decode b_M_copy 7 = .ok (.iconst 4, 1) := by decide +kernel
theorem d_M_copy_8 : decode b_M_copy 8 = .ok (.invokevirtual 83, 3) := by decide +kernel
theorem d_M_copy_11 : decode b_M_copy 11 = .ok (.ifCond .ne 14, 3) := by decide +kernel
theorem d_M_copy_14 : decode b_M_copy 14 = .ok (.iload_n 2, 1) := by decide +kernel
theorem d_M_copy_15 : decode b_M_copy 15 = .ok (.iconst 1, 1) := by decide +kernel
theorem d_M_copy_16 : decode b_M_copy 16 = .ok (.if_icmp .lt 9, 3) := by decide +kernel
theorem d_M_copy_19 : decode b_M_copy 19 = .ok (.iload_n 2, 1) := by decide +kernel
theorem d_M_copy_20 : decode b_M_copy 20 = .ok (.bipush 40, 2) := by decide +kernel
theorem d_M_copy_22 : decode b_M_copy 22 = .ok (.if_icmp .le 9, 3) := by decide +kernel
theorem d_M_copy_25 : decode b_M_copy 25 = .ok (.aload_n 0, 1) := by decide +kernel
theorem d_M_copy_26 : decode b_M_copy 26 = .ok (.iconst 1, 1) := by decide +kernel
theorem d_M_copy_27 : decode b_M_copy 27 = .ok (.invokevirtual 86, 3) := by decide +kernel
theorem d_M_copy_30 : decode b_M_copy 30 = .ok (.ireturn, 1) := by decide +kernel
theorem d_M_copy_31 : decode b_M_copy 31 = .ok (.aload_n 0, 1) := by decide +kernel
theorem d_M_copy_32 : decode b_M_copy 32 = .ok (.getfield 34, 3) := by decide +kernel
theorem d_M_copy_35 : decode b_M_copy 35 = .ok (.iload_n 1, 1) := by decide +kernel
theorem d_M_copy_36 : decode b_M_copy 36 = .ok (.aload_n 0, 1) := by decide +kernel
theorem d_M_copy_37 : decode b_M_copy 37 = .ok (.getfield 34, 3) := by decide +kernel
theorem d_M_copy_40 : decode b_M_copy 40 = .ok (.iload_n 1, 1) := by decide +kernel
theorem d_M_copy_41 : decode b_M_copy 41 = .ok (.iaload, 1) := by decide +kernel
theorem d_M_copy_42 : decode b_M_copy 42 = .ok (.iload_n 2, 1) := by decide +kernel
theorem d_M_copy_43 : decode b_M_copy 43 = .ok (.iadd, 1) := by decide +kernel
theorem d_M_copy_44 : decode b_M_copy 44 = .ok (.aload_n 0, 1) := by decide +kernel
theorem d_M_copy_45 : decode b_M_copy 45 = .ok (.getfield 28, 3) := by decide +kernel
theorem d_M_copy_48 : decode b_M_copy 48 = .ok (.iload_n 1, 1) := by decide +kernel
theorem d_M_copy_49 : decode b_M_copy 49 = .ok (.iaload, 1) := by decide +kernel
theorem d_M_copy_50 : decode b_M_copy 50 = .ok (.if_icmp .le 12, 3) := by decide +kernel
theorem d_M_copy_53 : decode b_M_copy 53 = .ok (.aload_n 0, 1) := by decide +kernel
theorem d_M_copy_54 : decode b_M_copy 54 = .ok (.getfield 28, 3) := by decide +kernel
theorem d_M_copy_57 : decode b_M_copy 57 = .ok (.iload_n 1, 1) := by decide +kernel
theorem d_M_copy_58 : decode b_M_copy 58 = .ok (.iaload, 1) := by decide +kernel
theorem d_M_copy_59 : decode b_M_copy 59 = .ok (.goto 11, 3) := by decide +kernel
theorem d_M_copy_62 : decode b_M_copy 62 = .ok (.aload_n 0, 1) := by decide +kernel
theorem d_M_copy_63 : decode b_M_copy 63 = .ok (.getfield 34, 3) := by decide +kernel
theorem d_M_copy_66 : decode b_M_copy 66 = .ok (.iload_n 1, 1) := by decide +kernel
theorem d_M_copy_67 : decode b_M_copy 67 = .ok (.iaload, 1) := by decide +kernel
theorem d_M_copy_68 : decode b_M_copy 68 = .ok (.iload_n 2, 1) := by decide +kernel
theorem d_M_copy_69 : decode b_M_copy 69 = .ok (.iadd, 1) := by decide +kernel
theorem d_M_copy_70 : decode b_M_copy 70 = .ok (.iastore, 1) := by decide +kernel
theorem d_M_copy_71 : decode b_M_copy 71 = .ok (.aload_n 0, 1) := by decide +kernel
theorem d_M_copy_72 : decode b_M_copy 72 = .ok (.getfield 34, 3) := by decide +kernel
theorem d_M_copy_75 : decode b_M_copy 75 = .ok (.iload_n 1, 1) := by decide +kernel
theorem d_M_copy_76 : decode b_M_copy 76 = .ok (.iaload, 1) := by decide +kernel
theorem d_M_copy_77 : decode b_M_copy 77 = .ok (.ireturn, 1) := by decide +kernel
theorem d_M_lose_0 : decode b_M_lose 0 = .ok (.aload_n 0, 1) := by decide +kernel
theorem d_M_lose_1 : decode b_M_lose 1 = .ok (.iconst 0, 1) := by decide +kernel
theorem d_M_lose_2 : decode b_M_lose 2 = .ok (.putfield 71, 3) := by decide +kernel
theorem d_M_lose_5 : decode b_M_lose 5 = .ok (.aload_n 0, 1) := by decide +kernel
theorem d_M_lose_6 : decode b_M_lose 6 = .ok (.iload_n 1, 1) := by decide +kernel
theorem d_M_lose_7 : decode b_M_lose 7 = .ok (.iconst 4, 1) := by decide +kernel
theorem d_M_lose_8 : decode b_M_lose 8 = .ok (.invokevirtual 83, 3) := by decide +kernel
theorem d_M_lose_11 : decode b_M_lose 11 = .ok (.ifCond .eq 9, 3) := by decide +kernel
theorem d_M_lose_14 : decode b_M_lose 14 = .ok (.aload_n 0, 1) := by decide +kernel
theorem d_M_lose_15 : decode b_M_lose 15 = .ok (.iconst 1, 1) := by decide +kernel
theorem d_M_lose_16 : decode b_M_lose 16 = .ok (.invokevirtual 86, 3) := by decide +kernel
theorem d_M_lose_19 : decode b_M_lose 19 = .ok (.ireturn, 1) := by decide +kernel
theorem d_M_lose_20 : decode b_M_lose 20 = .ok (.aload_n 0, 1) := by decide +kernel
theorem d_M_lose_21 : decode b_M_lose 21 = .ok (.getfield 28, 3) := by decide +kernel
theorem d_M_lose_24 : decode b_M_lose 24 = .ok (.iload_n 1, 1) := by decide +kernel
theorem d_M_lose_25 : decode b_M_lose 25 = .ok (.iaload, 1) := by decide +kernel
theorem d_M_lose_26 : decode b_M_lose 26 = .ok (.aload_n 0, 1) := by decide +kernel
theorem d_M_lose_27 : decode b_M_lose 27 = .ok (.getfield 34, 3) := by decide +kernel
theorem d_M_lose_30 : decode b_M_lose 30 = .ok (.iload_n 1, 1) := by decide +kernel
theorem d_M_lose_31 : decode b_M_lose 31 = .ok (.iaload, 1) := by decide +kernel
theorem d_M_lose_32 : decode b_M_lose 32 = .ok (.isub, 1) := by decide +kernel
theorem d_M_lose_33 : decode b_M_lose 33 = .ok (.istore_n 2, 1) := by decide +kernel
theorem d_M_lose_34 : decode b_M_lose 34 = .ok (.aload_n 0, 1) := by decide +kernel
theorem d_M_lose_35 : decode b_M_lose 35 = .ok (.getfield 28, 3) := by decide +kernel
theorem d_M_lose_38 : decode b_M_lose 38 = .ok (.iload_n 1, 1) := by decide +kernel
theorem d_M_lose_39 : decode b_M_lose 39 = .ok (.aload_n 0, 1) := by decide +kernel
theorem d_M_lose_40 : decode b_M_lose 40 = .ok (.getfield 34, 3) := by decide +kernel
theorem d_M_lose_43 : decode b_M_lose 43 = .ok (.iload_n 1, 1) := by decide +kernel
theorem d_M_lose_44 : decode b_M_lose 44 = .ok (.iaload, 1) := by decide +kernel
theorem d_M_lose_45 : decode b_M_lose 45 = .ok (.iastore, 1) := by decide +kernel
theorem d_M_lose_46 : decode b_M_lose 46 = .ok (.iload_n 2, 1) := by decide +kernel
theorem d_M_lose_47 : decode b_M_lose 47 = .ok (.ireturn, 1) := by decide +kernel
theorem d_M_stable_0 : decode b_M_stable 0 = .ok (.iconst 0, 1) := by decide +kernel
theorem d_M_stable_1 : decode b_M_stable 1 = .ok (.istore_n 2, 1) := by decide +kernel
theorem d_M_stable_2 : decode b_M_stable 2 = .ok (.iload_n 2, 1) := by decide +kernel
theorem d_M_stable_3 : decode b_M_stable 3 = .ok (.aload_n 0, 1) := by decide +kernel
theorem d_M_stable_4 : decode b_M_stable 4 = .ok (.getfield 34, 3) := by decide +kernel
theorem d_M_stable_7 : decode b_M_stable 7 = .ok (.iload_n 1, 1) := by decide +kernel
theorem d_M_stable_8 : decode b_M_stable 8 = .ok (.iaload, 1) := by decide +kernel
theorem d_M_stable_9 : decode b_M_stable 9 = .ok (.if_icmp .ge 50, 3) := by decide +kernel
theorem d_M_stable_12 : decode b_M_stable 12 = .ok (.sipush 520, 3) := by decide +kernel
theorem d_M_stable_15 : decode b_M_stable 15 = .ok (.iload_n 1, 1) := by decide +kernel
theorem d_M_stable_16 : decode b_M_stable 16 = .ok (.imul, 1) := by decide +kernel
theorem d_M_stable_17 : decode b_M_stable 17 = .ok (.iload_n 2, 1) := by decide +kernel
theorem d_M_stable_18 : decode b_M_stable 18 = .ok (.iadd, 1) := by decide +kernel
theorem d_M_stable_19 : decode b_M_stable 19 = .ok (.istore_n 3, 1) := by decide +kernel
theorem d_M_stable_20 : decode b_M_stable 20 = .ok (.aload_n 0, 1) := by decide +kernel
theorem d_M_stable_21 : decode b_M_stable 21 = .ok (.getfield 7, 3) := by decide +kernel
theorem d_M_stable_24 : decode b_M_stable 24 = .ok (.iload_n 3, 1) := by decide +kernel
theorem d_M_stable_25 : decode b_M_stable 25 = .ok (.iaload, 1) := by decide +kernel
theorem d_M_stable_26 : decode b_M_stable 26 = .ok (.iconst 1, 1) := by decide +kernel
theorem d_M_stable_27 : decode b_M_stable 27 = .ok (.if_icmp .ne 26, 3) := by decide +kernel
theorem d_M_stable_30 : decode b_M_stable 30 = .ok (.aload_n 0, 1) := by decide +kernel
theorem d_M_stable_31 : decode b_M_stable 31 = .ok (.iload_n 1, 1) := by decide +kernel
theorem d_M_stable_32 : decode b_M_stable 32 = .ok (.aload_n 0, 1) := by decide +kernel
theorem d_M_stable_33 : decode b_M_stable 33 = .ok (.getfield 25, 3) := by decide +kernel
theorem d_M_stable_36 : decode b_M_stable 36 = .ok (.iload_n 3, 1) := by decide +kernel
theorem d_M_stable_37 : decode b_M_stable 37 = .ok (.iaload, 1) := by decide +kernel
theorem d_M_stable_38 : decode b_M_stable 38 = .ok (.aload_n 0, 1) := by decide +kernel
theorem d_M_stable_39 : decode b_M_stable 39 = .ok (.getfield 34, 3) := by decide +kernel
theorem d_M_stable_42 : decode b_M_stable 42 = .ok (.iload_n 1, 1) := by decide +kernel
theorem d_M_stable_43 : decode b_M_stable 43 = .ok (.iaload, 1) := by decide +kernel
theorem d_M_stable_44 : decode b_M_stable 44 = .ok (.iconst 0, 1) := by decide +kernel
theorem d_M_stable_45 : decode b_M_stable 45 = .ok (.invokevirtual 79, 3) := by decide +kernel
theorem d_M_stable_48 : decode b_M_stable 48 = .ok (.ifCond .ne 5, 3) := by decide +kernel
theorem d_M_stable_51 : decode b_M_stable 51 = .ok (.iload_n 2, 1) := by decide +kernel
theorem d_M_stable_52 : decode b_M_stable 52 = .ok (.ireturn, 1) := by decide +kernel
theorem d_M_stable_53 : decode b_M_stable 53 = .ok (.iinc 2 1, 3) := by decide +kernel
theorem d_M_stable_56 : decode b_M_stable 56 = .ok (.goto (-54), 3) := by decide +kernel
theorem d_M_stable_59 : decode b_M_stable 59 = .ok (.aload_n 0, 1) := by decide +kernel
theorem d_M_stable_60 : decode b_M_stable 60 = .ok (.getfield 34, 3) := by decide +kernel
theorem d_M_stable_63 : decode b_M_stable 63 = .ok (.iload_n 1, 1) := by decide +kernel
theorem d_M_stable_64 : decode b_M_stable 64 = .ok (.iaload, 1) := by decide +kernel
theorem d_M_stable_65 : decode b_M_stable 65 = .ok (.ireturn, 1) := by decide +kernel
theorem d_M_fetch_0 : decode b_M_fetch 0 = .ok (.aload_n 0, 1) := by decide +kernel
theorem d_M_fetch_1 : decode b_M_fetch 1 = .ok (.iconst 0, 1) := by decide +kernel
theorem d_M_fetch_2 : decode b_M_fetch 2 = .ok (.putfield 71, 3) := by decide +kernel
theorem d_M_fetch_5 : decode b_M_fetch 5 = .ok (.aload_n 0, 1) := by decide +kernel
theorem d_M_fetch_6 : decode b_M_fetch 6 = .ok (.iload_n 1, 1) := by decide +kernel
theorem d_M_fetch_7 : decode b_M_fetch 7 = .ok (.iconst 4, 1) := by decide +kernel
theorem d_M_fetch_8 : decode b_M_fetch 8 = .ok (.invokevirtual 83, 3) := by decide +kernel
theorem d_M_fetch_11 : decode b_M_fetch 11 = .ok (.ifCond .ne 14, 3) := by decide +kernel
theorem d_M_fetch_14 : decode b_M_fetch 14 = .ok (.aload_n 0, 1) := by decide +kernel
theorem d_M_fetch_15 : decode b_M_fetch 15 = .ok (.iload_n 2, 1) := by decide +kernel
theorem d_M_fetch_16 : decode b_M_fetch 16 = .ok (.sipush 601, 3) := by decide +kernel
theorem d_M_fetch_19 : decode b_M_fetch 19 = .ok (.invokevirtual 83, 3) := by decide +kernel
theorem d_M_fetch_22 : decode b_M_fetch 22 = .ok (.ifCond .eq 9, 3) := by decide +kernel
theorem d_M_fetch_25 : decode b_M_fetch 25 = .ok (.aload_n 0, 1) := by decide +kernel
theorem d_M_fetch_26 : decode b_M_fetch 26 = .ok (.iconst 1, 1) := by decide +kernel
theorem d_M_fetch_27 : decode b_M_fetch 27 = .ok (.invokevirtual 86, 3) := by decide +kernel
theorem d_M_fetch_30 : decode b_M_fetch 30 = .ok (.ireturn, 1) := by decide +kernel
theorem d_M_fetch_31 : decode b_M_fetch 31 = .ok (.iload_n 2, 1) := by decide +kernel
theorem d_M_fetch_32 : decode b_M_fetch 32 = .ok (.aload_n 0, 1) := by decide +kernel
theorem d_M_fetch_33 : decode b_M_fetch 33 = .ok (.getfield 31, 3) := by decide +kernel
theorem d_M_fetch_36 : decode b_M_fetch 36 = .ok (.iload_n 1, 1) := by decide +kernel
theorem d_M_fetch_37 : decode b_M_fetch 37 = .ok (.iaload, 1) := by decide +kernel
theorem d_M_fetch_38 : decode b_M_fetch 38 = .ok (.if_icmp .ge 9, 3) := by decide +kernel
theorem d_M_fetch_41 : decode b_M_fetch 41 = .ok (.aload_n 0, 1) := by decide +kernel
theorem d_M_fetch_42 : decode b_M_fetch 42 = .ok (.iconst 2, 1) := by decide +kernel
theorem d_M_fetch_43 : decode b_M_fetch 43 = .ok (.invokevirtual 86, 3) := by decide +kernel
theorem d_M_fetch_46 : decode b_M_fetch 46 = .ok (.ireturn, 1) := by decide +kernel
theorem d_M_fetch_47 : decode b_M_fetch 47 = .ok (.iload_n 3, 1) := by decide +kernel
theorem d_M_fetch_48 : decode b_M_fetch 48 = .ok (.ifCond .eq 11, 3) := by decide +kernel
theorem d_M_fetch_51 : decode b_M_fetch 51 = .ok (.aload_n 0, 1) := by decide +kernel
theorem d_M_fetch_52 : decode b_M_fetch 52 = .ok (.iload_n 1, 1) := by decide +kernel
theorem d_M_fetch_53 : decode b_M_fetch 53 = .ok (.invokevirtual 125, 3) := by decide +kernel
theorem d_M_fetch_56 : decode b_M_fetch 56 = .ok (.goto 9, 3) := by decide +kernel
theorem d_M_fetch_59 : decode b_M_fetch 59 = .ok (.aload_n 0, 1) := by decide +kernel
theorem d_M_fetch_60 : decode b_M_fetch 60 = .ok (.getfield 34, 3) := by decide +kernel
theorem d_M_fetch_63 : decode b_M_fetch 63 = .ok (.iload_n 1, 1) := by decide +kernel
theorem d_M_fetch_64 : decode b_M_fetch 64 = .ok (.iaload, 1) := by decide +kernel
theorem d_M_fetch_65 : decode b_M_fetch 65 = .ok (.istore 4, 2) := by decide +kernel
theorem d_M_fetch_67 : decode b_M_fetch 67 = .ok (.iload_n 2, 1) := by decide +kernel
theorem d_M_fetch_68 : decode b_M_fetch 68 = .ok (.istore 5, 2) := by decide +kernel
theorem d_M_fetch_70 : decode b_M_fetch 70 = .ok (.iload 5, 2) := by decide +kernel
theorem d_M_fetch_72 : decode b_M_fetch 72 = .ok (.iload 4, 2) := by decide +kernel
theorem d_M_fetch_74 : decode b_M_fetch 74 = .ok (.if_icmp .ge 87, 3) := by decide +kernel
theorem d_M_fetch_77 : decode b_M_fetch 77 = .ok (.sipush 520, 3) := by decide +kernel
theorem d_M_fetch_80 : decode b_M_fetch 80 = .ok (.iload_n 1, 1) := by decide +kernel
theorem d_M_fetch_81 : decode b_M_fetch 81 = .ok (.imul, 1) := by decide +kernel
theorem d_M_fetch_82 : decode b_M_fetch 82 = .ok (.iload 5, 2) := by decide +kernel
theorem d_M_fetch_84 : decode b_M_fetch 84 = .ok (.iadd, 1) := by decide +kernel
theorem d_M_fetch_85 : decode b_M_fetch 85 = .ok (.istore 6, 2) := by decide +kernel
theorem d_M_fetch_87 : decode b_M_fetch 87 = .ok (.aload_n 0, 1) := by decide +kernel
theorem d_M_fetch_88 : decode b_M_fetch 88 = .ok (.getfield 7, 3) := by decide +kernel
theorem d_M_fetch_91 : decode b_M_fetch 91 = .ok (.iload 6, 2) := by decide +kernel
theorem d_M_fetch_93 : decode b_M_fetch 93 = .ok (.iaload, 1) := by decide +kernel
theorem d_M_fetch_94 : decode b_M_fetch 94 = .ok (.iconst 1, 1) := by decide +kernel
theorem d_M_fetch_95 : decode b_M_fetch 95 = .ok (.if_icmp .le 6, 3) := by decide +kernel
theorem d_M_fetch_98 : decode b_M_fetch 98 = .ok (.goto 57, 3) := by decide +kernel
theorem d_M_fetch_101 : decode b_M_fetch 101 = .ok (.iload_n 3, 1) := by decide +kernel
theorem d_M_fetch_102 : decode b_M_fetch 102 = .ok (.ifCond .eq 39, 3) := by decide +kernel
theorem d_M_fetch_105 : decode b_M_fetch 105 = .ok (.aload_n 0, 1) := by decide +kernel
theorem d_M_fetch_106 : decode b_M_fetch 106 = .ok (.getfield 7, 3) := by decide +kernel
theorem d_M_fetch_109 : decode b_M_fetch 109 = .ok (.iload 6, 2) := by decide +kernel
theorem d_M_fetch_111 : decode b_M_fetch 111 = .ok (.iaload, 1) := by decide +kernel
theorem d_M_fetch_112 : decode b_M_fetch 112 = .ok (.iconst 1, 1) := by decide +kernel
theorem d_M_fetch_113 : decode b_M_fetch 113 = .ok (.if_icmp .ne 28, 3) := by decide +kernel
theorem d_M_fetch_116 : decode b_M_fetch 116 = .ok (.aload_n 0, 1) := by decide +kernel
theorem d_M_fetch_117 : decode b_M_fetch 117 = .ok (.iload_n 1, 1) := by decide +kernel
theorem d_M_fetch_118 : decode b_M_fetch 118 = .ok (.aload_n 0, 1) := by decide +kernel
theorem d_M_fetch_119 : decode b_M_fetch 119 = .ok (.getfield 25, 3) := by decide +kernel
theorem d_M_fetch_122 : decode b_M_fetch 122 = .ok (.iload 6, 2) := by decide +kernel
theorem d_M_fetch_124 : decode b_M_fetch 124 = .ok (.iaload, 1) := by decide +kernel
theorem d_M_fetch_125 : decode b_M_fetch 125 = .ok (.aload_n 0, 1) := by decide +kernel
theorem d_M_fetch_126 : decode b_M_fetch 126 = .ok (.getfield 34, 3) := by decide +kernel
theorem d_M_fetch_129 : decode b_M_fetch 129 = .ok (.iload_n 1, 1) := by decide +kernel
theorem d_M_fetch_130 : decode b_M_fetch 130 = .ok (.iaload, 1) := by decide +kernel
theorem d_M_fetch_131 : decode b_M_fetch 131 = .ok (.iconst 1, 1) := by decide +kernel
theorem d_M_fetch_132 : decode b_M_fetch 132 = .ok (.invokevirtual 79, 3) := by decide +kernel
theorem d_M_fetch_135 : decode b_M_fetch 135 = .ok (.ifCond .eq 6, 3) := by decide +kernel
theorem d_M_fetch_138 : decode b_M_fetch 138 = .ok (.goto 17, 3) := by decide +kernel
theorem d_M_fetch_141 : decode b_M_fetch 141 = .ok (.aload_n 0, 1) := by decide +kernel
theorem d_M_fetch_142 : decode b_M_fetch 142 = .ok (.aload_n 0, 1) := by decide +kernel
theorem d_M_fetch_143 : decode b_M_fetch 143 = .ok (.getfield 13, 3) := by decide +kernel
theorem d_M_fetch_146 : decode b_M_fetch 146 = .ok (.iload 6, 2) := by decide +kernel
theorem d_M_fetch_148 : decode b_M_fetch 148 = .ok (.iaload, 1) := by decide +kernel
theorem d_M_fetch_149 : decode b_M_fetch 149 = .ok (.putfield 128, 3) := by decide +kernel
theorem d_M_fetch_152 : decode b_M_fetch 152 = .ok (.iload 5, 2) := by decide +kernel
theorem d_M_fetch_154 : decode b_M_fetch 154 = .ok (.ireturn, 1) := by decide +kernel
theorem d_M_fetch_155 : decode b_M_fetch 155 = .ok (.iinc 5 1, 3) := by decide +kernel
theorem d_M_fetch_158 : decode b_M_fetch 158 = .ok (.goto (-88), 3) := by decide +kernel
theorem d_M_fetch_161 : decode b_M_fetch 161 = .ok (.aload_n 0, 1) := by decide +kernel
theorem d_M_fetch_162 : decode b_M_fetch 162 = .ok (.iconst 3, 1) := by decide +kernel
theorem d_M_fetch_163 : decode b_M_fetch 163 = .ok (.invokevirtual 86, 3) := by decide +kernel
theorem d_M_fetch_166 : decode b_M_fetch 166 = .ok (.ireturn, 1) := by decide +kernel
theorem d_M_last_0 : decode b_M_last 0 = .ok (.aload_n 0, 1) := by decide +kernel
theorem d_M_last_1 : decode b_M_last 1 = .ok (.iconst 0, 1) := by decide +kernel
theorem d_M_last_2 : decode b_M_last 2 = .ok (.putfield 71, 3) := by decide +kernel
theorem d_M_last_5 : decode b_M_last 5 = .ok (.aload_n 0, 1) := by decide +kernel
theorem d_M_last_6 : decode b_M_last 6 = .ok (.getfield 128, 3) := by decide +kernel
theorem d_M_last_9 : decode b_M_last 9 = .ok (.ireturn, 1) := by decide +kernel
theorem d_M_trim_0 : decode b_M_trim 0 = .ok (.aload_n 0, 1) := by decide +kernel
theorem d_M_trim_1 : decode b_M_trim 1 = .ok (.iconst 0, 1) := by decide +kernel
theorem d_M_trim_2 : decode b_M_trim 2 = .ok (.putfield 71, 3) := by decide +kernel
theorem d_M_trim_5 : decode b_M_trim 5 = .ok (.aload_n 0, 1) := by decide +kernel
theorem d_M_trim_6 : decode b_M_trim 6 = .ok (.iload_n 1, 1) := by decide +kernel
theorem d_M_trim_7 : decode b_M_trim 7 = .ok (.iconst 4, 1) := by decide +kernel
theorem d_M_trim_8 : decode b_M_trim 8 = .ok (.invokevirtual 83, 3) := by decide +kernel
theorem d_M_trim_11 : decode b_M_trim 11 = .ok (.ifCond .ne 14, 3) := by decide +kernel
theorem d_M_trim_14 : decode b_M_trim 14 = .ok (.aload_n 0, 1) := by decide +kernel
theorem d_M_trim_15 : decode b_M_trim 15 = .ok (.iload_n 2, 1) := by decide +kernel
theorem d_M_trim_16 : decode b_M_trim 16 = .ok (.sipush 601, 3) := by decide +kernel
theorem d_M_trim_19 : decode b_M_trim 19 = .ok (.invokevirtual 83, 3) := by decide +kernel
theorem d_M_trim_22 : decode b_M_trim 22 = .ok (.ifCond .eq 9, 3) := by decide +kernel
theorem d_M_trim_25 : decode b_M_trim 25 = .ok (.aload_n 0, 1) := by decide +kernel
theorem d_M_trim_26 : decode b_M_trim 26 = .ok (.iconst 1, 1) := by decide +kernel
theorem d_M_trim_27 : decode b_M_trim 27 = .ok (.invokevirtual 86, 3) := by decide +kernel
theorem d_M_trim_30 : decode b_M_trim 30 = .ok (.ireturn, 1) := by decide +kernel
theorem d_M_trim_31 : decode b_M_trim 31 = .ok (.iload_n 2, 1) := by decide +kernel
theorem d_M_trim_32 : decode b_M_trim 32 = .ok (.aload_n 0, 1) := by decide +kernel
theorem d_M_trim_33 : decode b_M_trim 33 = .ok (.getfield 31, 3) := by decide +kernel
theorem d_M_trim_36 : decode b_M_trim 36 = .ok (.iload_n 1, 1) := by decide +kernel
theorem d_M_trim_37 : decode b_M_trim 37 = .ok (.iaload, 1) := by decide +kernel
theorem d_M_trim_38 : decode b_M_trim 38 = .ok (.if_icmp .lt 12, 3) := by decide +kernel
theorem d_M_trim_41 : decode b_M_trim 41 = .ok (.iload_n 2, 1) := by decide +kernel
theorem d_M_trim_42 : decode b_M_trim 42 = .ok (.aload_n 0, 1) := by decide +kernel
theorem d_M_trim_43 : decode b_M_trim 43 = .ok (.iload_n 1, 1) := by decide +kernel
theorem d_M_trim_44 : decode b_M_trim 44 = .ok (.invokevirtual 125, 3) := by decide +kernel
theorem d_M_trim_47 : decode b_M_trim 47 = .ok (.if_icmp .le 9, 3) := by decide +kernel
theorem d_M_trim_50 : decode b_M_trim 50 = .ok (.aload_n 0, 1) := by decide +kernel
theorem d_M_trim_51 : decode b_M_trim 51 = .ok (.iconst 2, 1) := by decide +kernel
theorem d_M_trim_52 : decode b_M_trim 52 = .ok (.invokevirtual 86, 3) := by decide +kernel
theorem d_M_trim_55 : decode b_M_trim 55 = .ok (.ireturn, 1) := by decide +kernel
theorem d_M_trim_56 : decode b_M_trim 56 = .ok (.iload_n 2, 1) := by decide +kernel
theorem d_M_trim_57 : decode b_M_trim 57 = .ok (.aload_n 0, 1) := by decide +kernel
theorem d_M_trim_58 : decode b_M_trim 58 = .ok (.getfield 31, 3) := by decide +kernel
theorem d_M_trim_61 : decode b_M_trim 61 = .ok (.iload_n 1, 1) := by decide +kernel
theorem d_M_trim_62 : decode b_M_trim 62 = .ok (.iaload, 1) := by decide +kernel
theorem d_M_trim_63 : decode b_M_trim 63 = .ok (.isub, 1) := by decide +kernel
theorem d_M_trim_64 : decode b_M_trim 64 = .ok (.istore_n 3, 1) := by decide +kernel
theorem d_M_trim_65 : decode b_M_trim 65 = .ok (.aload_n 0, 1) := by decide +kernel
theorem d_M_trim_66 : decode b_M_trim 66 = .ok (.getfield 31, 3) := by decide +kernel
theorem d_M_trim_69 : decode b_M_trim 69 = .ok (.iload_n 1, 1) := by decide +kernel
theorem d_M_trim_70 : decode b_M_trim 70 = .ok (.iload_n 2, 1) := by decide +kernel
theorem d_M_trim_71 : decode b_M_trim 71 = .ok (.iastore, 1) := by decide +kernel
theorem d_M_trim_72 : decode b_M_trim 72 = .ok (.iload_n 3, 1) := by decide +kernel
theorem d_M_trim_73 : decode b_M_trim 73 = .ok (.ireturn, 1) := by decide +kernel
theorem d_M_has_0 : decode b_M_has 0 = .ok (.iconst 0, 1) := by decide +kernel
theorem d_M_has_1 : decode b_M_has 1 = .ok (.istore_n 3, 1) := by decide +kernel
theorem d_M_has_2 : decode b_M_has 2 = .ok (.iconst 0, 1) := by decide +kernel
theorem d_M_has_3 : decode b_M_has 3 = .ok (.istore 4, 2) := by decide +kernel
theorem d_M_has_5 : decode b_M_has 5 = .ok (.iload 4, 2) := by decide +kernel
theorem d_M_has_7 : decode b_M_has 7 = .ok (.iconst 4, 1) := by decide +kernel
theorem d_M_has_8 : decode b_M_has 8 = .ok (.if_icmp .ge 32, 3) := by decide +kernel
theorem d_M_has_11 : decode b_M_has 11 = .ok (.iload_n 3, 1) := by decide +kernel
theorem d_M_has_12 : decode b_M_has 12 = .ok (.aload_n 0, 1) := by decide +kernel
theorem d_M_has_13 : decode b_M_has 13 = .ok (.getfield 65, 3) := by decide +kernel
theorem d_M_has_16 : decode b_M_has 16 = .ok (.iconst 4, 1) := by decide +kernel
theorem d_M_has_17 : decode b_M_has 17 = .ok (.iload_n 1, 1) := by decide +kernel
theorem d_M_has_18 : decode b_M_has 18 = .ok (.imul, 1) := by decide +kernel
theorem d_M_has_19 : decode b_M_has 19 = .ok (.iload 4, 2) := by decide +kernel
theorem d_M_has_21 : decode b_M_has 21 = .ok (.iadd, 1) := by decide +kernel
theorem d_M_has_22 : decode b_M_has 22 = .ok (.iaload, 1) := by decide +kernel
theorem d_M_has_23 : decode b_M_has 23 = .ok (.iload_n 2, 1) := by decide +kernel
theorem d_M_has_24 : decode b_M_has 24 = .ok (.if_icmp .ne 7, 3) := by decide +kernel
theorem d_M_has_27 : decode b_M_has 27 = .ok (.iconst 1, 1) := by decide +kernel
theorem d_M_has_28 : decode b_M_has 28 = .ok (.goto 4, 3) := by decide +kernel
theorem d_M_has_31 : decode b_M_has 31 = .ok (.iconst 0, 1) := by decide +kernel
theorem d_M_has_32 : decode b_M_has 32 = .ok (.iadd, 1) := by decide +kernel
theorem d_M_has_33 : decode b_M_has 33 = .ok (.istore_n 3, 1) := by decide +kernel
theorem d_M_has_34 : decode b_M_has 34 = .ok (.iinc 4 1, 3) := by decide +kernel
theorem d_M_has_37 : decode b_M_has 37 = .ok (.goto (-32), 3) := by decide +kernel
theorem d_M_has_40 : decode b_M_has 40 = .ok (.iload_n 3, 1) := by decide +kernel
theorem d_M_has_41 : decode b_M_has 41 = .ok (.ireturn, 1) := by decide +kernel
theorem d_M_fewest_0 : decode b_M_fewest 0 = .ok (.iconst (-1), 1) := by decide +kernel
theorem d_M_fewest_1 : decode b_M_fewest 1 = .ok (.istore_n 2, 1) := by decide +kernel
theorem d_M_fewest_2 : decode b_M_fewest 2 = .ok (.iconst 0, 1) := by decide +kernel
theorem d_M_fewest_3 : decode b_M_fewest 3 = .ok (.istore_n 3, 1) := by decide +kernel
theorem d_M_fewest_4 : decode b_M_fewest 4 = .ok (.iload_n 3, 1) := by decide +kernel
theorem d_M_fewest_5 : decode b_M_fewest 5 = .ok (.iconst 4, 1) := by decide +kernel
theorem d_M_fewest_6 : decode b_M_fewest 6 = .ok (.if_icmp .ge 43, 3) := by decide +kernel
theorem d_M_fewest_9 : decode b_M_fewest 9 = .ok (.aload_n 0, 1) := by decide +kernel
theorem d_M_fewest_10 : decode b_M_fewest 10 = .ok (.getfield 58, 3) := by decide +kernel
theorem d_M_fewest_13 : decode b_M_fewest 13 = .ok (.iconst 4, 1) := by decide +kernel
theorem d_M_fewest_14 : decode b_M_fewest 14 = .ok (.iload_n 1, 1) := by decide +kernel
theorem d_M_fewest_15 : decode b_M_fewest 15 = .ok (.imul, 1) := by decide +kernel
theorem d_M_fewest_16 : decode b_M_fewest 16 = .ok (.iload_n 3, 1) := by decide +kernel
theorem d_M_fewest_17 : decode b_M_fewest 17 = .ok (.iadd, 1) := by decide +kernel
theorem d_M_fewest_18 : decode b_M_fewest 18 = .ok (.baload, 1) := by decide +kernel
theorem d_M_fewest_19 : decode b_M_fewest 19 = .ok (.ifCond .eq 24, 3) := by decide +kernel
theorem d_M_fewest_22 : decode b_M_fewest 22 = .ok (.iload_n 2, 1) := by decide +kernel
theorem d_M_fewest_23 : decode b_M_fewest 23 = .ok (.ifCond .lt 18, 3) := by decide +kernel
theorem d_M_fewest_26 : decode b_M_fewest 26 = .ok (.aload_n 0, 1) := by decide +kernel
theorem d_M_fewest_27 : decode b_M_fewest 27 = .ok (.iload_n 1, 1) := by decide +kernel
theorem d_M_fewest_28 : decode b_M_fewest 28 = .ok (.iload_n 3, 1) := by decide +kernel
theorem d_M_fewest_29 : decode b_M_fewest 29 = .ok (.invokevirtual 131, 3) := by decide +kernel
theorem d_M_fewest_32 : decode b_M_fewest 32 = .ok (.aload_n 0, 1) := by decide +kernel
theorem d_M_fewest_33 : decode b_M_fewest 33 = .ok (.iload_n 1, 1) := by decide +kernel
theorem d_M_fewest_34 : decode b_M_fewest 34 = .ok (.iload_n 2, 1) := by decide +kernel
theorem d_M_fewest_35 : decode b_M_fewest 35 = .ok (.invokevirtual 131, 3) := by decide +kernel
theorem d_M_fewest_38 : decode b_M_fewest 38 = .ok (.if_icmp .ge 5, 3) := by decide +kernel
theorem d_M_fewest_41 : decode b_M_fewest 41 = .ok (.iload_n 3, 1) := by decide +kernel
theorem d_M_fewest_42 : decode b_M_fewest 42 = .ok (.istore_n 2, 1) := by decide +kernel
theorem d_M_fewest_43 : decode b_M_fewest 43 = .ok (.iinc 3 1, 3) := by decide +kernel
theorem d_M_fewest_46 : decode b_M_fewest 46 = .ok (.goto (-42), 3) := by decide +kernel
theorem d_M_fewest_49 : decode b_M_fewest 49 = .ok (.iload_n 2, 1) := by decide +kernel
theorem d_M_fewest_50 : decode b_M_fewest 50 = .ok (.ireturn, 1) := by decide +kernel
theorem d_M_share_0 : decode b_M_share 0 = .ok (.aload_n 0, 1) := by decide +kernel
theorem d_M_share_1 : decode b_M_share 1 = .ok (.getfield 55, 3) := by decide +kernel
theorem d_M_share_4 : decode b_M_share 4 = .ok (.iload_n 1, 1) := by decide +kernel
theorem d_M_share_5 : decode b_M_share 5 = .ok (.dup2, 1) := by decide +kernel
theorem d_M_share_6 : decode b_M_share 6 = .ok (.iaload, 1) := by decide +kernel
theorem d_M_share_7 : decode b_M_share 7 = .ok (.iconst 1, 1) := by decide +kernel
theorem d_M_share_8 : decode b_M_share 8 = .ok (.iadd, 1) := by decide +kernel
theorem d_M_share_9 : decode b_M_share 9 = .ok (.iastore, 1) := by decide +kernel
theorem d_M_share_10 : decode b_M_share 10 = .ok (.iconst 0, 1) := by decide +kernel
theorem d_M_share_11 : decode b_M_share 11 = .ok (.istore_n 2, 1) := by decide +kernel
theorem d_M_share_12 : decode b_M_share 12 = .ok (.iconst 0, 1) := by decide +kernel
theorem d_M_share_13 : decode b_M_share 13 = .ok (.istore_n 3, 1) := by decide +kernel
theorem d_M_share_14 : decode b_M_share 14 = .ok (.iload_n 3, 1) := by decide +kernel
theorem d_M_share_15 : decode b_M_share 15 = .ok (.iconst 4, 1) := by decide +kernel
theorem d_M_share_16 : decode b_M_share 16 = .ok (.if_icmp .ge 30, 3) := by decide +kernel
theorem d_M_share_19 : decode b_M_share 19 = .ok (.iload_n 2, 1) := by decide +kernel
theorem d_M_share_20 : decode b_M_share 20 = .ok (.aload_n 0, 1) := by decide +kernel
theorem d_M_share_21 : decode b_M_share 21 = .ok (.getfield 58, 3) := by decide +kernel
theorem d_M_share_24 : decode b_M_share 24 = .ok (.iconst 4, 1) := by decide +kernel
theorem d_M_share_25 : decode b_M_share 25 = .ok (.iload_n 1, 1) := by decide +kernel
theorem d_M_share_26 : decode b_M_share 26 = .ok (.imul, 1) := by decide +kernel
theorem d_M_share_27 : decode b_M_share 27 = .ok (.iload_n 3, 1) := by decide +kernel
theorem d_M_share_28 : decode b_M_share 28 = .ok (.iadd, 1) := by decide +kernel
theorem d_M_share_29 : decode b_M_share 29 = .ok (.baload, 1) := by decide +kernel
theorem d_M_share_30 : decode b_M_share 30 = .ok (.ifCond .eq 7, 3) := by decide +kernel
theorem d_M_share_33 : decode b_M_share 33 = .ok (.iconst 1, 1) := by decide +kernel
theorem d_M_share_34 : decode b_M_share 34 = .ok (.goto 4, 3) := by decide +kernel
theorem d_M_share_37 : decode b_M_share 37 = .ok (.iconst 0, 1) := by decide +kernel
theorem d_M_share_38 : decode b_M_share 38 = .ok (.iadd, 1) := by decide +kernel
theorem d_M_share_39 : decode b_M_share 39 = .ok (.istore_n 2, 1) := by decide +kernel
theorem d_M_share_40 : decode b_M_share 40 = .ok (.iinc 3 1, 3) := by decide +kernel
theorem d_M_share_43 : decode b_M_share 43 = .ok (.goto (-29), 3) := by decide +kernel
theorem d_M_share_46 : decode b_M_share 46 = .ok (.iconst 0, 1) := by decide +kernel
theorem d_M_share_47 : decode b_M_share 47 = .ok (.istore_n 3, 1) := by decide +kernel
theorem d_M_share_48 : decode b_M_share 48 = .ok (.iload_n 3, 1) := by decide +kernel
theorem d_M_share_49 : decode b_M_share 49 = .ok (.iconst 4, 1) := by decide +kernel
theorem d_M_share_50 : decode b_M_share 50 = .ok (.if_icmp .ge 55, 3) := by decide +kernel
theorem d_M_share_53 : decode b_M_share 53 = .ok (.aload_n 0, 1) := by decide +kernel
theorem d_M_share_54 : decode b_M_share 54 = .ok (.getfield 65, 3) := by decide +kernel
theorem d_M_share_57 : decode b_M_share 57 = .ok (.iconst 4, 1) := by decide +kernel
theorem d_M_share_58 : decode b_M_share 58 = .ok (.iload_n 1, 1) := by decide +kernel
theorem d_M_share_59 : decode b_M_share 59 = .ok (.imul, 1) := by decide +kernel
theorem d_M_share_60 : decode b_M_share 60 = .ok (.iload_n 3, 1) := by decide +kernel
theorem d_M_share_61 : decode b_M_share 61 = .ok (.iadd, 1) := by decide +kernel
theorem d_M_share_62 : decode b_M_share 62 = .ok (.iaload, 1) := by decide +kernel
theorem d_M_share_63 : decode b_M_share 63 = .ok (.ifCond .lt 36, 3) := by decide +kernel
theorem d_M_share_66 : decode b_M_share 66 = .ok (.aload_n 0, 1) := by decide +kernel
theorem d_M_share_67 : decode b_M_share 67 = .ok (.getfield 58, 3) := by decide +kernel
theorem d_M_share_70 : decode b_M_share 70 = .ok (.iconst 4, 1) := by decide +kernel
theorem d_M_share_71 : decode b_M_share 71 = .ok (.iload_n 1, 1) := by decide +kernel
theorem d_M_share_72 : decode b_M_share 72 = .ok (.imul, 1) := by decide +kernel
theorem d_M_share_73 : decode b_M_share 73 = .ok (.aload_n 0, 1) := by decide +kernel
theorem d_M_share_74 : decode b_M_share 74 = .ok (.getfield 65, 3) := by decide +kernel
theorem d_M_share_77 : decode b_M_share 77 = .ok (.iconst 4, 1) := by decide +kernel
theorem d_M_share_78 : decode b_M_share 78 = .ok (.iload_n 1, 1) := by decide +kernel
theorem d_M_share_79 : decode b_M_share 79 = .ok (.imul, 1) := by decide +kernel
theorem d_M_share_80 : decode b_M_share 80 = .ok (.iload_n 3, 1) := by decide +kernel
theorem d_M_share_81 : decode b_M_share 81 = .ok (.iadd, 1) := by decide +kernel
theorem d_M_share_82 : decode b_M_share 82 = .ok (.iaload, 1) := by decide +kernel
theorem d_M_share_83 : decode b_M_share 83 = .ok (.iadd, 1) := by decide +kernel
theorem d_M_share_84 : decode b_M_share 84 = .ok (.baload, 1) := by decide +kernel
theorem d_M_share_85 : decode b_M_share 85 = .ok (.ifCond .ne 14, 3) := by decide +kernel
theorem d_M_share_88 : decode b_M_share 88 = .ok (.aload_n 0, 1) := by decide +kernel
theorem d_M_share_89 : decode b_M_share 89 = .ok (.getfield 65, 3) := by decide +kernel
theorem d_M_share_92 : decode b_M_share 92 = .ok (.iconst 4, 1) := by decide +kernel
theorem d_M_share_93 : decode b_M_share 93 = .ok (.iload_n 1, 1) := by decide +kernel
theorem d_M_share_94 : decode b_M_share 94 = .ok (.imul, 1) := by decide +kernel
theorem d_M_share_95 : decode b_M_share 95 = .ok (.iload_n 3, 1) := by decide +kernel
theorem d_M_share_96 : decode b_M_share 96 = .ok (.iadd, 1) := by decide +kernel
theorem d_M_share_97 : decode b_M_share 97 = .ok (.iconst (-1), 1) := by decide +kernel
theorem d_M_share_98 : decode b_M_share 98 = .ok (.iastore, 1) := by decide +kernel
theorem d_M_share_99 : decode b_M_share 99 = .ok (.iinc 3 1, 3) := by decide +kernel
theorem d_M_share_102 : decode b_M_share 102 = .ok (.goto (-54), 3) := by decide +kernel
theorem d_M_share_105 : decode b_M_share 105 = .ok (.iload_n 2, 1) := by decide +kernel
theorem d_M_share_106 : decode b_M_share 106 = .ok (.ifCond .ne 4, 3) := by decide +kernel
theorem d_M_share_109 : decode b_M_share 109 = .ok (.return_, 1) := by decide +kernel
theorem d_M_share_110 : decode b_M_share 110 = .ok (.iconst 4, 1) := by decide +kernel
theorem d_M_share_111 : decode b_M_share 111 = .ok (.iload_n 2, 1) := by decide +kernel
theorem d_M_share_112 : decode b_M_share 112 = .ok (.idiv, 1) := by decide +kernel
theorem d_M_share_113 : decode b_M_share 113 = .ok (.istore_n 3, 1) := by decide +kernel
theorem d_M_share_114 : decode b_M_share 114 = .ok (.iconst 4, 1) := by decide +kernel
theorem d_M_share_115 : decode b_M_share 115 = .ok (.iload_n 2, 1) := by decide +kernel
theorem d_M_share_116 : decode b_M_share 116 = .ok (.irem, 1) := by decide +kernel
theorem d_M_share_117 : decode b_M_share 117 = .ok (.istore 4, 2) := by decide +kernel
theorem d_M_share_119 : decode b_M_share 119 = .ok (.iconst 0, 1) := by decide +kernel
theorem d_M_share_120 : decode b_M_share 120 = .ok (.istore 5, 2) := by decide +kernel
theorem d_M_share_122 : decode b_M_share 122 = .ok (.iload 5, 2) := by decide +kernel
theorem d_M_share_124 : decode b_M_share 124 = .ok (.iconst 4, 1) := by decide +kernel
theorem d_M_share_125 : decode b_M_share 125 = .ok (.if_icmp .ge 93, 3) := by decide +kernel
theorem d_M_share_128 : decode b_M_share 128 = .ok (.iload_n 3, 1) := by decide +kernel
theorem d_M_share_129 : decode b_M_share 129 = .ok (.istore 6, 2) := by decide +kernel
theorem d_M_share_131 : decode b_M_share 131 = .ok (.aload_n 0, 1) := by decide +kernel
theorem d_M_share_132 : decode b_M_share 132 = .ok (.iload_n 1, 1) := by decide +kernel
theorem d_M_share_133 : decode b_M_share 133 = .ok (.iload 5, 2) := by decide +kernel
theorem d_M_share_135 : decode b_M_share 135 = .ok (.invokevirtual 131, 3) := by decide +kernel
theorem d_M_share_138 : decode b_M_share 138 = .ok (.iload_n 3, 1) := by decide +kernel
theorem d_M_share_139 : decode b_M_share 139 = .ok (.if_icmp .le 14, 3) := by decide +kernel
theorem d_M_share_142 : decode b_M_share 142 = .ok (.iload 4, 2) := by decide +kernel
theorem d_M_share_144 : decode b_M_share 144 = .ok (.ifCond .le 9, 3) := by decide +kernel
theorem d_M_share_147 : decode b_M_share 147 = .ok (.iinc 6 1, 3) := by decide +kernel
theorem d_M_share_150 : decode b_M_share 150 = .ok (.iinc 4 (-1), 3) := by decide +kernel
theorem d_M_share_153 : decode b_M_share 153 = .ok (.iconst 0, 1) := by decide +kernel
theorem d_M_share_154 : decode b_M_share 154 = .ok (.istore 7, 2) := by decide +kernel
theorem d_M_share_156 : decode b_M_share 156 = .ok (.iconst 0, 1) := by decide +kernel
theorem d_M_share_157 : decode b_M_share 157 = .ok (.istore 8, 2) := by decide +kernel
theorem d_M_share_159 : decode b_M_share 159 = .ok (.iload 8, 2) := by decide +kernel
theorem d_M_share_161 : decode b_M_share 161 = .ok (.iconst 4, 1) := by decide +kernel
theorem d_M_share_162 : decode b_M_share 162 = .ok (.if_icmp .ge 50, 3) := by decide +kernel
theorem d_M_share_165 : decode b_M_share 165 = .ok (.aload_n 0, 1) := by decide +kernel
theorem d_M_share_166 : decode b_M_share 166 = .ok (.getfield 65, 3) := by decide +kernel
theorem d_M_share_169 : decode b_M_share 169 = .ok (.iconst 4, 1) := by decide +kernel
theorem d_M_share_170 : decode b_M_share 170 = .ok (.iload_n 1, 1) := by decide +kernel
theorem d_M_share_171 : decode b_M_share 171 = .ok (.imul, 1) := by decide +kernel
theorem d_M_share_172 : decode b_M_share 172 = .ok (.iload 8, 2) := by decide +kernel
theorem d_M_share_174 : decode b_M_share 174 = .ok (.iadd, 1) := by decide +kernel
theorem d_M_share_175 : decode b_M_share 175 = .ok (.iaload, 1) := by decide +kernel
theorem d_M_share_176 : decode b_M_share 176 = .ok (.iload 5, 2) := by decide +kernel
theorem d_M_share_178 : decode b_M_share 178 = .ok (.if_icmp .eq 6, 3) := by decide +kernel
theorem d_M_share_181 : decode b_M_share 181 = .ok (.goto 25, 3) := by decide +kernel
theorem d_M_share_184 : decode b_M_share 184 = .ok (.iinc 7 1, 3) := by decide +kernel
theorem d_M_share_187 : decode b_M_share 187 = .ok (.iload 7, 2) := by decide +kernel
theorem d_M_share_189 : decode b_M_share 189 = .ok (.iload 6, 2) := by decide +kernel
theorem d_M_share_191 : decode b_M_share 191 = .ok (.if_icmp .le 15, 3) := by decide +kernel
theorem d_M_share_194 : decode b_M_share 194 = .ok (.aload_n 0, 1) := by decide +kernel
theorem d_M_share_195 : decode b_M_share 195 = .ok (.getfield 65, 3) := by decide +kernel
theorem d_M_share_198 : decode b_M_share 198 = .ok (.iconst 4, 1) := by decide +kernel
theorem d_M_share_199 : decode b_M_share 199 = .ok (.iload_n 1, 1) := by decide +kernel
theorem d_M_share_200 : decode b_M_share 200 = .ok (.imul, 1) := by decide +kernel
theorem d_M_share_201 : decode b_M_share 201 = .ok (.iload 8, 2) := by decide +kernel
theorem d_M_share_203 : decode b_M_share 203 = .ok (.iadd, 1) := by decide +kernel
theorem d_M_share_204 : decode b_M_share 204 = .ok (.iconst (-1), 1) := by decide +kernel
theorem d_M_share_205 : decode b_M_share 205 = .ok (.iastore, 1) := by decide +kernel
theorem d_M_share_206 : decode b_M_share 206 = .ok (.iinc 8 1, 3) := by decide +kernel
theorem d_M_share_209 : decode b_M_share 209 = .ok (.goto (-50), 3) := by decide +kernel
theorem d_M_share_212 : decode b_M_share 212 = .ok (.iinc 5 1, 3) := by decide +kernel
theorem d_M_share_215 : decode b_M_share 215 = .ok (.goto (-93), 3) := by decide +kernel
theorem d_M_share_218 : decode b_M_share 218 = .ok (.iconst 0, 1) := by decide +kernel
theorem d_M_share_219 : decode b_M_share 219 = .ok (.istore 5, 2) := by decide +kernel
theorem d_M_share_221 : decode b_M_share 221 = .ok (.iload 5, 2) := by decide +kernel
theorem d_M_share_223 : decode b_M_share 223 = .ok (.iconst 4, 1) := by decide +kernel
theorem d_M_share_224 : decode b_M_share 224 = .ok (.if_icmp .ge 39, 3) := by decide +kernel
theorem d_M_share_227 : decode b_M_share 227 = .ok (.aload_n 0, 1) := by decide +kernel
theorem d_M_share_228 : decode b_M_share 228 = .ok (.getfield 65, 3) := by decide +kernel
theorem d_M_share_231 : decode b_M_share 231 = .ok (.iconst 4, 1) := by decide +kernel
theorem d_M_share_232 : decode b_M_share 232 = .ok (.iload_n 1, 1) := by decide +kernel
theorem d_M_share_233 : decode b_M_share 233 = .ok (.imul, 1) := by decide +kernel
theorem d_M_share_234 : decode b_M_share 234 = .ok (.iload 5, 2) := by decide +kernel
theorem d_M_share_236 : decode b_M_share 236 = .ok (.iadd, 1) := by decide +kernel
theorem d_M_share_237 : decode b_M_share 237 = .ok (.iaload, 1) := by decide +kernel
theorem d_M_share_238 : decode b_M_share 238 = .ok (.ifCond .ge 19, 3) := by decide +kernel
theorem d_M_share_241 : decode b_M_share 241 = .ok (.aload_n 0, 1) := by decide +kernel
theorem d_M_share_242 : decode b_M_share 242 = .ok (.getfield 65, 3) := by decide +kernel
theorem d_M_share_245 : decode b_M_share 245 = .ok (.iconst 4, 1) := by decide +kernel
theorem d_M_share_246 : decode b_M_share 246 = .ok (.iload_n 1, 1) := by decide +kernel
theorem d_M_share_247 : decode b_M_share 247 = .ok (.imul, 1) := by decide +kernel
theorem d_M_share_248 : decode b_M_share 248 = .ok (.iload 5, 2) := by decide +kernel
theorem d_M_share_250 : decode b_M_share 250 = .ok (.iadd, 1) := by decide +kernel
theorem d_M_share_251 : decode b_M_share 251 = .ok (.aload_n 0, 1) := by decide +kernel
theorem d_M_share_252 : decode b_M_share 252 = .ok (.iload_n 1, 1) := by decide +kernel
theorem d_M_share_253 : decode b_M_share 253 = .ok (.invokevirtual 134, 3) := by decide +kernel
theorem d_M_share_256 : decode b_M_share 256 = .ok (.iastore, 1) := by decide +kernel
theorem d_M_share_257 : decode b_M_share 257 = .ok (.iinc 5 1, 3) := by decide +kernel
theorem d_M_share_260 : decode b_M_share 260 = .ok (.goto (-39), 3) := by decide +kernel
theorem d_M_share_263 : decode b_M_share 263 = .ok (.return_, 1) := by decide +kernel
theorem d_M_join_0 : decode b_M_join 0 = .ok (.aload_n 0, 1) := by decide +kernel
theorem d_M_join_1 : decode b_M_join 1 = .ok (.iconst 0, 1) := by decide +kernel
theorem d_M_join_2 : decode b_M_join 2 = .ok (.putfield 71, 3) := by decide +kernel
theorem d_M_join_5 : decode b_M_join 5 = .ok (.aload_n 0, 1) := by decide +kernel
theorem d_M_join_6 : decode b_M_join 6 = .ok (.iload_n 1, 1) := by decide +kernel
theorem d_M_join_7 : decode b_M_join 7 = .ok (.iconst 2, 1) := by decide +kernel
theorem d_M_join_8 : decode b_M_join 8 = .ok (.invokevirtual 83, 3) := by decide +kernel
theorem d_M_join_11 : decode b_M_join 11 = .ok (.ifCond .ne 12, 3) := by decide +kernel
theorem d_M_join_14 : decode b_M_join 14 = .ok (.aload_n 0, 1) := by decide +kernel
theorem d_M_join_15 : decode b_M_join 15 = .ok (.iload_n 2, 1) := by decide +kernel
theorem d_M_join_16 : decode b_M_join 16 = .ok (.iconst 4, 1) := by decide +kernel
theorem d_M_join_17 : decode b_M_join 17 = .ok (.invokevirtual 83, 3) := by decide +kernel
theorem d_M_join_20 : decode b_M_join 20 = .ok (.ifCond .eq 9, 3) := by decide +kernel
theorem d_M_join_23 : decode b_M_join 23 = .ok (.aload_n 0, 1) := by decide +kernel
theorem d_M_join_24 : decode b_M_join 24 = .ok (.iconst 1, 1) := by decide +kernel
theorem d_M_join_25 : decode b_M_join 25 = .ok (.invokevirtual 86, 3) := by decide +kernel
theorem d_M_join_28 : decode b_M_join 28 = .ok (.ireturn, 1) := by decide +kernel
theorem d_M_join_29 : decode b_M_join 29 = .ok (.aload_n 0, 1) := by decide +kernel
theorem d_M_join_30 : decode b_M_join 30 = .ok (.getfield 58, 3) := by decide +kernel
theorem d_M_join_33 : decode b_M_join 33 = .ok (.iconst 4, 1) := by decide +kernel
theorem d_M_join_34 : decode b_M_join 34 = .ok (.iload_n 1, 1) := by decide +kernel
theorem d_M_join_35 : decode b_M_join 35 = .ok (.imul, 1) := by decide +kernel
theorem d_M_join_36 : decode b_M_join 36 = .ok (.iload_n 2, 1) := by decide +kernel
theorem d_M_join_37 : decode b_M_join 37 = .ok (.iadd, 1) := by decide +kernel
theorem d_M_join_38 : decode b_M_join 38 = .ok (.baload, 1) := by decide +kernel
theorem d_M_join_39 : decode b_M_join 39 = .ok (.ifCond .eq 9, 3) := by decide +kernel
theorem d_M_join_42 : decode b_M_join 42 = .ok (.aload_n 0, 1) := by decide +kernel
theorem d_M_join_43 : decode b_M_join 43 = .ok (.iconst 2, 1) := by decide +kernel
theorem d_M_join_44 : decode b_M_join 44 = .ok (.invokevirtual 86, 3) := by decide +kernel
theorem d_M_join_47 : decode b_M_join 47 = .ok (.ireturn, 1) := by decide +kernel
theorem d_M_join_48 : decode b_M_join 48 = .ok (.aload_n 0, 1) := by decide +kernel
theorem d_M_join_49 : decode b_M_join 49 = .ok (.getfield 58, 3) := by decide +kernel
theorem d_M_join_52 : decode b_M_join 52 = .ok (.iconst 4, 1) := by decide +kernel
theorem d_M_join_53 : decode b_M_join 53 = .ok (.iload_n 1, 1) := by decide +kernel
theorem d_M_join_54 : decode b_M_join 54 = .ok (.imul, 1) := by decide +kernel
theorem d_M_join_55 : decode b_M_join 55 = .ok (.iload_n 2, 1) := by decide +kernel
theorem d_M_join_56 : decode b_M_join 56 = .ok (.iadd, 1) := by decide +kernel
theorem d_M_join_57 : decode b_M_join 57 = .ok (.iconst 1, 1) := by decide +kernel
theorem d_M_join_58 : decode b_M_join 58 = .ok (.bastore, 1) := by decide +kernel
theorem d_M_join_59 : decode b_M_join 59 = .ok (.aload_n 0, 1) := by decide +kernel
theorem d_M_join_60 : decode b_M_join 60 = .ok (.getfield 62, 3) := by decide +kernel
theorem d_M_join_63 : decode b_M_join 63 = .ok (.iconst 4, 1) := by decide +kernel
theorem d_M_join_64 : decode b_M_join 64 = .ok (.iload_n 1, 1) := by decide +kernel
theorem d_M_join_65 : decode b_M_join 65 = .ok (.imul, 1) := by decide +kernel
theorem d_M_join_66 : decode b_M_join 66 = .ok (.iload_n 2, 1) := by decide +kernel
theorem d_M_join_67 : decode b_M_join 67 = .ok (.iadd, 1) := by decide +kernel
theorem d_M_join_68 : decode b_M_join 68 = .ok (.aload_n 0, 1) := by decide +kernel
theorem d_M_join_69 : decode b_M_join 69 = .ok (.getfield 101, 3) := by decide +kernel
theorem d_M_join_72 : decode b_M_join 72 = .ok (.iastore, 1) := by decide +kernel
theorem d_M_join_73 : decode b_M_join 73 = .ok (.aload_n 0, 1) := by decide +kernel
theorem d_M_join_74 : decode b_M_join 74 = .ok (.iload_n 1, 1) := by decide +kernel
theorem d_M_join_75 : decode b_M_join 75 = .ok (.invokevirtual 137, 3) := by decide +kernel
theorem d_M_join_78 : decode b_M_join 78 = .ok (.aload_n 0, 1) := by decide +kernel
theorem d_M_join_79 : decode b_M_join 79 = .ok (.getfield 55, 3) := by decide +kernel
theorem d_M_join_82 : decode b_M_join 82 = .ok (.iload_n 1, 1) := by decide +kernel
theorem d_M_join_83 : decode b_M_join 83 = .ok (.iaload, 1) := by decide +kernel
theorem d_M_join_84 : decode b_M_join 84 = .ok (.ireturn, 1) := by decide +kernel
theorem d_M_leave_0 : decode b_M_leave 0 = .ok (.aload_n 0, 1) := by decide +kernel
theorem d_M_leave_1 : decode b_M_leave 1 = .ok (.iconst 0, 1) := by decide +kernel
theorem d_M_leave_2 : decode b_M_leave 2 = .ok (.putfield 71, 3) := by decide +kernel
theorem d_M_leave_5 : decode b_M_leave 5 = .ok (.aload_n 0, 1) := by decide +kernel
theorem d_M_leave_6 : decode b_M_leave 6 = .ok (.iload_n 1, 1) := by decide +kernel
theorem d_M_leave_7 : decode b_M_leave 7 = .ok (.iconst 2, 1) := by decide +kernel
theorem d_M_leave_8 : decode b_M_leave 8 = .ok (.invokevirtual 83, 3) := by decide +kernel
theorem d_M_leave_11 : decode b_M_leave 11 = .ok (.ifCond .ne 12, 3) := by decide +kernel
theorem d_M_leave_14 : decode b_M_leave 14 = .ok (.aload_n 0, 1) := by decide +kernel
theorem d_M_leave_15 : decode b_M_leave 15 = .ok (.iload_n 2, 1) := by decide +kernel
theorem d_M_leave_16 : decode b_M_leave 16 = .ok (.iconst 4, 1) := by decide +kernel
theorem d_M_leave_17 : decode b_M_leave 17 = .ok (.invokevirtual 83, 3) := by decide +kernel
theorem d_M_leave_20 : decode b_M_leave 20 = .ok (.ifCond .eq 9, 3) := by decide +kernel
theorem d_M_leave_23 : decode b_M_leave 23 = .ok (.aload_n 0, 1) := by decide +kernel
theorem d_M_leave_24 : decode b_M_leave 24 = .ok (.iconst 1, 1) := by decide +kernel
theorem d_M_leave_25 : decode b_M_leave 25 = .ok (.invokevirtual 86, 3) := by decide +kernel
theorem d_M_leave_28 : decode b_M_leave 28 = .ok (.ireturn, 1) := by decide +kernel
theorem d_M_leave_29 : decode b_M_leave 29 = .ok (.aload_n 0, 1) := by decide +kernel
theorem d_M_leave_30 : decode b_M_leave 30 = .ok (.getfield 58, 3) := by decide +kernel
theorem d_M_leave_33 : decode b_M_leave 33 = .ok (.iconst 4, 1) := by decide +kernel
theorem d_M_leave_34 : decode b_M_leave 34 = .ok (.iload_n 1, 1) := by decide +kernel
theorem d_M_leave_35 : decode b_M_leave 35 = .ok (.imul, 1) := by decide +kernel
theorem d_M_leave_36 : decode b_M_leave 36 = .ok (.iload_n 2, 1) := by decide +kernel
theorem d_M_leave_37 : decode b_M_leave 37 = .ok (.iadd, 1) := by decide +kernel
theorem d_M_leave_38 : decode b_M_leave 38 = .ok (.baload, 1) := by decide +kernel
theorem d_M_leave_39 : decode b_M_leave 39 = .ok (.ifCond .ne 9, 3) := by decide +kernel
theorem d_M_leave_42 : decode b_M_leave 42 = .ok (.aload_n 0, 1) := by decide +kernel
theorem d_M_leave_43 : decode b_M_leave 43 = .ok (.iconst 2, 1) := by decide +kernel
theorem d_M_leave_44 : decode b_M_leave 44 = .ok (.invokevirtual 86, 3) := by decide +kernel
theorem d_M_leave_47 : decode b_M_leave 47 = .ok (.ireturn, 1) := by decide +kernel
theorem d_M_leave_48 : decode b_M_leave 48 = .ok (.aload_n 0, 1) := by decide +kernel
theorem d_M_leave_49 : decode b_M_leave 49 = .ok (.getfield 58, 3) := by decide +kernel
theorem d_M_leave_52 : decode b_M_leave 52 = .ok (.iconst 4, 1) := by decide +kernel
theorem d_M_leave_53 : decode b_M_leave 53 = .ok (.iload_n 1, 1) := by decide +kernel
theorem d_M_leave_54 : decode b_M_leave 54 = .ok (.imul, 1) := by decide +kernel
theorem d_M_leave_55 : decode b_M_leave 55 = .ok (.iload_n 2, 1) := by decide +kernel
theorem d_M_leave_56 : decode b_M_leave 56 = .ok (.iadd, 1) := by decide +kernel
theorem d_M_leave_57 : decode b_M_leave 57 = .ok (.iconst 0, 1) := by decide +kernel
theorem d_M_leave_58 : decode b_M_leave 58 = .ok (.bastore, 1) := by decide +kernel
theorem d_M_leave_59 : decode b_M_leave 59 = .ok (.aload_n 0, 1) := by decide +kernel
theorem d_M_leave_60 : decode b_M_leave 60 = .ok (.iload_n 1, 1) := by decide +kernel
theorem d_M_leave_61 : decode b_M_leave 61 = .ok (.invokevirtual 137, 3) := by decide +kernel
theorem d_M_leave_64 : decode b_M_leave 64 = .ok (.aload_n 0, 1) := by decide +kernel
theorem d_M_leave_65 : decode b_M_leave 65 = .ok (.getfield 55, 3) := by decide +kernel
theorem d_M_leave_68 : decode b_M_leave 68 = .ok (.iload_n 1, 1) := by decide +kernel
theorem d_M_leave_69 : decode b_M_leave 69 = .ok (.iaload, 1) := by decide +kernel
theorem d_M_leave_70 : decode b_M_leave 70 = .ok (.ireturn, 1) := by decide +kernel
theorem d_M_beat_0 : decode b_M_beat 0 = .ok (.aload_n 0, 1) := by decide +kernel
theorem d_M_beat_1 : decode b_M_beat 1 = .ok (.iconst 0, 1) := by decide +kernel
theorem d_M_beat_2 : decode b_M_beat 2 = .ok (.putfield 71, 3) := by decide +kernel
theorem d_M_beat_5 : decode b_M_beat 5 = .ok (.aload_n 0, 1) := by decide +kernel
theorem d_M_beat_6 : decode b_M_beat 6 = .ok (.iload_n 1, 1) := by decide +kernel
theorem d_M_beat_7 : decode b_M_beat 7 = .ok (.iconst 2, 1) := by decide +kernel
theorem d_M_beat_8 : decode b_M_beat 8 = .ok (.invokevirtual 83, 3) := by decide +kernel
theorem d_M_beat_11 : decode b_M_beat 11 = .ok (.ifCond .ne 12, 3) := by decide +kernel
theorem d_M_beat_14 : decode b_M_beat 14 = .ok (.aload_n 0, 1) := by decide +kernel
theorem d_M_beat_15 : decode b_M_beat 15 = .ok (.iload_n 2, 1) := by decide +kernel
theorem d_M_beat_16 : decode b_M_beat 16 = .ok (.iconst 4, 1) := by decide +kernel
theorem d_M_beat_17 : decode b_M_beat 17 = .ok (.invokevirtual 83, 3) := by decide +kernel
theorem d_M_beat_20 : decode b_M_beat 20 = .ok (.ifCond .eq 9, 3) := by decide +kernel
theorem d_M_beat_23 : decode b_M_beat 23 = .ok (.aload_n 0, 1) := by decide +kernel
theorem d_M_beat_24 : decode b_M_beat 24 = .ok (.iconst 1, 1) := by decide +kernel
theorem d_M_beat_25 : decode b_M_beat 25 = .ok (.invokevirtual 86, 3) := by decide +kernel
theorem d_M_beat_28 : decode b_M_beat 28 = .ok (.ireturn, 1) := by decide +kernel
theorem d_M_beat_29 : decode b_M_beat 29 = .ok (.aload_n 0, 1) := by decide +kernel
theorem d_M_beat_30 : decode b_M_beat 30 = .ok (.getfield 58, 3) := by decide +kernel
theorem d_M_beat_33 : decode b_M_beat 33 = .ok (.iconst 4, 1) := by decide +kernel
theorem d_M_beat_34 : decode b_M_beat 34 = .ok (.iload_n 1, 1) := by decide +kernel
theorem d_M_beat_35 : decode b_M_beat 35 = .ok (.imul, 1) := by decide +kernel
theorem d_M_beat_36 : decode b_M_beat 36 = .ok (.iload_n 2, 1) := by decide +kernel
theorem d_M_beat_37 : decode b_M_beat 37 = .ok (.iadd, 1) := by decide +kernel
theorem d_M_beat_38 : decode b_M_beat 38 = .ok (.baload, 1) := by decide +kernel
theorem d_M_beat_39 : decode b_M_beat 39 = .ok (.ifCond .ne 9, 3) := by decide +kernel
theorem d_M_beat_42 : decode b_M_beat 42 = .ok (.aload_n 0, 1) := by decide +kernel
theorem d_M_beat_43 : decode b_M_beat 43 = .ok (.iconst 2, 1) := by decide +kernel
theorem d_M_beat_44 : decode b_M_beat 44 = .ok (.invokevirtual 86, 3) := by decide +kernel
theorem d_M_beat_47 : decode b_M_beat 47 = .ok (.ireturn, 1) := by decide +kernel
theorem d_M_beat_48 : decode b_M_beat 48 = .ok (.iload_n 3, 1) := by decide +kernel
theorem d_M_beat_49 : decode b_M_beat 49 = .ok (.aload_n 0, 1) := by decide +kernel
theorem d_M_beat_50 : decode b_M_beat 50 = .ok (.getfield 55, 3) := by decide +kernel
theorem d_M_beat_53 : decode b_M_beat 53 = .ok (.iload_n 1, 1) := by decide +kernel
theorem d_M_beat_54 : decode b_M_beat 54 = .ok (.iaload, 1) := by decide +kernel
theorem d_M_beat_55 : decode b_M_beat 55 = .ok (.if_icmp .eq 9, 3) := by decide +kernel
theorem d_M_beat_58 : decode b_M_beat 58 = .ok (.aload_n 0, 1) := by decide +kernel
theorem d_M_beat_59 : decode b_M_beat 59 = .ok (.iconst 3, 1) := by decide +kernel
theorem d_M_beat_60 : decode b_M_beat 60 = .ok (.invokevirtual 86, 3) := by decide +kernel
theorem d_M_beat_63 : decode b_M_beat 63 = .ok (.ireturn, 1) := by decide +kernel
theorem d_M_beat_64 : decode b_M_beat 64 = .ok (.aload_n 0, 1) := by decide +kernel
theorem d_M_beat_65 : decode b_M_beat 65 = .ok (.getfield 62, 3) := by decide +kernel
theorem d_M_beat_68 : decode b_M_beat 68 = .ok (.iconst 4, 1) := by decide +kernel
theorem d_M_beat_69 : decode b_M_beat 69 = .ok (.iload_n 1, 1) := by decide +kernel
theorem d_M_beat_70 : decode b_M_beat 70 = .ok (.imul, 1) := by decide +kernel
theorem d_M_beat_71 : decode b_M_beat 71 = .ok (.iload_n 2, 1) := by decide +kernel
theorem d_M_beat_72 : decode b_M_beat 72 = .ok (.iadd, 1) := by decide +kernel
theorem d_M_beat_73 : decode b_M_beat 73 = .ok (.aload_n 0, 1) := by decide +kernel
theorem d_M_beat_74 : decode b_M_beat 74 = .ok (.getfield 101, 3) := by decide +kernel
theorem d_M_beat_77 : decode b_M_beat 77 = .ok (.iastore, 1) := by decide +kernel
theorem d_M_beat_78 : decode b_M_beat 78 = .ok (.iconst 0, 1) := by decide +kernel
theorem d_M_beat_79 : decode b_M_beat 79 = .ok (.istore 4, 2) := by decide +kernel
theorem d_M_beat_81 : decode b_M_beat 81 = .ok (.iconst 0, 1) := by decide +kernel
theorem d_M_beat_82 : decode b_M_beat 82 = .ok (.istore 5, 2) := by decide +kernel
theorem d_M_beat_84 : decode b_M_beat 84 = .ok (.iload 5, 2) := by decide +kernel
theorem d_M_beat_86 : decode b_M_beat 86 = .ok (.iconst 4, 1) := by decide +kernel
theorem d_M_beat_87 : decode b_M_beat 87 = .ok (.if_icmp .ge 37, 3) := by decide +kernel
theorem d_M_beat_90 : decode b_M_beat 90 = .ok (.iload 4, 2) := by decide +kernel
theorem d_M_beat_92 : decode b_M_beat 92 = .ok (.aload_n 0, 1) := by decide +kernel
theorem d_M_beat_93 : decode b_M_beat 93 = .ok (.getfield 65, 3) := by decide +kernel
theorem d_M_beat_96 : decode b_M_beat 96 = .ok (.iconst 4, 1) := by decide +kernel
theorem d_M_beat_97 : decode b_M_beat 97 = .ok (.iload_n 1, 1) := by decide +kernel
theorem d_M_beat_98 : decode b_M_beat 98 = .ok (.imul, 1) := by decide +kernel
theorem d_M_beat_99 : decode b_M_beat 99 = .ok (.iload 5, 2) := by decide +kernel
theorem d_M_beat_101 : decode b_M_beat 101 = .ok (.iadd, 1) := by decide +kernel
theorem d_M_beat_102 : decode b_M_beat 102 = .ok (.iaload, 1) := by decide +kernel
theorem d_M_beat_103 : decode b_M_beat 103 = .ok (.iload_n 2, 1) := by decide +kernel
theorem d_M_beat_104 : decode b_M_beat 104 = .ok (.if_icmp .ne 10, 3) := by decide +kernel
theorem d_M_beat_107 : decode b_M_beat 107 = .ok (.iconst 1, 1) := by decide +kernel
theorem d_M_beat_108 : decode b_M_beat 108 = .ok (.iload 5, 2) := by decide +kernel
theorem d_M_beat_110 : decode b_M_beat 110 = .ok (.ishl, 1) := by decide +kernel
theorem d_M_beat_111 : decode b_M_beat 111 = .ok (.goto 4, 3) := by decide +kernel
theorem d_M_beat_114 : decode b_M_beat 114 = .ok (.iconst 0, 1) := by decide +kernel
theorem d_M_beat_115 : decode b_M_beat 115 = .ok (.ior, 1) := by decide +kernel
theorem d_M_beat_116 : decode b_M_beat 116 = .ok (.istore 4, 2) := by decide +kernel
theorem d_M_beat_118 : decode b_M_beat 118 = .ok (.iinc 5 1, 3) := by decide +kernel
theorem d_M_beat_121 : decode b_M_beat 121 = .ok (.goto (-37), 3) := by decide +kernel
theorem d_M_beat_124 : decode b_M_beat 124 = .ok (.iload 4, 2) := by decide +kernel
theorem d_M_beat_126 : decode b_M_beat 126 = .ok (.ireturn, 1) := by decide +kernel
theorem d_M_mark_0 : decode b_M_mark 0 = .ok (.aload_n 0, 1) := by decide +kernel
theorem d_M_mark_1 : decode b_M_mark 1 = .ok (.iconst 0, 1) := by decide +kernel
theorem d_M_mark_2 : decode b_M_mark 2 = .ok (.putfield 71, 3) := by decide +kernel
theorem d_M_mark_5 : decode b_M_mark 5 = .ok (.aload_n 0, 1) := by decide +kernel
theorem d_M_mark_6 : decode b_M_mark 6 = .ok (.iload_n 1, 1) := by decide +kernel
theorem d_M_mark_7 : decode b_M_mark 7 = .ok (.iconst 2, 1) := by decide +kernel
theorem d_M_mark_8 : decode b_M_mark 8 = .ok (.invokevirtual 83, 3) := by decide +kernel
theorem d_M_mark_11 : decode b_M_mark 11 = .ok (.ifCond .ne 34, 3) := by decide +kernel
theorem d_M_mark_14 : decode b_M_mark 14 = .ok (.aload_n 0, 1) := by decide +kernel
theorem d_M_mark_15 : decode b_M_mark 15 = .ok (.iload_n 2, 1) := by decide +kernel
theorem d_M_mark_16 : decode b_M_mark 16 = .ok (.iconst 4, 1) := by decide +kernel
theorem d_M_mark_17 : decode b_M_mark 17 = .ok (.invokevirtual 83, 3) := by decide +kernel
theorem d_M_mark_20 : decode b_M_mark 20 = .ok (.ifCond .ne 25, 3) := by decide +kernel
theorem d_M_mark_23 : decode b_M_mark 23 = .ok (.aload_n 0, 1) := by decide +kernel
theorem d_M_mark_24 : decode b_M_mark 24 = .ok (.iload 4, 2) := by decide +kernel
theorem d_M_mark_26 : decode b_M_mark 26 = .ok (.iconst 4, 1) := by decide +kernel
theorem d_M_mark_27 : decode b_M_mark 27 = .ok (.invokevirtual 83, 3) := by decide +kernel
theorem d_M_mark_30 : decode b_M_mark 30 = .ok (.ifCond .ne 15, 3) := by decide +kernel
theorem d_M_mark_33 : decode b_M_mark 33 = .ok (.aload_n 0, 1) := by decide +kernel
theorem d_M_mark_34 : decode b_M_mark 34 = .ok (.iload 5, 2) := by decide +kernel
theorem d_M_mark_36 : decode b_M_mark 36 = .ok (.sipush 601, 3) := by decide +kernel
theorem d_M_mark_39 : decode b_M_mark 39 = .ok (.invokevirtual 83, 3) := by decide +kernel
theorem d_M_mark_42 : decode b_M_mark 42 = .ok (.ifCond .eq 9, 3) := by decide +kernel
theorem d_M_mark_45 : decode b_M_mark 45 = .ok (.aload_n 0, 1) := by decide +kernel
theorem d_M_mark_46 : decode b_M_mark 46 = .ok (.iconst 1, 1) := by decide +kernel
theorem d_M_mark_47 : decode b_M_mark 47 = .ok (.invokevirtual 86, 3) := by decide +kernel
theorem d_M_mark_50 : decode b_M_mark 50 = .ok (.ireturn, 1) := by decide +kernel
theorem d_M_mark_51 : decode b_M_mark 51 = .ok (.aload_n 0, 1) := by decide +kernel
theorem d_M_mark_52 : decode b_M_mark 52 = .ok (.getfield 58, 3) := by decide +kernel
theorem d_M_mark_55 : decode b_M_mark 55 = .ok (.iconst 4, 1) := by decide +kernel
theorem d_M_mark_56 : decode b_M_mark 56 = .ok (.iload_n 1, 1) := by decide +kernel
theorem d_M_mark_57 : decode b_M_mark 57 = .ok (.imul, 1) := by decide +kernel
theorem d_M_mark_58 : decode b_M_mark 58 = .ok (.iload_n 2, 1) := by decide +kernel
theorem d_M_mark_59 : decode b_M_mark 59 = .ok (.iadd, 1) := by decide +kernel
theorem d_M_mark_60 : decode b_M_mark 60 = .ok (.baload, 1) := by decide +kernel
theorem d_M_mark_61 : decode b_M_mark 61 = .ok (.ifCond .ne 9, 3) := by decide +kernel
theorem d_M_mark_64 : decode b_M_mark 64 = .ok (.aload_n 0, 1) := by decide +kernel
theorem d_M_mark_65 : decode b_M_mark 65 = .ok (.iconst 2, 1) := by decide +kernel
theorem d_M_mark_66 : decode b_M_mark 66 = .ok (.invokevirtual 86, 3) := by decide +kernel
theorem d_M_mark_69 : decode b_M_mark 69 = .ok (.ireturn, 1) := by decide +kernel
theorem d_M_mark_70 : decode b_M_mark 70 = .ok (.iload_n 3, 1) := by decide +kernel
theorem d_M_mark_71 : decode b_M_mark 71 = .ok (.aload_n 0, 1) := by decide +kernel
theorem d_M_mark_72 : decode b_M_mark 72 = .ok (.getfield 55, 3) := by decide +kernel
theorem d_M_mark_75 : decode b_M_mark 75 = .ok (.iload_n 1, 1) := by decide +kernel
theorem d_M_mark_76 : decode b_M_mark 76 = .ok (.iaload, 1) := by decide +kernel
theorem d_M_mark_77 : decode b_M_mark 77 = .ok (.if_icmp .eq 9, 3) := by decide +kernel
theorem d_M_mark_80 : decode b_M_mark 80 = .ok (.aload_n 0, 1) := by decide +kernel
theorem d_M_mark_81 : decode b_M_mark 81 = .ok (.iconst 3, 1) := by decide +kernel
theorem d_M_mark_82 : decode b_M_mark 82 = .ok (.invokevirtual 86, 3) := by decide +kernel
theorem d_M_mark_85 : decode b_M_mark 85 = .ok (.ireturn, 1) := by decide +kernel
theorem d_M_mark_86 : decode b_M_mark 86 = .ok (.aload_n 0, 1) := by decide +kernel
theorem d_M_mark_87 : decode b_M_mark 87 = .ok (.getfield 65, 3) := by decide +kernel
theorem d_M_mark_90 : decode b_M_mark 90 = .ok (.iconst 4, 1) := by decide +kernel
theorem d_M_mark_91 : decode b_M_mark 91 = .ok (.iload_n 1, 1) := by decide +kernel
theorem d_M_mark_92 : decode b_M_mark 92 = .ok (.imul, 1) := by decide +kernel
theorem d_M_mark_93 : decode b_M_mark 93 = .ok (.iload 4, 2) := by decide +kernel
theorem d_M_mark_95 : decode b_M_mark 95 = .ok (.iadd, 1) := by decide +kernel
theorem d_M_mark_96 : decode b_M_mark 96 = .ok (.iaload, 1) := by decide +kernel
theorem d_M_mark_97 : decode b_M_mark 97 = .ok (.iload_n 2, 1) := by decide +kernel
theorem d_M_mark_98 : decode b_M_mark 98 = .ok (.if_icmp .eq 9, 3) := by decide +kernel
theorem d_M_mark_101 : decode b_M_mark 101 = .ok (.aload_n 0, 1) := by decide +kernel
theorem d_M_mark_102 : decode b_M_mark 102 = .ok (.iconst 4, 1) := by decide +kernel
theorem d_M_mark_103 : decode b_M_mark 103 = .ok (.invokevirtual 86, 3) := by decide +kernel
theorem d_M_mark_106 : decode b_M_mark 106 = .ok (.ireturn, 1) := by decide +kernel
theorem d_M_mark_107 : decode b_M_mark 107 = .ok (.aload_n 0, 1) := by decide +kernel
theorem d_M_mark_108 : decode b_M_mark 108 = .ok (.getfield 68, 3) := by decide +kernel
theorem d_M_mark_111 : decode b_M_mark 111 = .ok (.iconst 4, 1) := by decide +kernel
theorem d_M_mark_112 : decode b_M_mark 112 = .ok (.iload_n 1, 1) := by decide +kernel
theorem d_M_mark_113 : decode b_M_mark 113 = .ok (.imul, 1) := by decide +kernel
theorem d_M_mark_114 : decode b_M_mark 114 = .ok (.iload 4, 2) := by decide +kernel
theorem d_M_mark_116 : decode b_M_mark 116 = .ok (.iadd, 1) := by decide +kernel
theorem d_M_mark_117 : decode b_M_mark 117 = .ok (.iaload, 1) := by decide +kernel
theorem d_M_mark_118 : decode b_M_mark 118 = .ok (.istore 6, 2) := by decide +kernel
theorem d_M_mark_120 : decode b_M_mark 120 = .ok (.aload_n 0, 1) := by decide +kernel
theorem d_M_mark_121 : decode b_M_mark 121 = .ok (.getfield 68, 3) := by decide +kernel
theorem d_M_mark_124 : decode b_M_mark 124 = .ok (.iconst 4, 1) := by decide +kernel
theorem d_M_mark_125 : decode b_M_mark 125 = .ok (.iload_n 1, 1) := by decide +kernel
theorem d_M_mark_126 : decode b_M_mark 126 = .ok (.imul, 1) := by decide +kernel
theorem d_M_mark_127 : decode b_M_mark 127 = .ok (.iload 4, 2) := by decide +kernel
theorem d_M_mark_129 : decode b_M_mark 129 = .ok (.iadd, 1) := by decide +kernel
theorem d_M_mark_130 : decode b_M_mark 130 = .ok (.iload 5, 2) := by decide +kernel
theorem d_M_mark_132 : decode b_M_mark 132 = .ok (.iastore, 1) := by decide +kernel
theorem d_M_mark_133 : decode b_M_mark 133 = .ok (.iload 6, 2) := by decide +kernel
theorem d_M_mark_135 : decode b_M_mark 135 = .ok (.ireturn, 1) := by decide +kernel
theorem d_M_tick_0 : decode b_M_tick 0 = .ok (.aload_n 0, 1) := by decide +kernel
theorem d_M_tick_1 : decode b_M_tick 1 = .ok (.iconst 0, 1) := by decide +kernel
theorem d_M_tick_2 : decode b_M_tick 2 = .ok (.putfield 71, 3) := by decide +kernel
theorem d_M_tick_5 : decode b_M_tick 5 = .ok (.aload_n 0, 1) := by decide +kernel
theorem d_M_tick_6 : decode b_M_tick 6 = .ok (.iload_n 1, 1) := by decide +kernel
theorem d_M_tick_7 : decode b_M_tick 7 = .ok (.bipush 31, 2) := by decide +kernel
theorem d_M_tick_9 : decode b_M_tick 9 = .ok (.invokevirtual 83, 3) := by decide +kernel
theorem d_M_tick_12 : decode b_M_tick 12 = .ok (.ifCond .eq 9, 3) := by decide +kernel
theorem d_M_tick_15 : decode b_M_tick 15 = .ok (.aload_n 0, 1) := by decide +kernel
theorem d_M_tick_16 : decode b_M_tick 16 = .ok (.iconst 1, 1) := by decide +kernel
theorem d_M_tick_17 : decode b_M_tick 17 = .ok (.invokevirtual 86, 3) := by decide +kernel
theorem d_M_tick_20 : decode b_M_tick 20 = .ok (.ireturn, 1) := by decide +kernel
theorem d_M_tick_21 : decode b_M_tick 21 = .ok (.aload_n 0, 1) := by decide +kernel
theorem d_M_tick_22 : decode b_M_tick 22 = .ok (.dup, 1) := by decide +kernel
theorem d_M_tick_23 : decode b_M_tick 23 = .ok (.getfield 101, 3) := by decide +kernel
theorem d_M_tick_26 : decode b_M_tick 26 = .ok (.iload_n 1, 1) := by decide +kernel
theorem d_M_tick_27 : decode b_M_tick 27 = .ok (.iadd, 1) := by decide +kernel
theorem d_M_tick_28 : decode b_M_tick 28 = .ok (.putfield 101, 3) := by decide +kernel
theorem d_M_tick_31 : decode b_M_tick 31 = .ok (.iconst 0, 1) := by decide +kernel
theorem d_M_tick_32 : decode b_M_tick 32 = .ok (.istore_n 2, 1) := by decide +kernel
theorem d_M_tick_33 : decode b_M_tick 33 = .ok (.iconst 0, 1) := by decide +kernel
theorem d_M_tick_34 : decode b_M_tick 34 = .ok (.istore_n 3, 1) := by decide +kernel
theorem d_M_tick_35 : decode b_M_tick 35 = .ok (.iload_n 3, 1) := by decide +kernel
theorem d_M_tick_36 : decode b_M_tick 36 = .ok (.iconst 4, 1) := by decide +kernel
theorem d_M_tick_37 : decode b_M_tick 37 = .ok (.if_icmp .ge 43, 3) := by decide +kernel
theorem d_M_tick_40 : decode b_M_tick 40 = .ok (.aload_n 0, 1) := by decide +kernel
theorem d_M_tick_41 : decode b_M_tick 41 = .ok (.getfield 37, 3) := by decide +kernel
theorem d_M_tick_44 : decode b_M_tick 44 = .ok (.iload_n 3, 1) := by decide +kernel
theorem d_M_tick_45 : decode b_M_tick 45 = .ok (.iaload, 1) := by decide +kernel
theorem d_M_tick_46 : decode b_M_tick 46 = .ok (.iconst 1, 1) := by decide +kernel
theorem d_M_tick_47 : decode b_M_tick 47 = .ok (.if_icmp .ne 27, 3) := by decide +kernel
theorem d_M_tick_50 : decode b_M_tick 50 = .ok (.aload_n 0, 1) := by decide +kernel
theorem d_M_tick_51 : decode b_M_tick 51 = .ok (.getfield 49, 3) := by decide +kernel
theorem d_M_tick_54 : decode b_M_tick 54 = .ok (.iload_n 3, 1) := by decide +kernel
theorem d_M_tick_55 : decode b_M_tick 55 = .ok (.iaload, 1) := by decide +kernel
theorem d_M_tick_56 : decode b_M_tick 56 = .ok (.bipush 30, 2) := by decide +kernel
theorem d_M_tick_58 : decode b_M_tick 58 = .ok (.iadd, 1) := by decide +kernel
theorem d_M_tick_59 : decode b_M_tick 59 = .ok (.aload_n 0, 1) := by decide +kernel
theorem d_M_tick_60 : decode b_M_tick 60 = .ok (.getfield 101, 3) := by decide +kernel
theorem d_M_tick_63 : decode b_M_tick 63 = .ok (.if_icmp .gt 11, 3) := by decide +kernel
theorem d_M_tick_66 : decode b_M_tick 66 = .ok (.aload_n 0, 1) := by decide +kernel
theorem d_M_tick_67 : decode b_M_tick 67 = .ok (.iload_n 3, 1) := by decide +kernel
theorem d_M_tick_68 : decode b_M_tick 68 = .ok (.invokevirtual 90, 3) := by decide +kernel
theorem d_M_tick_71 : decode b_M_tick 71 = .ok (.iinc 2 1, 3) := by decide +kernel
theorem d_M_tick_74 : decode b_M_tick 74 = .ok (.iinc 3 1, 3) := by decide +kernel
theorem d_M_tick_77 : decode b_M_tick 77 = .ok (.goto (-42), 3) := by decide +kernel
theorem d_M_tick_80 : decode b_M_tick 80 = .ok (.iconst 0, 1) := by decide +kernel
theorem d_M_tick_81 : decode b_M_tick 81 = .ok (.istore_n 3, 1) := by decide +kernel
theorem d_M_tick_82 : decode b_M_tick 82 = .ok (.iload_n 3, 1) := by decide +kernel
theorem d_M_tick_83 : decode b_M_tick 83 = .ok (.iconst 2, 1) := by decide +kernel
theorem d_M_tick_84 : decode b_M_tick 84 = .ok (.if_icmp .ge 86, 3) := by decide +kernel
theorem d_M_tick_87 : decode b_M_tick 87 = .ok (.iconst 0, 1) := by decide +kernel
theorem d_M_tick_88 : decode b_M_tick 88 = .ok (.istore 4, 2) := by decide +kernel
theorem d_M_tick_90 : decode b_M_tick 90 = .ok (.iconst 4, 1) := by decide +kernel
theorem d_M_tick_91 : decode b_M_tick 91 = .ok (.iload_n 3, 1) := by decide +kernel
theorem d_M_tick_92 : decode b_M_tick 92 = .ok (.imul, 1) := by decide +kernel
theorem d_M_tick_93 : decode b_M_tick 93 = .ok (.istore 5, 2) := by decide +kernel
theorem d_M_tick_95 : decode b_M_tick 95 = .ok (.iload 5, 2) := by decide +kernel
theorem d_M_tick_97 : decode b_M_tick 97 = .ok (.iconst 4, 1) := by decide +kernel
theorem d_M_tick_98 : decode b_M_tick 98 = .ok (.iload_n 3, 1) := by decide +kernel
theorem d_M_tick_99 : decode b_M_tick 99 = .ok (.imul, 1) := by decide +kernel
theorem d_M_tick_100 : decode b_M_tick 100 = .ok (.iconst 4, 1) := by decide +kernel
theorem d_M_tick_101 : decode b_M_tick 101 = .ok (.iadd, 1) := by decide +kernel
theorem d_M_tick_102 : decode b_M_tick 102 = .ok (.if_icmp .ge 47, 3) := by decide +kernel
theorem d_M_tick_105 : decode b_M_tick 105 = .ok (.aload_n 0, 1) := by decide +kernel
theorem d_M_tick_106 : decode b_M_tick 106 = .ok (.getfield 58, 3) := by decide +kernel
theorem d_M_tick_109 : decode b_M_tick 109 = .ok (.iload 5, 2) := by decide +kernel
theorem d_M_tick_111 : decode b_M_tick 111 = .ok (.baload, 1) := by decide +kernel
theorem d_M_tick_112 : decode b_M_tick 112 = .ok (.ifCond .eq 31, 3) := by decide +kernel
theorem d_M_tick_115 : decode b_M_tick 115 = .ok (.aload_n 0, 1) := by decide +kernel
theorem d_M_tick_116 : decode b_M_tick 116 = .ok (.getfield 62, 3) := by decide +kernel
theorem d_M_tick_119 : decode b_M_tick 119 = .ok (.iload 5, 2) := by decide +kernel
theorem d_M_tick_121 : decode b_M_tick 121 = .ok (.iaload, 1) := by decide +kernel
theorem d_M_tick_122 : decode b_M_tick 122 = .ok (.bipush 20, 2) := by decide +kernel
theorem d_M_tick_124 : decode b_M_tick 124 = .ok (.iadd, 1) := by decide +kernel
theorem d_M_tick_125 : decode b_M_tick 125 = .ok (.aload_n 0, 1) := by decide +kernel
theorem d_M_tick_126 : decode b_M_tick 126 = .ok (.getfield 101, 3) := by decide +kernel
theorem d_M_tick_129 : decode b_M_tick 129 = .ok (.if_icmp .gt 14, 3) := by decide +kernel
theorem d_M_tick_132 : decode b_M_tick 132 = .ok (.aload_n 0, 1) := by decide +kernel
theorem d_M_tick_133 : decode b_M_tick 133 = .ok (.getfield 58, 3) := by decide +kernel
theorem d_M_tick_136 : decode b_M_tick 136 = .ok (.iload 5, 2) := by decide +kernel
theorem d_M_tick_138 : decode b_M_tick 138 = .ok (.iconst 0, 1) := by decide +kernel
theorem d_M_tick_139 : decode b_M_tick 139 = .ok (.bastore, 1) := by decide +kernel
theorem d_M_tick_140 : decode b_M_tick 140 = .ok (.iinc 4 1, 3) := by decide +kernel
theorem d_M_tick_143 : decode b_M_tick 143 = .ok (.iinc 5 1, 3) := by decide +kernel
theorem d_M_tick_146 : decode b_M_tick 146 = .ok (.goto (-51), 3) := by decide +kernel
theorem d_M_tick_149 : decode b_M_tick 149 = .ok (.iload 4, 2) := by decide +kernel
theorem d_M_tick_151 : decode b_M_tick 151 = .ok (.ifCond .le 8, 3) := by decide +kernel
theorem d_M_tick_154 : decode b_M_tick 154 = .ok (.aload_n 0, 1) := by decide +kernel
theorem d_M_tick_155 : decode b_M_tick 155 = .ok (.iload_n 3, 1) := by decide +kernel
theorem d_M_tick_156 : decode b_M_tick 156 = .ok (.invokevirtual 137, 3) := by decide +kernel
theorem d_M_tick_159 : decode b_M_tick 159 = .ok (.iload_n 2, 1) := by decide +kernel
theorem d_M_tick_160 : decode b_M_tick 160 = .ok (.iload 4, 2) := by decide +kernel
theorem d_M_tick_162 : decode b_M_tick 162 = .ok (.iadd, 1) := by decide +kernel
theorem d_M_tick_163 : decode b_M_tick 163 = .ok (.istore_n 2, 1) := by decide +kernel
theorem d_M_tick_164 : decode b_M_tick 164 = .ok (.iinc 3 1, 3) := by decide +kernel
theorem d_M_tick_167 : decode b_M_tick 167 = .ok (.goto (-85), 3) := by decide +kernel
theorem d_M_tick_170 : decode b_M_tick 170 = .ok (.iload_n 2, 1) := by decide +kernel
theorem d_M_tick_171 : decode b_M_tick 171 = .ok (.ireturn, 1) := by decide +kernel
theorem d_M_edge_0 : decode b_M_edge 0 = .ok (.aload_n 0, 1) := by decide +kernel
theorem d_M_edge_1 : decode b_M_edge 1 = .ok (.iconst 0, 1) := by decide +kernel
theorem d_M_edge_2 : decode b_M_edge 2 = .ok (.putfield 71, 3) := by decide +kernel
theorem d_M_edge_5 : decode b_M_edge 5 = .ok (.aload_n 0, 1) := by decide +kernel
theorem d_M_edge_6 : decode b_M_edge 6 = .ok (.iload_n 1, 1) := by decide +kernel
theorem d_M_edge_7 : decode b_M_edge 7 = .ok (.iconst 4, 1) := by decide +kernel
theorem d_M_edge_8 : decode b_M_edge 8 = .ok (.invokevirtual 83, 3) := by decide +kernel
theorem d_M_edge_11 : decode b_M_edge 11 = .ok (.ifCond .ne 13, 3) := by decide +kernel
theorem d_M_edge_14 : decode b_M_edge 14 = .ok (.aload_n 0, 1) := by decide +kernel
theorem d_M_edge_15 : decode b_M_edge 15 = .ok (.iload_n 2, 1) := by decide +kernel
theorem d_M_edge_16 : decode b_M_edge 16 = .ok (.bipush 6, 2) := by decide +kernel
theorem d_M_edge_18 : decode b_M_edge 18 = .ok (.invokevirtual 83, 3) := by decide +kernel
theorem d_M_edge_21 : decode b_M_edge 21 = .ok (.ifCond .eq 9, 3) := by decide +kernel
theorem d_M_edge_24 : decode b_M_edge 24 = .ok (.aload_n 0, 1) := by decide +kernel
theorem d_M_edge_25 : decode b_M_edge 25 = .ok (.iconst 1, 1) := by decide +kernel
theorem d_M_edge_26 : decode b_M_edge 26 = .ok (.invokevirtual 86, 3) := by decide +kernel
theorem d_M_edge_29 : decode b_M_edge 29 = .ok (.ireturn, 1) := by decide +kernel
theorem d_M_edge_30 : decode b_M_edge 30 = .ok (.iload_n 2, 1) := by decide +kernel
theorem d_M_edge_31 : decode b_M_edge 31 = .ok (.tableswitch 56 0 3 #[29, 36, 42, 49], 29) := by decide +kernel
theorem d_M_edge_60 : decode b_M_edge 60 = .ok (.aload_n 0, 1) := by decide +kernel
theorem d_M_edge_61 : decode b_M_edge 61 = .ok (.getfield 31, 3) := by decide +kernel
theorem d_M_edge_64 : decode b_M_edge 64 = .ok (.iload_n 1, 1) := by decide +kernel
theorem d_M_edge_65 : decode b_M_edge 65 = .ok (.iaload, 1) := by decide +kernel
theorem d_M_edge_66 : decode b_M_edge 66 = .ok (.ireturn, 1) := by decide +kernel
theorem d_M_edge_67 : decode b_M_edge 67 = .ok (.aload_n 0, 1) := by decide +kernel
theorem d_M_edge_68 : decode b_M_edge 68 = .ok (.iload_n 1, 1) := by decide +kernel
theorem d_M_edge_69 : decode b_M_edge 69 = .ok (.invokevirtual 125, 3) := by decide +kernel
theorem d_M_edge_72 : decode b_M_edge 72 = .ok (.ireturn, 1) := by decide +kernel
theorem d_M_edge_73 : decode b_M_edge 73 = .ok (.aload_n 0, 1) := by decide +kernel
theorem d_M_edge_74 : decode b_M_edge 74 = .ok (.getfield 34, 3) := by decide +kernel
theorem d_M_edge_77 : decode b_M_edge 77 = .ok (.iload_n 1, 1) := by decide +kernel
theorem d_M_edge_78 : decode b_M_edge 78 = .ok (.iaload, 1) := by decide +kernel
theorem d_M_edge_79 : decode b_M_edge 79 = .ok (.ireturn, 1) := by decide +kernel
theorem d_M_edge_80 : decode b_M_edge 80 = .ok (.aload_n 0, 1) := by decide +kernel
theorem d_M_edge_81 : decode b_M_edge 81 = .ok (.getfield 28, 3) := by decide +kernel
theorem d_M_edge_84 : decode b_M_edge 84 = .ok (.iload_n 1, 1) := by decide +kernel
theorem d_M_edge_85 : decode b_M_edge 85 = .ok (.iaload, 1) := by decide +kernel
theorem d_M_edge_86 : decode b_M_edge 86 = .ok (.ireturn, 1) := by decide +kernel
theorem d_M_edge_87 : decode b_M_edge 87 = .ok (.aload_n 0, 1) := by decide +kernel
theorem d_M_edge_88 : decode b_M_edge 88 = .ok (.getfield 68, 3) := by decide +kernel
theorem d_M_edge_91 : decode b_M_edge 91 = .ok (.iconst 4, 1) := by decide +kernel
theorem d_M_edge_92 : decode b_M_edge 92 = .ok (.iload_n 2, 1) := by decide +kernel
theorem d_M_edge_93 : decode b_M_edge 93 = .ok (.iconst 4, 1) := by decide +kernel
theorem d_M_edge_94 : decode b_M_edge 94 = .ok (.isub, 1) := by decide +kernel
theorem d_M_edge_95 : decode b_M_edge 95 = .ok (.imul, 1) := by decide +kernel
theorem d_M_edge_96 : decode b_M_edge 96 = .ok (.iload_n 1, 1) := by decide +kernel
theorem d_M_edge_97 : decode b_M_edge 97 = .ok (.iadd, 1) := by decide +kernel
theorem d_M_edge_98 : decode b_M_edge 98 = .ok (.iaload, 1) := by decide +kernel
theorem d_M_edge_99 : decode b_M_edge 99 = .ok (.ireturn, 1) := by decide +kernel
theorem d_M_fact_0 : decode b_M_fact 0 = .ok (.aload_n 0, 1) := by decide +kernel
theorem d_M_fact_1 : decode b_M_fact 1 = .ok (.iconst 0, 1) := by decide +kernel
theorem d_M_fact_2 : decode b_M_fact 2 = .ok (.putfield 71, 3) := by decide +kernel
theorem d_M_fact_5 : decode b_M_fact 5 = .ok (.aload_n 0, 1) := by decide +kernel
theorem d_M_fact_6 : decode b_M_fact 6 = .ok (.iload_n 1, 1) := by decide +kernel
theorem d_M_fact_7 : decode b_M_fact 7 = .ok (.iconst 4, 1) := by decide +kernel
theorem d_M_fact_8 : decode b_M_fact 8 = .ok (.invokevirtual 83, 3) := by decide +kernel
theorem d_M_fact_11 : decode b_M_fact 11 = .ok (.ifCond .ne 13, 3) := by decide +kernel
theorem d_M_fact_14 : decode b_M_fact 14 = .ok (.aload_n 0, 1) := by decide +kernel
theorem d_M_fact_15 : decode b_M_fact 15 = .ok (.iload_n 2, 1) := by decide +kernel
theorem d_M_fact_16 : decode b_M_fact 16 = .ok (.bipush 8, 2) := by decide +kernel
theorem d_M_fact_18 : decode b_M_fact 18 = .ok (.invokevirtual 83, 3) := by decide +kernel
theorem d_M_fact_21 : decode b_M_fact 21 = .ok (.ifCond .eq 9, 3) := by decide +kernel
theorem d_M_fact_24 : decode b_M_fact 24 = .ok (.aload_n 0, 1) := by decide +kernel
theorem d_M_fact_25 : decode b_M_fact 25 = .ok (.iconst 1, 1) := by decide +kernel
theorem d_M_fact_26 : decode b_M_fact 26 = .ok (.invokevirtual 86, 3) := by decide +kernel
theorem d_M_fact_29 : decode b_M_fact 29 = .ok (.ireturn, 1) := by decide +kernel
theorem d_M_fact_30 : decode b_M_fact 30 = .ok (.iload_n 2, 1) := by decide +kernel
theorem d_M_fact_31 : decode b_M_fact 31 = .ok (.ifCond .eq 12, 3) := by decide +kernel
theorem d_M_fact_34 : decode b_M_fact 34 = .ok (.aload_n 0, 1) := by decide +kernel
theorem d_M_fact_35 : decode b_M_fact 35 = .ok (.getfield 37, 3) := by decide +kernel
theorem d_M_fact_38 : decode b_M_fact 38 = .ok (.iload_n 1, 1) := by decide +kernel
theorem d_M_fact_39 : decode b_M_fact 39 = .ok (.iaload, 1) := by decide +kernel
theorem d_M_fact_40 : decode b_M_fact 40 = .ok (.ifCond .ge 18, 3) := by decide +kernel
theorem d_M_fact_43 : decode b_M_fact 43 = .ok (.iload_n 2, 1) := by decide +kernel
theorem d_M_fact_44 : decode b_M_fact 44 = .ok (.ifCond .ne 12, 3) := by decide +kernel
theorem d_M_fact_47 : decode b_M_fact 47 = .ok (.aload_n 0, 1) := by decide +kernel
theorem d_M_fact_48 : decode b_M_fact 48 = .ok (.getfield 37, 3) := by decide +kernel
theorem d_M_fact_51 : decode b_M_fact 51 = .ok (.iload_n 1, 1) := by decide +kernel
theorem d_M_fact_52 : decode b_M_fact 52 = .ok (.iaload, 1) := by decide +kernel
theorem d_M_fact_53 : decode b_M_fact 53 = .ok (.goto 4, 3) := by decide +kernel
theorem d_M_fact_56 : decode b_M_fact 56 = .ok (.iconst (-1), 1) := by decide +kernel
theorem d_M_fact_57 : decode b_M_fact 57 = .ok (.ireturn, 1) := by decide +kernel
theorem d_M_fact_58 : decode b_M_fact 58 = .ok (.iload_n 2, 1) := by decide +kernel
theorem d_M_fact_59 : decode b_M_fact 59 = .ok (.iconst 1, 1) := by decide +kernel
theorem d_M_fact_60 : decode b_M_fact 60 = .ok (.if_icmp .ne 10, 3) := by decide +kernel
theorem d_M_fact_63 : decode b_M_fact 63 = .ok (.aload_n 0, 1) := by decide +kernel
theorem d_M_fact_64 : decode b_M_fact 64 = .ok (.getfield 40, 3) := by decide +kernel
theorem d_M_fact_67 : decode b_M_fact 67 = .ok (.iload_n 1, 1) := by decide +kernel
theorem d_M_fact_68 : decode b_M_fact 68 = .ok (.iaload, 1) := by decide +kernel
theorem d_M_fact_69 : decode b_M_fact 69 = .ok (.ireturn, 1) := by decide +kernel
theorem d_M_fact_70 : decode b_M_fact 70 = .ok (.iload_n 2, 1) := by decide +kernel
theorem d_M_fact_71 : decode b_M_fact 71 = .ok (.iconst 4, 1) := by decide +kernel
theorem d_M_fact_72 : decode b_M_fact 72 = .ok (.if_icmp .ge 37, 3) := by decide +kernel
theorem d_M_fact_75 : decode b_M_fact 75 = .ok (.aload_n 0, 1) := by decide +kernel
theorem d_M_fact_76 : decode b_M_fact 76 = .ok (.getfield 37, 3) := by decide +kernel
theorem d_M_fact_79 : decode b_M_fact 79 = .ok (.iload_n 1, 1) := by decide +kernel
theorem d_M_fact_80 : decode b_M_fact 80 = .ok (.iaload, 1) := by decide +kernel
theorem d_M_fact_81 : decode b_M_fact 81 = .ok (.ifCond .ne 7, 3) := by decide +kernel
theorem d_M_fact_84 : decode b_M_fact 84 = .ok (.iconst 0, 1) := by decide +kernel
theorem d_M_fact_85 : decode b_M_fact 85 = .ok (.goto 23, 3) := by decide +kernel
theorem d_M_fact_88 : decode b_M_fact 88 = .ok (.iload_n 2, 1) := by decide +kernel
theorem d_M_fact_89 : decode b_M_fact 89 = .ok (.iconst 2, 1) := by decide +kernel
theorem d_M_fact_90 : decode b_M_fact 90 = .ok (.if_icmp .ne 12, 3) := by decide +kernel
theorem d_M_fact_93 : decode b_M_fact 93 = .ok (.aload_n 0, 1) := by decide +kernel
theorem d_M_fact_94 : decode b_M_fact 94 = .ok (.getfield 43, 3) := by decide +kernel
theorem d_M_fact_97 : decode b_M_fact 97 = .ok (.iload_n 1, 1) := by decide +kernel
theorem d_M_fact_98 : decode b_M_fact 98 = .ok (.iaload, 1) := by decide +kernel
theorem d_M_fact_99 : decode b_M_fact 99 = .ok (.goto 9, 3) := by decide +kernel
theorem d_M_fact_102 : decode b_M_fact 102 = .ok (.aload_n 0, 1) := by decide +kernel
theorem d_M_fact_103 : decode b_M_fact 103 = .ok (.getfield 46, 3) := by decide +kernel
theorem d_M_fact_106 : decode b_M_fact 106 = .ok (.iload_n 1, 1) := by decide +kernel
theorem d_M_fact_107 : decode b_M_fact 107 = .ok (.iaload, 1) := by decide +kernel
theorem d_M_fact_108 : decode b_M_fact 108 = .ok (.ireturn, 1) := by decide +kernel
theorem d_M_fact_109 : decode b_M_fact 109 = .ok (.aload_n 0, 1) := by decide +kernel
theorem d_M_fact_110 : decode b_M_fact 110 = .ok (.iload_n 1, 1) := by decide +kernel
theorem d_M_fact_111 : decode b_M_fact 111 = .ok (.iload_n 2, 1) := by decide +kernel
theorem d_M_fact_112 : decode b_M_fact 112 = .ok (.iconst 4, 1) := by decide +kernel
theorem d_M_fact_113 : decode b_M_fact 113 = .ok (.isub, 1) := by decide +kernel
theorem d_M_fact_114 : decode b_M_fact 114 = .ok (.invokevirtual 107, 3) := by decide +kernel
theorem d_M_fact_117 : decode b_M_fact 117 = .ok (.ireturn, 1) := by decide +kernel
