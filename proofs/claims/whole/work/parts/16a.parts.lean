def y_L_ctor : MethodName := ⟨"FencedBroker$Log", "<init>", "()V"⟩
abbrev b_L_ctor : ByteArray := prog_4_method_1_code
theorem cb_L_ctor : CB y_L_ctor b_L_ctor 1 none 0 := ⟨tm (i := 2) (by decide +kernel), tm (i := 42) (by decide +kernel), ⟨by decide +kernel, by decide +kernel⟩, by decide +kernel⟩
theorem ci_L_11 : CI "FencedBroker$Log" 11 y_A_ctor b_A_ctor 1 0 := ⟨cb_A_ctor, tm (i := 46) (by decide +kernel), tm (i := 47) (by decide +kernel), by decide +kernel⟩
theorem fl_L_12 : FL "FencedBroker$Log" 12 2 0 := ⟨_, _, _, rfl, by decide, Or.inl (tm (i := 73) (by decide +kernel))⟩
theorem flf_L_12 : FLF "FencedBroker$Log" 12 2 0 (.object "java/util/ArrayList") := fun Cn T N h => by
  have e : (Cn, T, N) = ("FencedBroker$Log", q_Log, 4) := Option.some.inj (h.symm.trans (rfl : ccl[2]? = some ("FencedBroker$Log", q_Log, 4)))
  cases e
  exact ⟨by decide, rfl, rfl, by decide +kernel, tm (i := 73) (by decide +kernel)⟩
theorem fl_L_18 : FL "FencedBroker$Log" 18 2 1 := ⟨_, _, _, rfl, by decide, Or.inl (tm (i := 74) (by decide +kernel))⟩
theorem flf_L_18 : FLF "FencedBroker$Log" 18 2 1 (.array .int) := fun Cn T N h => by
  have e : (Cn, T, N) = ("FencedBroker$Log", q_Log, 4) := Option.some.inj (h.symm.trans (rfl : ccl[2]? = some ("FencedBroker$Log", q_Log, 4)))
  cases e
  exact ⟨by decide, rfl, rfl, by decide +kernel, tm (i := 74) (by decide +kernel)⟩
theorem fl_L_22 : FL "FencedBroker$Log" 22 2 2 := ⟨_, _, _, rfl, by decide, Or.inl (tm (i := 75) (by decide +kernel))⟩
theorem flp_L_22 : FLP "FencedBroker$Log" 22 2 2 .int := ⟨fl_L_22, fun Cn T N h => by
  have e : (Cn, T, N) = ("FencedBroker$Log", q_Log, 4) := Option.some.inj (h.symm.trans (rfl : ccl[2]? = some ("FencedBroker$Log", q_Log, 4)))
  cases e
  exact ⟨rfl, by decide +kernel⟩⟩
theorem fl_L_26 : FL "FencedBroker$Log" 26 2 3 := ⟨_, _, _, rfl, by decide, Or.inl (tm (i := 77) (by decide +kernel))⟩
theorem flp_L_26 : FLP "FencedBroker$Log" 26 2 3 .int := ⟨fl_L_26, fun Cn T N h => by
  have e : (Cn, T, N) = ("FencedBroker$Log", q_Log, 4) := Option.some.inj (h.symm.trans (rfl : ccl[2]? = some ("FencedBroker$Log", q_Log, 4)))
  cases e
  exact ⟨rfl, by decide +kernel⟩⟩
theorem cs_L_29 : CS "FencedBroker$Log" 29 y_R_fill b_R_fill 4 none 2 := ⟨cb_R_fill, Or.inl (tm (i := 70) (by decide +kernel)), tm (i := 71) (by decide +kernel)⟩
def y_P_ctor : MethodName := ⟨"FencedBroker$Producer", "<init>", "(I)V"⟩
abbrev b_P_ctor : ByteArray := prog_5_method_1_code
theorem cb_P_ctor : CB y_P_ctor b_P_ctor 2 none 1 := ⟨tm (i := 7) (by decide +kernel), tm (i := 92) (by decide +kernel), ⟨by decide +kernel, by decide +kernel⟩, by decide +kernel⟩
theorem fl_P_11 : FL "FencedBroker$Producer" 11 3 1 := ⟨_, _, _, rfl, by decide, Or.inl (tm (i := 98) (by decide +kernel))⟩
theorem flp_P_11 : FLP "FencedBroker$Producer" 11 3 1 .int := ⟨fl_P_11, fun Cn T N h => by
  have e : (Cn, T, N) = ("FencedBroker$Producer", q_Producer, 7) := Option.some.inj (h.symm.trans (rfl : ccl[3]? = some ("FencedBroker$Producer", q_Producer, 7)))
  cases e
  exact ⟨rfl, by decide +kernel⟩⟩
theorem fl_P_15 : FL "FencedBroker$Producer" 15 3 2 := ⟨_, _, _, rfl, by decide, Or.inl (tm (i := 100) (by decide +kernel))⟩
theorem flp_P_15 : FLP "FencedBroker$Producer" 15 3 2 .int := ⟨fl_P_15, fun Cn T N h => by
  have e : (Cn, T, N) = ("FencedBroker$Producer", q_Producer, 7) := Option.some.inj (h.symm.trans (rfl : ccl[3]? = some ("FencedBroker$Producer", q_Producer, 7)))
  cases e
  exact ⟨rfl, by decide +kernel⟩⟩
theorem fl_P_18 : FL "FencedBroker$Producer" 18 3 3 := ⟨_, _, _, rfl, by decide, Or.inl (tm (i := 103) (by decide +kernel))⟩
theorem flp_P_18 : FLP "FencedBroker$Producer" 18 3 3 .int := ⟨fl_P_18, fun Cn T N h => by
  have e : (Cn, T, N) = ("FencedBroker$Producer", q_Producer, 7) := Option.some.inj (h.symm.trans (rfl : ccl[3]? = some ("FencedBroker$Producer", q_Producer, 7)))
  cases e
  exact ⟨rfl, by decide +kernel⟩⟩
theorem fl_P_21 : FL "FencedBroker$Producer" 21 3 4 := ⟨_, _, _, rfl, by decide, Or.inl (tm (i := 106) (by decide +kernel))⟩
theorem flp_P_21 : FLP "FencedBroker$Producer" 21 3 4 .int := ⟨fl_P_21, fun Cn T N h => by
  have e : (Cn, T, N) = ("FencedBroker$Producer", q_Producer, 7) := Option.some.inj (h.symm.trans (rfl : ccl[3]? = some ("FencedBroker$Producer", q_Producer, 7)))
  cases e
  exact ⟨rfl, by decide +kernel⟩⟩
theorem fl_P_24 : FL "FencedBroker$Producer" 24 3 5 := ⟨_, _, _, rfl, by decide, Or.inl (tm (i := 108) (by decide +kernel))⟩
theorem flp_P_24 : FLP "FencedBroker$Producer" 24 3 5 .int := ⟨fl_P_24, fun Cn T N h => by
  have e : (Cn, T, N) = ("FencedBroker$Producer", q_Producer, 7) := Option.some.inj (h.symm.trans (rfl : ccl[3]? = some ("FencedBroker$Producer", q_Producer, 7)))
  cases e
  exact ⟨rfl, by decide +kernel⟩⟩
theorem fl_P_27 : FL "FencedBroker$Producer" 27 3 6 := ⟨_, _, _, rfl, by decide, Or.inl (tm (i := 110) (by decide +kernel))⟩
theorem flf_P_27 : FLF "FencedBroker$Producer" 27 3 6 (.array .int) := fun Cn T N h => by
  have e : (Cn, T, N) = ("FencedBroker$Producer", q_Producer, 7) := Option.some.inj (h.symm.trans (rfl : ccl[3]? = some ("FencedBroker$Producer", q_Producer, 7)))
  cases e
  exact ⟨by decide, rfl, rfl, by decide +kernel, tm (i := 110) (by decide +kernel)⟩
theorem fl_P_31 : FL "FencedBroker$Producer" 31 3 0 := ⟨_, _, _, rfl, by decide, Or.inl (tm (i := 95) (by decide +kernel))⟩
theorem flf_P_31 : FLF "FencedBroker$Producer" 31 3 0 .int := fun Cn T N h => by
  have e : (Cn, T, N) = ("FencedBroker$Producer", q_Producer, 7) := Option.some.inj (h.symm.trans (rfl : ccl[3]? = some ("FencedBroker$Producer", q_Producer, 7)))
  cases e
  exact ⟨by decide, rfl, rfl, by decide +kernel, tm (i := 95) (by decide +kernel)⟩
theorem cs_P_34 : CS "FencedBroker$Producer" 34 y_R_fill b_R_fill 4 none 2 := ⟨cb_R_fill, Or.inl (tm (i := 94) (by decide +kernel)), tm (i := 71) (by decide +kernel)⟩
def y_G_ctor : MethodName := ⟨"FencedBroker$Group", "<init>", "()V"⟩
abbrev b_G_ctor : ByteArray := prog_3_method_1_code
theorem cb_G_ctor : CB y_G_ctor b_G_ctor 1 none 0 := ⟨tm (i := 8) (by decide +kernel), tm (i := 129) (by decide +kernel), ⟨by decide +kernel, by decide +kernel⟩, by decide +kernel⟩
theorem fl_G_9 : FL "FencedBroker$Group" 9 1 0 := ⟨_, _, _, rfl, by decide, Or.inl (tm (i := 132) (by decide +kernel))⟩
theorem flp_G_9 : FLP "FencedBroker$Group" 9 1 0 .int := ⟨fl_G_9, fun Cn T N h => by
  have e : (Cn, T, N) = ("FencedBroker$Group", q_Group, 5) := Option.some.inj (h.symm.trans (rfl : ccl[1]? = some ("FencedBroker$Group", q_Group, 5)))
  cases e
  exact ⟨rfl, by decide +kernel⟩⟩
theorem fl_G_15 : FL "FencedBroker$Group" 15 1 1 := ⟨_, _, _, rfl, by decide, Or.inl (tm (i := 134) (by decide +kernel))⟩
theorem flf_G_15 : FLF "FencedBroker$Group" 15 1 1 (.array .boolean) := fun Cn T N h => by
  have e : (Cn, T, N) = ("FencedBroker$Group", q_Group, 5) := Option.some.inj (h.symm.trans (rfl : ccl[1]? = some ("FencedBroker$Group", q_Group, 5)))
  cases e
  exact ⟨by decide, rfl, rfl, by decide +kernel, tm (i := 134) (by decide +kernel)⟩
theorem fl_G_19 : FL "FencedBroker$Group" 19 1 2 := ⟨_, _, _, rfl, by decide, Or.inl (tm (i := 135) (by decide +kernel))⟩
theorem flf_G_19 : FLF "FencedBroker$Group" 19 1 2 (.array .int) := fun Cn T N h => by
  have e : (Cn, T, N) = ("FencedBroker$Group", q_Group, 5) := Option.some.inj (h.symm.trans (rfl : ccl[1]? = some ("FencedBroker$Group", q_Group, 5)))
  cases e
  exact ⟨by decide, rfl, rfl, by decide +kernel, tm (i := 135) (by decide +kernel)⟩
theorem fl_G_23 : FL "FencedBroker$Group" 23 1 3 := ⟨_, _, _, rfl, by decide, Or.inl (tm (i := 136) (by decide +kernel))⟩
theorem flf_G_23 : FLF "FencedBroker$Group" 23 1 3 (.array .int) := fun Cn T N h => by
  have e : (Cn, T, N) = ("FencedBroker$Group", q_Group, 5) := Option.some.inj (h.symm.trans (rfl : ccl[1]? = some ("FencedBroker$Group", q_Group, 5)))
  cases e
  exact ⟨by decide, rfl, rfl, by decide +kernel, tm (i := 136) (by decide +kernel)⟩
theorem fl_G_26 : FL "FencedBroker$Group" 26 1 4 := ⟨_, _, _, rfl, by decide, Or.inl (tm (i := 138) (by decide +kernel))⟩
theorem flf_G_26 : FLF "FencedBroker$Group" 26 1 4 (.array .int) := fun Cn T N h => by
  have e : (Cn, T, N) = ("FencedBroker$Group", q_Group, 5) := Option.some.inj (h.symm.trans (rfl : ccl[1]? = some ("FencedBroker$Group", q_Group, 5)))
  cases e
  exact ⟨by decide, rfl, rfl, by decide +kernel, tm (i := 138) (by decide +kernel)⟩
theorem cs_G_29 : CS "FencedBroker$Group" 29 y_R_fill b_R_fill 4 none 2 := ⟨cb_R_fill, Or.inl (tm (i := 131) (by decide +kernel)), tm (i := 71) (by decide +kernel)⟩
def y_P_isEnding : MethodName := ⟨"FencedBroker$Producer", "isEnding", "()Z"⟩
abbrev b_P_isEnding : ByteArray := prog_5_method_6_code
theorem cb_P_isEnding : CB y_P_isEnding b_P_isEnding 1 (some .boolean) 0 := ⟨tm (i := 7) (by decide +kernel), tm (i := 182) (by decide +kernel), ⟨by decide +kernel, by decide +kernel⟩, by decide +kernel⟩
def y_P_isCommitting : MethodName := ⟨"FencedBroker$Producer", "isCommitting", "()Z"⟩
abbrev b_P_isCommitting : ByteArray := prog_5_method_5_code
theorem cb_P_isCommitting : CB y_P_isCommitting b_P_isCommitting 1 (some .boolean) 0 := ⟨tm (i := 7) (by decide +kernel), tm (i := 190) (by decide +kernel), ⟨by decide +kernel, by decide +kernel⟩, by decide +kernel⟩
def y_P_commitPending : MethodName := ⟨"FencedBroker$Producer", "commitPending", "(I[I)V"⟩
abbrev b_P_commitPending : ByteArray := prog_5_method_15_code
theorem cb_P_commitPending : CB y_P_commitPending b_P_commitPending 5 none 2 := ⟨tm (i := 7) (by decide +kernel), tm (i := 194) (by decide +kernel), ⟨by decide +kernel, by decide +kernel⟩, by decide +kernel⟩
def y_P_becomeIdle : MethodName := ⟨"FencedBroker$Producer", "becomeIdle", "()V"⟩
abbrev b_P_becomeIdle : ByteArray := prog_5_method_11_code
theorem cb_P_becomeIdle : CB y_P_becomeIdle b_P_becomeIdle 1 none 0 := ⟨tm (i := 7) (by decide +kernel), tm (i := 198) (by decide +kernel), ⟨by decide +kernel, by decide +kernel⟩, by decide +kernel⟩
def y_B_has : MethodName := ⟨"FencedBroker", "has", "(II)Z"⟩
abbrev b_B_has : ByteArray := prog_1_method_23_code
theorem cb_B_has : CB y_B_has b_B_has 2 (some .boolean) 2 := ⟨tm (i := 1) (by decide +kernel), tm (i := 201) (by decide +kernel), ⟨by decide +kernel, by decide +kernel⟩, by decide +kernel⟩
def y_L_hasMarker : MethodName := ⟨"FencedBroker$Log", "hasMarker", "(I)Z"⟩
abbrev b_L_hasMarker : ByteArray := prog_4_method_6_code
theorem cb_L_hasMarker : CB y_L_hasMarker b_L_hasMarker 2 (some .boolean) 1 := ⟨tm (i := 2) (by decide +kernel), tm (i := 213) (by decide +kernel), ⟨by decide +kernel, by decide +kernel⟩, by decide +kernel⟩
def y_L_hasEnded : MethodName := ⟨"FencedBroker$Log", "hasEnded", "(I)Z"⟩
abbrev b_L_hasEnded : ByteArray := prog_4_method_7_code
theorem cb_L_hasEnded : CB y_L_hasEnded b_L_hasEnded 2 (some .boolean) 1 := ⟨tm (i := 2) (by decide +kernel), tm (i := 209) (by decide +kernel), ⟨by decide +kernel, by decide +kernel⟩, by decide +kernel⟩
theorem cv_L_56 : CV "FencedBroker$Log" 56 y_L_hasMarker b_L_hasMarker 2 (some .boolean) 1 := ⟨cb_L_hasMarker, tm (i := 210) (by decide +kernel), tm (i := 211) (by decide +kernel), tm (i := 212) (by decide +kernel)⟩
def y_P_untouch : MethodName := ⟨"FencedBroker$Producer", "untouch", "(I)V"⟩
abbrev b_P_untouch : ByteArray := prog_5_method_13_code
theorem cb_P_untouch : CB y_P_untouch b_P_untouch 2 none 1 := ⟨tm (i := 7) (by decide +kernel), tm (i := 217) (by decide +kernel), ⟨by decide +kernel, by decide +kernel⟩, by decide +kernel⟩
def y_E_ctor : MethodName := ⟨"FencedBroker$Entry", "<init>", "(IIIIII)V"⟩
abbrev b_E_ctor : ByteArray := prog_2_method_1_code
theorem cb_E_ctor : CB y_E_ctor b_E_ctor 7 none 6 := ⟨tm (i := 19) (by decide +kernel), tm (i := 230) (by decide +kernel), ⟨by decide +kernel, by decide +kernel⟩, by decide +kernel⟩
theorem fl_E_9 : FL "FencedBroker$Entry" 9 0 0 := ⟨_, _, _, rfl, by decide, Or.inl (tm (i := 232) (by decide +kernel))⟩
theorem flf_E_9 : FLF "FencedBroker$Entry" 9 0 0 .int := fun Cn T N h => by
  have e : (Cn, T, N) = ("FencedBroker$Entry", q_Entry, 6) := Option.some.inj (h.symm.trans (rfl : ccl[0]? = some ("FencedBroker$Entry", q_Entry, 6)))
  cases e
  exact ⟨by decide, rfl, rfl, by decide +kernel, tm (i := 232) (by decide +kernel)⟩
theorem fl_E_15 : FL "FencedBroker$Entry" 15 0 1 := ⟨_, _, _, rfl, by decide, Or.inl (tm (i := 234) (by decide +kernel))⟩
theorem flf_E_15 : FLF "FencedBroker$Entry" 15 0 1 .int := fun Cn T N h => by
  have e : (Cn, T, N) = ("FencedBroker$Entry", q_Entry, 6) := Option.some.inj (h.symm.trans (rfl : ccl[0]? = some ("FencedBroker$Entry", q_Entry, 6)))
  cases e
  exact ⟨by decide, rfl, rfl, by decide +kernel, tm (i := 234) (by decide +kernel)⟩
theorem fl_E_18 : FL "FencedBroker$Entry" 18 0 2 := ⟨_, _, _, rfl, by decide, Or.inl (tm (i := 236) (by decide +kernel))⟩
theorem flf_E_18 : FLF "FencedBroker$Entry" 18 0 2 .int := fun Cn T N h => by
  have e : (Cn, T, N) = ("FencedBroker$Entry", q_Entry, 6) := Option.some.inj (h.symm.trans (rfl : ccl[0]? = some ("FencedBroker$Entry", q_Entry, 6)))
  cases e
  exact ⟨by decide, rfl, rfl, by decide +kernel, tm (i := 236) (by decide +kernel)⟩
theorem fl_E_21 : FL "FencedBroker$Entry" 21 0 3 := ⟨_, _, _, rfl, by decide, Or.inl (tm (i := 237) (by decide +kernel))⟩
theorem flf_E_21 : FLF "FencedBroker$Entry" 21 0 3 .int := fun Cn T N h => by
  have e : (Cn, T, N) = ("FencedBroker$Entry", q_Entry, 6) := Option.some.inj (h.symm.trans (rfl : ccl[0]? = some ("FencedBroker$Entry", q_Entry, 6)))
  cases e
  exact ⟨by decide, rfl, rfl, by decide +kernel, tm (i := 237) (by decide +kernel)⟩
theorem fl_E_24 : FL "FencedBroker$Entry" 24 0 4 := ⟨_, _, _, rfl, by decide, Or.inl (tm (i := 238) (by decide +kernel))⟩
theorem flf_E_24 : FLF "FencedBroker$Entry" 24 0 4 .int := fun Cn T N h => by
  have e : (Cn, T, N) = ("FencedBroker$Entry", q_Entry, 6) := Option.some.inj (h.symm.trans (rfl : ccl[0]? = some ("FencedBroker$Entry", q_Entry, 6)))
  cases e
  exact ⟨by decide, rfl, rfl, by decide +kernel, tm (i := 238) (by decide +kernel)⟩
theorem fl_E_27 : FL "FencedBroker$Entry" 27 0 5 := ⟨_, _, _, rfl, by decide, Or.inl (tm (i := 240) (by decide +kernel))⟩
theorem flf_E_27 : FLF "FencedBroker$Entry" 27 0 5 .int := fun Cn T N h => by
  have e : (Cn, T, N) = ("FencedBroker$Entry", q_Entry, 6) := Option.some.inj (h.symm.trans (rfl : ccl[0]? = some ("FencedBroker$Entry", q_Entry, 6)))
  cases e
  exact ⟨by decide, rfl, rfl, by decide +kernel, tm (i := 240) (by decide +kernel)⟩
def y_E_ofMarker : MethodName := ⟨"FencedBroker$Entry", "ofMarker", "(IZ)LFencedBroker$Entry;"⟩
abbrev b_E_ofMarker : ByteArray := prog_2_method_4_code
theorem cb_E_ofMarker : CB y_E_ofMarker b_E_ofMarker 2 (some (.object "FencedBroker$Entry")) 2 := ⟨tm (i := 19) (by decide +kernel), tm (i := 225) (by decide +kernel), ⟨by decide +kernel, by decide +kernel⟩, by decide +kernel⟩
theorem ci_E_30 : CI "FencedBroker$Entry" 30 y_E_ctor b_E_ctor 7 6 := ⟨cb_E_ctor, tm (i := 228) (by decide +kernel), tm (i := 229) (by decide +kernel), by decide +kernel⟩
def y_L_length : MethodName := ⟨"FencedBroker$Log", "length", "()I"⟩
abbrev b_L_length : ByteArray := prog_4_method_2_code
theorem cb_L_length : CB y_L_length b_L_length 1 (some .int) 0 := ⟨tm (i := 2) (by decide +kernel), tm (i := 321) (by decide +kernel), ⟨by decide +kernel, by decide +kernel⟩, by decide +kernel⟩
theorem cv_L_35 : CV "FencedBroker$Log" 35 y_A_size b_A_size 1 (some .int) 0 := ⟨cb_A_size, tm (i := 322) (by decide +kernel), tm (i := 323) (by decide +kernel), tm (i := 324) (by decide +kernel)⟩
def y_L_put : MethodName := ⟨"FencedBroker$Log", "put", "(LFencedBroker$Entry;)I"⟩
abbrev b_L_put : ByteArray := prog_4_method_4_code
theorem cb_L_put : CB y_L_put b_L_put 2 (some .int) 1 := ⟨tm (i := 2) (by decide +kernel), tm (i := 258) (by decide +kernel), ⟨by decide +kernel, by decide +kernel⟩, by decide +kernel⟩
theorem cv_L_42 : CV "FencedBroker$Log" 42 y_A_add b_A_add 2 (some .boolean) 1 := ⟨cb_A_add, tm (i := 259) (by decide +kernel), tm (i := 260) (by decide +kernel), tm (i := 261) (by decide +kernel)⟩
theorem cv_L_39 : CV "FencedBroker$Log" 39 y_L_length b_L_length 1 (some .int) 0 := ⟨cb_L_length, tm (i := 318) (by decide +kernel), tm (i := 319) (by decide +kernel), tm (i := 320) (by decide +kernel)⟩
def y_L_putMarker : MethodName := ⟨"FencedBroker$Log", "putMarker", "(IZ)V"⟩
abbrev b_L_putMarker : ByteArray := prog_4_method_5_code
theorem cb_L_putMarker : CB y_L_putMarker b_L_putMarker 3 none 2 := ⟨tm (i := 2) (by decide +kernel), tm (i := 222) (by decide +kernel), ⟨by decide +kernel, by decide +kernel⟩, by decide +kernel⟩
theorem cs_L_46 : CS "FencedBroker$Log" 46 y_E_ofMarker b_E_ofMarker 2 (some (.object "FencedBroker$Entry")) 2 := ⟨cb_E_ofMarker, Or.inl (tm (i := 223) (by decide +kernel)), tm (i := 224) (by decide +kernel)⟩
theorem cv_L_52 : CV "FencedBroker$Log" 52 y_L_put b_L_put 2 (some .int) 1 := ⟨cb_L_put, tm (i := 255) (by decide +kernel), tm (i := 256) (by decide +kernel), tm (i := 257) (by decide +kernel)⟩
def y_P_isOpen : MethodName := ⟨"FencedBroker$Producer", "isOpen", "()Z"⟩
abbrev b_P_isOpen : ByteArray := prog_5_method_4_code
theorem cb_P_isOpen : CB y_P_isOpen b_P_isOpen 1 (some .boolean) 0 := ⟨tm (i := 7) (by decide +kernel), tm (i := 431) (by decide +kernel), ⟨by decide +kernel, by decide +kernel⟩, by decide +kernel⟩
def y_P_fence : MethodName := ⟨"FencedBroker$Producer", "fence", "()V"⟩
abbrev b_P_fence : ByteArray := prog_5_method_10_code
theorem cb_P_fence : CB y_P_fence b_P_fence 1 none 0 := ⟨tm (i := 7) (by decide +kernel), tm (i := 435) (by decide +kernel), ⟨by decide +kernel, by decide +kernel⟩, by decide +kernel⟩
def y_P_renew : MethodName := ⟨"FencedBroker$Producer", "renew", "()I"⟩
abbrev b_P_renew : ByteArray := prog_5_method_7_code
theorem cb_P_renew : CB y_P_renew b_P_renew 1 (some .int) 0 := ⟨tm (i := 7) (by decide +kernel), tm (i := 440) (by decide +kernel), ⟨by decide +kernel, by decide +kernel⟩, by decide +kernel⟩
def y_P_isKnown : MethodName := ⟨"FencedBroker$Producer", "isKnown", "()Z"⟩
abbrev b_P_isKnown : ByteArray := prog_5_method_2_code
theorem cb_P_isKnown : CB y_P_isKnown b_P_isKnown 1 (some .boolean) 0 := ⟨tm (i := 7) (by decide +kernel), tm (i := 456) (by decide +kernel), ⟨by decide +kernel, by decide +kernel⟩, by decide +kernel⟩
def y_P_isIdle : MethodName := ⟨"FencedBroker$Producer", "isIdle", "()Z"⟩
abbrev b_P_isIdle : ByteArray := prog_5_method_3_code
theorem cb_P_isIdle : CB y_P_isIdle b_P_isIdle 1 (some .boolean) 0 := ⟨tm (i := 7) (by decide +kernel), tm (i := 477) (by decide +kernel), ⟨by decide +kernel, by decide +kernel⟩, by decide +kernel⟩
def y_P_open : MethodName := ⟨"FencedBroker$Producer", "open", "(II)V"⟩
abbrev b_P_open : ByteArray := prog_5_method_8_code
theorem cb_P_open : CB y_P_open b_P_open 3 none 2 := ⟨tm (i := 7) (by decide +kernel), tm (i := 483) (by decide +kernel), ⟨by decide +kernel, by decide +kernel⟩, by decide +kernel⟩
def y_E_isDataOf : MethodName := ⟨"FencedBroker$Entry", "isDataOf", "(II)Z"⟩
abbrev b_E_isDataOf : ByteArray := prog_2_method_6_code
theorem cb_E_isDataOf : CB y_E_isDataOf b_E_isDataOf 3 (some .boolean) 2 := ⟨tm (i := 19) (by decide +kernel), tm (i := 519) (by decide +kernel), ⟨by decide +kernel, by decide +kernel⟩, by decide +kernel⟩
def y_L_recentOffset : MethodName := ⟨"FencedBroker$Log", "recentOffset", "(III)I"⟩
abbrev b_L_recentOffset : ByteArray := prog_4_method_12_code
theorem cb_L_recentOffset : CB y_L_recentOffset b_L_recentOffset 7 (some .int) 3 := ⟨tm (i := 2) (by decide +kernel), tm (i := 500) (by decide +kernel), ⟨by decide +kernel, by decide +kernel⟩, by decide +kernel⟩
theorem cv_L_63 : CV "FencedBroker$Log" 63 y_A_get b_A_get 2 (some (.object "java/lang/Object")) 1 := ⟨cb_A_get, tm (i := 501) (by decide +kernel), tm (i := 502) (by decide +kernel), tm (i := 503) (by decide +kernel)⟩
theorem cv_L_81 : CV "FencedBroker$Log" 81 y_E_isDataOf b_E_isDataOf 3 (some .boolean) 2 := ⟨cb_E_isDataOf, tm (i := 516) (by decide +kernel), tm (i := 517) (by decide +kernel), tm (i := 518) (by decide +kernel)⟩
theorem fl_L_85 : FL "FencedBroker$Log" 85 0 4 := ⟨_, _, _, rfl, by decide, Or.inr (Or.inl ⟨_, tm (i := 239) (by show tables_1[239]? = some (Cond.fieldLinkNest "FencedBroker$Log" 85 "FencedBroker$Entry" "sequence" "I" "FencedBroker"); decide +kernel)⟩)⟩
def y_L_nextSequence : MethodName := ⟨"FencedBroker$Log", "nextSequence", "(II)I"⟩
abbrev b_L_nextSequence : ByteArray := prog_4_method_11_code
theorem cb_L_nextSequence : CB y_L_nextSequence b_L_nextSequence 5 (some .int) 2 := ⟨tm (i := 2) (by decide +kernel), tm (i := 526) (by decide +kernel), ⟨by decide +kernel, by decide +kernel⟩, by decide +kernel⟩
def y_L_isFull : MethodName := ⟨"FencedBroker$Log", "isFull", "()Z"⟩
abbrev b_L_isFull : ByteArray := prog_4_method_3_code
theorem cb_L_isFull : CB y_L_isFull b_L_isFull 1 (some .boolean) 0 := ⟨tm (i := 2) (by decide +kernel), tm (i := 549) (by decide +kernel), ⟨by decide +kernel, by decide +kernel⟩, by decide +kernel⟩
def y_E_ofProducer : MethodName := ⟨"FencedBroker$Entry", "ofProducer", "(LFencedBroker$Producer;II)LFencedBroker$Entry;"⟩
abbrev b_E_ofProducer : ByteArray := prog_2_method_3_code
theorem cb_E_ofProducer : CB y_E_ofProducer b_E_ofProducer 3 (some (.object "FencedBroker$Entry")) 3 := ⟨tm (i := 19) (by decide +kernel), tm (i := 553) (by decide +kernel), ⟨by decide +kernel, by decide +kernel⟩, by decide +kernel⟩
theorem fl_E_33 : FL "FencedBroker$Entry" 33 3 3 := ⟨_, _, _, rfl, by decide, Or.inr (Or.inl ⟨_, tm (i := 104) (by show tables_1[104]? = some (Cond.fieldLinkNest "FencedBroker$Entry" 33 "FencedBroker$Producer" "transaction" "I" "FencedBroker"); decide +kernel)⟩)⟩
theorem fl_E_36 : FL "FencedBroker$Entry" 36 3 0 := ⟨_, _, _, rfl, by decide, Or.inr (Or.inl ⟨_, tm (i := 96) (by show tables_1[96]? = some (Cond.fieldLinkNest "FencedBroker$Entry" 36 "FencedBroker$Producer" "name" "I" "FencedBroker"); decide +kernel)⟩)⟩
theorem fl_E_37 : FL "FencedBroker$Entry" 37 3 2 := ⟨_, _, _, rfl, by decide, Or.inr (Or.inl ⟨_, tm (i := 101) (by show tables_1[101]? = some (Cond.fieldLinkNest "FencedBroker$Entry" 37 "FencedBroker$Producer" "age" "I" "FencedBroker"); decide +kernel)⟩)⟩
def y_P_touch : MethodName := ⟨"FencedBroker$Producer", "touch", "(I)V"⟩
abbrev b_P_touch : ByteArray := prog_5_method_12_code
theorem cb_P_touch : CB y_P_touch b_P_touch 2 none 1 := ⟨tm (i := 7) (by decide +kernel), tm (i := 558) (by decide +kernel), ⟨by decide +kernel, by decide +kernel⟩, by decide +kernel⟩
def y_P_putPending : MethodName := ⟨"FencedBroker$Producer", "putPending", "(III)I"⟩
abbrev b_P_putPending : ByteArray := prog_5_method_14_code
theorem cb_P_putPending : CB y_P_putPending b_P_putPending 9 (some .int) 3 := ⟨tm (i := 7) (by decide +kernel), tm (i := 569) (by decide +kernel), ⟨by decide +kernel, by decide +kernel⟩, by decide +kernel⟩
def y_E_isData : MethodName := ⟨"FencedBroker$Entry", "isData", "()Z"⟩
abbrev b_E_isData : ByteArray := prog_2_method_5_code
theorem cb_E_isData : CB y_E_isData b_E_isData 1 (some .boolean) 0 := ⟨tm (i := 19) (by decide +kernel), tm (i := 588) (by decide +kernel), ⟨by decide +kernel, by decide +kernel⟩, by decide +kernel⟩
def y_L_hasUncopied : MethodName := ⟨"FencedBroker$Log", "hasUncopied", "(I)Z"⟩
abbrev b_L_hasUncopied : ByteArray := prog_4_method_13_code
theorem cb_L_hasUncopied : CB y_L_hasUncopied b_L_hasUncopied 4 (some .boolean) 1 := ⟨tm (i := 2) (by decide +kernel), tm (i := 584) (by decide +kernel), ⟨by decide +kernel, by decide +kernel⟩, by decide +kernel⟩
theorem cv_L_70 : CV "FencedBroker$Log" 70 y_E_isData b_E_isData 1 (some .boolean) 0 := ⟨cb_E_isData, tm (i := 585) (by decide +kernel), tm (i := 586) (by decide +kernel), tm (i := 587) (by decide +kernel)⟩
theorem fl_L_74 : FL "FencedBroker$Log" 74 0 1 := ⟨_, _, _, rfl, by decide, Or.inr (Or.inl ⟨_, tm (i := 235) (by show tables_1[235]? = some (Cond.fieldLinkNest "FencedBroker$Log" 74 "FencedBroker$Entry" "transaction" "I" "FencedBroker"); decide +kernel)⟩)⟩
def y_P_startEnding : MethodName := ⟨"FencedBroker$Producer", "startEnding", "(Z)V"⟩
abbrev b_P_startEnding : ByteArray := prog_5_method_9_code
theorem cb_P_startEnding : CB y_P_startEnding b_P_startEnding 2 none 1 := ⟨tm (i := 7) (by decide +kernel), tm (i := 593) (by decide +kernel), ⟨by decide +kernel, by decide +kernel⟩, by decide +kernel⟩
def y_E_ofPlain : MethodName := ⟨"FencedBroker$Entry", "ofPlain", "(I)LFencedBroker$Entry;"⟩
abbrev b_E_ofPlain : ByteArray := prog_2_method_2_code
theorem cb_E_ofPlain : CB y_E_ofPlain b_E_ofPlain 1 (some (.object "FencedBroker$Entry")) 1 := ⟨tm (i := 19) (by decide +kernel), tm (i := 609) (by decide +kernel), ⟨by decide +kernel, by decide +kernel⟩, by decide +kernel⟩
def y_L_raiseHigh : MethodName := ⟨"FencedBroker$Log", "raiseHigh", "(I)I"⟩
abbrev b_L_raiseHigh : ByteArray := prog_4_method_14_code
theorem cb_L_raiseHigh : CB y_L_raiseHigh b_L_raiseHigh 2 (some .int) 1 := ⟨tm (i := 2) (by decide +kernel), tm (i := 620) (by decide +kernel), ⟨by decide +kernel, by decide +kernel⟩, by decide +kernel⟩
def y_L_dropUncopied : MethodName := ⟨"FencedBroker$Log", "dropUncopied", "()I"⟩
abbrev b_L_dropUncopied : ByteArray := prog_4_method_15_code
theorem cb_L_dropUncopied : CB y_L_dropUncopied b_L_dropUncopied 4 (some .int) 0 := ⟨tm (i := 2) (by decide +kernel), tm (i := 632) (by decide +kernel), ⟨by decide +kernel, by decide +kernel⟩, by decide +kernel⟩
theorem cv_L_94 : CV "FencedBroker$Log" 94 y_A_remove b_A_remove 4 (some (.object "java/lang/Object")) 1 := ⟨cb_A_remove, tm (i := 633) (by decide +kernel), tm (i := 634) (by decide +kernel), tm (i := 635) (by decide +kernel)⟩
def y_L_isUnended : MethodName := ⟨"FencedBroker$Log", "isUnended", "(LFencedBroker$Entry;)Z"⟩
abbrev b_L_isUnended : ByteArray := prog_4_method_9_code
theorem cb_L_isUnended : CB y_L_isUnended b_L_isUnended 2 (some .boolean) 1 := ⟨tm (i := 2) (by decide +kernel), tm (i := 677) (by decide +kernel), ⟨by decide +kernel, by decide +kernel⟩, by decide +kernel⟩
theorem cv_L_60 : CV "FencedBroker$Log" 60 y_L_hasEnded b_L_hasEnded 2 (some .boolean) 1 := ⟨cb_L_hasEnded, tm (i := 678) (by decide +kernel), tm (i := 207) (by decide +kernel), tm (i := 208) (by decide +kernel)⟩
def y_L_stableOffset : MethodName := ⟨"FencedBroker$Log", "stableOffset", "()I"⟩
abbrev b_L_stableOffset : ByteArray := prog_4_method_10_code
theorem cb_L_stableOffset : CB y_L_stableOffset b_L_stableOffset 2 (some .int) 0 := ⟨tm (i := 2) (by decide +kernel), tm (i := 673) (by decide +kernel), ⟨by decide +kernel, by decide +kernel⟩, by decide +kernel⟩
theorem cv_L_77 : CV "FencedBroker$Log" 77 y_L_isUnended b_L_isUnended 2 (some .boolean) 1 := ⟨cb_L_isUnended, tm (i := 674) (by decide +kernel), tm (i := 676) (by decide +kernel), List.mem_append_left _ (List.mem_of_getElem? (i := 11) (by decide +kernel))⟩
def y_L_isAborted : MethodName := ⟨"FencedBroker$Log", "isAborted", "(I)Z"⟩
abbrev b_L_isAborted : ByteArray := prog_4_method_8_code
theorem cb_L_isAborted : CB y_L_isAborted b_L_isAborted 2 (some .boolean) 1 := ⟨tm (i := 2) (by decide +kernel), tm (i := 682) (by decide +kernel), ⟨by decide +kernel, by decide +kernel⟩, by decide +kernel⟩
theorem fl_L_67 : FL "FencedBroker$Log" 67 0 0 := ⟨_, _, _, rfl, by decide, Or.inr (Or.inl ⟨_, tm (i := 233) (by show tables_1[233]? = some (Cond.fieldLinkNest "FencedBroker$Log" 67 "FencedBroker$Entry" "kind" "I" "FencedBroker"); decide +kernel)⟩)⟩
def y_L_firstReadable : MethodName := ⟨"FencedBroker$Log", "firstReadable", "(IZ)I"⟩
abbrev b_L_firstReadable : ByteArray := prog_4_method_16_code
theorem cb_L_firstReadable : CB y_L_firstReadable b_L_firstReadable 6 (some .int) 2 := ⟨tm (i := 2) (by decide +kernel), tm (i := 669) (by decide +kernel), ⟨by decide +kernel, by decide +kernel⟩, by decide +kernel⟩
theorem cv_L_100 : CV "FencedBroker$Log" 100 y_L_isAborted b_L_isAborted 2 (some .boolean) 1 := ⟨cb_L_isAborted, tm (i := 679) (by decide +kernel), tm (i := 681) (by decide +kernel), List.mem_append_left _ (List.mem_of_getElem? (i := 12) (by decide +kernel))⟩
theorem cv_L_97 : CV "FencedBroker$Log" 97 y_L_stableOffset b_L_stableOffset 2 (some .int) 0 := ⟨cb_L_stableOffset, tm (i := 670) (by decide +kernel), tm (i := 671) (by decide +kernel), tm (i := 672) (by decide +kernel)⟩
def y_L_valueAt : MethodName := ⟨"FencedBroker$Log", "valueAt", "(I)I"⟩
abbrev b_L_valueAt : ByteArray := prog_4_method_17_code
theorem cb_L_valueAt : CB y_L_valueAt b_L_valueAt 2 (some .int) 1 := ⟨tm (i := 2) (by decide +kernel), tm (i := 687) (by decide +kernel), ⟨by decide +kernel, by decide +kernel⟩, by decide +kernel⟩
theorem fl_L_103 : FL "FencedBroker$Log" 103 0 5 := ⟨_, _, _, rfl, by decide, Or.inr (Or.inl ⟨_, tm (i := 241) (by show tables_1[241]? = some (Cond.fieldLinkNest "FencedBroker$Log" 103 "FencedBroker$Entry" "value" "I" "FencedBroker"); decide +kernel)⟩)⟩
def y_G_isMember : MethodName := ⟨"FencedBroker$Group", "isMember", "(I)Z"⟩
abbrev b_G_isMember : ByteArray := prog_3_method_2_code
theorem cb_G_isMember : CB y_G_isMember b_G_isMember 2 (some .boolean) 1 := ⟨tm (i := 8) (by decide +kernel), tm (i := 707) (by decide +kernel), ⟨by decide +kernel, by decide +kernel⟩, by decide +kernel⟩
def y_G_hear : MethodName := ⟨"FencedBroker$Group", "hear", "(II)V"⟩
abbrev b_G_hear : ByteArray := prog_3_method_5_code
theorem cb_G_hear : CB y_G_hear b_G_hear 3 none 2 := ⟨tm (i := 8) (by decide +kernel), tm (i := 716) (by decide +kernel), ⟨by decide +kernel, by decide +kernel⟩, by decide +kernel⟩
def y_G_addMember : MethodName := ⟨"FencedBroker$Group", "addMember", "(II)V"⟩
abbrev b_G_addMember : ByteArray := prog_3_method_3_code
theorem cb_G_addMember : CB y_G_addMember b_G_addMember 3 none 2 := ⟨tm (i := 8) (by decide +kernel), tm (i := 712) (by decide +kernel), ⟨by decide +kernel, by decide +kernel⟩, by decide +kernel⟩
theorem cv_G_35 : CV "FencedBroker$Group" 35 y_G_hear b_G_hear 3 none 2 := ⟨cb_G_hear, tm (i := 713) (by decide +kernel), tm (i := 714) (by decide +kernel), tm (i := 715) (by decide +kernel)⟩
def y_G_countMembers : MethodName := ⟨"FencedBroker$Group", "countMembers", "()I"⟩
abbrev b_G_countMembers : ByteArray := prog_3_method_8_code
theorem cb_G_countMembers : CB y_G_countMembers b_G_countMembers 6 (some .int) 0 := ⟨tm (i := 8) (by decide +kernel), tm (i := 724) (by decide +kernel), ⟨by decide +kernel, by decide +kernel⟩, by decide +kernel⟩
def y_G_leastOf : MethodName := ⟨"FencedBroker$Group", "leastOf", "(II)I"⟩
abbrev b_G_leastOf : ByteArray := prog_3_method_10_code
theorem cb_G_leastOf : CB y_G_leastOf b_G_leastOf 4 (some .int) 2 := ⟨tm (i := 8) (by decide +kernel), tm (i := 732) (by decide +kernel), ⟨by decide +kernel, by decide +kernel⟩, by decide +kernel⟩
theorem cs_G_66 : CS "FencedBroker$Group" 66 y_B_has b_B_has 2 (some .boolean) 2 := ⟨cb_B_has, Or.inr ⟨"FencedBroker", tm (i := 733) (by decide +kernel)⟩, tm (i := 200) (by decide +kernel)⟩
theorem cs_G_56 : CS "FencedBroker$Group" 56 y_I_bitCount b_I_bitCount 1 (some .int) 1 := ⟨cb_I_bitCount, Or.inl (tm (i := 729) (by decide +kernel)), tm (i := 595) (by decide +kernel)⟩
def y_G_takeSurplus : MethodName := ⟨"FencedBroker$Group", "takeSurplus", "(II)V"⟩
abbrev b_G_takeSurplus : ByteArray := prog_3_method_9_code
theorem cb_G_takeSurplus : CB y_G_takeSurplus b_G_takeSurplus 5 none 2 := ⟨tm (i := 8) (by decide +kernel), tm (i := 728) (by decide +kernel), ⟨by decide +kernel, by decide +kernel⟩, by decide +kernel⟩
theorem cs_G_62 : CS "FencedBroker$Group" 62 y_G_leastOf b_G_leastOf 4 (some .int) 2 := ⟨cb_G_leastOf, Or.inl (tm (i := 730) (by decide +kernel)), tm (i := 731) (by decide +kernel)⟩
def y_G_poorestMember : MethodName := ⟨"FencedBroker$Group", "poorestMember", "()I"⟩
abbrev b_G_poorestMember : ByteArray := prog_3_method_13_code
theorem cb_G_poorestMember : CB y_G_poorestMember b_G_poorestMember 5 (some .int) 0 := ⟨tm (i := 8) (by decide +kernel), tm (i := 741) (by decide +kernel), ⟨by decide +kernel, by decide +kernel⟩, by decide +kernel⟩
def y_G_isOwned : MethodName := ⟨"FencedBroker$Group", "isOwned", "(I)Z"⟩
abbrev b_G_isOwned : ByteArray := prog_3_method_12_code
theorem cb_G_isOwned : CB y_G_isOwned b_G_isOwned 6 (some .boolean) 1 := ⟨tm (i := 8) (by decide +kernel), tm (i := 745) (by decide +kernel), ⟨by decide +kernel, by decide +kernel⟩, by decide +kernel⟩
def y_G_giveUnowned : MethodName := ⟨"FencedBroker$Group", "giveUnowned", "()V"⟩
abbrev b_G_giveUnowned : ByteArray := prog_3_method_11_code
theorem cb_G_giveUnowned : CB y_G_giveUnowned b_G_giveUnowned 3 none 0 := ⟨tm (i := 8) (by decide +kernel), tm (i := 737) (by decide +kernel), ⟨by decide +kernel, by decide +kernel⟩, by decide +kernel⟩
theorem cv_G_70 : CV "FencedBroker$Group" 70 y_G_poorestMember b_G_poorestMember 5 (some .int) 0 := ⟨cb_G_poorestMember, tm (i := 738) (by decide +kernel), tm (i := 740) (by decide +kernel), List.mem_append_left _ (List.mem_of_getElem? (i := 16) (by decide +kernel))⟩
theorem cv_G_73 : CV "FencedBroker$Group" 73 y_G_isOwned b_G_isOwned 6 (some .boolean) 1 := ⟨cb_G_isOwned, tm (i := 742) (by decide +kernel), tm (i := 744) (by decide +kernel), List.mem_append_left _ (List.mem_of_getElem? (i := 17) (by decide +kernel))⟩
def y_G_share : MethodName := ⟨"FencedBroker$Group", "share", "()V"⟩
abbrev b_G_share : ByteArray := prog_3_method_7_code
theorem cb_G_share : CB y_G_share b_G_share 2 none 0 := ⟨tm (i := 8) (by decide +kernel), tm (i := 720) (by decide +kernel), ⟨by decide +kernel, by decide +kernel⟩, by decide +kernel⟩
theorem cv_G_46 : CV "FencedBroker$Group" 46 y_G_countMembers b_G_countMembers 6 (some .int) 0 := ⟨cb_G_countMembers, tm (i := 721) (by decide +kernel), tm (i := 723) (by decide +kernel), List.mem_append_left _ (List.mem_of_getElem? (i := 13) (by decide +kernel))⟩
theorem cv_G_50 : CV "FencedBroker$Group" 50 y_G_takeSurplus b_G_takeSurplus 5 none 2 := ⟨cb_G_takeSurplus, tm (i := 725) (by decide +kernel), tm (i := 727) (by decide +kernel), List.mem_append_left _ (List.mem_of_getElem? (i := 14) (by decide +kernel))⟩
theorem cv_G_53 : CV "FencedBroker$Group" 53 y_G_giveUnowned b_G_giveUnowned 3 none 0 := ⟨cb_G_giveUnowned, tm (i := 734) (by decide +kernel), tm (i := 736) (by decide +kernel), List.mem_append_left _ (List.mem_of_getElem? (i := 15) (by decide +kernel))⟩
def y_G_removeMember : MethodName := ⟨"FencedBroker$Group", "removeMember", "(I)V"⟩
abbrev b_G_removeMember : ByteArray := prog_3_method_4_code
theorem cb_G_removeMember : CB y_G_removeMember b_G_removeMember 2 none 1 := ⟨tm (i := 8) (by decide +kernel), tm (i := 761) (by decide +kernel), ⟨by decide +kernel, by decide +kernel⟩, by decide +kernel⟩
def y_G_dropSilent : MethodName := ⟨"FencedBroker$Group", "dropSilent", "(I)I"⟩
abbrev b_G_dropSilent : ByteArray := prog_3_method_6_code
theorem cb_G_dropSilent : CB y_G_dropSilent b_G_dropSilent 4 (some .int) 1 := ⟨tm (i := 8) (by decide +kernel), tm (i := 793) (by decide +kernel), ⟨by decide +kernel, by decide +kernel⟩, by decide +kernel⟩
theorem cv_G_43 : CV "FencedBroker$Group" 43 y_G_share b_G_share 2 none 0 := ⟨cb_G_share, tm (i := 795) (by decide +kernel), tm (i := 718) (by decide +kernel), tm (i := 719) (by decide +kernel)⟩
theorem cv_G_39 : CV "FencedBroker$Group" 39 y_G_removeMember b_G_removeMember 2 none 1 := ⟨cb_G_removeMember, tm (i := 794) (by decide +kernel), tm (i := 759) (by decide +kernel), tm (i := 760) (by decide +kernel)⟩
theorem d_L_ctor_0 : decode b_L_ctor 0 = .ok (.aload_n 0, 1) := by decide +kernel
theorem d_L_ctor_1 : decode b_L_ctor 1 = .ok (.invokespecial 3, 3) := by decide +kernel
theorem d_L_ctor_4 : decode b_L_ctor 4 = .ok (.aload_n 0, 1) := by decide +kernel
theorem d_L_ctor_5 : decode b_L_ctor 5 = .ok (.new 9, 3) := by decide +kernel
theorem d_L_ctor_8 : decode b_L_ctor 8 = .ok (.dup, 1) := by decide +kernel
theorem d_L_ctor_9 : decode b_L_ctor 9 = .ok (.invokespecial 11, 3) := by decide +kernel
theorem d_L_ctor_12 : decode b_L_ctor 12 = .ok (.putfield 12, 3) := by decide +kernel
theorem d_L_ctor_15 : decode b_L_ctor 15 = .ok (.aload_n 0, 1) := by decide +kernel
theorem d_L_ctor_16 : decode b_L_ctor 16 = .ok (.bipush 41, 2) := by decide +kernel
theorem d_L_ctor_18 : decode b_L_ctor 18 = .ok (.newarray .int, 2) := by decide +kernel
theorem d_L_ctor_20 : decode b_L_ctor 20 = .ok (.putfield 18, 3) := by decide +kernel
theorem d_L_ctor_23 : decode b_L_ctor 23 = .ok (.aload_n 0, 1) := by decide +kernel
theorem d_L_ctor_24 : decode b_L_ctor 24 = .ok (.iconst 0, 1) := by decide +kernel
theorem d_L_ctor_25 : decode b_L_ctor 25 = .ok (.putfield 22, 3) := by decide +kernel
theorem d_L_ctor_28 : decode b_L_ctor 28 = .ok (.aload_n 0, 1) := by decide +kernel
theorem d_L_ctor_29 : decode b_L_ctor 29 = .ok (.iconst 0, 1) := by decide +kernel
theorem d_L_ctor_30 : decode b_L_ctor 30 = .ok (.putfield 26, 3) := by decide +kernel
theorem d_L_ctor_33 : decode b_L_ctor 33 = .ok (.aload_n 0, 1) := by decide +kernel
theorem d_L_ctor_34 : decode b_L_ctor 34 = .ok (.getfield 18, 3) := by decide +kernel
theorem d_L_ctor_37 : decode b_L_ctor 37 = .ok (.iconst (-1), 1) := by decide +kernel
theorem d_L_ctor_38 : decode b_L_ctor 38 = .ok (.invokestatic 29, 3) := by decide +kernel
theorem d_L_ctor_41 : decode b_L_ctor 41 = .ok (.return_, 1) := by decide +kernel
theorem d_P_ctor_0 : decode b_P_ctor 0 = .ok (.aload_n 0, 1) := by decide +kernel
theorem d_P_ctor_1 : decode b_P_ctor 1 = .ok (.invokespecial 3, 3) := by decide +kernel
theorem d_P_ctor_4 : decode b_P_ctor 4 = .ok (.aload_n 0, 1) := by decide +kernel
theorem d_P_ctor_5 : decode b_P_ctor 5 = .ok (.iconst (-1), 1) := by decide +kernel
theorem d_P_ctor_6 : decode b_P_ctor 6 = .ok (.putfield 11, 3) := by decide +kernel
theorem d_P_ctor_9 : decode b_P_ctor 9 = .ok (.aload_n 0, 1) := by decide +kernel
theorem d_P_ctor_10 : decode b_P_ctor 10 = .ok (.iconst (-1), 1) := by decide +kernel
theorem d_P_ctor_11 : decode b_P_ctor 11 = .ok (.putfield 15, 3) := by decide +kernel
theorem d_P_ctor_14 : decode b_P_ctor 14 = .ok (.aload_n 0, 1) := by decide +kernel
theorem d_P_ctor_15 : decode b_P_ctor 15 = .ok (.iconst 0, 1) := by decide +kernel
theorem d_P_ctor_16 : decode b_P_ctor 16 = .ok (.putfield 18, 3) := by decide +kernel
theorem d_P_ctor_19 : decode b_P_ctor 19 = .ok (.aload_n 0, 1) := by decide +kernel
theorem d_P_ctor_20 : decode b_P_ctor 20 = .ok (.iconst 0, 1) := by decide +kernel
theorem d_P_ctor_21 : decode b_P_ctor 21 = .ok (.putfield 21, 3) := by decide +kernel
theorem d_P_ctor_24 : decode b_P_ctor 24 = .ok (.aload_n 0, 1) := by decide +kernel
theorem d_P_ctor_25 : decode b_P_ctor 25 = .ok (.iconst 0, 1) := by decide +kernel
theorem d_P_ctor_26 : decode b_P_ctor 26 = .ok (.putfield 24, 3) := by decide +kernel
theorem d_P_ctor_29 : decode b_P_ctor 29 = .ok (.aload_n 0, 1) := by decide +kernel
theorem d_P_ctor_30 : decode b_P_ctor 30 = .ok (.bipush 8, 2) := by decide +kernel
theorem d_P_ctor_32 : decode b_P_ctor 32 = .ok (.newarray .int, 2) := by decide +kernel
theorem d_P_ctor_34 : decode b_P_ctor 34 = .ok (.putfield 27, 3) := by decide +kernel
theorem d_P_ctor_37 : decode b_P_ctor 37 = .ok (.aload_n 0, 1) := by decide +kernel
theorem d_P_ctor_38 : decode b_P_ctor 38 = .ok (.iload_n 1, 1) := by decide +kernel
theorem d_P_ctor_39 : decode b_P_ctor 39 = .ok (.putfield 31, 3) := by decide +kernel
theorem d_P_ctor_42 : decode b_P_ctor 42 = .ok (.aload_n 0, 1) := by decide +kernel
theorem d_P_ctor_43 : decode b_P_ctor 43 = .ok (.getfield 27, 3) := by decide +kernel
theorem d_P_ctor_46 : decode b_P_ctor 46 = .ok (.iconst (-1), 1) := by decide +kernel
theorem d_P_ctor_47 : decode b_P_ctor 47 = .ok (.invokestatic 34, 3) := by decide +kernel
theorem d_P_ctor_50 : decode b_P_ctor 50 = .ok (.return_, 1) := by decide +kernel
theorem d_G_ctor_0 : decode b_G_ctor 0 = .ok (.aload_n 0, 1) := by decide +kernel
theorem d_G_ctor_1 : decode b_G_ctor 1 = .ok (.invokespecial 3, 3) := by decide +kernel
theorem d_G_ctor_4 : decode b_G_ctor 4 = .ok (.aload_n 0, 1) := by decide +kernel
theorem d_G_ctor_5 : decode b_G_ctor 5 = .ok (.iconst 0, 1) := by decide +kernel
theorem d_G_ctor_6 : decode b_G_ctor 6 = .ok (.putfield 9, 3) := by decide +kernel
theorem d_G_ctor_9 : decode b_G_ctor 9 = .ok (.aload_n 0, 1) := by decide +kernel
theorem d_G_ctor_10 : decode b_G_ctor 10 = .ok (.iconst 4, 1) := by decide +kernel
theorem d_G_ctor_11 : decode b_G_ctor 11 = .ok (.newarray .boolean, 2) := by decide +kernel
theorem d_G_ctor_13 : decode b_G_ctor 13 = .ok (.putfield 15, 3) := by decide +kernel
theorem d_G_ctor_16 : decode b_G_ctor 16 = .ok (.aload_n 0, 1) := by decide +kernel
theorem d_G_ctor_17 : decode b_G_ctor 17 = .ok (.iconst 4, 1) := by decide +kernel
theorem d_G_ctor_18 : decode b_G_ctor 18 = .ok (.newarray .int, 2) := by decide +kernel
theorem d_G_ctor_20 : decode b_G_ctor 20 = .ok (.putfield 19, 3) := by decide +kernel
theorem d_G_ctor_23 : decode b_G_ctor 23 = .ok (.aload_n 0, 1) := by decide +kernel
theorem d_G_ctor_24 : decode b_G_ctor 24 = .ok (.iconst 4, 1) := by decide +kernel
theorem d_G_ctor_25 : decode b_G_ctor 25 = .ok (.newarray .int, 2) := by decide +kernel
theorem d_G_ctor_27 : decode b_G_ctor 27 = .ok (.putfield 23, 3) := by decide +kernel
theorem d_G_ctor_30 : decode b_G_ctor 30 = .ok (.aload_n 0, 1) := by decide +kernel
theorem d_G_ctor_31 : decode b_G_ctor 31 = .ok (.iconst 4, 1) := by decide +kernel
theorem d_G_ctor_32 : decode b_G_ctor 32 = .ok (.newarray .int, 2) := by decide +kernel
theorem d_G_ctor_34 : decode b_G_ctor 34 = .ok (.putfield 26, 3) := by decide +kernel
theorem d_G_ctor_37 : decode b_G_ctor 37 = .ok (.aload_n 0, 1) := by decide +kernel
theorem d_G_ctor_38 : decode b_G_ctor 38 = .ok (.getfield 26, 3) := by decide +kernel
theorem d_G_ctor_41 : decode b_G_ctor 41 = .ok (.iconst (-1), 1) := by decide +kernel
theorem d_G_ctor_42 : decode b_G_ctor 42 = .ok (.invokestatic 29, 3) := by decide +kernel
theorem d_G_ctor_45 : decode b_G_ctor 45 = .ok (.return_, 1) := by decide +kernel
theorem d_P_isEnding_0 : decode b_P_isEnding 0 = .ok (.aload_n 0, 1) := by decide +kernel
theorem d_P_isEnding_1 : decode b_P_isEnding 1 = .ok (.getfield 11, 3) := by decide +kernel
theorem d_P_isEnding_4 : decode b_P_isEnding 4 = .ok (.iconst 2, 1) := by decide +kernel
theorem d_P_isEnding_5 : decode b_P_isEnding 5 = .ok (.if_icmp .eq 11, 3) := by decide +kernel
theorem d_P_isEnding_8 : decode b_P_isEnding 8 = .ok (.aload_n 0, 1) := by decide +kernel
theorem d_P_isEnding_9 : decode b_P_isEnding 9 = .ok (.getfield 11, 3) := by decide +kernel
theorem d_P_isEnding_12 : decode b_P_isEnding 12 = .ok (.iconst 3, 1) := by decide +kernel
theorem d_P_isEnding_13 : decode b_P_isEnding 13 = .ok (.if_icmp .ne 7, 3) := by decide +kernel
theorem d_P_isEnding_16 : decode b_P_isEnding 16 = .ok (.iconst 1, 1) := by decide +kernel
theorem d_P_isEnding_17 : decode b_P_isEnding 17 = .ok (.goto 4, 3) := by decide +kernel
theorem d_P_isEnding_20 : decode b_P_isEnding 20 = .ok (.iconst 0, 1) := by decide +kernel
theorem d_P_isEnding_21 : decode b_P_isEnding 21 = .ok (.ireturn, 1) := by decide +kernel
theorem d_P_isCommitting_0 : decode b_P_isCommitting 0 = .ok (.aload_n 0, 1) := by decide +kernel
theorem d_P_isCommitting_1 : decode b_P_isCommitting 1 = .ok (.getfield 11, 3) := by decide +kernel
theorem d_P_isCommitting_4 : decode b_P_isCommitting 4 = .ok (.iconst 2, 1) := by decide +kernel
theorem d_P_isCommitting_5 : decode b_P_isCommitting 5 = .ok (.if_icmp .ne 7, 3) := by decide +kernel
theorem d_P_isCommitting_8 : decode b_P_isCommitting 8 = .ok (.iconst 1, 1) := by decide +kernel
theorem d_P_isCommitting_9 : decode b_P_isCommitting 9 = .ok (.goto 4, 3) := by decide +kernel
theorem d_P_isCommitting_12 : decode b_P_isCommitting 12 = .ok (.iconst 0, 1) := by decide +kernel
theorem d_P_isCommitting_13 : decode b_P_isCommitting 13 = .ok (.ireturn, 1) := by decide +kernel
theorem d_P_commitPending_0 : decode b_P_commitPending 0 = .ok (.iconst 0, 1) := by decide +kernel
theorem d_P_commitPending_1 : decode b_P_commitPending 1 = .ok (.istore_n 3, 1) := by decide +kernel
theorem d_P_commitPending_2 : decode b_P_commitPending 2 = .ok (.iload_n 3, 1) := by decide +kernel
theorem d_P_commitPending_3 : decode b_P_commitPending 3 = .ok (.iconst 4, 1) := by decide +kernel
theorem d_P_commitPending_4 : decode b_P_commitPending 4 = .ok (.if_icmp .ge 32, 3) := by decide +kernel
theorem d_P_commitPending_7 : decode b_P_commitPending 7 = .ok (.aload_n 0, 1) := by decide +kernel
theorem d_P_commitPending_8 : decode b_P_commitPending 8 = .ok (.getfield 27, 3) := by decide +kernel
theorem d_P_commitPending_11 : decode b_P_commitPending 11 = .ok (.iload_n 1, 1) := by decide +kernel
theorem d_P_commitPending_12 : decode b_P_commitPending 12 = .ok (.iconst 4, 1) := by decide +kernel
theorem d_P_commitPending_13 : decode b_P_commitPending 13 = .ok (.imul, 1) := by decide +kernel
theorem d_P_commitPending_14 : decode b_P_commitPending 14 = .ok (.iload_n 3, 1) := by decide +kernel
theorem d_P_commitPending_15 : decode b_P_commitPending 15 = .ok (.iadd, 1) := by decide +kernel
theorem d_P_commitPending_16 : decode b_P_commitPending 16 = .ok (.iaload, 1) := by decide +kernel
theorem d_P_commitPending_17 : decode b_P_commitPending 17 = .ok (.istore 4, 2) := by decide +kernel
theorem d_P_commitPending_19 : decode b_P_commitPending 19 = .ok (.iload 4, 2) := by decide +kernel
theorem d_P_commitPending_21 : decode b_P_commitPending 21 = .ok (.iconst (-1), 1) := by decide +kernel
theorem d_P_commitPending_22 : decode b_P_commitPending 22 = .ok (.if_icmp .eq 8, 3) := by decide +kernel
theorem d_P_commitPending_25 : decode b_P_commitPending 25 = .ok (.aload_n 2, 1) := by decide +kernel
theorem d_P_commitPending_26 : decode b_P_commitPending 26 = .ok (.iload_n 3, 1) := by decide +kernel
theorem d_P_commitPending_27 : decode b_P_commitPending 27 = .ok (.iload 4, 2) := by decide +kernel
theorem d_P_commitPending_29 : decode b_P_commitPending 29 = .ok (.iastore, 1) := by decide +kernel
theorem d_P_commitPending_30 : decode b_P_commitPending 30 = .ok (.iinc 3 1, 3) := by decide +kernel
theorem d_P_commitPending_33 : decode b_P_commitPending 33 = .ok (.goto (-31), 3) := by decide +kernel
theorem d_P_commitPending_36 : decode b_P_commitPending 36 = .ok (.return_, 1) := by decide +kernel
theorem d_P_becomeIdle_0 : decode b_P_becomeIdle 0 = .ok (.aload_n 0, 1) := by decide +kernel
theorem d_P_becomeIdle_1 : decode b_P_becomeIdle 1 = .ok (.iconst 0, 1) := by decide +kernel
theorem d_P_becomeIdle_2 : decode b_P_becomeIdle 2 = .ok (.putfield 11, 3) := by decide +kernel
theorem d_P_becomeIdle_5 : decode b_P_becomeIdle 5 = .ok (.aload_n 0, 1) := by decide +kernel
theorem d_P_becomeIdle_6 : decode b_P_becomeIdle 6 = .ok (.iconst 0, 1) := by decide +kernel
theorem d_P_becomeIdle_7 : decode b_P_becomeIdle 7 = .ok (.putfield 18, 3) := by decide +kernel
theorem d_P_becomeIdle_10 : decode b_P_becomeIdle 10 = .ok (.aload_n 0, 1) := by decide +kernel
theorem d_P_becomeIdle_11 : decode b_P_becomeIdle 11 = .ok (.getfield 27, 3) := by decide +kernel
theorem d_P_becomeIdle_14 : decode b_P_becomeIdle 14 = .ok (.iconst (-1), 1) := by decide +kernel
theorem d_P_becomeIdle_15 : decode b_P_becomeIdle 15 = .ok (.invokestatic 34, 3) := by decide +kernel
theorem d_P_becomeIdle_18 : decode b_P_becomeIdle 18 = .ok (.return_, 1) := by decide +kernel
theorem d_B_has_0 : decode b_B_has 0 = .ok (.iload_n 0, 1) := by decide +kernel
theorem d_B_has_1 : decode b_B_has 1 = .ok (.iload_n 1, 1) := by decide +kernel
theorem d_B_has_2 : decode b_B_has 2 = .ok (.ishr, 1) := by decide +kernel
theorem d_B_has_3 : decode b_B_has 3 = .ok (.iconst 1, 1) := by decide +kernel
theorem d_B_has_4 : decode b_B_has 4 = .ok (.iand, 1) := by decide +kernel
theorem d_B_has_5 : decode b_B_has 5 = .ok (.ifCond .eq 7, 3) := by decide +kernel
theorem d_B_has_8 : decode b_B_has 8 = .ok (.iconst 1, 1) := by decide +kernel
theorem d_B_has_9 : decode b_B_has 9 = .ok (.goto 4, 3) := by decide +kernel
theorem d_B_has_12 : decode b_B_has 12 = .ok (.iconst 0, 1) := by decide +kernel
theorem d_B_has_13 : decode b_B_has 13 = .ok (.ireturn, 1) := by decide +kernel
theorem d_L_hasMarker_0 : decode b_L_hasMarker 0 = .ok (.aload_n 0, 1) := by decide +kernel
theorem d_L_hasMarker_1 : decode b_L_hasMarker 1 = .ok (.getfield 18, 3) := by decide +kernel
theorem d_L_hasMarker_4 : decode b_L_hasMarker 4 = .ok (.iload_n 1, 1) := by decide +kernel
theorem d_L_hasMarker_5 : decode b_L_hasMarker 5 = .ok (.iaload, 1) := by decide +kernel
theorem d_L_hasMarker_6 : decode b_L_hasMarker 6 = .ok (.iconst (-1), 1) := by decide +kernel
theorem d_L_hasMarker_7 : decode b_L_hasMarker 7 = .ok (.if_icmp .eq 7, 3) := by decide +kernel
theorem d_L_hasMarker_10 : decode b_L_hasMarker 10 = .ok (.iconst 1, 1) := by decide +kernel
theorem d_L_hasMarker_11 : decode b_L_hasMarker 11 = .ok (.goto 4, 3) := by decide +kernel
theorem d_L_hasMarker_14 : decode b_L_hasMarker 14 = .ok (.iconst 0, 1) := by decide +kernel
theorem d_L_hasMarker_15 : decode b_L_hasMarker 15 = .ok (.ireturn, 1) := by decide +kernel
theorem d_L_hasEnded_0 : decode b_L_hasEnded 0 = .ok (.aload_n 0, 1) := by decide +kernel
theorem d_L_hasEnded_1 : decode b_L_hasEnded 1 = .ok (.iload_n 1, 1) := by decide +kernel
theorem d_L_hasEnded_2 : decode b_L_hasEnded 2 = .ok (.invokevirtual 56, 3) := by decide +kernel
theorem d_L_hasEnded_5 : decode b_L_hasEnded 5 = .ok (.ifCond .eq 20, 3) := by decide +kernel
theorem d_L_hasEnded_8 : decode b_L_hasEnded 8 = .ok (.aload_n 0, 1) := by decide +kernel
theorem d_L_hasEnded_9 : decode b_L_hasEnded 9 = .ok (.getfield 18, 3) := by decide +kernel
theorem d_L_hasEnded_12 : decode b_L_hasEnded 12 = .ok (.iload_n 1, 1) := by decide +kernel
theorem d_L_hasEnded_13 : decode b_L_hasEnded 13 = .ok (.iaload, 1) := by decide +kernel
theorem d_L_hasEnded_14 : decode b_L_hasEnded 14 = .ok (.aload_n 0, 1) := by decide +kernel
theorem d_L_hasEnded_15 : decode b_L_hasEnded 15 = .ok (.getfield 26, 3) := by decide +kernel
theorem d_L_hasEnded_18 : decode b_L_hasEnded 18 = .ok (.if_icmp .ge 7, 3) := by decide +kernel
theorem d_L_hasEnded_21 : decode b_L_hasEnded 21 = .ok (.iconst 1, 1) := by decide +kernel
theorem d_L_hasEnded_22 : decode b_L_hasEnded 22 = .ok (.goto 4, 3) := by decide +kernel
theorem d_L_hasEnded_25 : decode b_L_hasEnded 25 = .ok (.iconst 0, 1) := by decide +kernel
theorem d_L_hasEnded_26 : decode b_L_hasEnded 26 = .ok (.ireturn, 1) := by decide +kernel
theorem d_P_untouch_0 : decode b_P_untouch 0 = .ok (.aload_n 0, 1) := by decide +kernel
theorem d_P_untouch_1 : decode b_P_untouch 1 = .ok (.dup, 1) := by decide +kernel
theorem d_P_untouch_2 : decode b_P_untouch 2 = .ok (.getfield 24, 3) := by decide +kernel
theorem d_P_untouch_5 : decode b_P_untouch 5 = .ok (.iconst 1, 1) := by decide +kernel
theorem d_P_untouch_6 : decode b_P_untouch 6 = .ok (.iload_n 1, 1) := by decide +kernel
theorem d_P_untouch_7 : decode b_P_untouch 7 = .ok (.ishl, 1) := by decide +kernel
theorem d_P_untouch_8 : decode b_P_untouch 8 = .ok (.iconst (-1), 1) := by decide +kernel
theorem d_P_untouch_9 : decode b_P_untouch 9 = .ok (.ixor, 1) := by decide +kernel
theorem d_P_untouch_10 : decode b_P_untouch 10 = .ok (.iand, 1) := by decide +kernel
theorem d_P_untouch_11 : decode b_P_untouch 11 = .ok (.putfield 24, 3) := by decide +kernel
theorem d_P_untouch_14 : decode b_P_untouch 14 = .ok (.return_, 1) := by decide +kernel
theorem d_E_ctor_0 : decode b_E_ctor 0 = .ok (.aload_n 0, 1) := by decide +kernel
theorem d_E_ctor_1 : decode b_E_ctor 1 = .ok (.invokespecial 3, 3) := by decide +kernel
theorem d_E_ctor_4 : decode b_E_ctor 4 = .ok (.aload_n 0, 1) := by decide +kernel
theorem d_E_ctor_5 : decode b_E_ctor 5 = .ok (.iload_n 1, 1) := by decide +kernel
theorem d_E_ctor_6 : decode b_E_ctor 6 = .ok (.putfield 9, 3) := by decide +kernel
theorem d_E_ctor_9 : decode b_E_ctor 9 = .ok (.aload_n 0, 1) := by decide +kernel
theorem d_E_ctor_10 : decode b_E_ctor 10 = .ok (.iload_n 2, 1) := by decide +kernel
theorem d_E_ctor_11 : decode b_E_ctor 11 = .ok (.putfield 15, 3) := by decide +kernel
theorem d_E_ctor_14 : decode b_E_ctor 14 = .ok (.aload_n 0, 1) := by decide +kernel
theorem d_E_ctor_15 : decode b_E_ctor 15 = .ok (.iload_n 3, 1) := by decide +kernel
theorem d_E_ctor_16 : decode b_E_ctor 16 = .ok (.putfield 18, 3) := by decide +kernel
theorem d_E_ctor_19 : decode b_E_ctor 19 = .ok (.aload_n 0, 1) := by decide +kernel
theorem d_E_ctor_20 : decode b_E_ctor 20 = .ok (.iload 4, 2) := by decide +kernel
theorem d_E_ctor_22 : decode b_E_ctor 22 = .ok (.putfield 21, 3) := by decide +kernel
theorem d_E_ctor_25 : decode b_E_ctor 25 = .ok (.aload_n 0, 1) := by decide +kernel
theorem d_E_ctor_26 : decode b_E_ctor 26 = .ok (.iload 5, 2) := by decide +kernel
theorem d_E_ctor_28 : decode b_E_ctor 28 = .ok (.putfield 24, 3) := by decide +kernel
theorem d_E_ctor_31 : decode b_E_ctor 31 = .ok (.aload_n 0, 1) := by decide +kernel
theorem d_E_ctor_32 : decode b_E_ctor 32 = .ok (.iload 6, 2) := by decide +kernel
theorem d_E_ctor_34 : decode b_E_ctor 34 = .ok (.putfield 27, 3) := by decide +kernel
theorem d_E_ctor_37 : decode b_E_ctor 37 = .ok (.return_, 1) := by decide +kernel
theorem d_E_ofMarker_0 : decode b_E_ofMarker 0 = .ok (.new 10, 3) := by decide +kernel
theorem d_E_ofMarker_3 : decode b_E_ofMarker 3 = .ok (.dup, 1) := by decide +kernel
theorem d_E_ofMarker_4 : decode b_E_ofMarker 4 = .ok (.iload_n 1, 1) := by decide +kernel
theorem d_E_ofMarker_5 : decode b_E_ofMarker 5 = .ok (.ifCond .eq 7, 3) := by decide +kernel
theorem d_E_ofMarker_8 : decode b_E_ofMarker 8 = .ok (.iconst 1, 1) := by decide +kernel
theorem d_E_ofMarker_9 : decode b_E_ofMarker 9 = .ok (.goto 4, 3) := by decide +kernel
theorem d_E_ofMarker_12 : decode b_E_ofMarker 12 = .ok (.iconst 2, 1) := by decide +kernel
theorem d_E_ofMarker_13 : decode b_E_ofMarker 13 = .ok (.iload_n 0, 1) := by decide +kernel
theorem d_E_ofMarker_14 : decode b_E_ofMarker 14 = .ok (.iconst (-1), 1) := by decide +kernel
theorem d_E_ofMarker_15 : decode b_E_ofMarker 15 = .ok (.iconst (-1), 1) := by decide +kernel
theorem d_E_ofMarker_16 : decode b_E_ofMarker 16 = .ok (.iconst (-1), 1) := by decide +kernel
theorem d_E_ofMarker_17 : decode b_E_ofMarker 17 = .ok (.iconst 0, 1) := by decide +kernel
theorem d_E_ofMarker_18 : decode b_E_ofMarker 18 = .ok (.invokespecial 30, 3) := by decide +kernel
theorem d_E_ofMarker_21 : decode b_E_ofMarker 21 = .ok (.areturn, 1) := by decide +kernel
theorem d_L_length_0 : decode b_L_length 0 = .ok (.aload_n 0, 1) := by decide +kernel
theorem d_L_length_1 : decode b_L_length 1 = .ok (.getfield 12, 3) := by decide +kernel
theorem d_L_length_4 : decode b_L_length 4 = .ok (.invokevirtual 35, 3) := by decide +kernel
theorem d_L_length_7 : decode b_L_length 7 = .ok (.ireturn, 1) := by decide +kernel
theorem d_L_put_0 : decode b_L_put 0 = .ok (.aload_n 0, 1) := by decide +kernel
theorem d_L_put_1 : decode b_L_put 1 = .ok (.getfield 12, 3) := by decide +kernel
theorem d_L_put_4 : decode b_L_put 4 = .ok (.aload_n 1, 1) := by decide +kernel
theorem d_L_put_5 : decode b_L_put 5 = .ok (.invokevirtual 42, 3) := by decide +kernel
theorem d_L_put_8 : decode b_L_put 8 = .ok (.pop, 1) := by decide +kernel
theorem d_L_put_9 : decode b_L_put 9 = .ok (.aload_n 0, 1) := by decide +kernel
theorem d_L_put_10 : decode b_L_put 10 = .ok (.invokevirtual 39, 3) := by decide +kernel
theorem d_L_put_13 : decode b_L_put 13 = .ok (.iconst 1, 1) := by decide +kernel
theorem d_L_put_14 : decode b_L_put 14 = .ok (.isub, 1) := by decide +kernel
theorem d_L_put_15 : decode b_L_put 15 = .ok (.ireturn, 1) := by decide +kernel
theorem d_L_putMarker_0 : decode b_L_putMarker 0 = .ok (.aload_n 0, 1) := by decide +kernel
theorem d_L_putMarker_1 : decode b_L_putMarker 1 = .ok (.getfield 18, 3) := by decide +kernel
theorem d_L_putMarker_4 : decode b_L_putMarker 4 = .ok (.iload_n 1, 1) := by decide +kernel
theorem d_L_putMarker_5 : decode b_L_putMarker 5 = .ok (.aload_n 0, 1) := by decide +kernel
theorem d_L_putMarker_6 : decode b_L_putMarker 6 = .ok (.iload_n 1, 1) := by decide +kernel
theorem d_L_putMarker_7 : decode b_L_putMarker 7 = .ok (.iload_n 2, 1) := by decide +kernel
theorem d_L_putMarker_8 : decode b_L_putMarker 8 = .ok (.invokestatic 46, 3) := by decide +kernel
theorem d_L_putMarker_11 : decode b_L_putMarker 11 = .ok (.invokevirtual 52, 3) := by decide +kernel
theorem d_L_putMarker_14 : decode b_L_putMarker 14 = .ok (.iastore, 1) := by decide +kernel
theorem d_L_putMarker_15 : decode b_L_putMarker 15 = .ok (.return_, 1) := by decide +kernel
theorem d_P_isOpen_0 : decode b_P_isOpen 0 = .ok (.aload_n 0, 1) := by decide +kernel
theorem d_P_isOpen_1 : decode b_P_isOpen 1 = .ok (.getfield 11, 3) := by decide +kernel
theorem d_P_isOpen_4 : decode b_P_isOpen 4 = .ok (.iconst 1, 1) := by decide +kernel
theorem d_P_isOpen_5 : decode b_P_isOpen 5 = .ok (.if_icmp .ne 7, 3) := by decide +kernel
theorem d_P_isOpen_8 : decode b_P_isOpen 8 = .ok (.iconst 1, 1) := by decide +kernel
theorem d_P_isOpen_9 : decode b_P_isOpen 9 = .ok (.goto 4, 3) := by decide +kernel
theorem d_P_isOpen_12 : decode b_P_isOpen 12 = .ok (.iconst 0, 1) := by decide +kernel
theorem d_P_isOpen_13 : decode b_P_isOpen 13 = .ok (.ireturn, 1) := by decide +kernel
theorem d_P_fence_0 : decode b_P_fence 0 = .ok (.aload_n 0, 1) := by decide +kernel
theorem d_P_fence_1 : decode b_P_fence 1 = .ok (.dup, 1) := by decide +kernel
theorem d_P_fence_2 : decode b_P_fence 2 = .ok (.getfield 15, 3) := by decide +kernel
theorem d_P_fence_5 : decode b_P_fence 5 = .ok (.iconst 1, 1) := by decide +kernel
theorem d_P_fence_6 : decode b_P_fence 6 = .ok (.iadd, 1) := by decide +kernel
theorem d_P_fence_7 : decode b_P_fence 7 = .ok (.putfield 15, 3) := by decide +kernel
theorem d_P_fence_10 : decode b_P_fence 10 = .ok (.aload_n 0, 1) := by decide +kernel
theorem d_P_fence_11 : decode b_P_fence 11 = .ok (.iconst 3, 1) := by decide +kernel
theorem d_P_fence_12 : decode b_P_fence 12 = .ok (.putfield 11, 3) := by decide +kernel
theorem d_P_fence_15 : decode b_P_fence 15 = .ok (.return_, 1) := by decide +kernel
theorem d_P_renew_0 : decode b_P_renew 0 = .ok (.aload_n 0, 1) := by decide +kernel
theorem d_P_renew_1 : decode b_P_renew 1 = .ok (.iconst 0, 1) := by decide +kernel
theorem d_P_renew_2 : decode b_P_renew 2 = .ok (.putfield 11, 3) := by decide +kernel
theorem d_P_renew_5 : decode b_P_renew 5 = .ok (.aload_n 0, 1) := by decide +kernel
theorem d_P_renew_6 : decode b_P_renew 6 = .ok (.dup, 1) := by decide +kernel
theorem d_P_renew_7 : decode b_P_renew 7 = .ok (.getfield 15, 3) := by decide +kernel
theorem d_P_renew_10 : decode b_P_renew 10 = .ok (.iconst 1, 1) := by decide +kernel
theorem d_P_renew_11 : decode b_P_renew 11 = .ok (.iadd, 1) := by decide +kernel
theorem d_P_renew_12 : decode b_P_renew 12 = .ok (.putfield 15, 3) := by decide +kernel
theorem d_P_renew_15 : decode b_P_renew 15 = .ok (.aload_n 0, 1) := by decide +kernel
theorem d_P_renew_16 : decode b_P_renew 16 = .ok (.getfield 15, 3) := by decide +kernel
theorem d_P_renew_19 : decode b_P_renew 19 = .ok (.ireturn, 1) := by decide +kernel
theorem d_P_isKnown_0 : decode b_P_isKnown 0 = .ok (.aload_n 0, 1) := by decide +kernel
theorem d_P_isKnown_1 : decode b_P_isKnown 1 = .ok (.getfield 11, 3) := by decide +kernel
theorem d_P_isKnown_4 : decode b_P_isKnown 4 = .ok (.iconst (-1), 1) := by decide +kernel
theorem d_P_isKnown_5 : decode b_P_isKnown 5 = .ok (.if_icmp .eq 7, 3) := by decide +kernel
theorem d_P_isKnown_8 : decode b_P_isKnown 8 = .ok (.iconst 1, 1) := by decide +kernel
theorem d_P_isKnown_9 : decode b_P_isKnown 9 = .ok (.goto 4, 3) := by decide +kernel
theorem d_P_isKnown_12 : decode b_P_isKnown 12 = .ok (.iconst 0, 1) := by decide +kernel
theorem d_P_isKnown_13 : decode b_P_isKnown 13 = .ok (.ireturn, 1) := by decide +kernel
theorem d_P_isIdle_0 : decode b_P_isIdle 0 = .ok (.aload_n 0, 1) := by decide +kernel
theorem d_P_isIdle_1 : decode b_P_isIdle 1 = .ok (.getfield 11, 3) := by decide +kernel
theorem d_P_isIdle_4 : decode b_P_isIdle 4 = .ok (.ifCond .ne 7, 3) := by decide +kernel
theorem d_P_isIdle_7 : decode b_P_isIdle 7 = .ok (.iconst 1, 1) := by decide +kernel
theorem d_P_isIdle_8 : decode b_P_isIdle 8 = .ok (.goto 4, 3) := by decide +kernel
theorem d_P_isIdle_11 : decode b_P_isIdle 11 = .ok (.iconst 0, 1) := by decide +kernel
theorem d_P_isIdle_12 : decode b_P_isIdle 12 = .ok (.ireturn, 1) := by decide +kernel
theorem d_P_open_0 : decode b_P_open 0 = .ok (.aload_n 0, 1) := by decide +kernel
theorem d_P_open_1 : decode b_P_open 1 = .ok (.iconst 1, 1) := by decide +kernel
theorem d_P_open_2 : decode b_P_open 2 = .ok (.putfield 11, 3) := by decide +kernel
theorem d_P_open_5 : decode b_P_open 5 = .ok (.aload_n 0, 1) := by decide +kernel
theorem d_P_open_6 : decode b_P_open 6 = .ok (.iload_n 1, 1) := by decide +kernel
theorem d_P_open_7 : decode b_P_open 7 = .ok (.putfield 18, 3) := by decide +kernel
theorem d_P_open_10 : decode b_P_open 10 = .ok (.aload_n 0, 1) := by decide +kernel
theorem d_P_open_11 : decode b_P_open 11 = .ok (.iload_n 2, 1) := by decide +kernel
theorem d_P_open_12 : decode b_P_open 12 = .ok (.putfield 21, 3) := by decide +kernel
theorem d_P_open_15 : decode b_P_open 15 = .ok (.return_, 1) := by decide +kernel
theorem d_E_isDataOf_0 : decode b_E_isDataOf 0 = .ok (.aload_n 0, 1) := by decide +kernel
theorem d_E_isDataOf_1 : decode b_E_isDataOf 1 = .ok (.getfield 9, 3) := by decide +kernel
theorem d_E_isDataOf_4 : decode b_E_isDataOf 4 = .ok (.ifCond .ne 23, 3) := by decide +kernel
theorem d_E_isDataOf_7 : decode b_E_isDataOf 7 = .ok (.aload_n 0, 1) := by decide +kernel
theorem d_E_isDataOf_8 : decode b_E_isDataOf 8 = .ok (.getfield 18, 3) := by decide +kernel
theorem d_E_isDataOf_11 : decode b_E_isDataOf 11 = .ok (.iload_n 1, 1) := by decide +kernel
theorem d_E_isDataOf_12 : decode b_E_isDataOf 12 = .ok (.if_icmp .ne 15, 3) := by decide +kernel
theorem d_E_isDataOf_15 : decode b_E_isDataOf 15 = .ok (.aload_n 0, 1) := by decide +kernel
theorem d_E_isDataOf_16 : decode b_E_isDataOf 16 = .ok (.getfield 21, 3) := by decide +kernel
theorem d_E_isDataOf_19 : decode b_E_isDataOf 19 = .ok (.iload_n 2, 1) := by decide +kernel
theorem d_E_isDataOf_20 : decode b_E_isDataOf 20 = .ok (.if_icmp .ne 7, 3) := by decide +kernel
theorem d_E_isDataOf_23 : decode b_E_isDataOf 23 = .ok (.iconst 1, 1) := by decide +kernel
theorem d_E_isDataOf_24 : decode b_E_isDataOf 24 = .ok (.goto 4, 3) := by decide +kernel
theorem d_E_isDataOf_27 : decode b_E_isDataOf 27 = .ok (.iconst 0, 1) := by decide +kernel
theorem d_E_isDataOf_28 : decode b_E_isDataOf 28 = .ok (.ireturn, 1) := by decide +kernel
theorem d_L_recentOffset_0 : decode b_L_recentOffset 0 = .ok (.iconst 0, 1) := by decide +kernel
theorem d_L_recentOffset_1 : decode b_L_recentOffset 1 = .ok (.istore 4, 2) := by decide +kernel
theorem d_L_recentOffset_3 : decode b_L_recentOffset 3 = .ok (.aload_n 0, 1) := by decide +kernel
theorem d_L_recentOffset_4 : decode b_L_recentOffset 4 = .ok (.invokevirtual 39, 3) := by decide +kernel
theorem d_L_recentOffset_7 : decode b_L_recentOffset 7 = .ok (.iconst 1, 1) := by decide +kernel
theorem d_L_recentOffset_8 : decode b_L_recentOffset 8 = .ok (.isub, 1) := by decide +kernel
theorem d_L_recentOffset_9 : decode b_L_recentOffset 9 = .ok (.istore 5, 2) := by decide +kernel
theorem d_L_recentOffset_11 : decode b_L_recentOffset 11 = .ok (.iload 5, 2) := by decide +kernel
theorem d_L_recentOffset_13 : decode b_L_recentOffset 13 = .ok (.ifCond .lt 54, 3) := by decide +kernel
theorem d_L_recentOffset_16 : decode b_L_recentOffset 16 = .ok (.iload 4, 2) := by decide +kernel
theorem d_L_recentOffset_18 : decode b_L_recentOffset 18 = .ok (.iconst 5, 1) := by decide +kernel
theorem d_L_recentOffset_19 : decode b_L_recentOffset 19 = .ok (.if_icmp .ge 48, 3) := by decide +kernel
theorem d_L_recentOffset_22 : decode b_L_recentOffset 22 = .ok (.aload_n 0, 1) := by decide +kernel
theorem d_L_recentOffset_23 : decode b_L_recentOffset 23 = .ok (.getfield 12, 3) := by decide +kernel
theorem d_L_recentOffset_26 : decode b_L_recentOffset 26 = .ok (.iload 5, 2) := by decide +kernel
theorem d_L_recentOffset_28 : decode b_L_recentOffset 28 = .ok (.invokevirtual 63, 3) := by decide +kernel
theorem d_L_recentOffset_31 : decode b_L_recentOffset 31 = .ok (.checkcast 47, 3) := by decide +kernel
theorem d_L_recentOffset_34 : decode b_L_recentOffset 34 = .ok (.astore 6, 2) := by decide +kernel
theorem d_L_recentOffset_36 : decode b_L_recentOffset 36 = .ok (.aload 6, 2) := by decide +kernel
theorem d_L_recentOffset_38 : decode b_L_recentOffset 38 = .ok (.iload_n 1, 1) := by decide +kernel
theorem d_L_recentOffset_39 : decode b_L_recentOffset 39 = .ok (.iload_n 2, 1) := by decide +kernel
theorem d_L_recentOffset_40 : decode b_L_recentOffset 40 = .ok (.invokevirtual 81, 3) := by decide +kernel
theorem d_L_recentOffset_43 : decode b_L_recentOffset 43 = .ok (.ifCond .eq 18, 3) := by decide +kernel
theorem d_L_recentOffset_46 : decode b_L_recentOffset 46 = .ok (.aload 6, 2) := by decide +kernel
theorem d_L_recentOffset_48 : decode b_L_recentOffset 48 = .ok (.getfield 85, 3) := by decide +kernel
theorem d_L_recentOffset_51 : decode b_L_recentOffset 51 = .ok (.iload_n 3, 1) := by decide +kernel
theorem d_L_recentOffset_52 : decode b_L_recentOffset 52 = .ok (.if_icmp .ne 6, 3) := by decide +kernel
theorem d_L_recentOffset_55 : decode b_L_recentOffset 55 = .ok (.iload 5, 2) := by decide +kernel
theorem d_L_recentOffset_57 : decode b_L_recentOffset 57 = .ok (.ireturn, 1) := by decide +kernel
theorem d_L_recentOffset_58 : decode b_L_recentOffset 58 = .ok (.iinc 4 1, 3) := by decide +kernel
theorem d_L_recentOffset_61 : decode b_L_recentOffset 61 = .ok (.iinc 5 (-1), 3) := by decide +kernel
theorem d_L_recentOffset_64 : decode b_L_recentOffset 64 = .ok (.goto (-53), 3) := by decide +kernel
theorem d_L_recentOffset_67 : decode b_L_recentOffset 67 = .ok (.iconst (-1), 1) := by decide +kernel
theorem d_L_recentOffset_68 : decode b_L_recentOffset 68 = .ok (.ireturn, 1) := by decide +kernel
theorem d_L_nextSequence_0 : decode b_L_nextSequence 0 = .ok (.aload_n 0, 1) := by decide +kernel
theorem d_L_nextSequence_1 : decode b_L_nextSequence 1 = .ok (.invokevirtual 39, 3) := by decide +kernel
theorem d_L_nextSequence_4 : decode b_L_nextSequence 4 = .ok (.iconst 1, 1) := by decide +kernel
theorem d_L_nextSequence_5 : decode b_L_nextSequence 5 = .ok (.isub, 1) := by decide +kernel
theorem d_L_nextSequence_6 : decode b_L_nextSequence 6 = .ok (.istore_n 3, 1) := by decide +kernel
theorem d_L_nextSequence_7 : decode b_L_nextSequence 7 = .ok (.iload_n 3, 1) := by decide +kernel
theorem d_L_nextSequence_8 : decode b_L_nextSequence 8 = .ok (.ifCond .lt 40, 3) := by decide +kernel
theorem d_L_nextSequence_11 : decode b_L_nextSequence 11 = .ok (.aload_n 0, 1) := by decide +kernel
theorem d_L_nextSequence_12 : decode b_L_nextSequence 12 = .ok (.getfield 12, 3) := by decide +kernel
theorem d_L_nextSequence_15 : decode b_L_nextSequence 15 = .ok (.iload_n 3, 1) := by decide +kernel
theorem d_L_nextSequence_16 : decode b_L_nextSequence 16 = .ok (.invokevirtual 63, 3) := by decide +kernel
theorem d_L_nextSequence_19 : decode b_L_nextSequence 19 = .ok (.checkcast 47, 3) := by decide +kernel
theorem d_L_nextSequence_22 : decode b_L_nextSequence 22 = .ok (.astore 4, 2) := by decide +kernel
theorem d_L_nextSequence_24 : decode b_L_nextSequence 24 = .ok (.aload 4, 2) := by decide +kernel
theorem d_L_nextSequence_26 : decode b_L_nextSequence 26 = .ok (.iload_n 1, 1) := by decide +kernel
theorem d_L_nextSequence_27 : decode b_L_nextSequence 27 = .ok (.iload_n 2, 1) := by decide +kernel
theorem d_L_nextSequence_28 : decode b_L_nextSequence 28 = .ok (.invokevirtual 81, 3) := by decide +kernel
theorem d_L_nextSequence_31 : decode b_L_nextSequence 31 = .ok (.ifCond .eq 11, 3) := by decide +kernel
theorem d_L_nextSequence_34 : decode b_L_nextSequence 34 = .ok (.aload 4, 2) := by decide +kernel
theorem d_L_nextSequence_36 : decode b_L_nextSequence 36 = .ok (.getfield 85, 3) := by decide +kernel
theorem d_L_nextSequence_39 : decode b_L_nextSequence 39 = .ok (.iconst 1, 1) := by decide +kernel
theorem d_L_nextSequence_40 : decode b_L_nextSequence 40 = .ok (.iadd, 1) := by decide +kernel
theorem d_L_nextSequence_41 : decode b_L_nextSequence 41 = .ok (.ireturn, 1) := by decide +kernel
theorem d_L_nextSequence_42 : decode b_L_nextSequence 42 = .ok (.iinc 3 (-1), 3) := by decide +kernel
theorem d_L_nextSequence_45 : decode b_L_nextSequence 45 = .ok (.goto (-38), 3) := by decide +kernel
theorem d_L_nextSequence_48 : decode b_L_nextSequence 48 = .ok (.iconst 0, 1) := by decide +kernel
theorem d_L_nextSequence_49 : decode b_L_nextSequence 49 = .ok (.ireturn, 1) := by decide +kernel
theorem d_L_isFull_0 : decode b_L_isFull 0 = .ok (.aload_n 0, 1) := by decide +kernel
theorem d_L_isFull_1 : decode b_L_isFull 1 = .ok (.invokevirtual 39, 3) := by decide +kernel
theorem d_L_isFull_4 : decode b_L_isFull 4 = .ok (.aload_n 0, 1) := by decide +kernel
theorem d_L_isFull_5 : decode b_L_isFull 5 = .ok (.getfield 22, 3) := by decide +kernel
theorem d_L_isFull_8 : decode b_L_isFull 8 = .ok (.isub, 1) := by decide +kernel
theorem d_L_isFull_9 : decode b_L_isFull 9 = .ok (.bipush 32, 2) := by decide +kernel
theorem d_L_isFull_11 : decode b_L_isFull 11 = .ok (.if_icmp .ge 13, 3) := by decide +kernel
theorem d_L_isFull_14 : decode b_L_isFull 14 = .ok (.aload_n 0, 1) := by decide +kernel
theorem d_L_isFull_15 : decode b_L_isFull 15 = .ok (.invokevirtual 39, 3) := by decide +kernel
theorem d_L_isFull_18 : decode b_L_isFull 18 = .ok (.sipush 400, 3) := by decide +kernel
theorem d_L_isFull_21 : decode b_L_isFull 21 = .ok (.if_icmp .lt 7, 3) := by decide +kernel
theorem d_L_isFull_24 : decode b_L_isFull 24 = .ok (.iconst 1, 1) := by decide +kernel
theorem d_L_isFull_25 : decode b_L_isFull 25 = .ok (.goto 4, 3) := by decide +kernel
theorem d_L_isFull_28 : decode b_L_isFull 28 = .ok (.iconst 0, 1) := by decide +kernel
theorem d_L_isFull_29 : decode b_L_isFull 29 = .ok (.ireturn, 1) := by decide +kernel
theorem d_E_ofProducer_0 : decode b_E_ofProducer 0 = .ok (.new 10, 3) := by decide +kernel
theorem d_E_ofProducer_3 : decode b_E_ofProducer 3 = .ok (.dup, 1) := by decide +kernel
theorem d_E_ofProducer_4 : decode b_E_ofProducer 4 = .ok (.iconst 0, 1) := by decide +kernel
theorem d_E_ofProducer_5 : decode b_E_ofProducer 5 = .ok (.aload_n 0, 1) := by decide +kernel
theorem d_E_ofProducer_6 : decode b_E_ofProducer 6 = .ok (.getfield 33, 3) := by decide +kernel
theorem d_E_ofProducer_9 : decode b_E_ofProducer 9 = .ok (.aload_n 0, 1) := by decide +kernel
theorem d_E_ofProducer_10 : decode b_E_ofProducer 10 = .ok (.getfield 36, 3) := by decide +kernel
theorem d_E_ofProducer_13 : decode b_E_ofProducer 13 = .ok (.aload_n 0, 1) := by decide +kernel
theorem d_E_ofProducer_14 : decode b_E_ofProducer 14 = .ok (.getfield 37, 3) := by decide +kernel
theorem d_E_ofProducer_17 : decode b_E_ofProducer 17 = .ok (.iload_n 1, 1) := by decide +kernel
theorem d_E_ofProducer_18 : decode b_E_ofProducer 18 = .ok (.iload_n 2, 1) := by decide +kernel
theorem d_E_ofProducer_19 : decode b_E_ofProducer 19 = .ok (.invokespecial 30, 3) := by decide +kernel
theorem d_E_ofProducer_22 : decode b_E_ofProducer 22 = .ok (.areturn, 1) := by decide +kernel
theorem d_P_touch_0 : decode b_P_touch 0 = .ok (.aload_n 0, 1) := by decide +kernel
theorem d_P_touch_1 : decode b_P_touch 1 = .ok (.dup, 1) := by decide +kernel
theorem d_P_touch_2 : decode b_P_touch 2 = .ok (.getfield 24, 3) := by decide +kernel
theorem d_P_touch_5 : decode b_P_touch 5 = .ok (.iconst 1, 1) := by decide +kernel
theorem d_P_touch_6 : decode b_P_touch 6 = .ok (.iload_n 1, 1) := by decide +kernel
theorem d_P_touch_7 : decode b_P_touch 7 = .ok (.ishl, 1) := by decide +kernel
theorem d_P_touch_8 : decode b_P_touch 8 = .ok (.ior, 1) := by decide +kernel
theorem d_P_touch_9 : decode b_P_touch 9 = .ok (.putfield 24, 3) := by decide +kernel
theorem d_P_touch_12 : decode b_P_touch 12 = .ok (.return_, 1) := by decide +kernel
theorem d_P_putPending_0 : decode b_P_putPending 0 = .ok (.aload_n 0, 1) := by decide +kernel
theorem d_P_putPending_1 : decode b_P_putPending 1 = .ok (.getfield 27, 3) := by decide +kernel
theorem d_P_putPending_4 : decode b_P_putPending 4 = .ok (.iload_n 1, 1) := by decide +kernel
theorem d_P_putPending_5 : decode b_P_putPending 5 = .ok (.iconst 4, 1) := by decide +kernel
theorem d_P_putPending_6 : decode b_P_putPending 6 = .ok (.imul, 1) := by decide +kernel
theorem d_P_putPending_7 : decode b_P_putPending 7 = .ok (.iload_n 2, 1) := by decide +kernel
theorem d_P_putPending_8 : decode b_P_putPending 8 = .ok (.iadd, 1) := by decide +kernel
theorem d_P_putPending_9 : decode b_P_putPending 9 = .ok (.iload_n 3, 1) := by decide +kernel
theorem d_P_putPending_10 : decode b_P_putPending 10 = .ok (.iastore, 1) := by decide +kernel
theorem d_P_putPending_11 : decode b_P_putPending 11 = .ok (.iconst 0, 1) := by decide +kernel
theorem d_P_putPending_12 : decode b_P_putPending 12 = .ok (.istore 4, 2) := by decide +kernel
theorem d_P_putPending_14 : decode b_P_putPending 14 = .ok (.aload_n 0, 1) := by decide +kernel
theorem d_P_putPending_15 : decode b_P_putPending 15 = .ok (.getfield 27, 3) := by decide +kernel
theorem d_P_putPending_18 : decode b_P_putPending 18 = .ok (.astore 5, 2) := by decide +kernel
theorem d_P_putPending_20 : decode b_P_putPending 20 = .ok (.aload 5, 2) := by decide +kernel
theorem d_P_putPending_22 : decode b_P_putPending 22 = .ok (.arraylength, 1) := by decide +kernel
theorem d_P_putPending_23 : decode b_P_putPending 23 = .ok (.istore 6, 2) := by decide +kernel
theorem d_P_putPending_25 : decode b_P_putPending 25 = .ok (.iconst 0, 1) := by decide +kernel
theorem d_P_putPending_26 : decode b_P_putPending 26 = .ok (.istore 7, 2) := by decide +kernel
theorem d_P_putPending_28 : decode b_P_putPending 28 = .ok (.iload 7, 2) := by decide +kernel
theorem d_P_putPending_30 : decode b_P_putPending 30 = .ok (.iload 6, 2) := by decide +kernel
theorem d_P_putPending_32 : decode b_P_putPending 32 = .ok (.if_icmp .ge 25, 3) := by decide +kernel
theorem d_P_putPending_35 : decode b_P_putPending 35 = .ok (.aload 5, 2) := by decide +kernel
theorem d_P_putPending_37 : decode b_P_putPending 37 = .ok (.iload 7, 2) := by decide +kernel
theorem d_P_putPending_39 : decode b_P_putPending 39 = .ok (.iaload, 1) := by decide +kernel
theorem d_P_putPending_40 : decode b_P_putPending 40 = .ok (.istore 8, 2) := by decide +kernel
theorem d_P_putPending_42 : decode b_P_putPending 42 = .ok (.iload 8, 2) := by decide +kernel
theorem d_P_putPending_44 : decode b_P_putPending 44 = .ok (.iconst (-1), 1) := by decide +kernel
theorem d_P_putPending_45 : decode b_P_putPending 45 = .ok (.if_icmp .eq 6, 3) := by decide +kernel
theorem d_P_putPending_48 : decode b_P_putPending 48 = .ok (.iinc 4 1, 3) := by decide +kernel
theorem d_P_putPending_51 : decode b_P_putPending 51 = .ok (.iinc 7 1, 3) := by decide +kernel
theorem d_P_putPending_54 : decode b_P_putPending 54 = .ok (.goto (-26), 3) := by decide +kernel
theorem d_P_putPending_57 : decode b_P_putPending 57 = .ok (.iload 4, 2) := by decide +kernel
theorem d_P_putPending_59 : decode b_P_putPending 59 = .ok (.ireturn, 1) := by decide +kernel
theorem d_E_isData_0 : decode b_E_isData 0 = .ok (.aload_n 0, 1) := by decide +kernel
theorem d_E_isData_1 : decode b_E_isData 1 = .ok (.getfield 9, 3) := by decide +kernel
theorem d_E_isData_4 : decode b_E_isData 4 = .ok (.ifCond .ne 7, 3) := by decide +kernel
theorem d_E_isData_7 : decode b_E_isData 7 = .ok (.iconst 1, 1) := by decide +kernel
theorem d_E_isData_8 : decode b_E_isData 8 = .ok (.goto 4, 3) := by decide +kernel
theorem d_E_isData_11 : decode b_E_isData 11 = .ok (.iconst 0, 1) := by decide +kernel
theorem d_E_isData_12 : decode b_E_isData 12 = .ok (.ireturn, 1) := by decide +kernel
theorem d_L_hasUncopied_0 : decode b_L_hasUncopied 0 = .ok (.aload_n 0, 1) := by decide +kernel
theorem d_L_hasUncopied_1 : decode b_L_hasUncopied 1 = .ok (.getfield 26, 3) := by decide +kernel
theorem d_L_hasUncopied_4 : decode b_L_hasUncopied 4 = .ok (.istore_n 2, 1) := by decide +kernel
theorem d_L_hasUncopied_5 : decode b_L_hasUncopied 5 = .ok (.iload_n 2, 1) := by decide +kernel
theorem d_L_hasUncopied_6 : decode b_L_hasUncopied 6 = .ok (.aload_n 0, 1) := by decide +kernel
theorem d_L_hasUncopied_7 : decode b_L_hasUncopied 7 = .ok (.invokevirtual 39, 3) := by decide +kernel
theorem d_L_hasUncopied_10 : decode b_L_hasUncopied 10 = .ok (.if_icmp .ge 38, 3) := by decide +kernel
theorem d_L_hasUncopied_13 : decode b_L_hasUncopied 13 = .ok (.aload_n 0, 1) := by decide +kernel
theorem d_L_hasUncopied_14 : decode b_L_hasUncopied 14 = .ok (.getfield 12, 3) := by decide +kernel
theorem d_L_hasUncopied_17 : decode b_L_hasUncopied 17 = .ok (.iload_n 2, 1) := by decide +kernel
theorem d_L_hasUncopied_18 : decode b_L_hasUncopied 18 = .ok (.invokevirtual 63, 3) := by decide +kernel
theorem d_L_hasUncopied_21 : decode b_L_hasUncopied 21 = .ok (.checkcast 47, 3) := by decide +kernel
theorem d_L_hasUncopied_24 : decode b_L_hasUncopied 24 = .ok (.astore_n 3, 1) := by decide +kernel
theorem d_L_hasUncopied_25 : decode b_L_hasUncopied 25 = .ok (.aload_n 3, 1) := by decide +kernel
theorem d_L_hasUncopied_26 : decode b_L_hasUncopied 26 = .ok (.invokevirtual 70, 3) := by decide +kernel
theorem d_L_hasUncopied_29 : decode b_L_hasUncopied 29 = .ok (.ifCond .eq 13, 3) := by decide +kernel
theorem d_L_hasUncopied_32 : decode b_L_hasUncopied 32 = .ok (.aload_n 3, 1) := by decide +kernel
theorem d_L_hasUncopied_33 : decode b_L_hasUncopied 33 = .ok (.getfield 74, 3) := by decide +kernel
theorem d_L_hasUncopied_36 : decode b_L_hasUncopied 36 = .ok (.iload_n 1, 1) := by decide +kernel
theorem d_L_hasUncopied_37 : decode b_L_hasUncopied 37 = .ok (.if_icmp .ne 5, 3) := by decide +kernel
theorem d_L_hasUncopied_40 : decode b_L_hasUncopied 40 = .ok (.iconst 1, 1) := by decide +kernel
theorem d_L_hasUncopied_41 : decode b_L_hasUncopied 41 = .ok (.ireturn, 1) := by decide +kernel
theorem d_L_hasUncopied_42 : decode b_L_hasUncopied 42 = .ok (.iinc 2 1, 3) := by decide +kernel
theorem d_L_hasUncopied_45 : decode b_L_hasUncopied 45 = .ok (.goto (-40), 3) := by decide +kernel
theorem d_L_hasUncopied_48 : decode b_L_hasUncopied 48 = .ok (.iconst 0, 1) := by decide +kernel
theorem d_L_hasUncopied_49 : decode b_L_hasUncopied 49 = .ok (.ireturn, 1) := by decide +kernel
theorem d_P_startEnding_0 : decode b_P_startEnding 0 = .ok (.aload_n 0, 1) := by decide +kernel
theorem d_P_startEnding_1 : decode b_P_startEnding 1 = .ok (.iload_n 1, 1) := by decide +kernel
theorem d_P_startEnding_2 : decode b_P_startEnding 2 = .ok (.ifCond .eq 7, 3) := by decide +kernel
theorem d_P_startEnding_5 : decode b_P_startEnding 5 = .ok (.iconst 2, 1) := by decide +kernel
theorem d_P_startEnding_6 : decode b_P_startEnding 6 = .ok (.goto 4, 3) := by decide +kernel
theorem d_P_startEnding_9 : decode b_P_startEnding 9 = .ok (.iconst 3, 1) := by decide +kernel
theorem d_P_startEnding_10 : decode b_P_startEnding 10 = .ok (.putfield 11, 3) := by decide +kernel
theorem d_P_startEnding_13 : decode b_P_startEnding 13 = .ok (.return_, 1) := by decide +kernel
theorem d_E_ofPlain_0 : decode b_E_ofPlain 0 = .ok (.new 10, 3) := by decide +kernel
theorem d_E_ofPlain_3 : decode b_E_ofPlain 3 = .ok (.dup, 1) := by decide +kernel
theorem d_E_ofPlain_4 : decode b_E_ofPlain 4 = .ok (.iconst 0, 1) := by decide +kernel
theorem d_E_ofPlain_5 : decode b_E_ofPlain 5 = .ok (.iconst 0, 1) := by decide +kernel
theorem d_E_ofPlain_6 : decode b_E_ofPlain 6 = .ok (.iconst (-1), 1) := by decide +kernel
theorem d_E_ofPlain_7 : decode b_E_ofPlain 7 = .ok (.iconst (-1), 1) := by decide +kernel
theorem d_E_ofPlain_8 : decode b_E_ofPlain 8 = .ok (.iconst (-1), 1) := by decide +kernel
theorem d_E_ofPlain_9 : decode b_E_ofPlain 9 = .ok (.iload_n 0, 1) := by decide +kernel
theorem d_E_ofPlain_10 : decode b_E_ofPlain 10 = .ok (.invokespecial 30, 3) := by decide +kernel
theorem d_E_ofPlain_13 : decode b_E_ofPlain 13 = .ok (.areturn, 1) := by decide +kernel
theorem d_L_raiseHigh_0 : decode b_L_raiseHigh 0 = .ok (.aload_n 0, 1) := by decide +kernel
theorem d_L_raiseHigh_1 : decode b_L_raiseHigh 1 = .ok (.aload_n 0, 1) := by decide +kernel
theorem d_L_raiseHigh_2 : decode b_L_raiseHigh 2 = .ok (.getfield 26, 3) := by decide +kernel
theorem d_L_raiseHigh_5 : decode b_L_raiseHigh 5 = .ok (.iload_n 1, 1) := by decide +kernel
theorem d_L_raiseHigh_6 : decode b_L_raiseHigh 6 = .ok (.iadd, 1) := by decide +kernel
theorem d_L_raiseHigh_7 : decode b_L_raiseHigh 7 = .ok (.aload_n 0, 1) := by decide +kernel
theorem d_L_raiseHigh_8 : decode b_L_raiseHigh 8 = .ok (.invokevirtual 39, 3) := by decide +kernel
theorem d_L_raiseHigh_11 : decode b_L_raiseHigh 11 = .ok (.invokestatic 88, 3) := by decide +kernel
theorem d_L_raiseHigh_14 : decode b_L_raiseHigh 14 = .ok (.putfield 26, 3) := by decide +kernel
theorem d_L_raiseHigh_17 : decode b_L_raiseHigh 17 = .ok (.aload_n 0, 1) := by decide +kernel
theorem d_L_raiseHigh_18 : decode b_L_raiseHigh 18 = .ok (.getfield 26, 3) := by decide +kernel
theorem d_L_raiseHigh_21 : decode b_L_raiseHigh 21 = .ok (.ireturn, 1) := by decide +kernel
theorem d_L_dropUncopied_0 : decode b_L_dropUncopied 0 = .ok (.aload_n 0, 1) := by decide +kernel
theorem d_L_dropUncopied_1 : decode b_L_dropUncopied 1 = .ok (.invokevirtual 39, 3) := by decide +kernel
theorem d_L_dropUncopied_4 : decode b_L_dropUncopied 4 = .ok (.aload_n 0, 1) := by decide +kernel
theorem d_L_dropUncopied_5 : decode b_L_dropUncopied 5 = .ok (.getfield 26, 3) := by decide +kernel
theorem d_L_dropUncopied_8 : decode b_L_dropUncopied 8 = .ok (.isub, 1) := by decide +kernel
theorem d_L_dropUncopied_9 : decode b_L_dropUncopied 9 = .ok (.istore_n 1, 1) := by decide +kernel
theorem d_L_dropUncopied_10 : decode b_L_dropUncopied 10 = .ok (.aload_n 0, 1) := by decide +kernel
theorem d_L_dropUncopied_11 : decode b_L_dropUncopied 11 = .ok (.invokevirtual 39, 3) := by decide +kernel
theorem d_L_dropUncopied_14 : decode b_L_dropUncopied 14 = .ok (.iconst 1, 1) := by decide +kernel
theorem d_L_dropUncopied_15 : decode b_L_dropUncopied 15 = .ok (.isub, 1) := by decide +kernel
theorem d_L_dropUncopied_16 : decode b_L_dropUncopied 16 = .ok (.istore_n 2, 1) := by decide +kernel
theorem d_L_dropUncopied_17 : decode b_L_dropUncopied 17 = .ok (.iload_n 2, 1) := by decide +kernel
theorem d_L_dropUncopied_18 : decode b_L_dropUncopied 18 = .ok (.aload_n 0, 1) := by decide +kernel
theorem d_L_dropUncopied_19 : decode b_L_dropUncopied 19 = .ok (.getfield 26, 3) := by decide +kernel
theorem d_L_dropUncopied_22 : decode b_L_dropUncopied 22 = .ok (.if_icmp .lt 38, 3) := by decide +kernel
theorem d_L_dropUncopied_25 : decode b_L_dropUncopied 25 = .ok (.aload_n 0, 1) := by decide +kernel
theorem d_L_dropUncopied_26 : decode b_L_dropUncopied 26 = .ok (.getfield 12, 3) := by decide +kernel
theorem d_L_dropUncopied_29 : decode b_L_dropUncopied 29 = .ok (.iload_n 2, 1) := by decide +kernel
theorem d_L_dropUncopied_30 : decode b_L_dropUncopied 30 = .ok (.invokevirtual 94, 3) := by decide +kernel
theorem d_L_dropUncopied_33 : decode b_L_dropUncopied 33 = .ok (.checkcast 47, 3) := by decide +kernel
theorem d_L_dropUncopied_36 : decode b_L_dropUncopied 36 = .ok (.astore_n 3, 1) := by decide +kernel
theorem d_L_dropUncopied_37 : decode b_L_dropUncopied 37 = .ok (.aload_n 3, 1) := by decide +kernel
theorem d_L_dropUncopied_38 : decode b_L_dropUncopied 38 = .ok (.invokevirtual 70, 3) := by decide +kernel
theorem d_L_dropUncopied_41 : decode b_L_dropUncopied 41 = .ok (.ifCond .ne 13, 3) := by decide +kernel
theorem d_L_dropUncopied_44 : decode b_L_dropUncopied 44 = .ok (.aload_n 0, 1) := by decide +kernel
theorem d_L_dropUncopied_45 : decode b_L_dropUncopied 45 = .ok (.getfield 18, 3) := by decide +kernel
theorem d_L_dropUncopied_48 : decode b_L_dropUncopied 48 = .ok (.aload_n 3, 1) := by decide +kernel
theorem d_L_dropUncopied_49 : decode b_L_dropUncopied 49 = .ok (.getfield 74, 3) := by decide +kernel
theorem d_L_dropUncopied_52 : decode b_L_dropUncopied 52 = .ok (.iconst (-1), 1) := by decide +kernel
theorem d_L_dropUncopied_53 : decode b_L_dropUncopied 53 = .ok (.iastore, 1) := by decide +kernel
theorem d_L_dropUncopied_54 : decode b_L_dropUncopied 54 = .ok (.iinc 2 (-1), 3) := by decide +kernel
theorem d_L_dropUncopied_57 : decode b_L_dropUncopied 57 = .ok (.goto (-40), 3) := by decide +kernel
theorem d_L_dropUncopied_60 : decode b_L_dropUncopied 60 = .ok (.iload_n 1, 1) := by decide +kernel
theorem d_L_dropUncopied_61 : decode b_L_dropUncopied 61 = .ok (.ireturn, 1) := by decide +kernel
theorem d_L_isUnended_0 : decode b_L_isUnended 0 = .ok (.aload_n 1, 1) := by decide +kernel
theorem d_L_isUnended_1 : decode b_L_isUnended 1 = .ok (.invokevirtual 70, 3) := by decide +kernel
theorem d_L_isUnended_4 : decode b_L_isUnended 4 = .ok (.ifCond .eq 25, 3) := by decide +kernel
theorem d_L_isUnended_7 : decode b_L_isUnended 7 = .ok (.aload_n 1, 1) := by decide +kernel
theorem d_L_isUnended_8 : decode b_L_isUnended 8 = .ok (.getfield 74, 3) := by decide +kernel
theorem d_L_isUnended_11 : decode b_L_isUnended 11 = .ok (.ifCond .eq 18, 3) := by decide +kernel
theorem d_L_isUnended_14 : decode b_L_isUnended 14 = .ok (.aload_n 0, 1) := by decide +kernel
theorem d_L_isUnended_15 : decode b_L_isUnended 15 = .ok (.aload_n 1, 1) := by decide +kernel
theorem d_L_isUnended_16 : decode b_L_isUnended 16 = .ok (.getfield 74, 3) := by decide +kernel
theorem d_L_isUnended_19 : decode b_L_isUnended 19 = .ok (.invokevirtual 60, 3) := by decide +kernel
theorem d_L_isUnended_22 : decode b_L_isUnended 22 = .ok (.ifCond .ne 7, 3) := by decide +kernel
theorem d_L_isUnended_25 : decode b_L_isUnended 25 = .ok (.iconst 1, 1) := by decide +kernel
theorem d_L_isUnended_26 : decode b_L_isUnended 26 = .ok (.goto 4, 3) := by decide +kernel
theorem d_L_isUnended_29 : decode b_L_isUnended 29 = .ok (.iconst 0, 1) := by decide +kernel
theorem d_L_isUnended_30 : decode b_L_isUnended 30 = .ok (.ireturn, 1) := by decide +kernel
theorem d_L_stableOffset_0 : decode b_L_stableOffset 0 = .ok (.iconst 0, 1) := by decide +kernel
theorem d_L_stableOffset_1 : decode b_L_stableOffset 1 = .ok (.istore_n 1, 1) := by decide +kernel
theorem d_L_stableOffset_2 : decode b_L_stableOffset 2 = .ok (.iload_n 1, 1) := by decide +kernel
theorem d_L_stableOffset_3 : decode b_L_stableOffset 3 = .ok (.aload_n 0, 1) := by decide +kernel
theorem d_L_stableOffset_4 : decode b_L_stableOffset 4 = .ok (.getfield 26, 3) := by decide +kernel
theorem d_L_stableOffset_7 : decode b_L_stableOffset 7 = .ok (.if_icmp .ge 29, 3) := by decide +kernel
theorem d_L_stableOffset_10 : decode b_L_stableOffset 10 = .ok (.aload_n 0, 1) := by decide +kernel
theorem d_L_stableOffset_11 : decode b_L_stableOffset 11 = .ok (.aload_n 0, 1) := by decide +kernel
theorem d_L_stableOffset_12 : decode b_L_stableOffset 12 = .ok (.getfield 12, 3) := by decide +kernel
theorem d_L_stableOffset_15 : decode b_L_stableOffset 15 = .ok (.iload_n 1, 1) := by decide +kernel
theorem d_L_stableOffset_16 : decode b_L_stableOffset 16 = .ok (.invokevirtual 63, 3) := by decide +kernel
theorem d_L_stableOffset_19 : decode b_L_stableOffset 19 = .ok (.checkcast 47, 3) := by decide +kernel
theorem d_L_stableOffset_22 : decode b_L_stableOffset 22 = .ok (.invokevirtual 77, 3) := by decide +kernel
theorem d_L_stableOffset_25 : decode b_L_stableOffset 25 = .ok (.ifCond .eq 5, 3) := by decide +kernel
theorem d_L_stableOffset_28 : decode b_L_stableOffset 28 = .ok (.iload_n 1, 1) := by decide +kernel
theorem d_L_stableOffset_29 : decode b_L_stableOffset 29 = .ok (.ireturn, 1) := by decide +kernel
theorem d_L_stableOffset_30 : decode b_L_stableOffset 30 = .ok (.iinc 1 1, 3) := by decide +kernel
theorem d_L_stableOffset_33 : decode b_L_stableOffset 33 = .ok (.goto (-31), 3) := by decide +kernel
theorem d_L_stableOffset_36 : decode b_L_stableOffset 36 = .ok (.aload_n 0, 1) := by decide +kernel
theorem d_L_stableOffset_37 : decode b_L_stableOffset 37 = .ok (.getfield 26, 3) := by decide +kernel
theorem d_L_stableOffset_40 : decode b_L_stableOffset 40 = .ok (.ireturn, 1) := by decide +kernel
theorem d_L_isAborted_0 : decode b_L_isAborted 0 = .ok (.aload_n 0, 1) := by decide +kernel
theorem d_L_isAborted_1 : decode b_L_isAborted 1 = .ok (.iload_n 1, 1) := by decide +kernel
theorem d_L_isAborted_2 : decode b_L_isAborted 2 = .ok (.invokevirtual 60, 3) := by decide +kernel
theorem d_L_isAborted_5 : decode b_L_isAborted 5 = .ok (.ifCond .eq 30, 3) := by decide +kernel
theorem d_L_isAborted_8 : decode b_L_isAborted 8 = .ok (.aload_n 0, 1) := by decide +kernel
theorem d_L_isAborted_9 : decode b_L_isAborted 9 = .ok (.getfield 12, 3) := by decide +kernel
theorem d_L_isAborted_12 : decode b_L_isAborted 12 = .ok (.aload_n 0, 1) := by decide +kernel
theorem d_L_isAborted_13 : decode b_L_isAborted 13 = .ok (.getfield 18, 3) := by decide +kernel
theorem d_L_isAborted_16 : decode b_L_isAborted 16 = .ok (.iload_n 1, 1) := by decide +kernel
theorem d_L_isAborted_17 : decode b_L_isAborted 17 = .ok (.iaload, 1) := by decide +kernel
theorem d_L_isAborted_18 : decode b_L_isAborted 18 = .ok (.invokevirtual 63, 3) := by decide +kernel
theorem d_L_isAborted_21 : decode b_L_isAborted 21 = .ok (.checkcast 47, 3) := by decide +kernel
theorem d_L_isAborted_24 : decode b_L_isAborted 24 = .ok (.getfield 67, 3) := by decide +kernel
theorem d_L_isAborted_27 : decode b_L_isAborted 27 = .ok (.iconst 2, 1) := by decide +kernel
theorem d_L_isAborted_28 : decode b_L_isAborted 28 = .ok (.if_icmp .ne 7, 3) := by decide +kernel
theorem d_L_isAborted_31 : decode b_L_isAborted 31 = .ok (.iconst 1, 1) := by decide +kernel
theorem d_L_isAborted_32 : decode b_L_isAborted 32 = .ok (.goto 4, 3) := by decide +kernel
theorem d_L_isAborted_35 : decode b_L_isAborted 35 = .ok (.iconst 0, 1) := by decide +kernel
theorem d_L_isAborted_36 : decode b_L_isAborted 36 = .ok (.ireturn, 1) := by decide +kernel
theorem d_L_firstReadable_0 : decode b_L_firstReadable 0 = .ok (.iload_n 2, 1) := by decide +kernel
theorem d_L_firstReadable_1 : decode b_L_firstReadable 1 = .ok (.ifCond .eq 10, 3) := by decide +kernel
theorem d_L_firstReadable_4 : decode b_L_firstReadable 4 = .ok (.aload_n 0, 1) := by decide +kernel
theorem d_L_firstReadable_5 : decode b_L_firstReadable 5 = .ok (.invokevirtual 97, 3) := by decide +kernel
theorem d_L_firstReadable_8 : decode b_L_firstReadable 8 = .ok (.goto 7, 3) := by decide +kernel
theorem d_L_firstReadable_11 : decode b_L_firstReadable 11 = .ok (.aload_n 0, 1) := by decide +kernel
theorem d_L_firstReadable_12 : decode b_L_firstReadable 12 = .ok (.getfield 26, 3) := by decide +kernel
theorem d_L_firstReadable_15 : decode b_L_firstReadable 15 = .ok (.istore_n 3, 1) := by decide +kernel
theorem d_L_firstReadable_16 : decode b_L_firstReadable 16 = .ok (.iload_n 1, 1) := by decide +kernel
theorem d_L_firstReadable_17 : decode b_L_firstReadable 17 = .ok (.istore 4, 2) := by decide +kernel
theorem d_L_firstReadable_19 : decode b_L_firstReadable 19 = .ok (.iload 4, 2) := by decide +kernel
theorem d_L_firstReadable_21 : decode b_L_firstReadable 21 = .ok (.iload_n 3, 1) := by decide +kernel
theorem d_L_firstReadable_22 : decode b_L_firstReadable 22 = .ok (.if_icmp .ge 50, 3) := by decide +kernel
theorem d_L_firstReadable_25 : decode b_L_firstReadable 25 = .ok (.aload_n 0, 1) := by decide +kernel
theorem d_L_firstReadable_26 : decode b_L_firstReadable 26 = .ok (.getfield 12, 3) := by decide +kernel
theorem d_L_firstReadable_29 : decode b_L_firstReadable 29 = .ok (.iload 4, 2) := by decide +kernel
theorem d_L_firstReadable_31 : decode b_L_firstReadable 31 = .ok (.invokevirtual 63, 3) := by decide +kernel
theorem d_L_firstReadable_34 : decode b_L_firstReadable 34 = .ok (.checkcast 47, 3) := by decide +kernel
theorem d_L_firstReadable_37 : decode b_L_firstReadable 37 = .ok (.astore 5, 2) := by decide +kernel
theorem d_L_firstReadable_39 : decode b_L_firstReadable 39 = .ok (.aload 5, 2) := by decide +kernel
theorem d_L_firstReadable_41 : decode b_L_firstReadable 41 = .ok (.invokevirtual 70, 3) := by decide +kernel
theorem d_L_firstReadable_44 : decode b_L_firstReadable 44 = .ok (.ifCond .eq 22, 3) := by decide +kernel
theorem d_L_firstReadable_47 : decode b_L_firstReadable 47 = .ok (.iload_n 2, 1) := by decide +kernel
theorem d_L_firstReadable_48 : decode b_L_firstReadable 48 = .ok (.ifCond .eq 15, 3) := by decide +kernel
theorem d_L_firstReadable_51 : decode b_L_firstReadable 51 = .ok (.aload_n 0, 1) := by decide +kernel
theorem d_L_firstReadable_52 : decode b_L_firstReadable 52 = .ok (.aload 5, 2) := by decide +kernel
theorem d_L_firstReadable_54 : decode b_L_firstReadable 54 = .ok (.getfield 74, 3) := by decide +kernel
theorem d_L_firstReadable_57 : decode b_L_firstReadable 57 = .ok (.invokevirtual 100, 3) := by decide +kernel
theorem d_L_firstReadable_60 : decode b_L_firstReadable 60 = .ok (.ifCond .ne 6, 3) := by decide +kernel
theorem d_L_firstReadable_63 : decode b_L_firstReadable 63 = .ok (.iload 4, 2) := by decide +kernel
theorem d_L_firstReadable_65 : decode b_L_firstReadable 65 = .ok (.ireturn, 1) := by decide +kernel
theorem d_L_firstReadable_66 : decode b_L_firstReadable 66 = .ok (.iinc 4 1, 3) := by decide +kernel
theorem d_L_firstReadable_69 : decode b_L_firstReadable 69 = .ok (.goto (-50), 3) := by decide +kernel
theorem d_L_firstReadable_72 : decode b_L_firstReadable 72 = .ok (.iconst (-1), 1) := by decide +kernel
theorem d_L_firstReadable_73 : decode b_L_firstReadable 73 = .ok (.ireturn, 1) := by decide +kernel
theorem d_L_valueAt_0 : decode b_L_valueAt 0 = .ok (.aload_n 0, 1) := by decide +kernel
theorem d_L_valueAt_1 : decode b_L_valueAt 1 = .ok (.getfield 12, 3) := by decide +kernel
theorem d_L_valueAt_4 : decode b_L_valueAt 4 = .ok (.iload_n 1, 1) := by decide +kernel
theorem d_L_valueAt_5 : decode b_L_valueAt 5 = .ok (.invokevirtual 63, 3) := by decide +kernel
theorem d_L_valueAt_8 : decode b_L_valueAt 8 = .ok (.checkcast 47, 3) := by decide +kernel
theorem d_L_valueAt_11 : decode b_L_valueAt 11 = .ok (.getfield 103, 3) := by decide +kernel
theorem d_L_valueAt_14 : decode b_L_valueAt 14 = .ok (.ireturn, 1) := by decide +kernel
theorem d_G_isMember_0 : decode b_G_isMember 0 = .ok (.aload_n 0, 1) := by decide +kernel
theorem d_G_isMember_1 : decode b_G_isMember 1 = .ok (.getfield 15, 3) := by decide +kernel
theorem d_G_isMember_4 : decode b_G_isMember 4 = .ok (.iload_n 1, 1) := by decide +kernel
theorem d_G_isMember_5 : decode b_G_isMember 5 = .ok (.baload, 1) := by decide +kernel
theorem d_G_isMember_6 : decode b_G_isMember 6 = .ok (.ireturn, 1) := by decide +kernel
theorem d_G_hear_0 : decode b_G_hear 0 = .ok (.aload_n 0, 1) := by decide +kernel
theorem d_G_hear_1 : decode b_G_hear 1 = .ok (.getfield 19, 3) := by decide +kernel
theorem d_G_hear_4 : decode b_G_hear 4 = .ok (.iload_n 1, 1) := by decide +kernel
theorem d_G_hear_5 : decode b_G_hear 5 = .ok (.iload_n 2, 1) := by decide +kernel
theorem d_G_hear_6 : decode b_G_hear 6 = .ok (.iastore, 1) := by decide +kernel
theorem d_G_hear_7 : decode b_G_hear 7 = .ok (.return_, 1) := by decide +kernel
theorem d_G_addMember_0 : decode b_G_addMember 0 = .ok (.aload_n 0, 1) := by decide +kernel
theorem d_G_addMember_1 : decode b_G_addMember 1 = .ok (.getfield 15, 3) := by decide +kernel
theorem d_G_addMember_4 : decode b_G_addMember 4 = .ok (.iload_n 1, 1) := by decide +kernel
theorem d_G_addMember_5 : decode b_G_addMember 5 = .ok (.iconst 1, 1) := by decide +kernel
theorem d_G_addMember_6 : decode b_G_addMember 6 = .ok (.bastore, 1) := by decide +kernel
theorem d_G_addMember_7 : decode b_G_addMember 7 = .ok (.aload_n 0, 1) := by decide +kernel
theorem d_G_addMember_8 : decode b_G_addMember 8 = .ok (.iload_n 1, 1) := by decide +kernel
theorem d_G_addMember_9 : decode b_G_addMember 9 = .ok (.iload_n 2, 1) := by decide +kernel
theorem d_G_addMember_10 : decode b_G_addMember 10 = .ok (.invokevirtual 35, 3) := by decide +kernel
theorem d_G_addMember_13 : decode b_G_addMember 13 = .ok (.return_, 1) := by decide +kernel
theorem d_G_countMembers_0 : decode b_G_countMembers 0 = .ok (.iconst 0, 1) := by decide +kernel
theorem d_G_countMembers_1 : decode b_G_countMembers 1 = .ok (.istore_n 1, 1) := by decide +kernel
theorem d_G_countMembers_2 : decode b_G_countMembers 2 = .ok (.aload_n 0, 1) := by decide +kernel
theorem d_G_countMembers_3 : decode b_G_countMembers 3 = .ok (.getfield 15, 3) := by decide +kernel
theorem d_G_countMembers_6 : decode b_G_countMembers 6 = .ok (.astore_n 2, 1) := by decide +kernel
theorem d_G_countMembers_7 : decode b_G_countMembers 7 = .ok (.aload_n 2, 1) := by decide +kernel
theorem d_G_countMembers_8 : decode b_G_countMembers 8 = .ok (.arraylength, 1) := by decide +kernel
theorem d_G_countMembers_9 : decode b_G_countMembers 9 = .ok (.istore_n 3, 1) := by decide +kernel
theorem d_G_countMembers_10 : decode b_G_countMembers 10 = .ok (.iconst 0, 1) := by decide +kernel
theorem d_G_countMembers_11 : decode b_G_countMembers 11 = .ok (.istore 4, 2) := by decide +kernel
theorem d_G_countMembers_13 : decode b_G_countMembers 13 = .ok (.iload 4, 2) := by decide +kernel
theorem d_G_countMembers_15 : decode b_G_countMembers 15 = .ok (.iload_n 3, 1) := by decide +kernel
theorem d_G_countMembers_16 : decode b_G_countMembers 16 = .ok (.if_icmp .ge 23, 3) := by decide +kernel
theorem d_G_countMembers_19 : decode b_G_countMembers 19 = .ok (.aload_n 2, 1) := by decide +kernel
theorem d_G_countMembers_20 : decode b_G_countMembers 20 = .ok (.iload 4, 2) := by decide +kernel
theorem d_G_countMembers_22 : decode b_G_countMembers 22 = .ok (.baload, 1) := by decide +kernel
theorem d_G_countMembers_23 : decode b_G_countMembers 23 = .ok (.istore 5, 2) := by decide +kernel
theorem d_G_countMembers_25 : decode b_G_countMembers 25 = .ok (.iload 5, 2) := by decide +kernel
theorem d_G_countMembers_27 : decode b_G_countMembers 27 = .ok (.ifCond .eq 6, 3) := by decide +kernel
theorem d_G_countMembers_30 : decode b_G_countMembers 30 = .ok (.iinc 1 1, 3) := by decide +kernel
theorem d_G_countMembers_33 : decode b_G_countMembers 33 = .ok (.iinc 4 1, 3) := by decide +kernel
theorem d_G_countMembers_36 : decode b_G_countMembers 36 = .ok (.goto (-23), 3) := by decide +kernel
theorem d_G_countMembers_39 : decode b_G_countMembers 39 = .ok (.iload_n 1, 1) := by decide +kernel
theorem d_G_countMembers_40 : decode b_G_countMembers 40 = .ok (.ireturn, 1) := by decide +kernel
theorem d_G_leastOf_0 : decode b_G_leastOf 0 = .ok (.iconst 0, 1) := by decide +kernel
theorem d_G_leastOf_1 : decode b_G_leastOf 1 = .ok (.istore_n 2, 1) := by decide +kernel
theorem d_G_leastOf_2 : decode b_G_leastOf 2 = .ok (.iconst 0, 1) := by decide +kernel
theorem d_G_leastOf_3 : decode b_G_leastOf 3 = .ok (.istore_n 3, 1) := by decide +kernel
theorem d_G_leastOf_4 : decode b_G_leastOf 4 = .ok (.iload_n 3, 1) := by decide +kernel
theorem d_G_leastOf_5 : decode b_G_leastOf 5 = .ok (.iconst 4, 1) := by decide +kernel
theorem d_G_leastOf_6 : decode b_G_leastOf 6 = .ok (.if_icmp .ge 31, 3) := by decide +kernel
theorem d_G_leastOf_9 : decode b_G_leastOf 9 = .ok (.iload_n 0, 1) := by decide +kernel
theorem d_G_leastOf_10 : decode b_G_leastOf 10 = .ok (.iload_n 3, 1) := by decide +kernel
theorem d_G_leastOf_11 : decode b_G_leastOf 11 = .ok (.invokestatic 66, 3) := by decide +kernel
theorem d_G_leastOf_14 : decode b_G_leastOf 14 = .ok (.ifCond .eq 17, 3) := by decide +kernel
theorem d_G_leastOf_17 : decode b_G_leastOf 17 = .ok (.iload_n 2, 1) := by decide +kernel
theorem d_G_leastOf_18 : decode b_G_leastOf 18 = .ok (.invokestatic 56, 3) := by decide +kernel
theorem d_G_leastOf_21 : decode b_G_leastOf 21 = .ok (.iload_n 1, 1) := by decide +kernel
theorem d_G_leastOf_22 : decode b_G_leastOf 22 = .ok (.if_icmp .ge 9, 3) := by decide +kernel
theorem d_G_leastOf_25 : decode b_G_leastOf 25 = .ok (.iload_n 2, 1) := by decide +kernel
theorem d_G_leastOf_26 : decode b_G_leastOf 26 = .ok (.iconst 1, 1) := by decide +kernel
theorem d_G_leastOf_27 : decode b_G_leastOf 27 = .ok (.iload_n 3, 1) := by decide +kernel
theorem d_G_leastOf_28 : decode b_G_leastOf 28 = .ok (.ishl, 1) := by decide +kernel
theorem d_G_leastOf_29 : decode b_G_leastOf 29 = .ok (.ior, 1) := by decide +kernel
theorem d_G_leastOf_30 : decode b_G_leastOf 30 = .ok (.istore_n 2, 1) := by decide +kernel
theorem d_G_leastOf_31 : decode b_G_leastOf 31 = .ok (.iinc 3 1, 3) := by decide +kernel
theorem d_G_leastOf_34 : decode b_G_leastOf 34 = .ok (.goto (-30), 3) := by decide +kernel
theorem d_G_leastOf_37 : decode b_G_leastOf 37 = .ok (.iload_n 2, 1) := by decide +kernel
theorem d_G_leastOf_38 : decode b_G_leastOf 38 = .ok (.ireturn, 1) := by decide +kernel
theorem d_G_takeSurplus_0 : decode b_G_takeSurplus 0 = .ok (.iload_n 2, 1) := by decide +kernel
theorem d_G_takeSurplus_1 : decode b_G_takeSurplus 1 = .ok (.istore_n 3, 1) := by decide +kernel
theorem d_G_takeSurplus_2 : decode b_G_takeSurplus 2 = .ok (.iconst 0, 1) := by decide +kernel
theorem d_G_takeSurplus_3 : decode b_G_takeSurplus 3 = .ok (.istore 4, 2) := by decide +kernel
theorem d_G_takeSurplus_5 : decode b_G_takeSurplus 5 = .ok (.iload 4, 2) := by decide +kernel
theorem d_G_takeSurplus_7 : decode b_G_takeSurplus 7 = .ok (.iconst 4, 1) := by decide +kernel
theorem d_G_takeSurplus_8 : decode b_G_takeSurplus 8 = .ok (.if_icmp .ge 71, 3) := by decide +kernel
theorem d_G_takeSurplus_11 : decode b_G_takeSurplus 11 = .ok (.iload_n 3, 1) := by decide +kernel
theorem d_G_takeSurplus_12 : decode b_G_takeSurplus 12 = .ok (.ifCond .le 43, 3) := by decide +kernel
theorem d_G_takeSurplus_15 : decode b_G_takeSurplus 15 = .ok (.aload_n 0, 1) := by decide +kernel
theorem d_G_takeSurplus_16 : decode b_G_takeSurplus 16 = .ok (.getfield 23, 3) := by decide +kernel
theorem d_G_takeSurplus_19 : decode b_G_takeSurplus 19 = .ok (.iload 4, 2) := by decide +kernel
theorem d_G_takeSurplus_21 : decode b_G_takeSurplus 21 = .ok (.iaload, 1) := by decide +kernel
theorem d_G_takeSurplus_22 : decode b_G_takeSurplus 22 = .ok (.invokestatic 56, 3) := by decide +kernel
theorem d_G_takeSurplus_25 : decode b_G_takeSurplus 25 = .ok (.iload_n 1, 1) := by decide +kernel
theorem d_G_takeSurplus_26 : decode b_G_takeSurplus 26 = .ok (.if_icmp .le 29, 3) := by decide +kernel
theorem d_G_takeSurplus_29 : decode b_G_takeSurplus 29 = .ok (.aload_n 0, 1) := by decide +kernel
theorem d_G_takeSurplus_30 : decode b_G_takeSurplus 30 = .ok (.getfield 23, 3) := by decide +kernel
theorem d_G_takeSurplus_33 : decode b_G_takeSurplus 33 = .ok (.iload 4, 2) := by decide +kernel
theorem d_G_takeSurplus_35 : decode b_G_takeSurplus 35 = .ok (.aload_n 0, 1) := by decide +kernel
theorem d_G_takeSurplus_36 : decode b_G_takeSurplus 36 = .ok (.getfield 23, 3) := by decide +kernel
theorem d_G_takeSurplus_39 : decode b_G_takeSurplus 39 = .ok (.iload 4, 2) := by decide +kernel
theorem d_G_takeSurplus_41 : decode b_G_takeSurplus 41 = .ok (.iaload, 1) := by decide +kernel
theorem d_G_takeSurplus_42 : decode b_G_takeSurplus 42 = .ok (.iload_n 1, 1) := by decide +kernel
theorem d_G_takeSurplus_43 : decode b_G_takeSurplus 43 = .ok (.iconst 1, 1) := by decide +kernel
theorem d_G_takeSurplus_44 : decode b_G_takeSurplus 44 = .ok (.iadd, 1) := by decide +kernel
theorem d_G_takeSurplus_45 : decode b_G_takeSurplus 45 = .ok (.invokestatic 62, 3) := by decide +kernel
theorem d_G_takeSurplus_48 : decode b_G_takeSurplus 48 = .ok (.iastore, 1) := by decide +kernel
theorem d_G_takeSurplus_49 : decode b_G_takeSurplus 49 = .ok (.iinc 3 (-1), 3) := by decide +kernel
theorem d_G_takeSurplus_52 : decode b_G_takeSurplus 52 = .ok (.goto 21, 3) := by decide +kernel
theorem d_G_takeSurplus_55 : decode b_G_takeSurplus 55 = .ok (.aload_n 0, 1) := by decide +kernel
theorem d_G_takeSurplus_56 : decode b_G_takeSurplus 56 = .ok (.getfield 23, 3) := by decide +kernel
theorem d_G_takeSurplus_59 : decode b_G_takeSurplus 59 = .ok (.iload 4, 2) := by decide +kernel
theorem d_G_takeSurplus_61 : decode b_G_takeSurplus 61 = .ok (.aload_n 0, 1) := by decide +kernel
theorem d_G_takeSurplus_62 : decode b_G_takeSurplus 62 = .ok (.getfield 23, 3) := by decide +kernel
theorem d_G_takeSurplus_65 : decode b_G_takeSurplus 65 = .ok (.iload 4, 2) := by decide +kernel
theorem d_G_takeSurplus_67 : decode b_G_takeSurplus 67 = .ok (.iaload, 1) := by decide +kernel
theorem d_G_takeSurplus_68 : decode b_G_takeSurplus 68 = .ok (.iload_n 1, 1) := by decide +kernel
theorem d_G_takeSurplus_69 : decode b_G_takeSurplus 69 = .ok (.invokestatic 62, 3) := by decide +kernel
theorem d_G_takeSurplus_72 : decode b_G_takeSurplus 72 = .ok (.iastore, 1) := by decide +kernel
theorem d_G_takeSurplus_73 : decode b_G_takeSurplus 73 = .ok (.iinc 4 1, 3) := by decide +kernel
theorem d_G_takeSurplus_76 : decode b_G_takeSurplus 76 = .ok (.goto (-71), 3) := by decide +kernel
theorem d_G_takeSurplus_79 : decode b_G_takeSurplus 79 = .ok (.return_, 1) := by decide +kernel
theorem d_G_poorestMember_0 : decode b_G_poorestMember 0 = .ok (.iconst (-1), 1) := by decide +kernel
theorem d_G_poorestMember_1 : decode b_G_poorestMember 1 = .ok (.istore_n 1, 1) := by decide +kernel
theorem d_G_poorestMember_2 : decode b_G_poorestMember 2 = .ok (.iconst 5, 1) := by decide +kernel
theorem d_G_poorestMember_3 : decode b_G_poorestMember 3 = .ok (.istore_n 2, 1) := by decide +kernel
theorem d_G_poorestMember_4 : decode b_G_poorestMember 4 = .ok (.iconst 0, 1) := by decide +kernel
theorem d_G_poorestMember_5 : decode b_G_poorestMember 5 = .ok (.istore_n 3, 1) := by decide +kernel
theorem d_G_poorestMember_6 : decode b_G_poorestMember 6 = .ok (.iload_n 3, 1) := by decide +kernel
theorem d_G_poorestMember_7 : decode b_G_poorestMember 7 = .ok (.iconst 4, 1) := by decide +kernel
theorem d_G_poorestMember_8 : decode b_G_poorestMember 8 = .ok (.if_icmp .ge 40, 3) := by decide +kernel
theorem d_G_poorestMember_11 : decode b_G_poorestMember 11 = .ok (.aload_n 0, 1) := by decide +kernel
theorem d_G_poorestMember_12 : decode b_G_poorestMember 12 = .ok (.getfield 23, 3) := by decide +kernel
theorem d_G_poorestMember_15 : decode b_G_poorestMember 15 = .ok (.iload_n 3, 1) := by decide +kernel
theorem d_G_poorestMember_16 : decode b_G_poorestMember 16 = .ok (.iaload, 1) := by decide +kernel
theorem d_G_poorestMember_17 : decode b_G_poorestMember 17 = .ok (.invokestatic 56, 3) := by decide +kernel
theorem d_G_poorestMember_20 : decode b_G_poorestMember 20 = .ok (.istore 4, 2) := by decide +kernel
theorem d_G_poorestMember_22 : decode b_G_poorestMember 22 = .ok (.aload_n 0, 1) := by decide +kernel
theorem d_G_poorestMember_23 : decode b_G_poorestMember 23 = .ok (.getfield 15, 3) := by decide +kernel
theorem d_G_poorestMember_26 : decode b_G_poorestMember 26 = .ok (.iload_n 3, 1) := by decide +kernel
theorem d_G_poorestMember_27 : decode b_G_poorestMember 27 = .ok (.baload, 1) := by decide +kernel
theorem d_G_poorestMember_28 : decode b_G_poorestMember 28 = .ok (.ifCond .eq 14, 3) := by decide +kernel
theorem d_G_poorestMember_31 : decode b_G_poorestMember 31 = .ok (.iload 4, 2) := by decide +kernel
theorem d_G_poorestMember_33 : decode b_G_poorestMember 33 = .ok (.iload_n 2, 1) := by decide +kernel
theorem d_G_poorestMember_34 : decode b_G_poorestMember 34 = .ok (.if_icmp .ge 8, 3) := by decide +kernel
theorem d_G_poorestMember_37 : decode b_G_poorestMember 37 = .ok (.iload_n 3, 1) := by decide +kernel
theorem d_G_poorestMember_38 : decode b_G_poorestMember 38 = .ok (.istore_n 1, 1) := by decide +kernel
theorem d_G_poorestMember_39 : decode b_G_poorestMember 39 = .ok (.iload 4, 2) := by decide +kernel
theorem d_G_poorestMember_41 : decode b_G_poorestMember 41 = .ok (.istore_n 2, 1) := by decide +kernel
theorem d_G_poorestMember_42 : decode b_G_poorestMember 42 = .ok (.iinc 3 1, 3) := by decide +kernel
theorem d_G_poorestMember_45 : decode b_G_poorestMember 45 = .ok (.goto (-39), 3) := by decide +kernel
theorem d_G_poorestMember_48 : decode b_G_poorestMember 48 = .ok (.iload_n 1, 1) := by decide +kernel
theorem d_G_poorestMember_49 : decode b_G_poorestMember 49 = .ok (.ireturn, 1) := by decide +kernel
theorem d_G_isOwned_0 : decode b_G_isOwned 0 = .ok (.aload_n 0, 1) := by decide +kernel
theorem d_G_isOwned_1 : decode b_G_isOwned 1 = .ok (.getfield 23, 3) := by decide +kernel
theorem d_G_isOwned_4 : decode b_G_isOwned 4 = .ok (.astore_n 2, 1) := by decide +kernel
theorem d_G_isOwned_5 : decode b_G_isOwned 5 = .ok (.aload_n 2, 1) := by decide +kernel
theorem d_G_isOwned_6 : decode b_G_isOwned 6 = .ok (.arraylength, 1) := by decide +kernel
theorem d_G_isOwned_7 : decode b_G_isOwned 7 = .ok (.istore_n 3, 1) := by decide +kernel
theorem d_G_isOwned_8 : decode b_G_isOwned 8 = .ok (.iconst 0, 1) := by decide +kernel
theorem d_G_isOwned_9 : decode b_G_isOwned 9 = .ok (.istore 4, 2) := by decide +kernel
theorem d_G_isOwned_11 : decode b_G_isOwned 11 = .ok (.iload 4, 2) := by decide +kernel
theorem d_G_isOwned_13 : decode b_G_isOwned 13 = .ok (.iload_n 3, 1) := by decide +kernel
theorem d_G_isOwned_14 : decode b_G_isOwned 14 = .ok (.if_icmp .ge 26, 3) := by decide +kernel
theorem d_G_isOwned_17 : decode b_G_isOwned 17 = .ok (.aload_n 2, 1) := by decide +kernel
theorem d_G_isOwned_18 : decode b_G_isOwned 18 = .ok (.iload 4, 2) := by decide +kernel
theorem d_G_isOwned_20 : decode b_G_isOwned 20 = .ok (.iaload, 1) := by decide +kernel
theorem d_G_isOwned_21 : decode b_G_isOwned 21 = .ok (.istore 5, 2) := by decide +kernel
theorem d_G_isOwned_23 : decode b_G_isOwned 23 = .ok (.iload 5, 2) := by decide +kernel
theorem d_G_isOwned_25 : decode b_G_isOwned 25 = .ok (.iload_n 1, 1) := by decide +kernel
theorem d_G_isOwned_26 : decode b_G_isOwned 26 = .ok (.invokestatic 66, 3) := by decide +kernel
theorem d_G_isOwned_29 : decode b_G_isOwned 29 = .ok (.ifCond .eq 5, 3) := by decide +kernel
theorem d_G_isOwned_32 : decode b_G_isOwned 32 = .ok (.iconst 1, 1) := by decide +kernel
theorem d_G_isOwned_33 : decode b_G_isOwned 33 = .ok (.ireturn, 1) := by decide +kernel
theorem d_G_isOwned_34 : decode b_G_isOwned 34 = .ok (.iinc 4 1, 3) := by decide +kernel
theorem d_G_isOwned_37 : decode b_G_isOwned 37 = .ok (.goto (-26), 3) := by decide +kernel
theorem d_G_isOwned_40 : decode b_G_isOwned 40 = .ok (.iconst 0, 1) := by decide +kernel
theorem d_G_isOwned_41 : decode b_G_isOwned 41 = .ok (.ireturn, 1) := by decide +kernel
theorem d_G_giveUnowned_0 : decode b_G_giveUnowned 0 = .ok (.iconst 0, 1) := by decide +kernel
theorem d_G_giveUnowned_1 : decode b_G_giveUnowned 1 = .ok (.istore_n 1, 1) := by decide +kernel
theorem d_G_giveUnowned_2 : decode b_G_giveUnowned 2 = .ok (.iload_n 1, 1) := by decide +kernel
theorem d_G_giveUnowned_3 : decode b_G_giveUnowned 3 = .ok (.iconst 4, 1) := by decide +kernel
theorem d_G_giveUnowned_4 : decode b_G_giveUnowned 4 = .ok (.if_icmp .ge 39, 3) := by decide +kernel
theorem d_G_giveUnowned_7 : decode b_G_giveUnowned 7 = .ok (.aload_n 0, 1) := by decide +kernel
theorem d_G_giveUnowned_8 : decode b_G_giveUnowned 8 = .ok (.invokevirtual 70, 3) := by decide +kernel
theorem d_G_giveUnowned_11 : decode b_G_giveUnowned 11 = .ok (.istore_n 2, 1) := by decide +kernel
theorem d_G_giveUnowned_12 : decode b_G_giveUnowned 12 = .ok (.aload_n 0, 1) := by decide +kernel
theorem d_G_giveUnowned_13 : decode b_G_giveUnowned 13 = .ok (.iload_n 1, 1) := by decide +kernel
theorem d_G_giveUnowned_14 : decode b_G_giveUnowned 14 = .ok (.invokevirtual 73, 3) := by decide +kernel
theorem d_G_giveUnowned_17 : decode b_G_giveUnowned 17 = .ok (.ifCond .ne 20, 3) := by decide +kernel
theorem d_G_giveUnowned_20 : decode b_G_giveUnowned 20 = .ok (.iload_n 2, 1) := by decide +kernel
theorem d_G_giveUnowned_21 : decode b_G_giveUnowned 21 = .ok (.iconst (-1), 1) := by decide +kernel
theorem d_G_giveUnowned_22 : decode b_G_giveUnowned 22 = .ok (.if_icmp .eq 15, 3) := by decide +kernel
theorem d_G_giveUnowned_25 : decode b_G_giveUnowned 25 = .ok (.aload_n 0, 1) := by decide +kernel
theorem d_G_giveUnowned_26 : decode b_G_giveUnowned 26 = .ok (.getfield 23, 3) := by decide +kernel
theorem d_G_giveUnowned_29 : decode b_G_giveUnowned 29 = .ok (.iload_n 2, 1) := by decide +kernel
theorem d_G_giveUnowned_30 : decode b_G_giveUnowned 30 = .ok (.dup2, 1) := by decide +kernel
theorem d_G_giveUnowned_31 : decode b_G_giveUnowned 31 = .ok (.iaload, 1) := by decide +kernel
theorem d_G_giveUnowned_32 : decode b_G_giveUnowned 32 = .ok (.iconst 1, 1) := by decide +kernel
theorem d_G_giveUnowned_33 : decode b_G_giveUnowned 33 = .ok (.iload_n 1, 1) := by decide +kernel
theorem d_G_giveUnowned_34 : decode b_G_giveUnowned 34 = .ok (.ishl, 1) := by decide +kernel
theorem d_G_giveUnowned_35 : decode b_G_giveUnowned 35 = .ok (.ior, 1) := by decide +kernel
theorem d_G_giveUnowned_36 : decode b_G_giveUnowned 36 = .ok (.iastore, 1) := by decide +kernel
theorem d_G_giveUnowned_37 : decode b_G_giveUnowned 37 = .ok (.iinc 1 1, 3) := by decide +kernel
theorem d_G_giveUnowned_40 : decode b_G_giveUnowned 40 = .ok (.goto (-38), 3) := by decide +kernel
theorem d_G_giveUnowned_43 : decode b_G_giveUnowned 43 = .ok (.return_, 1) := by decide +kernel
theorem d_G_share_0 : decode b_G_share 0 = .ok (.aload_n 0, 1) := by decide +kernel
theorem d_G_share_1 : decode b_G_share 1 = .ok (.dup, 1) := by decide +kernel
theorem d_G_share_2 : decode b_G_share 2 = .ok (.getfield 9, 3) := by decide +kernel
theorem d_G_share_5 : decode b_G_share 5 = .ok (.iconst 1, 1) := by decide +kernel
theorem d_G_share_6 : decode b_G_share 6 = .ok (.iadd, 1) := by decide +kernel
theorem d_G_share_7 : decode b_G_share 7 = .ok (.putfield 9, 3) := by decide +kernel
theorem d_G_share_10 : decode b_G_share 10 = .ok (.aload_n 0, 1) := by decide +kernel
theorem d_G_share_11 : decode b_G_share 11 = .ok (.invokevirtual 46, 3) := by decide +kernel
theorem d_G_share_14 : decode b_G_share 14 = .ok (.istore_n 1, 1) := by decide +kernel
theorem d_G_share_15 : decode b_G_share 15 = .ok (.iload_n 1, 1) := by decide +kernel
theorem d_G_share_16 : decode b_G_share 16 = .ok (.ifCond .le 17, 3) := by decide +kernel
theorem d_G_share_19 : decode b_G_share 19 = .ok (.aload_n 0, 1) := by decide +kernel
theorem d_G_share_20 : decode b_G_share 20 = .ok (.iconst 4, 1) := by decide +kernel
theorem d_G_share_21 : decode b_G_share 21 = .ok (.iload_n 1, 1) := by decide +kernel
theorem d_G_share_22 : decode b_G_share 22 = .ok (.idiv, 1) := by decide +kernel
theorem d_G_share_23 : decode b_G_share 23 = .ok (.iconst 4, 1) := by decide +kernel
theorem d_G_share_24 : decode b_G_share 24 = .ok (.iload_n 1, 1) := by decide +kernel
theorem d_G_share_25 : decode b_G_share 25 = .ok (.irem, 1) := by decide +kernel
theorem d_G_share_26 : decode b_G_share 26 = .ok (.invokevirtual 50, 3) := by decide +kernel
theorem d_G_share_29 : decode b_G_share 29 = .ok (.aload_n 0, 1) := by decide +kernel
theorem d_G_share_30 : decode b_G_share 30 = .ok (.invokevirtual 53, 3) := by decide +kernel
theorem d_G_share_33 : decode b_G_share 33 = .ok (.return_, 1) := by decide +kernel
theorem d_G_removeMember_0 : decode b_G_removeMember 0 = .ok (.aload_n 0, 1) := by decide +kernel
theorem d_G_removeMember_1 : decode b_G_removeMember 1 = .ok (.getfield 15, 3) := by decide +kernel
theorem d_G_removeMember_4 : decode b_G_removeMember 4 = .ok (.iload_n 1, 1) := by decide +kernel
theorem d_G_removeMember_5 : decode b_G_removeMember 5 = .ok (.iconst 0, 1) := by decide +kernel
theorem d_G_removeMember_6 : decode b_G_removeMember 6 = .ok (.bastore, 1) := by decide +kernel
theorem d_G_removeMember_7 : decode b_G_removeMember 7 = .ok (.aload_n 0, 1) := by decide +kernel
theorem d_G_removeMember_8 : decode b_G_removeMember 8 = .ok (.getfield 23, 3) := by decide +kernel
theorem d_G_removeMember_11 : decode b_G_removeMember 11 = .ok (.iload_n 1, 1) := by decide +kernel
theorem d_G_removeMember_12 : decode b_G_removeMember 12 = .ok (.iconst 0, 1) := by decide +kernel
theorem d_G_removeMember_13 : decode b_G_removeMember 13 = .ok (.iastore, 1) := by decide +kernel
theorem d_G_removeMember_14 : decode b_G_removeMember 14 = .ok (.return_, 1) := by decide +kernel
theorem d_G_dropSilent_0 : decode b_G_dropSilent 0 = .ok (.iconst 0, 1) := by decide +kernel
theorem d_G_dropSilent_1 : decode b_G_dropSilent 1 = .ok (.istore_n 2, 1) := by decide +kernel
theorem d_G_dropSilent_2 : decode b_G_dropSilent 2 = .ok (.iconst 0, 1) := by decide +kernel
theorem d_G_dropSilent_3 : decode b_G_dropSilent 3 = .ok (.istore_n 3, 1) := by decide +kernel
theorem d_G_dropSilent_4 : decode b_G_dropSilent 4 = .ok (.iload_n 3, 1) := by decide +kernel
theorem d_G_dropSilent_5 : decode b_G_dropSilent 5 = .ok (.iconst 4, 1) := by decide +kernel
theorem d_G_dropSilent_6 : decode b_G_dropSilent 6 = .ok (.if_icmp .ge 39, 3) := by decide +kernel
theorem d_G_dropSilent_9 : decode b_G_dropSilent 9 = .ok (.aload_n 0, 1) := by decide +kernel
theorem d_G_dropSilent_10 : decode b_G_dropSilent 10 = .ok (.getfield 15, 3) := by decide +kernel
theorem d_G_dropSilent_13 : decode b_G_dropSilent 13 = .ok (.iload_n 3, 1) := by decide +kernel
theorem d_G_dropSilent_14 : decode b_G_dropSilent 14 = .ok (.baload, 1) := by decide +kernel
theorem d_G_dropSilent_15 : decode b_G_dropSilent 15 = .ok (.ifCond .eq 24, 3) := by decide +kernel
theorem d_G_dropSilent_18 : decode b_G_dropSilent 18 = .ok (.iload_n 1, 1) := by decide +kernel
theorem d_G_dropSilent_19 : decode b_G_dropSilent 19 = .ok (.aload_n 0, 1) := by decide +kernel
theorem d_G_dropSilent_20 : decode b_G_dropSilent 20 = .ok (.getfield 19, 3) := by decide +kernel
theorem d_G_dropSilent_23 : decode b_G_dropSilent 23 = .ok (.iload_n 3, 1) := by decide +kernel
theorem d_G_dropSilent_24 : decode b_G_dropSilent 24 = .ok (.iaload, 1) := by decide +kernel
theorem d_G_dropSilent_25 : decode b_G_dropSilent 25 = .ok (.isub, 1) := by decide +kernel
theorem d_G_dropSilent_26 : decode b_G_dropSilent 26 = .ok (.bipush 20, 2) := by decide +kernel
theorem d_G_dropSilent_28 : decode b_G_dropSilent 28 = .ok (.if_icmp .lt 11, 3) := by decide +kernel
theorem d_G_dropSilent_31 : decode b_G_dropSilent 31 = .ok (.aload_n 0, 1) := by decide +kernel
theorem d_G_dropSilent_32 : decode b_G_dropSilent 32 = .ok (.iload_n 3, 1) := by decide +kernel
theorem d_G_dropSilent_33 : decode b_G_dropSilent 33 = .ok (.invokevirtual 39, 3) := by decide +kernel
theorem d_G_dropSilent_36 : decode b_G_dropSilent 36 = .ok (.iinc 2 1, 3) := by decide +kernel
theorem d_G_dropSilent_39 : decode b_G_dropSilent 39 = .ok (.iinc 3 1, 3) := by decide +kernel
theorem d_G_dropSilent_42 : decode b_G_dropSilent 42 = .ok (.goto (-38), 3) := by decide +kernel
theorem d_G_dropSilent_45 : decode b_G_dropSilent 45 = .ok (.iload_n 2, 1) := by decide +kernel
theorem d_G_dropSilent_46 : decode b_G_dropSilent 46 = .ok (.ifCond .le 7, 3) := by decide +kernel
theorem d_G_dropSilent_49 : decode b_G_dropSilent 49 = .ok (.aload_n 0, 1) := by decide +kernel
theorem d_G_dropSilent_50 : decode b_G_dropSilent 50 = .ok (.invokevirtual 43, 3) := by decide +kernel
theorem d_G_dropSilent_53 : decode b_G_dropSilent 53 = .ok (.iload_n 2, 1) := by decide +kernel
theorem d_G_dropSilent_54 : decode b_G_dropSilent 54 = .ok (.ireturn, 1) := by decide +kernel
