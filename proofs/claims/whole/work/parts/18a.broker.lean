def y_B_ctor : MethodName := ⟨"FencedBroker", "<init>", "()V"⟩
abbrev b_B_ctor : ByteArray := prog_1_method_1_code
theorem cb_B_ctor : CB y_B_ctor b_B_ctor 2 none 0 := ⟨tm (i := 1) (by decide +kernel), tm (i := 29) (by decide +kernel), ⟨by decide +kernel, by decide +kernel⟩, by decide +kernel⟩
theorem fl_B_11 : FL "FencedBroker" 11 4 0 := ⟨_, _, _, rfl, by decide, Or.inl (tm (i := 152) (by decide +kernel))⟩
theorem flf_B_11 : FLF "FencedBroker" 11 4 0 (.array (.object "FencedBroker$Log")) := fun Cn T N h => by
  have e : (Cn, T, N) = ("FencedBroker", q_Broker, 6) := Option.some.inj (h.symm.trans (rfl : ccl[4]? = some ("FencedBroker", q_Broker, 6)))
  cases e
  exact ⟨by decide, rfl, rfl, by decide +kernel, tm (i := 152) (by decide +kernel)⟩
theorem fl_B_17 : FL "FencedBroker" 17 4 1 := ⟨_, _, _, rfl, by decide, Or.inl (tm (i := 153) (by decide +kernel))⟩
theorem flf_B_17 : FLF "FencedBroker" 17 4 1 (.array (.object "FencedBroker$Producer")) := fun Cn T N h => by
  have e : (Cn, T, N) = ("FencedBroker", q_Broker, 6) := Option.some.inj (h.symm.trans (rfl : ccl[4]? = some ("FencedBroker", q_Broker, 6)))
  cases e
  exact ⟨by decide, rfl, rfl, by decide +kernel, tm (i := 153) (by decide +kernel)⟩
theorem fl_B_23 : FL "FencedBroker" 23 4 2 := ⟨_, _, _, rfl, by decide, Or.inl (tm (i := 154) (by decide +kernel))⟩
theorem flf_B_23 : FLF "FencedBroker" 23 4 2 (.array (.object "FencedBroker$Group")) := fun Cn T N h => by
  have e : (Cn, T, N) = ("FencedBroker", q_Broker, 6) := Option.some.inj (h.symm.trans (rfl : ccl[4]? = some ("FencedBroker", q_Broker, 6)))
  cases e
  exact ⟨by decide, rfl, rfl, by decide +kernel, tm (i := 154) (by decide +kernel)⟩
theorem fl_B_27 : FL "FencedBroker" 27 4 3 := ⟨_, _, _, rfl, by decide, Or.inl (tm (i := 155) (by decide +kernel))⟩
theorem flp_B_27 : FLP "FencedBroker" 27 4 3 .int := ⟨fl_B_27, fun Cn T N h => by
  have e : (Cn, T, N) = ("FencedBroker", q_Broker, 6) := Option.some.inj (h.symm.trans (rfl : ccl[4]? = some ("FencedBroker", q_Broker, 6)))
  cases e
  exact ⟨rfl, by decide +kernel⟩⟩
theorem fl_B_31 : FL "FencedBroker" 31 4 4 := ⟨_, _, _, rfl, by decide, Or.inl (tm (i := 156) (by decide +kernel))⟩
theorem flp_B_31 : FLP "FencedBroker" 31 4 4 .int := ⟨fl_B_31, fun Cn T N h => by
  have e : (Cn, T, N) = ("FencedBroker", q_Broker, 6) := Option.some.inj (h.symm.trans (rfl : ccl[4]? = some ("FencedBroker", q_Broker, 6)))
  cases e
  exact ⟨rfl, by decide +kernel⟩⟩
theorem fl_B_34 : FL "FencedBroker" 34 4 5 := ⟨_, _, _, rfl, by decide, Or.inl (tm (i := 157) (by decide +kernel))⟩
theorem flp_B_34 : FLP "FencedBroker" 34 4 5 .int := ⟨fl_B_34, fun Cn T N h => by
  have e : (Cn, T, N) = ("FencedBroker", q_Broker, 6) := Option.some.inj (h.symm.trans (rfl : ccl[4]? = some ("FencedBroker", q_Broker, 6)))
  cases e
  exact ⟨rfl, by decide +kernel⟩⟩
theorem ci_B_41 : CI "FencedBroker" 41 y_G_ctor b_G_ctor 1 0 := ⟨cb_G_ctor, tm (i := 127) (by decide +kernel), tm (i := 128) (by decide +kernel), by decide +kernel⟩
theorem ci_B_38 : CI "FencedBroker" 38 y_P_ctor b_P_ctor 2 1 := ⟨cb_P_ctor, tm (i := 90) (by decide +kernel), tm (i := 91) (by decide +kernel), by decide +kernel⟩
theorem ci_B_37 : CI "FencedBroker" 37 y_L_ctor b_L_ctor 1 0 := ⟨cb_L_ctor, tm (i := 40) (by decide +kernel), tm (i := 41) (by decide +kernel), by decide +kernel⟩
def y_B_endTransaction : MethodName := ⟨"FencedBroker", "endTransaction", "(LFencedBroker$Producer;)V"⟩
abbrev b_B_endTransaction : ByteArray := prog_1_method_30_code
theorem cb_B_endTransaction : CB y_B_endTransaction b_B_endTransaction 3 none 1 := ⟨tm (i := 1) (by decide +kernel), tm (i := 186) (by decide +kernel), ⟨by decide +kernel, by decide +kernel⟩, by decide +kernel⟩
theorem cv_B_284 : CV "FencedBroker" 284 y_P_isCommitting b_P_isCommitting 1 (some .boolean) 0 := ⟨cb_P_isCommitting, tm (i := 187) (by decide +kernel), tm (i := 188) (by decide +kernel), tm (i := 189) (by decide +kernel)⟩
theorem cv_B_295 : CV "FencedBroker" 295 y_P_becomeIdle b_P_becomeIdle 1 none 0 := ⟨cb_P_becomeIdle, tm (i := 195) (by decide +kernel), tm (i := 196) (by decide +kernel), tm (i := 197) (by decide +kernel)⟩
theorem fl_B_213 : FL "FencedBroker" 213 1 4 := ⟨_, _, _, rfl, by decide, Or.inr (Or.inl ⟨_, tm (i := 139) (by show tables_1[139]? = some (Cond.fieldLinkNest "FencedBroker" 213 "FencedBroker$Group" "committed" "[I" "FencedBroker"); decide +kernel)⟩)⟩
theorem cv_B_291 : CV "FencedBroker" 291 y_P_commitPending b_P_commitPending 5 none 2 := ⟨cb_P_commitPending, tm (i := 191) (by decide +kernel), tm (i := 192) (by decide +kernel), tm (i := 193) (by decide +kernel)⟩
def y_B_advanceIn : MethodName := ⟨"FencedBroker", "advanceIn", "(LFencedBroker$Producer;I)I"⟩
abbrev b_B_advanceIn : ByteArray := prog_1_method_29_code
theorem cb_B_advanceIn : CB y_B_advanceIn b_B_advanceIn 4 (some .int) 2 := ⟨tm (i := 1) (by decide +kernel), tm (i := 205) (by decide +kernel), ⟨by decide +kernel, by decide +kernel⟩, by decide +kernel⟩
theorem fl_B_101 : FL "FencedBroker" 101 3 3 := ⟨_, _, _, rfl, by decide, Or.inr (Or.inl ⟨_, tm (i := 105) (by show tables_1[105]? = some (Cond.fieldLinkNest "FencedBroker" 101 "FencedBroker$Producer" "transaction" "I" "FencedBroker"); decide +kernel)⟩)⟩
theorem cv_B_275 : CV "FencedBroker" 275 y_L_hasEnded b_L_hasEnded 2 (some .boolean) 1 := ⟨cb_L_hasEnded, tm (i := 206) (by decide +kernel), tm (i := 207) (by decide +kernel), tm (i := 208) (by decide +kernel)⟩
theorem cv_B_281 : CV "FencedBroker" 281 y_L_hasMarker b_L_hasMarker 2 (some .boolean) 1 := ⟨cb_L_hasMarker, tm (i := 218) (by decide +kernel), tm (i := 211) (by decide +kernel), tm (i := 212) (by decide +kernel)⟩
theorem cv_B_287 : CV "FencedBroker" 287 y_L_putMarker b_L_putMarker 3 none 2 := ⟨cb_L_putMarker, tm (i := 219) (by decide +kernel), tm (i := 220) (by decide +kernel), tm (i := 221) (by decide +kernel)⟩
theorem cv_B_278 : CV "FencedBroker" 278 y_P_untouch b_P_untouch 2 none 1 := ⟨cb_P_untouch, tm (i := 214) (by decide +kernel), tm (i := 215) (by decide +kernel), tm (i := 216) (by decide +kernel)⟩
def y_B_advance : MethodName := ⟨"FencedBroker", "advance", "(LFencedBroker$Producer;)I"⟩
abbrev b_B_advance : ByteArray := prog_1_method_28_code
theorem cb_B_advance : CB y_B_advance b_B_advance 4 (some .int) 1 := ⟨tm (i := 1) (by decide +kernel), tm (i := 178) (by decide +kernel), ⟨by decide +kernel, by decide +kernel⟩, by decide +kernel⟩
theorem cv_B_46 : CV "FencedBroker" 46 y_P_isEnding b_P_isEnding 1 (some .boolean) 0 := ⟨cb_P_isEnding, tm (i := 179) (by decide +kernel), tm (i := 180) (by decide +kernel), tm (i := 181) (by decide +kernel)⟩
theorem fl_B_117 : FL "FencedBroker" 117 3 5 := ⟨_, _, _, rfl, by decide, Or.inr (Or.inl ⟨_, tm (i := 109) (by show tables_1[109]? = some (Cond.fieldLinkNest "FencedBroker" 117 "FencedBroker$Producer" "touched" "I" "FencedBroker"); decide +kernel)⟩)⟩
theorem cs_B_207 : CS "FencedBroker" 207 y_B_has b_B_has 2 (some .boolean) 2 := ⟨cb_B_has, Or.inl (tm (i := 199) (by decide +kernel)), tm (i := 200) (by decide +kernel)⟩
theorem cv_B_271 : CV "FencedBroker" 271 y_B_advanceIn b_B_advanceIn 4 (some .int) 2 := ⟨cb_B_advanceIn, tm (i := 202) (by decide +kernel), tm (i := 204) (by decide +kernel), List.mem_append_left _ (List.mem_of_getElem? (i := 2) (by decide +kernel))⟩
theorem cv_B_267 : CV "FencedBroker" 267 y_B_endTransaction b_B_endTransaction 3 none 1 := ⟨cb_B_endTransaction, tm (i := 183) (by decide +kernel), tm (i := 185) (by decide +kernel), List.mem_append_left _ (List.mem_of_getElem? (i := 1) (by decide +kernel))⟩
def y_B_step : MethodName := ⟨"FencedBroker", "step", "()I"⟩
abbrev b_B_step : ByteArray := prog_1_method_7_code
theorem cb_B_step : CB y_B_step b_B_step 3 (some .int) 0 := ⟨tm (i := 1) (by decide +kernel), tm (i := 174) (by decide +kernel), ⟨by decide +kernel, by decide +kernel⟩, by decide +kernel⟩
theorem cv_B_126 : CV "FencedBroker" 126 y_B_advance b_B_advance 4 (some .int) 1 := ⟨cb_B_advance, tm (i := 175) (by decide +kernel), tm (i := 177) (by decide +kernel), List.mem_append_left _ (List.mem_of_getElem? (i := 0) (by decide +kernel))⟩
def y_B_last : MethodName := ⟨"FencedBroker", "last", "()I"⟩
abbrev b_B_last : ByteArray := prog_1_method_12_code
theorem cb_B_last : CB y_B_last b_B_last 1 (some .int) 0 := ⟨tm (i := 1) (by decide +kernel), tm (i := 329) (by decide +kernel), ⟨by decide +kernel, by decide +kernel⟩, by decide +kernel⟩
def y_B_requireRange : MethodName := ⟨"FencedBroker", "requireRange", "(III)V"⟩
abbrev b_B_requireRange : ByteArray := prog_1_method_21_code
theorem cb_B_requireRange : CB y_B_requireRange b_B_requireRange 3 none 3 := ⟨tm (i := 1) (by decide +kernel), tm (i := 341) (by decide +kernel), ⟨by decide +kernel, by decide +kernel⟩, by decide +kernel⟩
theorem th_B_245 : TH "FencedBroker" 241 245 "java/lang/IllegalArgumentException" := ⟨tm (i := 342) (by decide +kernel), tm (i := 13) (by decide +kernel), tm (i := 343) (by decide +kernel), Or.inl ⟨by decide +kernel, by decide +kernel⟩⟩
def y_B_init : MethodName := ⟨"FencedBroker", "init", "(I)I"⟩
abbrev b_B_init : ByteArray := prog_1_method_2_code
theorem cb_B_init : CB y_B_init b_B_init 3 (some .int) 1 := ⟨tm (i := 1) (by decide +kernel), tm (i := 338) (by decide +kernel), ⟨by decide +kernel, by decide +kernel⟩, by decide +kernel⟩
theorem cs_B_42 : CS "FencedBroker" 42 y_B_requireRange b_B_requireRange 3 none 3 := ⟨cb_B_requireRange, Or.inl (tm (i := 339) (by decide +kernel)), tm (i := 340) (by decide +kernel)⟩
theorem cv_B_57 : CV "FencedBroker" 57 y_P_isOpen b_P_isOpen 1 (some .boolean) 0 := ⟨cb_P_isOpen, tm (i := 428) (by decide +kernel), tm (i := 429) (by decide +kernel), tm (i := 430) (by decide +kernel)⟩
theorem cv_B_65 : CV "FencedBroker" 65 y_P_renew b_P_renew 1 (some .int) 0 := ⟨cb_P_renew, tm (i := 437) (by decide +kernel), tm (i := 438) (by decide +kernel), tm (i := 439) (by decide +kernel)⟩
theorem cv_B_60 : CV "FencedBroker" 60 y_P_fence b_P_fence 1 none 0 := ⟨cb_P_fence, tm (i := 432) (by decide +kernel), tm (i := 433) (by decide +kernel), tm (i := 434) (by decide +kernel)⟩
theorem th_B_54 : TH "FencedBroker" 50 54 "java/lang/IllegalStateException" := ⟨tm (i := 412) (by decide +kernel), tm (i := 14) (by decide +kernel), tm (i := 413) (by decide +kernel), Or.inl ⟨by decide +kernel, by decide +kernel⟩⟩
def y_B_knownProducer : MethodName := ⟨"FencedBroker", "knownProducer", "(II)LFencedBroker$Producer;"⟩
abbrev b_B_knownProducer : ByteArray := prog_1_method_24_code
theorem cb_B_knownProducer : CB y_B_knownProducer b_B_knownProducer 4 (some (.object "FencedBroker$Producer")) 2 := ⟨tm (i := 1) (by decide +kernel), tm (i := 452) (by decide +kernel), ⟨by decide +kernel, by decide +kernel⟩, by decide +kernel⟩
theorem cv_B_228 : CV "FencedBroker" 228 y_P_isKnown b_P_isKnown 1 (some .boolean) 0 := ⟨cb_P_isKnown, tm (i := 453) (by decide +kernel), tm (i := 454) (by decide +kernel), tm (i := 455) (by decide +kernel)⟩
theorem fl_B_234 : FL "FencedBroker" 234 3 2 := ⟨_, _, _, rfl, by decide, Or.inr (Or.inl ⟨_, tm (i := 102) (by show tables_1[102]? = some (Cond.fieldLinkNest "FencedBroker" 234 "FencedBroker$Producer" "age" "I" "FencedBroker"); decide +kernel)⟩)⟩
theorem th_B_166 : TH "FencedBroker" 162 166 "java/util/NoSuchElementException" := ⟨tm (i := 457) (by decide +kernel), tm (i := 15) (by decide +kernel), tm (i := 458) (by decide +kernel), Or.inr ⟨rfl, by decide +kernel⟩⟩
def y_B_begin : MethodName := ⟨"FencedBroker", "begin", "(II)I"⟩
abbrev b_B_begin : ByteArray := prog_1_method_3_code
theorem cb_B_begin : CB y_B_begin b_B_begin 4 (some .int) 2 := ⟨tm (i := 1) (by decide +kernel), tm (i := 448) (by decide +kernel), ⟨by decide +kernel, by decide +kernel⟩, by decide +kernel⟩
theorem cv_B_69 : CV "FencedBroker" 69 y_B_knownProducer b_B_knownProducer 4 (some (.object "FencedBroker$Producer")) 2 := ⟨cb_B_knownProducer, tm (i := 449) (by decide +kernel), tm (i := 451) (by decide +kernel), List.mem_append_left _ (List.mem_of_getElem? (i := 7) (by decide +kernel))⟩
theorem cv_B_73 : CV "FencedBroker" 73 y_P_isIdle b_P_isIdle 1 (some .boolean) 0 := ⟨cb_P_isIdle, tm (i := 474) (by decide +kernel), tm (i := 475) (by decide +kernel), tm (i := 476) (by decide +kernel)⟩
theorem cv_B_80 : CV "FencedBroker" 80 y_P_open b_P_open 3 none 2 := ⟨cb_P_open, tm (i := 480) (by decide +kernel), tm (i := 481) (by decide +kernel), tm (i := 482) (by decide +kernel)⟩
def y_B_openProducer : MethodName := ⟨"FencedBroker", "openProducer", "(II)LFencedBroker$Producer;"⟩
abbrev b_B_openProducer : ByteArray := prog_1_method_25_code
theorem cb_B_openProducer : CB y_B_openProducer b_B_openProducer 4 (some (.object "FencedBroker$Producer")) 2 := ⟨tm (i := 1) (by decide +kernel), tm (i := 495) (by decide +kernel), ⟨by decide +kernel, by decide +kernel⟩, by decide +kernel⟩
def y_B_requireSpace : MethodName := ⟨"FencedBroker", "requireSpace", "(LFencedBroker$Log;)V"⟩
abbrev b_B_requireSpace : ByteArray := prog_1_method_22_code
theorem cb_B_requireSpace : CB y_B_requireSpace b_B_requireSpace 1 none 1 := ⟨tm (i := 1) (by decide +kernel), tm (i := 545) (by decide +kernel), ⟨by decide +kernel, by decide +kernel⟩, by decide +kernel⟩
theorem cv_B_246 : CV "FencedBroker" 246 y_L_isFull b_L_isFull 1 (some .boolean) 0 := ⟨cb_L_isFull, tm (i := 546) (by decide +kernel), tm (i := 547) (by decide +kernel), tm (i := 548) (by decide +kernel)⟩
def y_B_sendNew : MethodName := ⟨"FencedBroker", "sendNew", "(LFencedBroker$Producer;LFencedBroker$Log;II)I"⟩
abbrev b_B_sendNew : ByteArray := prog_1_method_26_code
theorem cb_B_sendNew : CB y_B_sendNew b_B_sendNew 4 (some .int) 4 := ⟨tm (i := 1) (by decide +kernel), tm (i := 522) (by decide +kernel), ⟨by decide +kernel, by decide +kernel⟩, by decide +kernel⟩
theorem fl_B_257 : FL "FencedBroker" 257 3 0 := ⟨_, _, _, rfl, by decide, Or.inr (Or.inl ⟨_, tm (i := 97) (by show tables_1[97]? = some (Cond.fieldLinkNest "FencedBroker" 257 "FencedBroker$Producer" "name" "I" "FencedBroker"); decide +kernel)⟩)⟩
theorem cv_B_237 : CV "FencedBroker" 237 y_L_nextSequence b_L_nextSequence 5 (some .int) 2 := ⟨cb_L_nextSequence, tm (i := 523) (by decide +kernel), tm (i := 524) (by decide +kernel), tm (i := 525) (by decide +kernel)⟩
theorem cs_B_130 : CS "FencedBroker" 130 y_B_requireSpace b_B_requireSpace 1 none 1 := ⟨cb_B_requireSpace, Or.inl (tm (i := 543) (by decide +kernel)), tm (i := 544) (by decide +kernel)⟩
theorem cs_B_262 : CS "FencedBroker" 262 y_E_ofProducer b_E_ofProducer 3 (some (.object "FencedBroker$Entry")) 3 := ⟨cb_E_ofProducer, Or.inl (tm (i := 551) (by decide +kernel)), tm (i := 552) (by decide +kernel)⟩
theorem cv_B_140 : CV "FencedBroker" 140 y_L_put b_L_put 2 (some .int) 1 := ⟨cb_L_put, tm (i := 554) (by decide +kernel), tm (i := 256) (by decide +kernel), tm (i := 257) (by decide +kernel)⟩
theorem th_B_112 : TH "FencedBroker" 108 112 "java/lang/UnsupportedOperationException" := ⟨tm (i := 527) (by decide +kernel), tm (i := 18) (by decide +kernel), tm (i := 528) (by decide +kernel), Or.inl ⟨by decide +kernel, by decide +kernel⟩⟩
def y_B_send : MethodName := ⟨"FencedBroker", "send", "(IIIII)I"⟩
abbrev b_B_send : ByteArray := prog_1_method_4_code
theorem cb_B_send : CB y_B_send b_B_send 9 (some .int) 5 := ⟨tm (i := 1) (by decide +kernel), tm (i := 491) (by decide +kernel), ⟨by decide +kernel, by decide +kernel⟩, by decide +kernel⟩
theorem cv_B_84 : CV "FencedBroker" 84 y_B_openProducer b_B_openProducer 4 (some (.object "FencedBroker$Producer")) 2 := ⟨cb_B_openProducer, tm (i := 492) (by decide +kernel), tm (i := 494) (by decide +kernel), List.mem_append_left _ (List.mem_of_getElem? (i := 8) (by decide +kernel))⟩
theorem cv_B_87 : CV "FencedBroker" 87 y_L_recentOffset b_L_recentOffset 7 (some .int) 3 := ⟨cb_L_recentOffset, tm (i := 497) (by decide +kernel), tm (i := 498) (by decide +kernel), tm (i := 499) (by decide +kernel)⟩
theorem cv_B_95 : CV "FencedBroker" 95 y_P_touch b_P_touch 2 none 1 := ⟨cb_P_touch, tm (i := 555) (by decide +kernel), tm (i := 556) (by decide +kernel), tm (i := 557) (by decide +kernel)⟩
theorem cs_B_91 : CS "FencedBroker" 91 y_B_sendNew b_B_sendNew 4 (some .int) 4 := ⟨cb_B_sendNew, Or.inl (tm (i := 520) (by decide +kernel)), tm (i := 521) (by decide +kernel)⟩
def y_B_pend : MethodName := ⟨"FencedBroker", "pend", "(IIIII)I"⟩
abbrev b_B_pend : ByteArray := prog_1_method_5_code
theorem cb_B_pend : CB y_B_pend b_B_pend 6 (some .int) 5 := ⟨tm (i := 1) (by decide +kernel), tm (i := 565) (by decide +kernel), ⟨by decide +kernel, by decide +kernel⟩, by decide +kernel⟩
theorem cv_B_98 : CV "FencedBroker" 98 y_P_putPending b_P_putPending 9 (some .int) 3 := ⟨cb_P_putPending, tm (i := 566) (by decide +kernel), tm (i := 567) (by decide +kernel), tm (i := 568) (by decide +kernel)⟩
def y_B_hasUncopied : MethodName := ⟨"FencedBroker", "hasUncopied", "(I)Z"⟩
abbrev b_B_hasUncopied : ByteArray := prog_1_method_27_code
theorem cb_B_hasUncopied : CB y_B_hasUncopied b_B_hasUncopied 3 (some .boolean) 1 := ⟨tm (i := 1) (by decide +kernel), tm (i := 580) (by decide +kernel), ⟨by decide +kernel, by decide +kernel⟩, by decide +kernel⟩
theorem cv_B_266 : CV "FencedBroker" 266 y_L_hasUncopied b_L_hasUncopied 4 (some .boolean) 1 := ⟨cb_L_hasUncopied, tm (i := 581) (by decide +kernel), tm (i := 582) (by decide +kernel), tm (i := 583) (by decide +kernel)⟩
def y_B_finish : MethodName := ⟨"FencedBroker", "finish", "(IIZ)I"⟩
abbrev b_B_finish : ByteArray := prog_1_method_6_code
theorem cb_B_finish : CB y_B_finish b_B_finish 5 (some .int) 3 := ⟨tm (i := 1) (by decide +kernel), tm (i := 576) (by decide +kernel), ⟨by decide +kernel, by decide +kernel⟩, by decide +kernel⟩
theorem cv_B_113 : CV "FencedBroker" 113 y_P_startEnding b_P_startEnding 2 none 1 := ⟨cb_P_startEnding, tm (i := 590) (by decide +kernel), tm (i := 591) (by decide +kernel), tm (i := 592) (by decide +kernel)⟩
theorem cs_B_120 : CS "FencedBroker" 120 y_I_bitCount b_I_bitCount 1 (some .int) 1 := ⟨cb_I_bitCount, Or.inl (tm (i := 594) (by decide +kernel)), tm (i := 595) (by decide +kernel)⟩
theorem cv_B_104 : CV "FencedBroker" 104 y_B_hasUncopied b_B_hasUncopied 3 (some .boolean) 1 := ⟨cb_B_hasUncopied, tm (i := 577) (by decide +kernel), tm (i := 579) (by decide +kernel), List.mem_append_left _ (List.mem_of_getElem? (i := 9) (by decide +kernel))⟩
def y_B_plain : MethodName := ⟨"FencedBroker", "plain", "(II)I"⟩
abbrev b_B_plain : ByteArray := prog_1_method_8_code
theorem cb_B_plain : CB y_B_plain b_B_plain 4 (some .int) 2 := ⟨tm (i := 1) (by decide +kernel), tm (i := 606) (by decide +kernel), ⟨by decide +kernel, by decide +kernel⟩, by decide +kernel⟩
theorem cs_B_134 : CS "FencedBroker" 134 y_E_ofPlain b_E_ofPlain 1 (some (.object "FencedBroker$Entry")) 1 := ⟨cb_E_ofPlain, Or.inl (tm (i := 607) (by decide +kernel)), tm (i := 608) (by decide +kernel)⟩
def y_B_copy : MethodName := ⟨"FencedBroker", "copy", "(II)I"⟩
abbrev b_B_copy : ByteArray := prog_1_method_9_code
theorem cb_B_copy : CB y_B_copy b_B_copy 3 (some .int) 2 := ⟨tm (i := 1) (by decide +kernel), tm (i := 616) (by decide +kernel), ⟨by decide +kernel, by decide +kernel⟩, by decide +kernel⟩
theorem cv_B_144 : CV "FencedBroker" 144 y_L_raiseHigh b_L_raiseHigh 2 (some .int) 1 := ⟨cb_L_raiseHigh, tm (i := 617) (by decide +kernel), tm (i := 618) (by decide +kernel), tm (i := 619) (by decide +kernel)⟩
def y_B_lose : MethodName := ⟨"FencedBroker", "lose", "(I)I"⟩
abbrev b_B_lose : ByteArray := prog_1_method_10_code
theorem cb_B_lose : CB y_B_lose b_B_lose 2 (some .int) 1 := ⟨tm (i := 1) (by decide +kernel), tm (i := 628) (by decide +kernel), ⟨by decide +kernel, by decide +kernel⟩, by decide +kernel⟩
theorem cv_B_147 : CV "FencedBroker" 147 y_L_dropUncopied b_L_dropUncopied 4 (some .int) 0 := ⟨cb_L_dropUncopied, tm (i := 629) (by decide +kernel), tm (i := 630) (by decide +kernel), tm (i := 631) (by decide +kernel)⟩
def y_B_fetch : MethodName := ⟨"FencedBroker", "fetch", "(IIZ)I"⟩
abbrev b_B_fetch : ByteArray := prog_1_method_11_code
theorem cb_B_fetch : CB y_B_fetch b_B_fetch 6 (some .int) 3 := ⟨tm (i := 1) (by decide +kernel), tm (i := 649) (by decide +kernel), ⟨by decide +kernel, by decide +kernel⟩, by decide +kernel⟩
theorem fl_B_150 : FL "FencedBroker" 150 2 2 := ⟨_, _, _, rfl, by decide, Or.inr (Or.inl ⟨_, tm (i := 76) (by show tables_1[76]? = some (Cond.fieldLinkNest "FencedBroker" 150 "FencedBroker$Log" "start" "I" "FencedBroker"); decide +kernel)⟩)⟩
theorem cv_B_158 : CV "FencedBroker" 158 y_L_firstReadable b_L_firstReadable 6 (some .int) 2 := ⟨cb_L_firstReadable, tm (i := 666) (by decide +kernel), tm (i := 667) (by decide +kernel), tm (i := 668) (by decide +kernel)⟩
theorem cv_B_167 : CV "FencedBroker" 167 y_L_valueAt b_L_valueAt 2 (some .int) 1 := ⟨cb_L_valueAt, tm (i := 684) (by decide +kernel), tm (i := 685) (by decide +kernel), tm (i := 686) (by decide +kernel)⟩
theorem th_B_157 : TH "FencedBroker" 153 157 "java/lang/IndexOutOfBoundsException" := ⟨tm (i := 650) (by decide +kernel), tm (i := 24) (by decide +kernel), tm (i := 651) (by decide +kernel), Or.inl ⟨by decide +kernel, by decide +kernel⟩⟩
def y_B_trim : MethodName := ⟨"FencedBroker", "trim", "(II)I"⟩
abbrev b_B_trim : ByteArray := prog_1_method_13_code
theorem cb_B_trim : CB y_B_trim b_B_trim 5 (some .int) 2 := ⟨tm (i := 1) (by decide +kernel), tm (i := 694) (by decide +kernel), ⟨by decide +kernel, by decide +kernel⟩, by decide +kernel⟩
theorem cv_B_170 : CV "FencedBroker" 170 y_L_stableOffset b_L_stableOffset 2 (some .int) 0 := ⟨cb_L_stableOffset, tm (i := 695) (by decide +kernel), tm (i := 671) (by decide +kernel), tm (i := 672) (by decide +kernel)⟩
theorem flp_B_150 : FLP "FencedBroker" 150 2 2 .int := ⟨fl_B_150, fun Cn T N h => by
  have e : (Cn, T, N) = ("FencedBroker$Log", q_Log, 4) := Option.some.inj (h.symm.trans (rfl : ccl[2]? = some ("FencedBroker$Log", q_Log, 4)))
  cases e
  exact ⟨rfl, by decide +kernel⟩⟩
def y_B_join : MethodName := ⟨"FencedBroker", "join", "(II)I"⟩
abbrev b_B_join : ByteArray := prog_1_method_14_code
theorem cb_B_join : CB y_B_join b_B_join 4 (some .int) 2 := ⟨tm (i := 1) (by decide +kernel), tm (i := 703) (by decide +kernel), ⟨by decide +kernel, by decide +kernel⟩, by decide +kernel⟩
theorem cv_B_175 : CV "FencedBroker" 175 y_G_isMember b_G_isMember 2 (some .boolean) 1 := ⟨cb_G_isMember, tm (i := 704) (by decide +kernel), tm (i := 705) (by decide +kernel), tm (i := 706) (by decide +kernel)⟩
theorem cv_B_180 : CV "FencedBroker" 180 y_G_addMember b_G_addMember 3 none 2 := ⟨cb_G_addMember, tm (i := 709) (by decide +kernel), tm (i := 710) (by decide +kernel), tm (i := 711) (by decide +kernel)⟩
theorem cv_B_183 : CV "FencedBroker" 183 y_G_share b_G_share 2 none 0 := ⟨cb_G_share, tm (i := 717) (by decide +kernel), tm (i := 718) (by decide +kernel), tm (i := 719) (by decide +kernel)⟩
theorem fl_B_186 : FL "FencedBroker" 186 1 0 := ⟨_, _, _, rfl, by decide, Or.inr (Or.inl ⟨_, tm (i := 133) (by show tables_1[133]? = some (Cond.fieldLinkNest "FencedBroker" 186 "FencedBroker$Group" "generation" "I" "FencedBroker"); decide +kernel)⟩)⟩
def y_B_groupWith : MethodName := ⟨"FencedBroker", "groupWith", "(II)LFencedBroker$Group;"⟩
abbrev b_B_groupWith : ByteArray := prog_1_method_31_code
theorem cb_B_groupWith : CB y_B_groupWith b_B_groupWith 4 (some (.object "FencedBroker$Group")) 2 := ⟨tm (i := 1) (by decide +kernel), tm (i := 756) (by decide +kernel), ⟨by decide +kernel, by decide +kernel⟩, by decide +kernel⟩
def y_B_leave : MethodName := ⟨"FencedBroker", "leave", "(II)I"⟩
abbrev b_B_leave : ByteArray := prog_1_method_15_code
theorem cb_B_leave : CB y_B_leave b_B_leave 4 (some .int) 2 := ⟨tm (i := 1) (by decide +kernel), tm (i := 752) (by decide +kernel), ⟨by decide +kernel, by decide +kernel⟩, by decide +kernel⟩
theorem cv_B_189 : CV "FencedBroker" 189 y_B_groupWith b_B_groupWith 4 (some (.object "FencedBroker$Group")) 2 := ⟨cb_B_groupWith, tm (i := 753) (by decide +kernel), tm (i := 755) (by decide +kernel), List.mem_append_left _ (List.mem_of_getElem? (i := 18) (by decide +kernel))⟩
theorem cv_B_193 : CV "FencedBroker" 193 y_G_removeMember b_G_removeMember 2 none 1 := ⟨cb_G_removeMember, tm (i := 758) (by decide +kernel), tm (i := 759) (by decide +kernel), tm (i := 760) (by decide +kernel)⟩
def y_B_groupAt : MethodName := ⟨"FencedBroker", "groupAt", "(III)LFencedBroker$Group;"⟩
abbrev b_B_groupAt : ByteArray := prog_1_method_32_code
theorem cb_B_groupAt : CB y_B_groupAt b_B_groupAt 5 (some (.object "FencedBroker$Group")) 3 := ⟨tm (i := 1) (by decide +kernel), tm (i := 772) (by decide +kernel), ⟨by decide +kernel, by decide +kernel⟩, by decide +kernel⟩
def y_B_beat : MethodName := ⟨"FencedBroker", "beat", "(III)I"⟩
abbrev b_B_beat : ByteArray := prog_1_method_16_code
theorem cb_B_beat : CB y_B_beat b_B_beat 5 (some .int) 3 := ⟨tm (i := 1) (by decide +kernel), tm (i := 768) (by decide +kernel), ⟨by decide +kernel, by decide +kernel⟩, by decide +kernel⟩
theorem cv_B_196 : CV "FencedBroker" 196 y_B_groupAt b_B_groupAt 5 (some (.object "FencedBroker$Group")) 3 := ⟨cb_B_groupAt, tm (i := 769) (by decide +kernel), tm (i := 771) (by decide +kernel), List.mem_append_left _ (List.mem_of_getElem? (i := 19) (by decide +kernel))⟩
theorem cv_B_200 : CV "FencedBroker" 200 y_G_hear b_G_hear 3 none 2 := ⟨cb_G_hear, tm (i := 774) (by decide +kernel), tm (i := 714) (by decide +kernel), tm (i := 715) (by decide +kernel)⟩
theorem fl_B_203 : FL "FencedBroker" 203 1 3 := ⟨_, _, _, rfl, by decide, Or.inr (Or.inl ⟨_, tm (i := 137) (by show tables_1[137]? = some (Cond.fieldLinkNest "FencedBroker" 203 "FencedBroker$Group" "owned" "[I" "FencedBroker"); decide +kernel)⟩)⟩
def y_B_mark : MethodName := ⟨"FencedBroker", "mark", "(IIIII)I"⟩
abbrev b_B_mark : ByteArray := prog_1_method_17_code
theorem cb_B_mark : CB y_B_mark b_B_mark 8 (some .int) 5 := ⟨tm (i := 1) (by decide +kernel), tm (i := 781) (by decide +kernel), ⟨by decide +kernel, by decide +kernel⟩, by decide +kernel⟩
def y_B_tick : MethodName := ⟨"FencedBroker", "tick", "(I)I"⟩
abbrev b_B_tick : ByteArray := prog_1_method_18_code
theorem cb_B_tick : CB y_B_tick b_B_tick 5 (some .int) 1 := ⟨tm (i := 1) (by decide +kernel), tm (i := 789) (by decide +kernel), ⟨by decide +kernel, by decide +kernel⟩, by decide +kernel⟩
theorem cv_B_219 : CV "FencedBroker" 219 y_G_dropSilent b_G_dropSilent 4 (some .int) 1 := ⟨cb_G_dropSilent, tm (i := 790) (by decide +kernel), tm (i := 791) (by decide +kernel), tm (i := 792) (by decide +kernel)⟩
theorem fl_B_216 : FL "FencedBroker" 216 3 4 := ⟨_, _, _, rfl, by decide, Or.inr (Or.inl ⟨_, tm (i := 107) (by show tables_1[107]? = some (Cond.fieldLinkNest "FencedBroker" 216 "FencedBroker$Producer" "begunAt" "I" "FencedBroker"); decide +kernel)⟩)⟩
def y_B_edge : MethodName := ⟨"FencedBroker", "edge", "(II)I"⟩
abbrev b_B_edge : ByteArray := prog_1_method_19_code
theorem cb_B_edge : CB y_B_edge b_B_edge 4 (some .int) 2 := ⟨tm (i := 1) (by decide +kernel), tm (i := 802) (by decide +kernel), ⟨by decide +kernel, by decide +kernel⟩, by decide +kernel⟩
theorem fl_B_222 : FL "FencedBroker" 222 2 3 := ⟨_, _, _, rfl, by decide, Or.inr (Or.inl ⟨_, tm (i := 78) (by show tables_1[78]? = some (Cond.fieldLinkNest "FencedBroker" 222 "FencedBroker$Log" "high" "I" "FencedBroker"); decide +kernel)⟩)⟩
theorem cv_B_225 : CV "FencedBroker" 225 y_L_length b_L_length 1 (some .int) 0 := ⟨cb_L_length, tm (i := 803) (by decide +kernel), tm (i := 319) (by decide +kernel), tm (i := 320) (by decide +kernel)⟩
def y_B_fact : MethodName := ⟨"FencedBroker", "fact", "(II)I"⟩
abbrev b_B_fact : ByteArray := prog_1_method_20_code
theorem cb_B_fact : CB y_B_fact b_B_fact 4 (some .int) 2 := ⟨tm (i := 1) (by decide +kernel), tm (i := 810) (by decide +kernel), ⟨by decide +kernel, by decide +kernel⟩, by decide +kernel⟩
theorem fl_B_231 : FL "FencedBroker" 231 3 1 := ⟨_, _, _, rfl, by decide, Or.inr (Or.inl ⟨_, tm (i := 99) (by show tables_1[99]? = some (Cond.fieldLinkNest "FencedBroker" 231 "FencedBroker$Producer" "state" "I" "FencedBroker"); decide +kernel)⟩)⟩
theorem d_B_ctor_0 : decode b_B_ctor 0 = .ok (.aload_n 0, 1) := by decide +kernel
theorem d_B_ctor_1 : decode b_B_ctor 1 = .ok (.invokespecial 1, 3) := by decide +kernel
theorem d_B_ctor_4 : decode b_B_ctor 4 = .ok (.aload_n 0, 1) := by decide +kernel
theorem d_B_ctor_5 : decode b_B_ctor 5 = .ok (.iconst 4, 1) := by decide +kernel
theorem d_B_ctor_6 : decode b_B_ctor 6 = .ok (.anewarray 9, 3) := by decide +kernel
theorem d_B_ctor_9 : decode b_B_ctor 9 = .ok (.putfield 11, 3) := by decide +kernel
theorem d_B_ctor_12 : decode b_B_ctor 12 = .ok (.aload_n 0, 1) := by decide +kernel
theorem d_B_ctor_13 : decode b_B_ctor 13 = .ok (.iconst 4, 1) := by decide +kernel
theorem d_B_ctor_14 : decode b_B_ctor 14 = .ok (.anewarray 15, 3) := by decide +kernel
theorem d_B_ctor_17 : decode b_B_ctor 17 = .ok (.putfield 17, 3) := by decide +kernel
theorem d_B_ctor_20 : decode b_B_ctor 20 = .ok (.aload_n 0, 1) := by decide +kernel
theorem d_B_ctor_21 : decode b_B_ctor 21 = .ok (.iconst 2, 1) := by decide +kernel
theorem d_B_ctor_22 : decode b_B_ctor 22 = .ok (.anewarray 21, 3) := by decide +kernel
theorem d_B_ctor_25 : decode b_B_ctor 25 = .ok (.putfield 23, 3) := by decide +kernel
theorem d_B_ctor_28 : decode b_B_ctor 28 = .ok (.aload_n 0, 1) := by decide +kernel
theorem d_B_ctor_29 : decode b_B_ctor 29 = .ok (.iconst 0, 1) := by decide +kernel
theorem d_B_ctor_30 : decode b_B_ctor 30 = .ok (.putfield 27, 3) := by decide +kernel
theorem d_B_ctor_33 : decode b_B_ctor 33 = .ok (.aload_n 0, 1) := by decide +kernel
theorem d_B_ctor_34 : decode b_B_ctor 34 = .ok (.iconst 0, 1) := by decide +kernel
theorem d_B_ctor_35 : decode b_B_ctor 35 = .ok (.putfield 31, 3) := by decide +kernel
theorem d_B_ctor_38 : decode b_B_ctor 38 = .ok (.aload_n 0, 1) := by decide +kernel
theorem d_B_ctor_39 : decode b_B_ctor 39 = .ok (.iconst 0, 1) := by decide +kernel
theorem d_B_ctor_40 : decode b_B_ctor 40 = .ok (.putfield 34, 3) := by decide +kernel
theorem d_B_ctor_43 : decode b_B_ctor 43 = .ok (.iconst 0, 1) := by decide +kernel
theorem d_B_ctor_44 : decode b_B_ctor 44 = .ok (.istore_n 1, 1) := by decide +kernel
theorem d_B_ctor_45 : decode b_B_ctor 45 = .ok (.iload_n 1, 1) := by decide +kernel
theorem d_B_ctor_46 : decode b_B_ctor 46 = .ok (.iconst 4, 1) := by decide +kernel
theorem d_B_ctor_47 : decode b_B_ctor 47 = .ok (.if_icmp .ge 22, 3) := by decide +kernel
theorem d_B_ctor_50 : decode b_B_ctor 50 = .ok (.aload_n 0, 1) := by decide +kernel
theorem d_B_ctor_51 : decode b_B_ctor 51 = .ok (.getfield 11, 3) := by decide +kernel
theorem d_B_ctor_54 : decode b_B_ctor 54 = .ok (.iload_n 1, 1) := by decide +kernel
theorem d_B_ctor_55 : decode b_B_ctor 55 = .ok (.new 9, 3) := by decide +kernel
theorem d_B_ctor_58 : decode b_B_ctor 58 = .ok (.dup, 1) := by decide +kernel
theorem d_B_ctor_59 : decode b_B_ctor 59 = .ok (.invokespecial 37, 3) := by decide +kernel
theorem d_B_ctor_62 : decode b_B_ctor 62 = .ok (.aastore, 1) := by decide +kernel
theorem d_B_ctor_63 : decode b_B_ctor 63 = .ok (.iinc 1 1, 3) := by decide +kernel
theorem d_B_ctor_66 : decode b_B_ctor 66 = .ok (.goto (-21), 3) := by decide +kernel
theorem d_B_ctor_69 : decode b_B_ctor 69 = .ok (.iconst 0, 1) := by decide +kernel
theorem d_B_ctor_70 : decode b_B_ctor 70 = .ok (.istore_n 1, 1) := by decide +kernel
theorem d_B_ctor_71 : decode b_B_ctor 71 = .ok (.iload_n 1, 1) := by decide +kernel
theorem d_B_ctor_72 : decode b_B_ctor 72 = .ok (.iconst 4, 1) := by decide +kernel
theorem d_B_ctor_73 : decode b_B_ctor 73 = .ok (.if_icmp .ge 23, 3) := by decide +kernel
theorem d_B_ctor_76 : decode b_B_ctor 76 = .ok (.aload_n 0, 1) := by decide +kernel
theorem d_B_ctor_77 : decode b_B_ctor 77 = .ok (.getfield 17, 3) := by decide +kernel
theorem d_B_ctor_80 : decode b_B_ctor 80 = .ok (.iload_n 1, 1) := by decide +kernel
theorem d_B_ctor_81 : decode b_B_ctor 81 = .ok (.new 15, 3) := by decide +kernel
theorem d_B_ctor_84 : decode b_B_ctor 84 = .ok (.dup, 1) := by decide +kernel
theorem d_B_ctor_85 : decode b_B_ctor 85 = .ok (.iload_n 1, 1) := by decide +kernel
theorem d_B_ctor_86 : decode b_B_ctor 86 = .ok (.invokespecial 38, 3) := by decide +kernel
theorem d_B_ctor_89 : decode b_B_ctor 89 = .ok (.aastore, 1) := by decide +kernel
theorem d_B_ctor_90 : decode b_B_ctor 90 = .ok (.iinc 1 1, 3) := by decide +kernel
theorem d_B_ctor_93 : decode b_B_ctor 93 = .ok (.goto (-22), 3) := by decide +kernel
theorem d_B_ctor_96 : decode b_B_ctor 96 = .ok (.iconst 0, 1) := by decide +kernel
theorem d_B_ctor_97 : decode b_B_ctor 97 = .ok (.istore_n 1, 1) := by decide +kernel
theorem d_B_ctor_98 : decode b_B_ctor 98 = .ok (.iload_n 1, 1) := by decide +kernel
theorem d_B_ctor_99 : decode b_B_ctor 99 = .ok (.iconst 2, 1) := by decide +kernel
theorem d_B_ctor_100 : decode b_B_ctor 100 = .ok (.if_icmp .ge 22, 3) := by decide +kernel
theorem d_B_ctor_103 : decode b_B_ctor 103 = .ok (.aload_n 0, 1) := by decide +kernel
theorem d_B_ctor_104 : decode b_B_ctor 104 = .ok (.getfield 23, 3) := by decide +kernel
theorem d_B_ctor_107 : decode b_B_ctor 107 = .ok (.iload_n 1, 1) := by decide +kernel
theorem d_B_ctor_108 : decode b_B_ctor 108 = .ok (.new 21, 3) := by decide +kernel
theorem d_B_ctor_111 : decode b_B_ctor 111 = .ok (.dup, 1) := by decide +kernel
theorem d_B_ctor_112 : decode b_B_ctor 112 = .ok (.invokespecial 41, 3) := by decide +kernel
theorem d_B_ctor_115 : decode b_B_ctor 115 = .ok (.aastore, 1) := by decide +kernel
theorem d_B_ctor_116 : decode b_B_ctor 116 = .ok (.iinc 1 1, 3) := by decide +kernel
theorem d_B_ctor_119 : decode b_B_ctor 119 = .ok (.goto (-21), 3) := by decide +kernel
theorem d_B_ctor_122 : decode b_B_ctor 122 = .ok (.return_, 1) := by decide +kernel
theorem d_B_endTransaction_0 : decode b_B_endTransaction 0 = .ok (.aload_n 1, 1) := by decide +kernel
theorem d_B_endTransaction_1 : decode b_B_endTransaction 1 = .ok (.invokevirtual 284, 3) := by decide +kernel
theorem d_B_endTransaction_4 : decode b_B_endTransaction 4 = .ok (.ifCond .eq 30, 3) := by decide +kernel
theorem d_B_endTransaction_7 : decode b_B_endTransaction 7 = .ok (.iconst 0, 1) := by decide +kernel
theorem d_B_endTransaction_8 : decode b_B_endTransaction 8 = .ok (.istore_n 2, 1) := by decide +kernel
theorem d_B_endTransaction_9 : decode b_B_endTransaction 9 = .ok (.iload_n 2, 1) := by decide +kernel
theorem d_B_endTransaction_10 : decode b_B_endTransaction 10 = .ok (.iconst 2, 1) := by decide +kernel
theorem d_B_endTransaction_11 : decode b_B_endTransaction 11 = .ok (.if_icmp .ge 23, 3) := by decide +kernel
theorem d_B_endTransaction_14 : decode b_B_endTransaction 14 = .ok (.aload_n 1, 1) := by decide +kernel
theorem d_B_endTransaction_15 : decode b_B_endTransaction 15 = .ok (.iload_n 2, 1) := by decide +kernel
theorem d_B_endTransaction_16 : decode b_B_endTransaction 16 = .ok (.aload_n 0, 1) := by decide +kernel
theorem d_B_endTransaction_17 : decode b_B_endTransaction 17 = .ok (.getfield 23, 3) := by decide +kernel
theorem d_B_endTransaction_20 : decode b_B_endTransaction 20 = .ok (.iload_n 2, 1) := by decide +kernel
theorem d_B_endTransaction_21 : decode b_B_endTransaction 21 = .ok (.aaload, 1) := by decide +kernel
theorem d_B_endTransaction_22 : decode b_B_endTransaction 22 = .ok (.getfield 213, 3) := by decide +kernel
theorem d_B_endTransaction_25 : decode b_B_endTransaction 25 = .ok (.invokevirtual 291, 3) := by decide +kernel
theorem d_B_endTransaction_28 : decode b_B_endTransaction 28 = .ok (.iinc 2 1, 3) := by decide +kernel
theorem d_B_endTransaction_31 : decode b_B_endTransaction 31 = .ok (.goto (-22), 3) := by decide +kernel
theorem d_B_endTransaction_34 : decode b_B_endTransaction 34 = .ok (.aload_n 1, 1) := by decide +kernel
theorem d_B_endTransaction_35 : decode b_B_endTransaction 35 = .ok (.invokevirtual 295, 3) := by decide +kernel
theorem d_B_endTransaction_38 : decode b_B_endTransaction 38 = .ok (.return_, 1) := by decide +kernel
theorem d_B_advanceIn_0 : decode b_B_advanceIn 0 = .ok (.aload_n 0, 1) := by decide +kernel
theorem d_B_advanceIn_1 : decode b_B_advanceIn 1 = .ok (.getfield 11, 3) := by decide +kernel
theorem d_B_advanceIn_4 : decode b_B_advanceIn 4 = .ok (.iload_n 2, 1) := by decide +kernel
theorem d_B_advanceIn_5 : decode b_B_advanceIn 5 = .ok (.aaload, 1) := by decide +kernel
theorem d_B_advanceIn_6 : decode b_B_advanceIn 6 = .ok (.astore_n 3, 1) := by decide +kernel
theorem d_B_advanceIn_7 : decode b_B_advanceIn 7 = .ok (.aload_n 3, 1) := by decide +kernel
theorem d_B_advanceIn_8 : decode b_B_advanceIn 8 = .ok (.aload_n 1, 1) := by decide +kernel
theorem d_B_advanceIn_9 : decode b_B_advanceIn 9 = .ok (.getfield 101, 3) := by decide +kernel
theorem d_B_advanceIn_12 : decode b_B_advanceIn 12 = .ok (.invokevirtual 275, 3) := by decide +kernel
theorem d_B_advanceIn_15 : decode b_B_advanceIn 15 = .ok (.ifCond .eq 10, 3) := by decide +kernel
theorem d_B_advanceIn_18 : decode b_B_advanceIn 18 = .ok (.aload_n 1, 1) := by decide +kernel
theorem d_B_advanceIn_19 : decode b_B_advanceIn 19 = .ok (.iload_n 2, 1) := by decide +kernel
theorem d_B_advanceIn_20 : decode b_B_advanceIn 20 = .ok (.invokevirtual 278, 3) := by decide +kernel
theorem d_B_advanceIn_23 : decode b_B_advanceIn 23 = .ok (.iconst 2, 1) := by decide +kernel
theorem d_B_advanceIn_24 : decode b_B_advanceIn 24 = .ok (.ireturn, 1) := by decide +kernel
theorem d_B_advanceIn_25 : decode b_B_advanceIn 25 = .ok (.aload_n 3, 1) := by decide +kernel
theorem d_B_advanceIn_26 : decode b_B_advanceIn 26 = .ok (.aload_n 1, 1) := by decide +kernel
theorem d_B_advanceIn_27 : decode b_B_advanceIn 27 = .ok (.getfield 101, 3) := by decide +kernel
theorem d_B_advanceIn_30 : decode b_B_advanceIn 30 = .ok (.invokevirtual 281, 3) := by decide +kernel
theorem d_B_advanceIn_33 : decode b_B_advanceIn 33 = .ok (.ifCond .eq 5, 3) := by decide +kernel
theorem d_B_advanceIn_36 : decode b_B_advanceIn 36 = .ok (.iconst 0, 1) := by decide +kernel
theorem d_B_advanceIn_37 : decode b_B_advanceIn 37 = .ok (.ireturn, 1) := by decide +kernel
theorem d_B_advanceIn_38 : decode b_B_advanceIn 38 = .ok (.aload_n 3, 1) := by decide +kernel
theorem d_B_advanceIn_39 : decode b_B_advanceIn 39 = .ok (.aload_n 1, 1) := by decide +kernel
theorem d_B_advanceIn_40 : decode b_B_advanceIn 40 = .ok (.getfield 101, 3) := by decide +kernel
theorem d_B_advanceIn_43 : decode b_B_advanceIn 43 = .ok (.aload_n 1, 1) := by decide +kernel
theorem d_B_advanceIn_44 : decode b_B_advanceIn 44 = .ok (.invokevirtual 284, 3) := by decide +kernel
theorem d_B_advanceIn_47 : decode b_B_advanceIn 47 = .ok (.invokevirtual 287, 3) := by decide +kernel
theorem d_B_advanceIn_50 : decode b_B_advanceIn 50 = .ok (.iconst 1, 1) := by decide +kernel
theorem d_B_advanceIn_51 : decode b_B_advanceIn 51 = .ok (.ireturn, 1) := by decide +kernel
theorem d_B_advance_0 : decode b_B_advance 0 = .ok (.aload_n 1, 1) := by decide +kernel
theorem d_B_advance_1 : decode b_B_advance 1 = .ok (.invokevirtual 46, 3) := by decide +kernel
theorem d_B_advance_4 : decode b_B_advance 4 = .ok (.ifCond .ne 5, 3) := by decide +kernel
theorem d_B_advance_7 : decode b_B_advance 7 = .ok (.iconst 0, 1) := by decide +kernel
theorem d_B_advance_8 : decode b_B_advance 8 = .ok (.ireturn, 1) := by decide +kernel
theorem d_B_advance_9 : decode b_B_advance 9 = .ok (.aload_n 1, 1) := by decide +kernel
theorem d_B_advance_10 : decode b_B_advance 10 = .ok (.getfield 117, 3) := by decide +kernel
theorem d_B_advance_13 : decode b_B_advance 13 = .ok (.ifCond .ne 10, 3) := by decide +kernel
theorem d_B_advance_16 : decode b_B_advance 16 = .ok (.aload_n 0, 1) := by decide +kernel
theorem d_B_advance_17 : decode b_B_advance 17 = .ok (.aload_n 1, 1) := by decide +kernel
theorem d_B_advance_18 : decode b_B_advance 18 = .ok (.invokevirtual 267, 3) := by decide +kernel
theorem d_B_advance_21 : decode b_B_advance 21 = .ok (.iconst 3, 1) := by decide +kernel
theorem d_B_advance_22 : decode b_B_advance 22 = .ok (.ireturn, 1) := by decide +kernel
theorem d_B_advance_23 : decode b_B_advance 23 = .ok (.iconst 0, 1) := by decide +kernel
theorem d_B_advance_24 : decode b_B_advance 24 = .ok (.istore_n 2, 1) := by decide +kernel
theorem d_B_advance_25 : decode b_B_advance 25 = .ok (.iload_n 2, 1) := by decide +kernel
theorem d_B_advance_26 : decode b_B_advance 26 = .ok (.iconst 4, 1) := by decide +kernel
theorem d_B_advance_27 : decode b_B_advance 27 = .ok (.if_icmp .ge 37, 3) := by decide +kernel
theorem d_B_advance_30 : decode b_B_advance 30 = .ok (.aload_n 1, 1) := by decide +kernel
theorem d_B_advance_31 : decode b_B_advance 31 = .ok (.getfield 117, 3) := by decide +kernel
theorem d_B_advance_34 : decode b_B_advance 34 = .ok (.iload_n 2, 1) := by decide +kernel
theorem d_B_advance_35 : decode b_B_advance 35 = .ok (.invokestatic 207, 3) := by decide +kernel
theorem d_B_advance_38 : decode b_B_advance 38 = .ok (.ifCond .eq 12, 3) := by decide +kernel
theorem d_B_advance_41 : decode b_B_advance 41 = .ok (.aload_n 0, 1) := by decide +kernel
theorem d_B_advance_42 : decode b_B_advance 42 = .ok (.aload_n 1, 1) := by decide +kernel
theorem d_B_advance_43 : decode b_B_advance 43 = .ok (.iload_n 2, 1) := by decide +kernel
theorem d_B_advance_44 : decode b_B_advance 44 = .ok (.invokevirtual 271, 3) := by decide +kernel
theorem d_B_advance_47 : decode b_B_advance 47 = .ok (.goto 4, 3) := by decide +kernel
theorem d_B_advance_50 : decode b_B_advance 50 = .ok (.iconst 0, 1) := by decide +kernel
theorem d_B_advance_51 : decode b_B_advance 51 = .ok (.istore_n 3, 1) := by decide +kernel
theorem d_B_advance_52 : decode b_B_advance 52 = .ok (.iload_n 3, 1) := by decide +kernel
theorem d_B_advance_53 : decode b_B_advance 53 = .ok (.ifCond .eq 5, 3) := by decide +kernel
theorem d_B_advance_56 : decode b_B_advance 56 = .ok (.iload_n 3, 1) := by decide +kernel
theorem d_B_advance_57 : decode b_B_advance 57 = .ok (.ireturn, 1) := by decide +kernel
theorem d_B_advance_58 : decode b_B_advance 58 = .ok (.iinc 2 1, 3) := by decide +kernel
theorem d_B_advance_61 : decode b_B_advance 61 = .ok (.goto (-36), 3) := by decide +kernel
theorem d_B_advance_64 : decode b_B_advance 64 = .ok (.iconst 0, 1) := by decide +kernel
theorem d_B_advance_65 : decode b_B_advance 65 = .ok (.ireturn, 1) := by decide +kernel
theorem d_B_step_0 : decode b_B_step 0 = .ok (.iconst 0, 1) := by decide +kernel
theorem d_B_step_1 : decode b_B_step 1 = .ok (.istore_n 1, 1) := by decide +kernel
theorem d_B_step_2 : decode b_B_step 2 = .ok (.iload_n 1, 1) := by decide +kernel
theorem d_B_step_3 : decode b_B_step 3 = .ok (.iconst 4, 1) := by decide +kernel
theorem d_B_step_4 : decode b_B_step 4 = .ok (.if_icmp .ge 31, 3) := by decide +kernel
theorem d_B_step_7 : decode b_B_step 7 = .ok (.aload_n 0, 1) := by decide +kernel
theorem d_B_step_8 : decode b_B_step 8 = .ok (.aload_n 0, 1) := by decide +kernel
theorem d_B_step_9 : decode b_B_step 9 = .ok (.getfield 17, 3) := by decide +kernel
theorem d_B_step_12 : decode b_B_step 12 = .ok (.iload_n 1, 1) := by decide +kernel
theorem d_B_step_13 : decode b_B_step 13 = .ok (.aaload, 1) := by decide +kernel
theorem d_B_step_14 : decode b_B_step 14 = .ok (.invokevirtual 126, 3) := by decide +kernel
theorem d_B_step_17 : decode b_B_step 17 = .ok (.istore_n 2, 1) := by decide +kernel
theorem d_B_step_18 : decode b_B_step 18 = .ok (.iload_n 2, 1) := by decide +kernel
theorem d_B_step_19 : decode b_B_step 19 = .ok (.ifCond .eq 10, 3) := by decide +kernel
theorem d_B_step_22 : decode b_B_step 22 = .ok (.bipush 10, 2) := by decide +kernel
theorem d_B_step_24 : decode b_B_step 24 = .ok (.iload_n 1, 1) := by decide +kernel
theorem d_B_step_25 : decode b_B_step 25 = .ok (.imul, 1) := by decide +kernel
theorem d_B_step_26 : decode b_B_step 26 = .ok (.iload_n 2, 1) := by decide +kernel
theorem d_B_step_27 : decode b_B_step 27 = .ok (.iadd, 1) := by decide +kernel
theorem d_B_step_28 : decode b_B_step 28 = .ok (.ireturn, 1) := by decide +kernel
theorem d_B_step_29 : decode b_B_step 29 = .ok (.iinc 1 1, 3) := by decide +kernel
theorem d_B_step_32 : decode b_B_step 32 = .ok (.goto (-30), 3) := by decide +kernel
theorem d_B_step_35 : decode b_B_step 35 = .ok (.iconst (-1), 1) := by decide +kernel
theorem d_B_step_36 : decode b_B_step 36 = .ok (.ireturn, 1) := by decide +kernel
theorem d_B_last_0 : decode b_B_last 0 = .ok (.aload_n 0, 1) := by decide +kernel
theorem d_B_last_1 : decode b_B_last 1 = .ok (.getfield 34, 3) := by decide +kernel
theorem d_B_last_4 : decode b_B_last 4 = .ok (.ireturn, 1) := by decide +kernel
theorem d_B_requireRange_0 : decode b_B_requireRange 0 = .ok (.iload_n 0, 1) := by decide +kernel
theorem d_B_requireRange_1 : decode b_B_requireRange 1 = .ok (.iload_n 1, 1) := by decide +kernel
theorem d_B_requireRange_2 : decode b_B_requireRange 2 = .ok (.if_icmp .lt 8, 3) := by decide +kernel
theorem d_B_requireRange_5 : decode b_B_requireRange 5 = .ok (.iload_n 0, 1) := by decide +kernel
theorem d_B_requireRange_6 : decode b_B_requireRange 6 = .ok (.iload_n 2, 1) := by decide +kernel
theorem d_B_requireRange_7 : decode b_B_requireRange 7 = .ok (.if_icmp .le 13, 3) := by decide +kernel
theorem d_B_requireRange_10 : decode b_B_requireRange 10 = .ok (.new 241, 3) := by decide +kernel
theorem d_B_requireRange_13 : decode b_B_requireRange 13 = .ok (.dup, 1) := by decide +kernel
theorem d_B_requireRange_14 : decode b_B_requireRange 14 = .ok (.ldc 243, 2) := by decide +kernel
theorem d_B_requireRange_16 : decode b_B_requireRange 16 = .ok (.invokespecial 245, 3) := by decide +kernel
theorem d_B_requireRange_19 : decode b_B_requireRange 19 = .ok (.athrow, 1) := by decide +kernel
theorem d_B_requireRange_20 : decode b_B_requireRange 20 = .ok (.return_, 1) := by decide +kernel
theorem d_B_init_0 : decode b_B_init 0 = .ok (.iload_n 1, 1) := by decide +kernel
theorem d_B_init_1 : decode b_B_init 1 = .ok (.iconst 0, 1) := by decide +kernel
theorem d_B_init_2 : decode b_B_init 2 = .ok (.iconst 3, 1) := by decide +kernel
theorem d_B_init_3 : decode b_B_init 3 = .ok (.invokestatic 42, 3) := by decide +kernel
theorem d_B_init_6 : decode b_B_init 6 = .ok (.aload_n 0, 1) := by decide +kernel
theorem d_B_init_7 : decode b_B_init 7 = .ok (.getfield 17, 3) := by decide +kernel
theorem d_B_init_10 : decode b_B_init 10 = .ok (.iload_n 1, 1) := by decide +kernel
theorem d_B_init_11 : decode b_B_init 11 = .ok (.aaload, 1) := by decide +kernel
theorem d_B_init_12 : decode b_B_init 12 = .ok (.astore_n 2, 1) := by decide +kernel
theorem d_B_init_13 : decode b_B_init 13 = .ok (.aload_n 2, 1) := by decide +kernel
theorem d_B_init_14 : decode b_B_init 14 = .ok (.invokevirtual 46, 3) := by decide +kernel
theorem d_B_init_17 : decode b_B_init 17 = .ok (.ifCond .eq 13, 3) := by decide +kernel
theorem d_B_init_20 : decode b_B_init 20 = .ok (.new 50, 3) := by decide +kernel
theorem d_B_init_23 : decode b_B_init 23 = .ok (.dup, 1) := by decide +kernel
theorem d_B_init_24 : decode b_B_init 24 = .ok (.ldc 52, 2) := by decide +kernel
theorem d_B_init_26 : decode b_B_init 26 = .ok (.invokespecial 54, 3) := by decide +kernel
theorem d_B_init_29 : decode b_B_init 29 = .ok (.athrow, 1) := by decide +kernel
theorem d_B_init_30 : decode b_B_init 30 = .ok (.aload_n 2, 1) := by decide +kernel
theorem d_B_init_31 : decode b_B_init 31 = .ok (.invokevirtual 57, 3) := by decide +kernel
theorem d_B_init_34 : decode b_B_init 34 = .ok (.ifCond .eq 17, 3) := by decide +kernel
theorem d_B_init_37 : decode b_B_init 37 = .ok (.aload_n 2, 1) := by decide +kernel
theorem d_B_init_38 : decode b_B_init 38 = .ok (.invokevirtual 60, 3) := by decide +kernel
theorem d_B_init_41 : decode b_B_init 41 = .ok (.new 50, 3) := by decide +kernel
theorem d_B_init_44 : decode b_B_init 44 = .ok (.dup, 1) := by decide +kernel
theorem d_B_init_45 : decode b_B_init 45 = .ok (.ldc 63, 2) := by decide +kernel
theorem d_B_init_47 : decode b_B_init 47 = .ok (.invokespecial 54, 3) := by decide +kernel
theorem d_B_init_50 : decode b_B_init 50 = .ok (.athrow, 1) := by decide +kernel
theorem d_B_init_51 : decode b_B_init 51 = .ok (.aload_n 2, 1) := by decide +kernel
theorem d_B_init_52 : decode b_B_init 52 = .ok (.invokevirtual 65, 3) := by decide +kernel
theorem d_B_init_55 : decode b_B_init 55 = .ok (.ireturn, 1) := by decide +kernel
theorem d_B_knownProducer_0 : decode b_B_knownProducer 0 = .ok (.aload_n 0, 1) := by decide +kernel
theorem d_B_knownProducer_1 : decode b_B_knownProducer 1 = .ok (.getfield 17, 3) := by decide +kernel
theorem d_B_knownProducer_4 : decode b_B_knownProducer 4 = .ok (.iload_n 1, 1) := by decide +kernel
theorem d_B_knownProducer_5 : decode b_B_knownProducer 5 = .ok (.aaload, 1) := by decide +kernel
theorem d_B_knownProducer_6 : decode b_B_knownProducer 6 = .ok (.astore_n 3, 1) := by decide +kernel
theorem d_B_knownProducer_7 : decode b_B_knownProducer 7 = .ok (.aload_n 3, 1) := by decide +kernel
theorem d_B_knownProducer_8 : decode b_B_knownProducer 8 = .ok (.invokevirtual 228, 3) := by decide +kernel
theorem d_B_knownProducer_11 : decode b_B_knownProducer 11 = .ok (.ifCond .ne 13, 3) := by decide +kernel
theorem d_B_knownProducer_14 : decode b_B_knownProducer 14 = .ok (.new 162, 3) := by decide +kernel
theorem d_B_knownProducer_17 : decode b_B_knownProducer 17 = .ok (.dup, 1) := by decide +kernel
theorem d_B_knownProducer_18 : decode b_B_knownProducer 18 = .ok (.ldc 251, 2) := by decide +kernel
theorem d_B_knownProducer_20 : decode b_B_knownProducer 20 = .ok (.invokespecial 166, 3) := by decide +kernel
theorem d_B_knownProducer_23 : decode b_B_knownProducer 23 = .ok (.athrow, 1) := by decide +kernel
theorem d_B_knownProducer_24 : decode b_B_knownProducer 24 = .ok (.aload_n 3, 1) := by decide +kernel
theorem d_B_knownProducer_25 : decode b_B_knownProducer 25 = .ok (.getfield 234, 3) := by decide +kernel
theorem d_B_knownProducer_28 : decode b_B_knownProducer 28 = .ok (.iload_n 2, 1) := by decide +kernel
theorem d_B_knownProducer_29 : decode b_B_knownProducer 29 = .ok (.if_icmp .eq 13, 3) := by decide +kernel
theorem d_B_knownProducer_32 : decode b_B_knownProducer 32 = .ok (.new 50, 3) := by decide +kernel
theorem d_B_knownProducer_35 : decode b_B_knownProducer 35 = .ok (.dup, 1) := by decide +kernel
theorem d_B_knownProducer_36 : decode b_B_knownProducer 36 = .ok (.ldc 253, 2) := by decide +kernel
theorem d_B_knownProducer_38 : decode b_B_knownProducer 38 = .ok (.invokespecial 54, 3) := by decide +kernel
theorem d_B_knownProducer_41 : decode b_B_knownProducer 41 = .ok (.athrow, 1) := by decide +kernel
theorem d_B_knownProducer_42 : decode b_B_knownProducer 42 = .ok (.aload_n 3, 1) := by decide +kernel
theorem d_B_knownProducer_43 : decode b_B_knownProducer 43 = .ok (.areturn, 1) := by decide +kernel
theorem d_B_begin_0 : decode b_B_begin 0 = .ok (.iload_n 1, 1) := by decide +kernel
theorem d_B_begin_1 : decode b_B_begin 1 = .ok (.iconst 0, 1) := by decide +kernel
theorem d_B_begin_2 : decode b_B_begin 2 = .ok (.iconst 3, 1) := by decide +kernel
theorem d_B_begin_3 : decode b_B_begin 3 = .ok (.invokestatic 42, 3) := by decide +kernel
theorem d_B_begin_6 : decode b_B_begin 6 = .ok (.aload_n 0, 1) := by decide +kernel
theorem d_B_begin_7 : decode b_B_begin 7 = .ok (.iload_n 1, 1) := by decide +kernel
theorem d_B_begin_8 : decode b_B_begin 8 = .ok (.iload_n 2, 1) := by decide +kernel
theorem d_B_begin_9 : decode b_B_begin 9 = .ok (.invokevirtual 69, 3) := by decide +kernel
theorem d_B_begin_12 : decode b_B_begin 12 = .ok (.astore_n 3, 1) := by decide +kernel
theorem d_B_begin_13 : decode b_B_begin 13 = .ok (.aload_n 3, 1) := by decide +kernel
theorem d_B_begin_14 : decode b_B_begin 14 = .ok (.invokevirtual 73, 3) := by decide +kernel
theorem d_B_begin_17 : decode b_B_begin 17 = .ok (.ifCond .ne 13, 3) := by decide +kernel
theorem d_B_begin_20 : decode b_B_begin 20 = .ok (.new 50, 3) := by decide +kernel
theorem d_B_begin_23 : decode b_B_begin 23 = .ok (.dup, 1) := by decide +kernel
theorem d_B_begin_24 : decode b_B_begin 24 = .ok (.ldc 76, 2) := by decide +kernel
theorem d_B_begin_26 : decode b_B_begin 26 = .ok (.invokespecial 54, 3) := by decide +kernel
theorem d_B_begin_29 : decode b_B_begin 29 = .ok (.athrow, 1) := by decide +kernel
theorem d_B_begin_30 : decode b_B_begin 30 = .ok (.aload_n 0, 1) := by decide +kernel
theorem d_B_begin_31 : decode b_B_begin 31 = .ok (.getfield 27, 3) := by decide +kernel
theorem d_B_begin_34 : decode b_B_begin 34 = .ok (.bipush 40, 2) := by decide +kernel
theorem d_B_begin_36 : decode b_B_begin 36 = .ok (.if_icmp .lt 13, 3) := by decide +kernel
theorem d_B_begin_39 : decode b_B_begin 39 = .ok (.new 50, 3) := by decide +kernel
theorem d_B_begin_42 : decode b_B_begin 42 = .ok (.dup, 1) := by decide +kernel
theorem d_B_begin_43 : decode b_B_begin 43 = .ok (.ldc 78, 2) := by decide +kernel
theorem d_B_begin_45 : decode b_B_begin 45 = .ok (.invokespecial 54, 3) := by decide +kernel
theorem d_B_begin_48 : decode b_B_begin 48 = .ok (.athrow, 1) := by decide +kernel
theorem d_B_begin_49 : decode b_B_begin 49 = .ok (.aload_n 0, 1) := by decide +kernel
theorem d_B_begin_50 : decode b_B_begin 50 = .ok (.dup, 1) := by decide +kernel
theorem d_B_begin_51 : decode b_B_begin 51 = .ok (.getfield 27, 3) := by decide +kernel
theorem d_B_begin_54 : decode b_B_begin 54 = .ok (.iconst 1, 1) := by decide +kernel
theorem d_B_begin_55 : decode b_B_begin 55 = .ok (.iadd, 1) := by decide +kernel
theorem d_B_begin_56 : decode b_B_begin 56 = .ok (.putfield 27, 3) := by decide +kernel
theorem d_B_begin_59 : decode b_B_begin 59 = .ok (.aload_n 3, 1) := by decide +kernel
theorem d_B_begin_60 : decode b_B_begin 60 = .ok (.aload_n 0, 1) := by decide +kernel
theorem d_B_begin_61 : decode b_B_begin 61 = .ok (.getfield 27, 3) := by decide +kernel
theorem d_B_begin_64 : decode b_B_begin 64 = .ok (.aload_n 0, 1) := by decide +kernel
theorem d_B_begin_65 : decode b_B_begin 65 = .ok (.getfield 31, 3) := by decide +kernel
theorem d_B_begin_68 : decode b_B_begin 68 = .ok (.invokevirtual 80, 3) := by decide +kernel
theorem d_B_begin_71 : decode b_B_begin 71 = .ok (.aload_n 0, 1) := by decide +kernel
theorem d_B_begin_72 : decode b_B_begin 72 = .ok (.getfield 27, 3) := by decide +kernel
theorem d_B_begin_75 : decode b_B_begin 75 = .ok (.ireturn, 1) := by decide +kernel
theorem d_B_openProducer_0 : decode b_B_openProducer 0 = .ok (.aload_n 0, 1) := by decide +kernel
theorem d_B_openProducer_1 : decode b_B_openProducer 1 = .ok (.iload_n 1, 1) := by decide +kernel
theorem d_B_openProducer_2 : decode b_B_openProducer 2 = .ok (.iload_n 2, 1) := by decide +kernel
theorem d_B_openProducer_3 : decode b_B_openProducer 3 = .ok (.invokevirtual 69, 3) := by decide +kernel
theorem d_B_openProducer_6 : decode b_B_openProducer 6 = .ok (.astore_n 3, 1) := by decide +kernel
theorem d_B_openProducer_7 : decode b_B_openProducer 7 = .ok (.aload_n 3, 1) := by decide +kernel
theorem d_B_openProducer_8 : decode b_B_openProducer 8 = .ok (.invokevirtual 57, 3) := by decide +kernel
theorem d_B_openProducer_11 : decode b_B_openProducer 11 = .ok (.ifCond .ne 13, 3) := by decide +kernel
theorem d_B_openProducer_14 : decode b_B_openProducer 14 = .ok (.new 50, 3) := by decide +kernel
theorem d_B_openProducer_17 : decode b_B_openProducer 17 = .ok (.dup, 1) := by decide +kernel
theorem d_B_openProducer_18 : decode b_B_openProducer 18 = .ok (.ldc 255, 2) := by decide +kernel
theorem d_B_openProducer_20 : decode b_B_openProducer 20 = .ok (.invokespecial 54, 3) := by decide +kernel
theorem d_B_openProducer_23 : decode b_B_openProducer 23 = .ok (.athrow, 1) := by decide +kernel
theorem d_B_openProducer_24 : decode b_B_openProducer 24 = .ok (.aload_n 3, 1) := by decide +kernel
theorem d_B_openProducer_25 : decode b_B_openProducer 25 = .ok (.areturn, 1) := by decide +kernel
theorem d_B_requireSpace_0 : decode b_B_requireSpace 0 = .ok (.aload_n 0, 1) := by decide +kernel
theorem d_B_requireSpace_1 : decode b_B_requireSpace 1 = .ok (.invokevirtual 246, 3) := by decide +kernel
theorem d_B_requireSpace_4 : decode b_B_requireSpace 4 = .ok (.ifCond .eq 13, 3) := by decide +kernel
theorem d_B_requireSpace_7 : decode b_B_requireSpace 7 = .ok (.new 50, 3) := by decide +kernel
theorem d_B_requireSpace_10 : decode b_B_requireSpace 10 = .ok (.dup, 1) := by decide +kernel
theorem d_B_requireSpace_11 : decode b_B_requireSpace 11 = .ok (.ldc 249, 2) := by decide +kernel
theorem d_B_requireSpace_13 : decode b_B_requireSpace 13 = .ok (.invokespecial 54, 3) := by decide +kernel
theorem d_B_requireSpace_16 : decode b_B_requireSpace 16 = .ok (.athrow, 1) := by decide +kernel
theorem d_B_requireSpace_17 : decode b_B_requireSpace 17 = .ok (.return_, 1) := by decide +kernel
theorem d_B_sendNew_0 : decode b_B_sendNew 0 = .ok (.iload_n 2, 1) := by decide +kernel
theorem d_B_sendNew_1 : decode b_B_sendNew 1 = .ok (.aload_n 1, 1) := by decide +kernel
theorem d_B_sendNew_2 : decode b_B_sendNew 2 = .ok (.aload_n 0, 1) := by decide +kernel
theorem d_B_sendNew_3 : decode b_B_sendNew 3 = .ok (.getfield 257, 3) := by decide +kernel
theorem d_B_sendNew_6 : decode b_B_sendNew 6 = .ok (.aload_n 0, 1) := by decide +kernel
theorem d_B_sendNew_7 : decode b_B_sendNew 7 = .ok (.getfield 234, 3) := by decide +kernel
theorem d_B_sendNew_10 : decode b_B_sendNew 10 = .ok (.invokevirtual 237, 3) := by decide +kernel
theorem d_B_sendNew_13 : decode b_B_sendNew 13 = .ok (.if_icmp .eq 14, 3) := by decide +kernel
theorem d_B_sendNew_16 : decode b_B_sendNew 16 = .ok (.new 108, 3) := by decide +kernel
theorem d_B_sendNew_19 : decode b_B_sendNew 19 = .ok (.dup, 1) := by decide +kernel
theorem d_B_sendNew_20 : decode b_B_sendNew 20 = .ok (.ldc_w 260, 3) := by decide +kernel
theorem d_B_sendNew_23 : decode b_B_sendNew 23 = .ok (.invokespecial 112, 3) := by decide +kernel
theorem d_B_sendNew_26 : decode b_B_sendNew 26 = .ok (.athrow, 1) := by decide +kernel
theorem d_B_sendNew_27 : decode b_B_sendNew 27 = .ok (.aload_n 1, 1) := by decide +kernel
theorem d_B_sendNew_28 : decode b_B_sendNew 28 = .ok (.invokestatic 130, 3) := by decide +kernel
theorem d_B_sendNew_31 : decode b_B_sendNew 31 = .ok (.aload_n 1, 1) := by decide +kernel
theorem d_B_sendNew_32 : decode b_B_sendNew 32 = .ok (.aload_n 0, 1) := by decide +kernel
theorem d_B_sendNew_33 : decode b_B_sendNew 33 = .ok (.iload_n 2, 1) := by decide +kernel
theorem d_B_sendNew_34 : decode b_B_sendNew 34 = .ok (.iload_n 3, 1) := by decide +kernel
theorem d_B_sendNew_35 : decode b_B_sendNew 35 = .ok (.invokestatic 262, 3) := by decide +kernel
theorem d_B_sendNew_38 : decode b_B_sendNew 38 = .ok (.invokevirtual 140, 3) := by decide +kernel
theorem d_B_sendNew_41 : decode b_B_sendNew 41 = .ok (.ireturn, 1) := by decide +kernel
theorem d_B_send_0 : decode b_B_send 0 = .ok (.iload_n 1, 1) := by decide +kernel
theorem d_B_send_1 : decode b_B_send 1 = .ok (.iconst 0, 1) := by decide +kernel
theorem d_B_send_2 : decode b_B_send 2 = .ok (.iconst 3, 1) := by decide +kernel
theorem d_B_send_3 : decode b_B_send 3 = .ok (.invokestatic 42, 3) := by decide +kernel
theorem d_B_send_6 : decode b_B_send 6 = .ok (.iload_n 3, 1) := by decide +kernel
theorem d_B_send_7 : decode b_B_send 7 = .ok (.iconst 0, 1) := by decide +kernel
theorem d_B_send_8 : decode b_B_send 8 = .ok (.iconst 3, 1) := by decide +kernel
theorem d_B_send_9 : decode b_B_send 9 = .ok (.invokestatic 42, 3) := by decide +kernel
theorem d_B_send_12 : decode b_B_send 12 = .ok (.iload 4, 2) := by decide +kernel
theorem d_B_send_14 : decode b_B_send 14 = .ok (.iconst 0, 1) := by decide +kernel
theorem d_B_send_15 : decode b_B_send 15 = .ok (.sipush 1000, 3) := by decide +kernel
theorem d_B_send_18 : decode b_B_send 18 = .ok (.invokestatic 42, 3) := by decide +kernel
theorem d_B_send_21 : decode b_B_send 21 = .ok (.aload_n 0, 1) := by decide +kernel
theorem d_B_send_22 : decode b_B_send 22 = .ok (.iload_n 1, 1) := by decide +kernel
theorem d_B_send_23 : decode b_B_send 23 = .ok (.iload_n 2, 1) := by decide +kernel
theorem d_B_send_24 : decode b_B_send 24 = .ok (.invokevirtual 84, 3) := by decide +kernel
theorem d_B_send_27 : decode b_B_send 27 = .ok (.astore 6, 2) := by decide +kernel
theorem d_B_send_29 : decode b_B_send 29 = .ok (.aload_n 0, 1) := by decide +kernel
theorem d_B_send_30 : decode b_B_send 30 = .ok (.getfield 11, 3) := by decide +kernel
theorem d_B_send_33 : decode b_B_send 33 = .ok (.iload_n 3, 1) := by decide +kernel
theorem d_B_send_34 : decode b_B_send 34 = .ok (.aaload, 1) := by decide +kernel
theorem d_B_send_35 : decode b_B_send 35 = .ok (.astore 7, 2) := by decide +kernel
theorem d_B_send_37 : decode b_B_send 37 = .ok (.aload 7, 2) := by decide +kernel
theorem d_B_send_39 : decode b_B_send 39 = .ok (.iload_n 1, 1) := by decide +kernel
theorem d_B_send_40 : decode b_B_send 40 = .ok (.iload_n 2, 1) := by decide +kernel
theorem d_B_send_41 : decode b_B_send 41 = .ok (.iload 4, 2) := by decide +kernel
theorem d_B_send_43 : decode b_B_send 43 = .ok (.invokevirtual 87, 3) := by decide +kernel
theorem d_B_send_46 : decode b_B_send 46 = .ok (.istore 8, 2) := by decide +kernel
theorem d_B_send_48 : decode b_B_send 48 = .ok (.iload 8, 2) := by decide +kernel
theorem d_B_send_50 : decode b_B_send 50 = .ok (.iconst (-1), 1) := by decide +kernel
theorem d_B_send_51 : decode b_B_send 51 = .ok (.if_icmp .ne 16, 3) := by decide +kernel
theorem d_B_send_54 : decode b_B_send 54 = .ok (.aload 6, 2) := by decide +kernel
theorem d_B_send_56 : decode b_B_send 56 = .ok (.aload 7, 2) := by decide +kernel
theorem d_B_send_58 : decode b_B_send 58 = .ok (.iload 4, 2) := by decide +kernel
theorem d_B_send_60 : decode b_B_send 60 = .ok (.iload 5, 2) := by decide +kernel
theorem d_B_send_62 : decode b_B_send 62 = .ok (.invokestatic 91, 3) := by decide +kernel
theorem d_B_send_65 : decode b_B_send 65 = .ok (.istore 8, 2) := by decide +kernel
theorem d_B_send_67 : decode b_B_send 67 = .ok (.aload 6, 2) := by decide +kernel
theorem d_B_send_69 : decode b_B_send 69 = .ok (.iload_n 3, 1) := by decide +kernel
theorem d_B_send_70 : decode b_B_send 70 = .ok (.invokevirtual 95, 3) := by decide +kernel
theorem d_B_send_73 : decode b_B_send 73 = .ok (.iload 8, 2) := by decide +kernel
theorem d_B_send_75 : decode b_B_send 75 = .ok (.ireturn, 1) := by decide +kernel
theorem d_B_pend_0 : decode b_B_pend 0 = .ok (.iload_n 1, 1) := by decide +kernel
theorem d_B_pend_1 : decode b_B_pend 1 = .ok (.iconst 0, 1) := by decide +kernel
theorem d_B_pend_2 : decode b_B_pend 2 = .ok (.iconst 3, 1) := by decide +kernel
theorem d_B_pend_3 : decode b_B_pend 3 = .ok (.invokestatic 42, 3) := by decide +kernel
theorem d_B_pend_6 : decode b_B_pend 6 = .ok (.iload_n 3, 1) := by decide +kernel
theorem d_B_pend_7 : decode b_B_pend 7 = .ok (.iconst 0, 1) := by decide +kernel
theorem d_B_pend_8 : decode b_B_pend 8 = .ok (.iconst 1, 1) := by decide +kernel
theorem d_B_pend_9 : decode b_B_pend 9 = .ok (.invokestatic 42, 3) := by decide +kernel
theorem d_B_pend_12 : decode b_B_pend 12 = .ok (.iload 4, 2) := by decide +kernel
theorem d_B_pend_14 : decode b_B_pend 14 = .ok (.iconst 0, 1) := by decide +kernel
theorem d_B_pend_15 : decode b_B_pend 15 = .ok (.iconst 3, 1) := by decide +kernel
theorem d_B_pend_16 : decode b_B_pend 16 = .ok (.invokestatic 42, 3) := by decide +kernel
theorem d_B_pend_19 : decode b_B_pend 19 = .ok (.iload 5, 2) := by decide +kernel
theorem d_B_pend_21 : decode b_B_pend 21 = .ok (.iconst 0, 1) := by decide +kernel
theorem d_B_pend_22 : decode b_B_pend 22 = .ok (.sipush 600, 3) := by decide +kernel
theorem d_B_pend_25 : decode b_B_pend 25 = .ok (.invokestatic 42, 3) := by decide +kernel
theorem d_B_pend_28 : decode b_B_pend 28 = .ok (.aload_n 0, 1) := by decide +kernel
theorem d_B_pend_29 : decode b_B_pend 29 = .ok (.iload_n 1, 1) := by decide +kernel
theorem d_B_pend_30 : decode b_B_pend 30 = .ok (.iload_n 2, 1) := by decide +kernel
theorem d_B_pend_31 : decode b_B_pend 31 = .ok (.invokevirtual 84, 3) := by decide +kernel
theorem d_B_pend_34 : decode b_B_pend 34 = .ok (.iload_n 3, 1) := by decide +kernel
theorem d_B_pend_35 : decode b_B_pend 35 = .ok (.iload 4, 2) := by decide +kernel
theorem d_B_pend_37 : decode b_B_pend 37 = .ok (.iload 5, 2) := by decide +kernel
theorem d_B_pend_39 : decode b_B_pend 39 = .ok (.invokevirtual 98, 3) := by decide +kernel
theorem d_B_pend_42 : decode b_B_pend 42 = .ok (.ireturn, 1) := by decide +kernel
theorem d_B_hasUncopied_0 : decode b_B_hasUncopied 0 = .ok (.iconst 0, 1) := by decide +kernel
theorem d_B_hasUncopied_1 : decode b_B_hasUncopied 1 = .ok (.istore_n 2, 1) := by decide +kernel
theorem d_B_hasUncopied_2 : decode b_B_hasUncopied 2 = .ok (.iload_n 2, 1) := by decide +kernel
theorem d_B_hasUncopied_3 : decode b_B_hasUncopied 3 = .ok (.iconst 4, 1) := by decide +kernel
theorem d_B_hasUncopied_4 : decode b_B_hasUncopied 4 = .ok (.if_icmp .ge 24, 3) := by decide +kernel
theorem d_B_hasUncopied_7 : decode b_B_hasUncopied 7 = .ok (.aload_n 0, 1) := by decide +kernel
theorem d_B_hasUncopied_8 : decode b_B_hasUncopied 8 = .ok (.getfield 11, 3) := by decide +kernel
theorem d_B_hasUncopied_11 : decode b_B_hasUncopied 11 = .ok (.iload_n 2, 1) := by decide +kernel
theorem d_B_hasUncopied_12 : decode b_B_hasUncopied 12 = .ok (.aaload, 1) := by decide +kernel
theorem d_B_hasUncopied_13 : decode b_B_hasUncopied 13 = .ok (.iload_n 1, 1) := by decide +kernel
theorem d_B_hasUncopied_14 : decode b_B_hasUncopied 14 = .ok (.invokevirtual 266, 3) := by decide +kernel
theorem d_B_hasUncopied_17 : decode b_B_hasUncopied 17 = .ok (.ifCond .eq 5, 3) := by decide +kernel
theorem d_B_hasUncopied_20 : decode b_B_hasUncopied 20 = .ok (.iconst 1, 1) := by decide +kernel
theorem d_B_hasUncopied_21 : decode b_B_hasUncopied 21 = .ok (.ireturn, 1) := by decide +kernel
theorem d_B_hasUncopied_22 : decode b_B_hasUncopied 22 = .ok (.iinc 2 1, 3) := by decide +kernel
theorem d_B_hasUncopied_25 : decode b_B_hasUncopied 25 = .ok (.goto (-23), 3) := by decide +kernel
theorem d_B_hasUncopied_28 : decode b_B_hasUncopied 28 = .ok (.iconst 0, 1) := by decide +kernel
theorem d_B_hasUncopied_29 : decode b_B_hasUncopied 29 = .ok (.ireturn, 1) := by decide +kernel
theorem d_B_finish_0 : decode b_B_finish 0 = .ok (.iload_n 1, 1) := by decide +kernel
theorem d_B_finish_1 : decode b_B_finish 1 = .ok (.iconst 0, 1) := by decide +kernel
theorem d_B_finish_2 : decode b_B_finish 2 = .ok (.iconst 3, 1) := by decide +kernel
theorem d_B_finish_3 : decode b_B_finish 3 = .ok (.invokestatic 42, 3) := by decide +kernel
theorem d_B_finish_6 : decode b_B_finish 6 = .ok (.aload_n 0, 1) := by decide +kernel
theorem d_B_finish_7 : decode b_B_finish 7 = .ok (.iload_n 1, 1) := by decide +kernel
theorem d_B_finish_8 : decode b_B_finish 8 = .ok (.iload_n 2, 1) := by decide +kernel
theorem d_B_finish_9 : decode b_B_finish 9 = .ok (.invokevirtual 84, 3) := by decide +kernel
theorem d_B_finish_12 : decode b_B_finish 12 = .ok (.astore 4, 2) := by decide +kernel
theorem d_B_finish_14 : decode b_B_finish 14 = .ok (.iload_n 3, 1) := by decide +kernel
theorem d_B_finish_15 : decode b_B_finish 15 = .ok (.ifCond .eq 25, 3) := by decide +kernel
theorem d_B_finish_18 : decode b_B_finish 18 = .ok (.aload_n 0, 1) := by decide +kernel
theorem d_B_finish_19 : decode b_B_finish 19 = .ok (.aload 4, 2) := by decide +kernel
theorem d_B_finish_21 : decode b_B_finish 21 = .ok (.getfield 101, 3) := by decide +kernel
theorem d_B_finish_24 : decode b_B_finish 24 = .ok (.invokevirtual 104, 3) := by decide +kernel
theorem d_B_finish_27 : decode b_B_finish 27 = .ok (.ifCond .eq 13, 3) := by decide +kernel
theorem d_B_finish_30 : decode b_B_finish 30 = .ok (.new 108, 3) := by decide +kernel
theorem d_B_finish_33 : decode b_B_finish 33 = .ok (.dup, 1) := by decide +kernel
theorem d_B_finish_34 : decode b_B_finish 34 = .ok (.ldc 110, 2) := by decide +kernel
theorem d_B_finish_36 : decode b_B_finish 36 = .ok (.invokespecial 112, 3) := by decide +kernel
theorem d_B_finish_39 : decode b_B_finish 39 = .ok (.athrow, 1) := by decide +kernel
theorem d_B_finish_40 : decode b_B_finish 40 = .ok (.aload 4, 2) := by decide +kernel
theorem d_B_finish_42 : decode b_B_finish 42 = .ok (.iload_n 3, 1) := by decide +kernel
theorem d_B_finish_43 : decode b_B_finish 43 = .ok (.invokevirtual 113, 3) := by decide +kernel
theorem d_B_finish_46 : decode b_B_finish 46 = .ok (.aload 4, 2) := by decide +kernel
theorem d_B_finish_48 : decode b_B_finish 48 = .ok (.getfield 117, 3) := by decide +kernel
theorem d_B_finish_51 : decode b_B_finish 51 = .ok (.invokestatic 120, 3) := by decide +kernel
theorem d_B_finish_54 : decode b_B_finish 54 = .ok (.ireturn, 1) := by decide +kernel
theorem d_B_plain_0 : decode b_B_plain 0 = .ok (.iload_n 1, 1) := by decide +kernel
theorem d_B_plain_1 : decode b_B_plain 1 = .ok (.iconst 0, 1) := by decide +kernel
theorem d_B_plain_2 : decode b_B_plain 2 = .ok (.iconst 3, 1) := by decide +kernel
theorem d_B_plain_3 : decode b_B_plain 3 = .ok (.invokestatic 42, 3) := by decide +kernel
theorem d_B_plain_6 : decode b_B_plain 6 = .ok (.aload_n 0, 1) := by decide +kernel
theorem d_B_plain_7 : decode b_B_plain 7 = .ok (.getfield 11, 3) := by decide +kernel
theorem d_B_plain_10 : decode b_B_plain 10 = .ok (.iload_n 1, 1) := by decide +kernel
theorem d_B_plain_11 : decode b_B_plain 11 = .ok (.aaload, 1) := by decide +kernel
theorem d_B_plain_12 : decode b_B_plain 12 = .ok (.astore_n 3, 1) := by decide +kernel
theorem d_B_plain_13 : decode b_B_plain 13 = .ok (.aload_n 3, 1) := by decide +kernel
theorem d_B_plain_14 : decode b_B_plain 14 = .ok (.invokestatic 130, 3) := by decide +kernel
theorem d_B_plain_17 : decode b_B_plain 17 = .ok (.aload_n 3, 1) := by decide +kernel
theorem d_B_plain_18 : decode b_B_plain 18 = .ok (.iload_n 2, 1) := by decide +kernel
theorem d_B_plain_19 : decode b_B_plain 19 = .ok (.invokestatic 134, 3) := by decide +kernel
theorem d_B_plain_22 : decode b_B_plain 22 = .ok (.invokevirtual 140, 3) := by decide +kernel
theorem d_B_plain_25 : decode b_B_plain 25 = .ok (.ireturn, 1) := by decide +kernel
theorem d_B_copy_0 : decode b_B_copy 0 = .ok (.iload_n 1, 1) := by decide +kernel
theorem d_B_copy_1 : decode b_B_copy 1 = .ok (.iconst 0, 1) := by decide +kernel
theorem d_B_copy_2 : decode b_B_copy 2 = .ok (.iconst 3, 1) := by decide +kernel
theorem d_B_copy_3 : decode b_B_copy 3 = .ok (.invokestatic 42, 3) := by decide +kernel
theorem d_B_copy_6 : decode b_B_copy 6 = .ok (.iload_n 2, 1) := by decide +kernel
theorem d_B_copy_7 : decode b_B_copy 7 = .ok (.iconst 1, 1) := by decide +kernel
theorem d_B_copy_8 : decode b_B_copy 8 = .ok (.bipush 40, 2) := by decide +kernel
theorem d_B_copy_10 : decode b_B_copy 10 = .ok (.invokestatic 42, 3) := by decide +kernel
theorem d_B_copy_13 : decode b_B_copy 13 = .ok (.aload_n 0, 1) := by decide +kernel
theorem d_B_copy_14 : decode b_B_copy 14 = .ok (.getfield 11, 3) := by decide +kernel
theorem d_B_copy_17 : decode b_B_copy 17 = .ok (.iload_n 1, 1) := by decide +kernel
theorem d_B_copy_18 : decode b_B_copy 18 = .ok (.aaload, 1) := by decide +kernel
theorem d_B_copy_19 : decode b_B_copy 19 = .ok (.iload_n 2, 1) := by decide +kernel
theorem d_B_copy_20 : decode b_B_copy 20 = .ok (.invokevirtual 144, 3) := by decide +kernel
theorem d_B_copy_23 : decode b_B_copy 23 = .ok (.ireturn, 1) := by decide +kernel
theorem d_B_lose_0 : decode b_B_lose 0 = .ok (.iload_n 1, 1) := by decide +kernel
theorem d_B_lose_1 : decode b_B_lose 1 = .ok (.iconst 0, 1) := by decide +kernel
theorem d_B_lose_2 : decode b_B_lose 2 = .ok (.iconst 3, 1) := by decide +kernel
theorem d_B_lose_3 : decode b_B_lose 3 = .ok (.invokestatic 42, 3) := by decide +kernel
theorem d_B_lose_6 : decode b_B_lose 6 = .ok (.aload_n 0, 1) := by decide +kernel
theorem d_B_lose_7 : decode b_B_lose 7 = .ok (.getfield 11, 3) := by decide +kernel
theorem d_B_lose_10 : decode b_B_lose 10 = .ok (.iload_n 1, 1) := by decide +kernel
theorem d_B_lose_11 : decode b_B_lose 11 = .ok (.aaload, 1) := by decide +kernel
theorem d_B_lose_12 : decode b_B_lose 12 = .ok (.invokevirtual 147, 3) := by decide +kernel
theorem d_B_lose_15 : decode b_B_lose 15 = .ok (.ireturn, 1) := by decide +kernel
theorem d_B_fetch_0 : decode b_B_fetch 0 = .ok (.iload_n 1, 1) := by decide +kernel
theorem d_B_fetch_1 : decode b_B_fetch 1 = .ok (.iconst 0, 1) := by decide +kernel
theorem d_B_fetch_2 : decode b_B_fetch 2 = .ok (.iconst 3, 1) := by decide +kernel
theorem d_B_fetch_3 : decode b_B_fetch 3 = .ok (.invokestatic 42, 3) := by decide +kernel
theorem d_B_fetch_6 : decode b_B_fetch 6 = .ok (.iload_n 2, 1) := by decide +kernel
theorem d_B_fetch_7 : decode b_B_fetch 7 = .ok (.iconst 0, 1) := by decide +kernel
theorem d_B_fetch_8 : decode b_B_fetch 8 = .ok (.sipush 600, 3) := by decide +kernel
theorem d_B_fetch_11 : decode b_B_fetch 11 = .ok (.invokestatic 42, 3) := by decide +kernel
theorem d_B_fetch_14 : decode b_B_fetch 14 = .ok (.aload_n 0, 1) := by decide +kernel
theorem d_B_fetch_15 : decode b_B_fetch 15 = .ok (.getfield 11, 3) := by decide +kernel
theorem d_B_fetch_18 : decode b_B_fetch 18 = .ok (.iload_n 1, 1) := by decide +kernel
theorem d_B_fetch_19 : decode b_B_fetch 19 = .ok (.aaload, 1) := by decide +kernel
theorem d_B_fetch_20 : decode b_B_fetch 20 = .ok (.astore 4, 2) := by decide +kernel
theorem d_B_fetch_22 : decode b_B_fetch 22 = .ok (.iload_n 2, 1) := by decide +kernel
theorem d_B_fetch_23 : decode b_B_fetch 23 = .ok (.aload 4, 2) := by decide +kernel
theorem d_B_fetch_25 : decode b_B_fetch 25 = .ok (.getfield 150, 3) := by decide +kernel
theorem d_B_fetch_28 : decode b_B_fetch 28 = .ok (.if_icmp .ge 13, 3) := by decide +kernel
theorem d_B_fetch_31 : decode b_B_fetch 31 = .ok (.new 153, 3) := by decide +kernel
theorem d_B_fetch_34 : decode b_B_fetch 34 = .ok (.dup, 1) := by decide +kernel
theorem d_B_fetch_35 : decode b_B_fetch 35 = .ok (.ldc 155, 2) := by decide +kernel
theorem d_B_fetch_37 : decode b_B_fetch 37 = .ok (.invokespecial 157, 3) := by decide +kernel
theorem d_B_fetch_40 : decode b_B_fetch 40 = .ok (.athrow, 1) := by decide +kernel
theorem d_B_fetch_41 : decode b_B_fetch 41 = .ok (.aload 4, 2) := by decide +kernel
theorem d_B_fetch_43 : decode b_B_fetch 43 = .ok (.iload_n 2, 1) := by decide +kernel
theorem d_B_fetch_44 : decode b_B_fetch 44 = .ok (.iload_n 3, 1) := by decide +kernel
theorem d_B_fetch_45 : decode b_B_fetch 45 = .ok (.invokevirtual 158, 3) := by decide +kernel
theorem d_B_fetch_48 : decode b_B_fetch 48 = .ok (.istore 5, 2) := by decide +kernel
theorem d_B_fetch_50 : decode b_B_fetch 50 = .ok (.iload 5, 2) := by decide +kernel
theorem d_B_fetch_52 : decode b_B_fetch 52 = .ok (.iconst (-1), 1) := by decide +kernel
theorem d_B_fetch_53 : decode b_B_fetch 53 = .ok (.if_icmp .ne 13, 3) := by decide +kernel
theorem d_B_fetch_56 : decode b_B_fetch 56 = .ok (.new 162, 3) := by decide +kernel
theorem d_B_fetch_59 : decode b_B_fetch 59 = .ok (.dup, 1) := by decide +kernel
theorem d_B_fetch_60 : decode b_B_fetch 60 = .ok (.ldc 164, 2) := by decide +kernel
theorem d_B_fetch_62 : decode b_B_fetch 62 = .ok (.invokespecial 166, 3) := by decide +kernel
theorem d_B_fetch_65 : decode b_B_fetch 65 = .ok (.athrow, 1) := by decide +kernel
theorem d_B_fetch_66 : decode b_B_fetch 66 = .ok (.aload_n 0, 1) := by decide +kernel
theorem d_B_fetch_67 : decode b_B_fetch 67 = .ok (.aload 4, 2) := by decide +kernel
theorem d_B_fetch_69 : decode b_B_fetch 69 = .ok (.iload 5, 2) := by decide +kernel
theorem d_B_fetch_71 : decode b_B_fetch 71 = .ok (.invokevirtual 167, 3) := by decide +kernel
theorem d_B_fetch_74 : decode b_B_fetch 74 = .ok (.putfield 34, 3) := by decide +kernel
theorem d_B_fetch_77 : decode b_B_fetch 77 = .ok (.iload 5, 2) := by decide +kernel
theorem d_B_fetch_79 : decode b_B_fetch 79 = .ok (.ireturn, 1) := by decide +kernel
theorem d_B_trim_0 : decode b_B_trim 0 = .ok (.iload_n 1, 1) := by decide +kernel
theorem d_B_trim_1 : decode b_B_trim 1 = .ok (.iconst 0, 1) := by decide +kernel
theorem d_B_trim_2 : decode b_B_trim 2 = .ok (.iconst 3, 1) := by decide +kernel
theorem d_B_trim_3 : decode b_B_trim 3 = .ok (.invokestatic 42, 3) := by decide +kernel
theorem d_B_trim_6 : decode b_B_trim 6 = .ok (.iload_n 2, 1) := by decide +kernel
theorem d_B_trim_7 : decode b_B_trim 7 = .ok (.iconst 0, 1) := by decide +kernel
theorem d_B_trim_8 : decode b_B_trim 8 = .ok (.sipush 600, 3) := by decide +kernel
theorem d_B_trim_11 : decode b_B_trim 11 = .ok (.invokestatic 42, 3) := by decide +kernel
theorem d_B_trim_14 : decode b_B_trim 14 = .ok (.aload_n 0, 1) := by decide +kernel
theorem d_B_trim_15 : decode b_B_trim 15 = .ok (.getfield 11, 3) := by decide +kernel
theorem d_B_trim_18 : decode b_B_trim 18 = .ok (.iload_n 1, 1) := by decide +kernel
theorem d_B_trim_19 : decode b_B_trim 19 = .ok (.aaload, 1) := by decide +kernel
theorem d_B_trim_20 : decode b_B_trim 20 = .ok (.astore_n 3, 1) := by decide +kernel
theorem d_B_trim_21 : decode b_B_trim 21 = .ok (.iload_n 2, 1) := by decide +kernel
theorem d_B_trim_22 : decode b_B_trim 22 = .ok (.aload_n 3, 1) := by decide +kernel
theorem d_B_trim_23 : decode b_B_trim 23 = .ok (.getfield 150, 3) := by decide +kernel
theorem d_B_trim_26 : decode b_B_trim 26 = .ok (.if_icmp .lt 11, 3) := by decide +kernel
theorem d_B_trim_29 : decode b_B_trim 29 = .ok (.iload_n 2, 1) := by decide +kernel
theorem d_B_trim_30 : decode b_B_trim 30 = .ok (.aload_n 3, 1) := by decide +kernel
theorem d_B_trim_31 : decode b_B_trim 31 = .ok (.invokevirtual 170, 3) := by decide +kernel
theorem d_B_trim_34 : decode b_B_trim 34 = .ok (.if_icmp .le 13, 3) := by decide +kernel
theorem d_B_trim_37 : decode b_B_trim 37 = .ok (.new 153, 3) := by decide +kernel
theorem d_B_trim_40 : decode b_B_trim 40 = .ok (.dup, 1) := by decide +kernel
theorem d_B_trim_41 : decode b_B_trim 41 = .ok (.ldc 173, 2) := by decide +kernel
theorem d_B_trim_43 : decode b_B_trim 43 = .ok (.invokespecial 157, 3) := by decide +kernel
theorem d_B_trim_46 : decode b_B_trim 46 = .ok (.athrow, 1) := by decide +kernel
theorem d_B_trim_47 : decode b_B_trim 47 = .ok (.iload_n 2, 1) := by decide +kernel
theorem d_B_trim_48 : decode b_B_trim 48 = .ok (.aload_n 3, 1) := by decide +kernel
theorem d_B_trim_49 : decode b_B_trim 49 = .ok (.getfield 150, 3) := by decide +kernel
theorem d_B_trim_52 : decode b_B_trim 52 = .ok (.isub, 1) := by decide +kernel
theorem d_B_trim_53 : decode b_B_trim 53 = .ok (.istore 4, 2) := by decide +kernel
theorem d_B_trim_55 : decode b_B_trim 55 = .ok (.aload_n 3, 1) := by decide +kernel
theorem d_B_trim_56 : decode b_B_trim 56 = .ok (.iload_n 2, 1) := by decide +kernel
theorem d_B_trim_57 : decode b_B_trim 57 = .ok (.putfield 150, 3) := by decide +kernel
theorem d_B_trim_60 : decode b_B_trim 60 = .ok (.iload 4, 2) := by decide +kernel
theorem d_B_trim_62 : decode b_B_trim 62 = .ok (.ireturn, 1) := by decide +kernel
theorem d_B_join_0 : decode b_B_join 0 = .ok (.iload_n 1, 1) := by decide +kernel
theorem d_B_join_1 : decode b_B_join 1 = .ok (.iconst 0, 1) := by decide +kernel
theorem d_B_join_2 : decode b_B_join 2 = .ok (.iconst 1, 1) := by decide +kernel
theorem d_B_join_3 : decode b_B_join 3 = .ok (.invokestatic 42, 3) := by decide +kernel
theorem d_B_join_6 : decode b_B_join 6 = .ok (.iload_n 2, 1) := by decide +kernel
theorem d_B_join_7 : decode b_B_join 7 = .ok (.iconst 0, 1) := by decide +kernel
theorem d_B_join_8 : decode b_B_join 8 = .ok (.iconst 3, 1) := by decide +kernel
theorem d_B_join_9 : decode b_B_join 9 = .ok (.invokestatic 42, 3) := by decide +kernel
theorem d_B_join_12 : decode b_B_join 12 = .ok (.aload_n 0, 1) := by decide +kernel
theorem d_B_join_13 : decode b_B_join 13 = .ok (.getfield 23, 3) := by decide +kernel
theorem d_B_join_16 : decode b_B_join 16 = .ok (.iload_n 1, 1) := by decide +kernel
theorem d_B_join_17 : decode b_B_join 17 = .ok (.aaload, 1) := by decide +kernel
theorem d_B_join_18 : decode b_B_join 18 = .ok (.astore_n 3, 1) := by decide +kernel
theorem d_B_join_19 : decode b_B_join 19 = .ok (.aload_n 3, 1) := by decide +kernel
theorem d_B_join_20 : decode b_B_join 20 = .ok (.iload_n 2, 1) := by decide +kernel
theorem d_B_join_21 : decode b_B_join 21 = .ok (.invokevirtual 175, 3) := by decide +kernel
theorem d_B_join_24 : decode b_B_join 24 = .ok (.ifCond .eq 13, 3) := by decide +kernel
theorem d_B_join_27 : decode b_B_join 27 = .ok (.new 50, 3) := by decide +kernel
theorem d_B_join_30 : decode b_B_join 30 = .ok (.dup, 1) := by decide +kernel
theorem d_B_join_31 : decode b_B_join 31 = .ok (.ldc 178, 2) := by decide +kernel
theorem d_B_join_33 : decode b_B_join 33 = .ok (.invokespecial 54, 3) := by decide +kernel
theorem d_B_join_36 : decode b_B_join 36 = .ok (.athrow, 1) := by decide +kernel
theorem d_B_join_37 : decode b_B_join 37 = .ok (.aload_n 3, 1) := by decide +kernel
theorem d_B_join_38 : decode b_B_join 38 = .ok (.iload_n 2, 1) := by decide +kernel
theorem d_B_join_39 : decode b_B_join 39 = .ok (.aload_n 0, 1) := by decide +kernel
theorem d_B_join_40 : decode b_B_join 40 = .ok (.getfield 31, 3) := by decide +kernel
theorem d_B_join_43 : decode b_B_join 43 = .ok (.invokevirtual 180, 3) := by decide +kernel
theorem d_B_join_46 : decode b_B_join 46 = .ok (.aload_n 3, 1) := by decide +kernel
theorem d_B_join_47 : decode b_B_join 47 = .ok (.invokevirtual 183, 3) := by decide +kernel
theorem d_B_join_50 : decode b_B_join 50 = .ok (.aload_n 3, 1) := by decide +kernel
theorem d_B_join_51 : decode b_B_join 51 = .ok (.getfield 186, 3) := by decide +kernel
theorem d_B_join_54 : decode b_B_join 54 = .ok (.ireturn, 1) := by decide +kernel
theorem d_B_groupWith_0 : decode b_B_groupWith 0 = .ok (.aload_n 0, 1) := by decide +kernel
theorem d_B_groupWith_1 : decode b_B_groupWith 1 = .ok (.getfield 23, 3) := by decide +kernel
theorem d_B_groupWith_4 : decode b_B_groupWith 4 = .ok (.iload_n 1, 1) := by decide +kernel
theorem d_B_groupWith_5 : decode b_B_groupWith 5 = .ok (.aaload, 1) := by decide +kernel
theorem d_B_groupWith_6 : decode b_B_groupWith 6 = .ok (.astore_n 3, 1) := by decide +kernel
theorem d_B_groupWith_7 : decode b_B_groupWith 7 = .ok (.aload_n 3, 1) := by decide +kernel
theorem d_B_groupWith_8 : decode b_B_groupWith 8 = .ok (.iload_n 2, 1) := by decide +kernel
theorem d_B_groupWith_9 : decode b_B_groupWith 9 = .ok (.invokevirtual 175, 3) := by decide +kernel
theorem d_B_groupWith_12 : decode b_B_groupWith 12 = .ok (.ifCond .ne 14, 3) := by decide +kernel
theorem d_B_groupWith_15 : decode b_B_groupWith 15 = .ok (.new 162, 3) := by decide +kernel
theorem d_B_groupWith_18 : decode b_B_groupWith 18 = .ok (.dup, 1) := by decide +kernel
theorem d_B_groupWith_19 : decode b_B_groupWith 19 = .ok (.ldc_w 298, 3) := by decide +kernel
theorem d_B_groupWith_22 : decode b_B_groupWith 22 = .ok (.invokespecial 166, 3) := by decide +kernel
theorem d_B_groupWith_25 : decode b_B_groupWith 25 = .ok (.athrow, 1) := by decide +kernel
theorem d_B_groupWith_26 : decode b_B_groupWith 26 = .ok (.aload_n 3, 1) := by decide +kernel
theorem d_B_groupWith_27 : decode b_B_groupWith 27 = .ok (.areturn, 1) := by decide +kernel
theorem d_B_leave_0 : decode b_B_leave 0 = .ok (.iload_n 1, 1) := by decide +kernel
theorem d_B_leave_1 : decode b_B_leave 1 = .ok (.iconst 0, 1) := by decide +kernel
theorem d_B_leave_2 : decode b_B_leave 2 = .ok (.iconst 1, 1) := by decide +kernel
theorem d_B_leave_3 : decode b_B_leave 3 = .ok (.invokestatic 42, 3) := by decide +kernel
theorem d_B_leave_6 : decode b_B_leave 6 = .ok (.iload_n 2, 1) := by decide +kernel
theorem d_B_leave_7 : decode b_B_leave 7 = .ok (.iconst 0, 1) := by decide +kernel
theorem d_B_leave_8 : decode b_B_leave 8 = .ok (.iconst 3, 1) := by decide +kernel
theorem d_B_leave_9 : decode b_B_leave 9 = .ok (.invokestatic 42, 3) := by decide +kernel
theorem d_B_leave_12 : decode b_B_leave 12 = .ok (.aload_n 0, 1) := by decide +kernel
theorem d_B_leave_13 : decode b_B_leave 13 = .ok (.iload_n 1, 1) := by decide +kernel
theorem d_B_leave_14 : decode b_B_leave 14 = .ok (.iload_n 2, 1) := by decide +kernel
theorem d_B_leave_15 : decode b_B_leave 15 = .ok (.invokevirtual 189, 3) := by decide +kernel
theorem d_B_leave_18 : decode b_B_leave 18 = .ok (.astore_n 3, 1) := by decide +kernel
theorem d_B_leave_19 : decode b_B_leave 19 = .ok (.aload_n 3, 1) := by decide +kernel
theorem d_B_leave_20 : decode b_B_leave 20 = .ok (.iload_n 2, 1) := by decide +kernel
theorem d_B_leave_21 : decode b_B_leave 21 = .ok (.invokevirtual 193, 3) := by decide +kernel
theorem d_B_leave_24 : decode b_B_leave 24 = .ok (.aload_n 3, 1) := by decide +kernel
theorem d_B_leave_25 : decode b_B_leave 25 = .ok (.invokevirtual 183, 3) := by decide +kernel
theorem d_B_leave_28 : decode b_B_leave 28 = .ok (.aload_n 3, 1) := by decide +kernel
theorem d_B_leave_29 : decode b_B_leave 29 = .ok (.getfield 186, 3) := by decide +kernel
theorem d_B_leave_32 : decode b_B_leave 32 = .ok (.ireturn, 1) := by decide +kernel
theorem d_B_groupAt_0 : decode b_B_groupAt 0 = .ok (.aload_n 0, 1) := by decide +kernel
theorem d_B_groupAt_1 : decode b_B_groupAt 1 = .ok (.iload_n 1, 1) := by decide +kernel
theorem d_B_groupAt_2 : decode b_B_groupAt 2 = .ok (.iload_n 2, 1) := by decide +kernel
theorem d_B_groupAt_3 : decode b_B_groupAt 3 = .ok (.invokevirtual 189, 3) := by decide +kernel
theorem d_B_groupAt_6 : decode b_B_groupAt 6 = .ok (.astore 4, 2) := by decide +kernel
theorem d_B_groupAt_8 : decode b_B_groupAt 8 = .ok (.aload 4, 2) := by decide +kernel
theorem d_B_groupAt_10 : decode b_B_groupAt 10 = .ok (.getfield 186, 3) := by decide +kernel
theorem d_B_groupAt_13 : decode b_B_groupAt 13 = .ok (.iload_n 3, 1) := by decide +kernel
theorem d_B_groupAt_14 : decode b_B_groupAt 14 = .ok (.if_icmp .eq 14, 3) := by decide +kernel
theorem d_B_groupAt_17 : decode b_B_groupAt 17 = .ok (.new 50, 3) := by decide +kernel
theorem d_B_groupAt_20 : decode b_B_groupAt 20 = .ok (.dup, 1) := by decide +kernel
theorem d_B_groupAt_21 : decode b_B_groupAt 21 = .ok (.ldc_w 300, 3) := by decide +kernel
theorem d_B_groupAt_24 : decode b_B_groupAt 24 = .ok (.invokespecial 54, 3) := by decide +kernel
theorem d_B_groupAt_27 : decode b_B_groupAt 27 = .ok (.athrow, 1) := by decide +kernel
theorem d_B_groupAt_28 : decode b_B_groupAt 28 = .ok (.aload 4, 2) := by decide +kernel
theorem d_B_groupAt_30 : decode b_B_groupAt 30 = .ok (.areturn, 1) := by decide +kernel
theorem d_B_beat_0 : decode b_B_beat 0 = .ok (.iload_n 1, 1) := by decide +kernel
theorem d_B_beat_1 : decode b_B_beat 1 = .ok (.iconst 0, 1) := by decide +kernel
theorem d_B_beat_2 : decode b_B_beat 2 = .ok (.iconst 1, 1) := by decide +kernel
theorem d_B_beat_3 : decode b_B_beat 3 = .ok (.invokestatic 42, 3) := by decide +kernel
theorem d_B_beat_6 : decode b_B_beat 6 = .ok (.iload_n 2, 1) := by decide +kernel
theorem d_B_beat_7 : decode b_B_beat 7 = .ok (.iconst 0, 1) := by decide +kernel
theorem d_B_beat_8 : decode b_B_beat 8 = .ok (.iconst 3, 1) := by decide +kernel
theorem d_B_beat_9 : decode b_B_beat 9 = .ok (.invokestatic 42, 3) := by decide +kernel
theorem d_B_beat_12 : decode b_B_beat 12 = .ok (.aload_n 0, 1) := by decide +kernel
theorem d_B_beat_13 : decode b_B_beat 13 = .ok (.iload_n 1, 1) := by decide +kernel
theorem d_B_beat_14 : decode b_B_beat 14 = .ok (.iload_n 2, 1) := by decide +kernel
theorem d_B_beat_15 : decode b_B_beat 15 = .ok (.iload_n 3, 1) := by decide +kernel
theorem d_B_beat_16 : decode b_B_beat 16 = .ok (.invokevirtual 196, 3) := by decide +kernel
theorem d_B_beat_19 : decode b_B_beat 19 = .ok (.astore 4, 2) := by decide +kernel
theorem d_B_beat_21 : decode b_B_beat 21 = .ok (.aload 4, 2) := by decide +kernel
theorem d_B_beat_23 : decode b_B_beat 23 = .ok (.iload_n 2, 1) := by decide +kernel
theorem d_B_beat_24 : decode b_B_beat 24 = .ok (.aload_n 0, 1) := by decide +kernel
theorem d_B_beat_25 : decode b_B_beat 25 = .ok (.getfield 31, 3) := by decide +kernel
theorem d_B_beat_28 : decode b_B_beat 28 = .ok (.invokevirtual 200, 3) := by decide +kernel
theorem d_B_beat_31 : decode b_B_beat 31 = .ok (.aload 4, 2) := by decide +kernel
theorem d_B_beat_33 : decode b_B_beat 33 = .ok (.getfield 203, 3) := by decide +kernel
theorem d_B_beat_36 : decode b_B_beat 36 = .ok (.iload_n 2, 1) := by decide +kernel
theorem d_B_beat_37 : decode b_B_beat 37 = .ok (.iaload, 1) := by decide +kernel
theorem d_B_beat_38 : decode b_B_beat 38 = .ok (.ireturn, 1) := by decide +kernel
theorem d_B_mark_0 : decode b_B_mark 0 = .ok (.iload_n 1, 1) := by decide +kernel
theorem d_B_mark_1 : decode b_B_mark 1 = .ok (.iconst 0, 1) := by decide +kernel
theorem d_B_mark_2 : decode b_B_mark 2 = .ok (.iconst 1, 1) := by decide +kernel
theorem d_B_mark_3 : decode b_B_mark 3 = .ok (.invokestatic 42, 3) := by decide +kernel
theorem d_B_mark_6 : decode b_B_mark 6 = .ok (.iload_n 2, 1) := by decide +kernel
theorem d_B_mark_7 : decode b_B_mark 7 = .ok (.iconst 0, 1) := by decide +kernel
theorem d_B_mark_8 : decode b_B_mark 8 = .ok (.iconst 3, 1) := by decide +kernel
theorem d_B_mark_9 : decode b_B_mark 9 = .ok (.invokestatic 42, 3) := by decide +kernel
theorem d_B_mark_12 : decode b_B_mark 12 = .ok (.iload 4, 2) := by decide +kernel
theorem d_B_mark_14 : decode b_B_mark 14 = .ok (.iconst 0, 1) := by decide +kernel
theorem d_B_mark_15 : decode b_B_mark 15 = .ok (.iconst 3, 1) := by decide +kernel
theorem d_B_mark_16 : decode b_B_mark 16 = .ok (.invokestatic 42, 3) := by decide +kernel
theorem d_B_mark_19 : decode b_B_mark 19 = .ok (.iload 5, 2) := by decide +kernel
theorem d_B_mark_21 : decode b_B_mark 21 = .ok (.iconst 0, 1) := by decide +kernel
theorem d_B_mark_22 : decode b_B_mark 22 = .ok (.sipush 600, 3) := by decide +kernel
theorem d_B_mark_25 : decode b_B_mark 25 = .ok (.invokestatic 42, 3) := by decide +kernel
theorem d_B_mark_28 : decode b_B_mark 28 = .ok (.aload_n 0, 1) := by decide +kernel
theorem d_B_mark_29 : decode b_B_mark 29 = .ok (.iload_n 1, 1) := by decide +kernel
theorem d_B_mark_30 : decode b_B_mark 30 = .ok (.iload_n 2, 1) := by decide +kernel
theorem d_B_mark_31 : decode b_B_mark 31 = .ok (.iload_n 3, 1) := by decide +kernel
theorem d_B_mark_32 : decode b_B_mark 32 = .ok (.invokevirtual 196, 3) := by decide +kernel
theorem d_B_mark_35 : decode b_B_mark 35 = .ok (.astore 6, 2) := by decide +kernel
theorem d_B_mark_37 : decode b_B_mark 37 = .ok (.aload 6, 2) := by decide +kernel
theorem d_B_mark_39 : decode b_B_mark 39 = .ok (.getfield 203, 3) := by decide +kernel
theorem d_B_mark_42 : decode b_B_mark 42 = .ok (.iload_n 2, 1) := by decide +kernel
theorem d_B_mark_43 : decode b_B_mark 43 = .ok (.iaload, 1) := by decide +kernel
theorem d_B_mark_44 : decode b_B_mark 44 = .ok (.iload 4, 2) := by decide +kernel
theorem d_B_mark_46 : decode b_B_mark 46 = .ok (.invokestatic 207, 3) := by decide +kernel
theorem d_B_mark_49 : decode b_B_mark 49 = .ok (.ifCond .ne 13, 3) := by decide +kernel
theorem d_B_mark_52 : decode b_B_mark 52 = .ok (.new 108, 3) := by decide +kernel
theorem d_B_mark_55 : decode b_B_mark 55 = .ok (.dup, 1) := by decide +kernel
theorem d_B_mark_56 : decode b_B_mark 56 = .ok (.ldc 211, 2) := by decide +kernel
theorem d_B_mark_58 : decode b_B_mark 58 = .ok (.invokespecial 112, 3) := by decide +kernel
theorem d_B_mark_61 : decode b_B_mark 61 = .ok (.athrow, 1) := by decide +kernel
theorem d_B_mark_62 : decode b_B_mark 62 = .ok (.aload 6, 2) := by decide +kernel
theorem d_B_mark_64 : decode b_B_mark 64 = .ok (.getfield 213, 3) := by decide +kernel
theorem d_B_mark_67 : decode b_B_mark 67 = .ok (.iload 4, 2) := by decide +kernel
theorem d_B_mark_69 : decode b_B_mark 69 = .ok (.iaload, 1) := by decide +kernel
theorem d_B_mark_70 : decode b_B_mark 70 = .ok (.istore 7, 2) := by decide +kernel
theorem d_B_mark_72 : decode b_B_mark 72 = .ok (.aload 6, 2) := by decide +kernel
theorem d_B_mark_74 : decode b_B_mark 74 = .ok (.getfield 213, 3) := by decide +kernel
theorem d_B_mark_77 : decode b_B_mark 77 = .ok (.iload 4, 2) := by decide +kernel
theorem d_B_mark_79 : decode b_B_mark 79 = .ok (.iload 5, 2) := by decide +kernel
theorem d_B_mark_81 : decode b_B_mark 81 = .ok (.iastore, 1) := by decide +kernel
theorem d_B_mark_82 : decode b_B_mark 82 = .ok (.iload 7, 2) := by decide +kernel
theorem d_B_mark_84 : decode b_B_mark 84 = .ok (.ireturn, 1) := by decide +kernel
theorem d_B_tick_0 : decode b_B_tick 0 = .ok (.iload_n 1, 1) := by decide +kernel
theorem d_B_tick_1 : decode b_B_tick 1 = .ok (.iconst 0, 1) := by decide +kernel
theorem d_B_tick_2 : decode b_B_tick 2 = .ok (.bipush 30, 2) := by decide +kernel
theorem d_B_tick_4 : decode b_B_tick 4 = .ok (.invokestatic 42, 3) := by decide +kernel
theorem d_B_tick_7 : decode b_B_tick 7 = .ok (.aload_n 0, 1) := by decide +kernel
theorem d_B_tick_8 : decode b_B_tick 8 = .ok (.dup, 1) := by decide +kernel
theorem d_B_tick_9 : decode b_B_tick 9 = .ok (.getfield 31, 3) := by decide +kernel
theorem d_B_tick_12 : decode b_B_tick 12 = .ok (.iload_n 1, 1) := by decide +kernel
theorem d_B_tick_13 : decode b_B_tick 13 = .ok (.iadd, 1) := by decide +kernel
theorem d_B_tick_14 : decode b_B_tick 14 = .ok (.putfield 31, 3) := by decide +kernel
theorem d_B_tick_17 : decode b_B_tick 17 = .ok (.iconst 0, 1) := by decide +kernel
theorem d_B_tick_18 : decode b_B_tick 18 = .ok (.istore_n 2, 1) := by decide +kernel
theorem d_B_tick_19 : decode b_B_tick 19 = .ok (.iconst 0, 1) := by decide +kernel
theorem d_B_tick_20 : decode b_B_tick 20 = .ok (.istore_n 3, 1) := by decide +kernel
theorem d_B_tick_21 : decode b_B_tick 21 = .ok (.iload_n 3, 1) := by decide +kernel
theorem d_B_tick_22 : decode b_B_tick 22 = .ok (.iconst 4, 1) := by decide +kernel
theorem d_B_tick_23 : decode b_B_tick 23 = .ok (.if_icmp .ge 48, 3) := by decide +kernel
theorem d_B_tick_26 : decode b_B_tick 26 = .ok (.aload_n 0, 1) := by decide +kernel
theorem d_B_tick_27 : decode b_B_tick 27 = .ok (.getfield 17, 3) := by decide +kernel
theorem d_B_tick_30 : decode b_B_tick 30 = .ok (.iload_n 3, 1) := by decide +kernel
theorem d_B_tick_31 : decode b_B_tick 31 = .ok (.aaload, 1) := by decide +kernel
theorem d_B_tick_32 : decode b_B_tick 32 = .ok (.astore 4, 2) := by decide +kernel
theorem d_B_tick_34 : decode b_B_tick 34 = .ok (.aload 4, 2) := by decide +kernel
theorem d_B_tick_36 : decode b_B_tick 36 = .ok (.invokevirtual 57, 3) := by decide +kernel
theorem d_B_tick_39 : decode b_B_tick 39 = .ok (.ifCond .eq 26, 3) := by decide +kernel
theorem d_B_tick_42 : decode b_B_tick 42 = .ok (.aload_n 0, 1) := by decide +kernel
theorem d_B_tick_43 : decode b_B_tick 43 = .ok (.getfield 31, 3) := by decide +kernel
theorem d_B_tick_46 : decode b_B_tick 46 = .ok (.aload 4, 2) := by decide +kernel
theorem d_B_tick_48 : decode b_B_tick 48 = .ok (.getfield 216, 3) := by decide +kernel
theorem d_B_tick_51 : decode b_B_tick 51 = .ok (.isub, 1) := by decide +kernel
theorem d_B_tick_52 : decode b_B_tick 52 = .ok (.bipush 30, 2) := by decide +kernel
theorem d_B_tick_54 : decode b_B_tick 54 = .ok (.if_icmp .lt 11, 3) := by decide +kernel
theorem d_B_tick_57 : decode b_B_tick 57 = .ok (.aload 4, 2) := by decide +kernel
theorem d_B_tick_59 : decode b_B_tick 59 = .ok (.invokevirtual 60, 3) := by decide +kernel
theorem d_B_tick_62 : decode b_B_tick 62 = .ok (.iinc 2 1, 3) := by decide +kernel
theorem d_B_tick_65 : decode b_B_tick 65 = .ok (.iinc 3 1, 3) := by decide +kernel
theorem d_B_tick_68 : decode b_B_tick 68 = .ok (.goto (-47), 3) := by decide +kernel
theorem d_B_tick_71 : decode b_B_tick 71 = .ok (.iconst 0, 1) := by decide +kernel
theorem d_B_tick_72 : decode b_B_tick 72 = .ok (.istore_n 3, 1) := by decide +kernel
theorem d_B_tick_73 : decode b_B_tick 73 = .ok (.iload_n 3, 1) := by decide +kernel
theorem d_B_tick_74 : decode b_B_tick 74 = .ok (.iconst 2, 1) := by decide +kernel
theorem d_B_tick_75 : decode b_B_tick 75 = .ok (.if_icmp .ge 25, 3) := by decide +kernel
theorem d_B_tick_78 : decode b_B_tick 78 = .ok (.iload_n 2, 1) := by decide +kernel
theorem d_B_tick_79 : decode b_B_tick 79 = .ok (.aload_n 0, 1) := by decide +kernel
theorem d_B_tick_80 : decode b_B_tick 80 = .ok (.getfield 23, 3) := by decide +kernel
theorem d_B_tick_83 : decode b_B_tick 83 = .ok (.iload_n 3, 1) := by decide +kernel
theorem d_B_tick_84 : decode b_B_tick 84 = .ok (.aaload, 1) := by decide +kernel
theorem d_B_tick_85 : decode b_B_tick 85 = .ok (.aload_n 0, 1) := by decide +kernel
theorem d_B_tick_86 : decode b_B_tick 86 = .ok (.getfield 31, 3) := by decide +kernel
theorem d_B_tick_89 : decode b_B_tick 89 = .ok (.invokevirtual 219, 3) := by decide +kernel
theorem d_B_tick_92 : decode b_B_tick 92 = .ok (.iadd, 1) := by decide +kernel
theorem d_B_tick_93 : decode b_B_tick 93 = .ok (.istore_n 2, 1) := by decide +kernel
theorem d_B_tick_94 : decode b_B_tick 94 = .ok (.iinc 3 1, 3) := by decide +kernel
theorem d_B_tick_97 : decode b_B_tick 97 = .ok (.goto (-24), 3) := by decide +kernel
theorem d_B_tick_100 : decode b_B_tick 100 = .ok (.iload_n 2, 1) := by decide +kernel
theorem d_B_tick_101 : decode b_B_tick 101 = .ok (.ireturn, 1) := by decide +kernel
theorem d_B_edge_0 : decode b_B_edge 0 = .ok (.iload_n 1, 1) := by decide +kernel
theorem d_B_edge_1 : decode b_B_edge 1 = .ok (.iconst 0, 1) := by decide +kernel
theorem d_B_edge_2 : decode b_B_edge 2 = .ok (.iconst 3, 1) := by decide +kernel
theorem d_B_edge_3 : decode b_B_edge 3 = .ok (.invokestatic 42, 3) := by decide +kernel
theorem d_B_edge_6 : decode b_B_edge 6 = .ok (.iload_n 2, 1) := by decide +kernel
theorem d_B_edge_7 : decode b_B_edge 7 = .ok (.iconst 0, 1) := by decide +kernel
theorem d_B_edge_8 : decode b_B_edge 8 = .ok (.iconst 5, 1) := by decide +kernel
theorem d_B_edge_9 : decode b_B_edge 9 = .ok (.invokestatic 42, 3) := by decide +kernel
theorem d_B_edge_12 : decode b_B_edge 12 = .ok (.aload_n 0, 1) := by decide +kernel
theorem d_B_edge_13 : decode b_B_edge 13 = .ok (.getfield 11, 3) := by decide +kernel
theorem d_B_edge_16 : decode b_B_edge 16 = .ok (.iload_n 1, 1) := by decide +kernel
theorem d_B_edge_17 : decode b_B_edge 17 = .ok (.aaload, 1) := by decide +kernel
theorem d_B_edge_18 : decode b_B_edge 18 = .ok (.astore_n 3, 1) := by decide +kernel
theorem d_B_edge_19 : decode b_B_edge 19 = .ok (.iload_n 2, 1) := by decide +kernel
theorem d_B_edge_20 : decode b_B_edge 20 = .ok (.tableswitch 52 0 3 #[32, 37, 42, 47], 32) := by decide +kernel
theorem d_B_edge_52 : decode b_B_edge 52 = .ok (.aload_n 3, 1) := by decide +kernel
theorem d_B_edge_53 : decode b_B_edge 53 = .ok (.getfield 150, 3) := by decide +kernel
theorem d_B_edge_56 : decode b_B_edge 56 = .ok (.ireturn, 1) := by decide +kernel
theorem d_B_edge_57 : decode b_B_edge 57 = .ok (.aload_n 3, 1) := by decide +kernel
theorem d_B_edge_58 : decode b_B_edge 58 = .ok (.invokevirtual 170, 3) := by decide +kernel
theorem d_B_edge_61 : decode b_B_edge 61 = .ok (.ireturn, 1) := by decide +kernel
theorem d_B_edge_62 : decode b_B_edge 62 = .ok (.aload_n 3, 1) := by decide +kernel
theorem d_B_edge_63 : decode b_B_edge 63 = .ok (.getfield 222, 3) := by decide +kernel
theorem d_B_edge_66 : decode b_B_edge 66 = .ok (.ireturn, 1) := by decide +kernel
theorem d_B_edge_67 : decode b_B_edge 67 = .ok (.aload_n 3, 1) := by decide +kernel
theorem d_B_edge_68 : decode b_B_edge 68 = .ok (.invokevirtual 225, 3) := by decide +kernel
theorem d_B_edge_71 : decode b_B_edge 71 = .ok (.ireturn, 1) := by decide +kernel
theorem d_B_edge_72 : decode b_B_edge 72 = .ok (.aload_n 0, 1) := by decide +kernel
theorem d_B_edge_73 : decode b_B_edge 73 = .ok (.getfield 23, 3) := by decide +kernel
theorem d_B_edge_76 : decode b_B_edge 76 = .ok (.iload_n 2, 1) := by decide +kernel
theorem d_B_edge_77 : decode b_B_edge 77 = .ok (.iconst 4, 1) := by decide +kernel
theorem d_B_edge_78 : decode b_B_edge 78 = .ok (.isub, 1) := by decide +kernel
theorem d_B_edge_79 : decode b_B_edge 79 = .ok (.aaload, 1) := by decide +kernel
theorem d_B_edge_80 : decode b_B_edge 80 = .ok (.getfield 213, 3) := by decide +kernel
theorem d_B_edge_83 : decode b_B_edge 83 = .ok (.iload_n 1, 1) := by decide +kernel
theorem d_B_edge_84 : decode b_B_edge 84 = .ok (.iaload, 1) := by decide +kernel
theorem d_B_edge_85 : decode b_B_edge 85 = .ok (.ireturn, 1) := by decide +kernel
theorem d_B_fact_0 : decode b_B_fact 0 = .ok (.iload_n 1, 1) := by decide +kernel
theorem d_B_fact_1 : decode b_B_fact 1 = .ok (.iconst 0, 1) := by decide +kernel
theorem d_B_fact_2 : decode b_B_fact 2 = .ok (.iconst 3, 1) := by decide +kernel
theorem d_B_fact_3 : decode b_B_fact 3 = .ok (.invokestatic 42, 3) := by decide +kernel
theorem d_B_fact_6 : decode b_B_fact 6 = .ok (.iload_n 2, 1) := by decide +kernel
theorem d_B_fact_7 : decode b_B_fact 7 = .ok (.iconst 0, 1) := by decide +kernel
theorem d_B_fact_8 : decode b_B_fact 8 = .ok (.bipush 7, 2) := by decide +kernel
theorem d_B_fact_10 : decode b_B_fact 10 = .ok (.invokestatic 42, 3) := by decide +kernel
theorem d_B_fact_13 : decode b_B_fact 13 = .ok (.aload_n 0, 1) := by decide +kernel
theorem d_B_fact_14 : decode b_B_fact 14 = .ok (.getfield 17, 3) := by decide +kernel
theorem d_B_fact_17 : decode b_B_fact 17 = .ok (.iload_n 1, 1) := by decide +kernel
theorem d_B_fact_18 : decode b_B_fact 18 = .ok (.aaload, 1) := by decide +kernel
theorem d_B_fact_19 : decode b_B_fact 19 = .ok (.astore_n 3, 1) := by decide +kernel
theorem d_B_fact_20 : decode b_B_fact 20 = .ok (.aload_n 3, 1) := by decide +kernel
theorem d_B_fact_21 : decode b_B_fact 21 = .ok (.invokevirtual 228, 3) := by decide +kernel
theorem d_B_fact_24 : decode b_B_fact 24 = .ok (.ifCond .ne 5, 3) := by decide +kernel
theorem d_B_fact_27 : decode b_B_fact 27 = .ok (.iconst (-1), 1) := by decide +kernel
theorem d_B_fact_28 : decode b_B_fact 28 = .ok (.ireturn, 1) := by decide +kernel
theorem d_B_fact_29 : decode b_B_fact 29 = .ok (.iload_n 2, 1) := by decide +kernel
theorem d_B_fact_30 : decode b_B_fact 30 = .ok (.tableswitch 50 0 3 #[30, 35, 40, 45], 30) := by decide +kernel
theorem d_B_fact_60 : decode b_B_fact 60 = .ok (.aload_n 3, 1) := by decide +kernel
theorem d_B_fact_61 : decode b_B_fact 61 = .ok (.getfield 231, 3) := by decide +kernel
theorem d_B_fact_64 : decode b_B_fact 64 = .ok (.ireturn, 1) := by decide +kernel
theorem d_B_fact_65 : decode b_B_fact 65 = .ok (.aload_n 3, 1) := by decide +kernel
theorem d_B_fact_66 : decode b_B_fact 66 = .ok (.getfield 234, 3) := by decide +kernel
theorem d_B_fact_69 : decode b_B_fact 69 = .ok (.ireturn, 1) := by decide +kernel
theorem d_B_fact_70 : decode b_B_fact 70 = .ok (.aload_n 3, 1) := by decide +kernel
theorem d_B_fact_71 : decode b_B_fact 71 = .ok (.getfield 101, 3) := by decide +kernel
theorem d_B_fact_74 : decode b_B_fact 74 = .ok (.ireturn, 1) := by decide +kernel
theorem d_B_fact_75 : decode b_B_fact 75 = .ok (.aload_n 3, 1) := by decide +kernel
theorem d_B_fact_76 : decode b_B_fact 76 = .ok (.getfield 117, 3) := by decide +kernel
theorem d_B_fact_79 : decode b_B_fact 79 = .ok (.ireturn, 1) := by decide +kernel
theorem d_B_fact_80 : decode b_B_fact 80 = .ok (.aload_n 0, 1) := by decide +kernel
theorem d_B_fact_81 : decode b_B_fact 81 = .ok (.getfield 11, 3) := by decide +kernel
theorem d_B_fact_84 : decode b_B_fact 84 = .ok (.iload_n 2, 1) := by decide +kernel
theorem d_B_fact_85 : decode b_B_fact 85 = .ok (.iconst 4, 1) := by decide +kernel
theorem d_B_fact_86 : decode b_B_fact 86 = .ok (.isub, 1) := by decide +kernel
theorem d_B_fact_87 : decode b_B_fact 87 = .ok (.aaload, 1) := by decide +kernel
theorem d_B_fact_88 : decode b_B_fact 88 = .ok (.iload_n 1, 1) := by decide +kernel
theorem d_B_fact_89 : decode b_B_fact 89 = .ok (.aload_n 3, 1) := by decide +kernel
theorem d_B_fact_90 : decode b_B_fact 90 = .ok (.getfield 234, 3) := by decide +kernel
theorem d_B_fact_93 : decode b_B_fact 93 = .ok (.invokevirtual 237, 3) := by decide +kernel
theorem d_B_fact_96 : decode b_B_fact 96 = .ok (.ireturn, 1) := by decide +kernel
