def y_M_out : MethodName := ⟨"FencedBrokerModel", "out", "(II)Z"⟩
abbrev b_M_out : ByteArray := prog_7_method_4_code
theorem cb_M_out : CB y_M_out b_M_out 3 (some .boolean) 2 := ⟨tm (i := 9) (by decide +kernel), tm (i := 901) (by decide +kernel), ⟨by decide +kernel, by decide +kernel⟩, by decide +kernel⟩
def y_M_fail : MethodName := ⟨"FencedBrokerModel", "fail", "(I)I"⟩
abbrev b_M_fail : ByteArray := prog_7_method_3_code
theorem cb_M_fail : CB y_M_fail b_M_fail 2 (some .int) 1 := ⟨tm (i := 9) (by decide +kernel), tm (i := 905) (by decide +kernel), ⟨by decide +kernel, by decide +kernel⟩, by decide +kernel⟩
theorem fl_M_71 : FL "FencedBrokerModel" 71 6 0 := ⟨_, _, _, rfl, by decide, Or.inl (tm (i := 817) (by decide +kernel))⟩
theorem flp_M_71 : FLP "FencedBrokerModel" 71 6 0 .int := ⟨fl_M_71, fun Cn T N h => by
  have e : (Cn, T, N) = ("FencedBrokerModel", q_Model, 24) := Option.some.inj (h.symm.trans (rfl : ccl[6]? = some ("FencedBrokerModel", q_Model, 24)))
  cases e
  exact ⟨rfl, by decide +kernel⟩⟩
def y_M_abort : MethodName := ⟨"FencedBrokerModel", "abort", "(I)V"⟩
abbrev b_M_abort : ByteArray := prog_7_method_12_code
theorem cb_M_abort : CB y_M_abort b_M_abort 2 none 1 := ⟨tm (i := 9) (by decide +kernel), tm (i := 909) (by decide +kernel), ⟨by decide +kernel, by decide +kernel⟩, by decide +kernel⟩
theorem fl_M_40 : FL "FencedBrokerModel" 40 6 11 := ⟨_, _, _, rfl, by decide, Or.inl (tm (i := 828) (by decide +kernel))⟩
theorem fl_M_37 : FL "FencedBrokerModel" 37 6 10 := ⟨_, _, _, rfl, by decide, Or.inl (tm (i := 827) (by decide +kernel))⟩
def y_M_check : MethodName := ⟨"FencedBrokerModel", "check", "(III)I"⟩
abbrev b_M_check : ByteArray := prog_7_method_14_code
theorem cb_M_check : CB y_M_check b_M_check 4 (some .int) 3 := ⟨tm (i := 9) (by decide +kernel), tm (i := 917) (by decide +kernel), ⟨by decide +kernel, by decide +kernel⟩, by decide +kernel⟩
def y_M_ofProducer : MethodName := ⟨"FencedBrokerModel", "ofProducer", "(II)Z"⟩
abbrev b_M_ofProducer : ByteArray := prog_7_method_7_code
theorem cb_M_ofProducer : CB y_M_ofProducer b_M_ofProducer 3 (some .boolean) 2 := ⟨tm (i := 9) (by decide +kernel), tm (i := 929) (by decide +kernel), ⟨by decide +kernel, by decide +kernel⟩, by decide +kernel⟩
theorem fl_M_7 : FL "FencedBrokerModel" 7 6 1 := ⟨_, _, _, rfl, by decide, Or.inl (tm (i := 818) (by decide +kernel))⟩
theorem fl_M_16 : FL "FencedBrokerModel" 16 6 3 := ⟨_, _, _, rfl, by decide, Or.inl (tm (i := 820) (by decide +kernel))⟩
theorem fl_M_19 : FL "FencedBrokerModel" 19 6 4 := ⟨_, _, _, rfl, by decide, Or.inl (tm (i := 821) (by decide +kernel))⟩
def y_M_next : MethodName := ⟨"FencedBrokerModel", "next", "(II)I"⟩
abbrev b_M_next : ByteArray := prog_7_method_8_code
theorem cb_M_next : CB y_M_next b_M_next 5 (some .int) 2 := ⟨tm (i := 9) (by decide +kernel), tm (i := 933) (by decide +kernel), ⟨by decide +kernel, by decide +kernel⟩, by decide +kernel⟩
theorem fl_M_28 : FL "FencedBrokerModel" 28 6 7 := ⟨_, _, _, rfl, by decide, Or.inl (tm (i := 824) (by decide +kernel))⟩
theorem cv_M_75 : CV "FencedBrokerModel" 75 y_M_ofProducer b_M_ofProducer 3 (some .boolean) 2 := ⟨cb_M_ofProducer, tm (i := 926) (by decide +kernel), tm (i := 928) (by decide +kernel), List.mem_append_left _ (List.mem_of_getElem? (i := 25) (by decide +kernel))⟩
theorem fl_M_22 : FL "FencedBrokerModel" 22 6 5 := ⟨_, _, _, rfl, by decide, Or.inl (tm (i := 822) (by decide +kernel))⟩
def y_M_full : MethodName := ⟨"FencedBrokerModel", "full", "(I)Z"⟩
abbrev b_M_full : ByteArray := prog_7_method_6_code
theorem cb_M_full : CB y_M_full b_M_full 2 (some .boolean) 1 := ⟨tm (i := 9) (by decide +kernel), tm (i := 937) (by decide +kernel), ⟨by decide +kernel, by decide +kernel⟩, by decide +kernel⟩
theorem fl_M_31 : FL "FencedBrokerModel" 31 6 8 := ⟨_, _, _, rfl, by decide, Or.inl (tm (i := 825) (by decide +kernel))⟩
def y_M_put : MethodName := ⟨"FencedBrokerModel", "put", "(IIIII)I"⟩
abbrev b_M_put : ByteArray := prog_7_method_5_code
theorem cb_M_put : CB y_M_put b_M_put 7 (some .int) 5 := ⟨tm (i := 9) (by decide +kernel), tm (i := 941) (by decide +kernel), ⟨by decide +kernel, by decide +kernel⟩, by decide +kernel⟩
theorem fl_M_13 : FL "FencedBrokerModel" 13 6 2 := ⟨_, _, _, rfl, by decide, Or.inl (tm (i := 819) (by decide +kernel))⟩
theorem fl_M_25 : FL "FencedBrokerModel" 25 6 6 := ⟨_, _, _, rfl, by decide, Or.inl (tm (i := 823) (by decide +kernel))⟩
theorem fl_M_43 : FL "FencedBrokerModel" 43 6 12 := ⟨_, _, _, rfl, by decide, Or.inl (tm (i := 829) (by decide +kernel))⟩
theorem d_M_out_0 : decode b_M_out 0 = .ok (.iload_n 1, 1) := by decide +kernel
theorem d_M_out_1 : decode b_M_out 1 = .ok (.ifCond .lt 8, 3) := by decide +kernel
theorem d_M_out_4 : decode b_M_out 4 = .ok (.iload_n 1, 1) := by decide +kernel
theorem d_M_out_5 : decode b_M_out 5 = .ok (.iload_n 2, 1) := by decide +kernel
theorem d_M_out_6 : decode b_M_out 6 = .ok (.if_icmp .lt 7, 3) := by decide +kernel
theorem d_M_out_9 : decode b_M_out 9 = .ok (.iconst 1, 1) := by decide +kernel
theorem d_M_out_10 : decode b_M_out 10 = .ok (.goto 4, 3) := by decide +kernel
theorem d_M_out_13 : decode b_M_out 13 = .ok (.iconst 0, 1) := by decide +kernel
theorem d_M_out_14 : decode b_M_out 14 = .ok (.ireturn, 1) := by decide +kernel
theorem d_M_fail_0 : decode b_M_fail 0 = .ok (.aload_n 0, 1) := by decide +kernel
theorem d_M_fail_1 : decode b_M_fail 1 = .ok (.iload_n 1, 1) := by decide +kernel
theorem d_M_fail_2 : decode b_M_fail 2 = .ok (.putfield 71, 3) := by decide +kernel
theorem d_M_fail_5 : decode b_M_fail 5 = .ok (.iconst 0, 1) := by decide +kernel
theorem d_M_fail_6 : decode b_M_fail 6 = .ok (.ireturn, 1) := by decide +kernel
theorem d_M_abort_0 : decode b_M_abort 0 = .ok (.aload_n 0, 1) := by decide +kernel
theorem d_M_abort_1 : decode b_M_abort 1 = .ok (.getfield 40, 3) := by decide +kernel
theorem d_M_abort_4 : decode b_M_abort 4 = .ok (.iload_n 1, 1) := by decide +kernel
theorem d_M_abort_5 : decode b_M_abort 5 = .ok (.dup2, 1) := by decide +kernel
theorem d_M_abort_6 : decode b_M_abort 6 = .ok (.iaload, 1) := by decide +kernel
theorem d_M_abort_7 : decode b_M_abort 7 = .ok (.iconst 1, 1) := by decide +kernel
theorem d_M_abort_8 : decode b_M_abort 8 = .ok (.iadd, 1) := by decide +kernel
theorem d_M_abort_9 : decode b_M_abort 9 = .ok (.iastore, 1) := by decide +kernel
theorem d_M_abort_10 : decode b_M_abort 10 = .ok (.aload_n 0, 1) := by decide +kernel
theorem d_M_abort_11 : decode b_M_abort 11 = .ok (.getfield 37, 3) := by decide +kernel
theorem d_M_abort_14 : decode b_M_abort 14 = .ok (.iload_n 1, 1) := by decide +kernel
theorem d_M_abort_15 : decode b_M_abort 15 = .ok (.iconst 3, 1) := by decide +kernel
theorem d_M_abort_16 : decode b_M_abort 16 = .ok (.iastore, 1) := by decide +kernel
theorem d_M_abort_17 : decode b_M_abort 17 = .ok (.return_, 1) := by decide +kernel
theorem d_M_check_0 : decode b_M_check 0 = .ok (.aload_n 0, 1) := by decide +kernel
theorem d_M_check_1 : decode b_M_check 1 = .ok (.getfield 37, 3) := by decide +kernel
theorem d_M_check_4 : decode b_M_check 4 = .ok (.iload_n 1, 1) := by decide +kernel
theorem d_M_check_5 : decode b_M_check 5 = .ok (.iaload, 1) := by decide +kernel
theorem d_M_check_6 : decode b_M_check 6 = .ok (.ifCond .ge 5, 3) := by decide +kernel
theorem d_M_check_9 : decode b_M_check 9 = .ok (.iconst 2, 1) := by decide +kernel
theorem d_M_check_10 : decode b_M_check 10 = .ok (.ireturn, 1) := by decide +kernel
theorem d_M_check_11 : decode b_M_check 11 = .ok (.iload_n 2, 1) := by decide +kernel
theorem d_M_check_12 : decode b_M_check 12 = .ok (.aload_n 0, 1) := by decide +kernel
theorem d_M_check_13 : decode b_M_check 13 = .ok (.getfield 40, 3) := by decide +kernel
theorem d_M_check_16 : decode b_M_check 16 = .ok (.iload_n 1, 1) := by decide +kernel
theorem d_M_check_17 : decode b_M_check 17 = .ok (.iaload, 1) := by decide +kernel
theorem d_M_check_18 : decode b_M_check 18 = .ok (.if_icmp .ne 13, 3) := by decide +kernel
theorem d_M_check_21 : decode b_M_check 21 = .ok (.aload_n 0, 1) := by decide +kernel
theorem d_M_check_22 : decode b_M_check 22 = .ok (.getfield 37, 3) := by decide +kernel
theorem d_M_check_25 : decode b_M_check 25 = .ok (.iload_n 1, 1) := by decide +kernel
theorem d_M_check_26 : decode b_M_check 26 = .ok (.iaload, 1) := by decide +kernel
theorem d_M_check_27 : decode b_M_check 27 = .ok (.iload_n 3, 1) := by decide +kernel
theorem d_M_check_28 : decode b_M_check 28 = .ok (.if_icmp .eq 7, 3) := by decide +kernel
theorem d_M_check_31 : decode b_M_check 31 = .ok (.iconst 3, 1) := by decide +kernel
theorem d_M_check_32 : decode b_M_check 32 = .ok (.goto 4, 3) := by decide +kernel
theorem d_M_check_35 : decode b_M_check 35 = .ok (.iconst 0, 1) := by decide +kernel
theorem d_M_check_36 : decode b_M_check 36 = .ok (.ireturn, 1) := by decide +kernel
theorem d_M_ofProducer_0 : decode b_M_ofProducer 0 = .ok (.aload_n 0, 1) := by decide +kernel
theorem d_M_ofProducer_1 : decode b_M_ofProducer 1 = .ok (.getfield 7, 3) := by decide +kernel
theorem d_M_ofProducer_4 : decode b_M_ofProducer 4 = .ok (.iload_n 1, 1) := by decide +kernel
theorem d_M_ofProducer_5 : decode b_M_ofProducer 5 = .ok (.iaload, 1) := by decide +kernel
theorem d_M_ofProducer_6 : decode b_M_ofProducer 6 = .ok (.iconst 1, 1) := by decide +kernel
theorem d_M_ofProducer_7 : decode b_M_ofProducer 7 = .ok (.if_icmp .ne 32, 3) := by decide +kernel
theorem d_M_ofProducer_10 : decode b_M_ofProducer 10 = .ok (.aload_n 0, 1) := by decide +kernel
theorem d_M_ofProducer_11 : decode b_M_ofProducer 11 = .ok (.getfield 16, 3) := by decide +kernel
theorem d_M_ofProducer_14 : decode b_M_ofProducer 14 = .ok (.iload_n 1, 1) := by decide +kernel
theorem d_M_ofProducer_15 : decode b_M_ofProducer 15 = .ok (.iaload, 1) := by decide +kernel
theorem d_M_ofProducer_16 : decode b_M_ofProducer 16 = .ok (.iload_n 2, 1) := by decide +kernel
theorem d_M_ofProducer_17 : decode b_M_ofProducer 17 = .ok (.if_icmp .ne 22, 3) := by decide +kernel
theorem d_M_ofProducer_20 : decode b_M_ofProducer 20 = .ok (.aload_n 0, 1) := by decide +kernel
theorem d_M_ofProducer_21 : decode b_M_ofProducer 21 = .ok (.getfield 19, 3) := by decide +kernel
theorem d_M_ofProducer_24 : decode b_M_ofProducer 24 = .ok (.iload_n 1, 1) := by decide +kernel
theorem d_M_ofProducer_25 : decode b_M_ofProducer 25 = .ok (.iaload, 1) := by decide +kernel
theorem d_M_ofProducer_26 : decode b_M_ofProducer 26 = .ok (.aload_n 0, 1) := by decide +kernel
theorem d_M_ofProducer_27 : decode b_M_ofProducer 27 = .ok (.getfield 40, 3) := by decide +kernel
theorem d_M_ofProducer_30 : decode b_M_ofProducer 30 = .ok (.iload_n 2, 1) := by decide +kernel
theorem d_M_ofProducer_31 : decode b_M_ofProducer 31 = .ok (.iaload, 1) := by decide +kernel
theorem d_M_ofProducer_32 : decode b_M_ofProducer 32 = .ok (.if_icmp .ne 7, 3) := by decide +kernel
theorem d_M_ofProducer_35 : decode b_M_ofProducer 35 = .ok (.iconst 1, 1) := by decide +kernel
theorem d_M_ofProducer_36 : decode b_M_ofProducer 36 = .ok (.goto 4, 3) := by decide +kernel
theorem d_M_ofProducer_39 : decode b_M_ofProducer 39 = .ok (.iconst 0, 1) := by decide +kernel
theorem d_M_ofProducer_40 : decode b_M_ofProducer 40 = .ok (.ireturn, 1) := by decide +kernel
theorem d_M_next_0 : decode b_M_next 0 = .ok (.iconst 0, 1) := by decide +kernel
theorem d_M_next_1 : decode b_M_next 1 = .ok (.istore_n 3, 1) := by decide +kernel
theorem d_M_next_2 : decode b_M_next 2 = .ok (.sipush 520, 3) := by decide +kernel
theorem d_M_next_5 : decode b_M_next 5 = .ok (.iload_n 2, 1) := by decide +kernel
theorem d_M_next_6 : decode b_M_next 6 = .ok (.imul, 1) := by decide +kernel
theorem d_M_next_7 : decode b_M_next 7 = .ok (.istore 4, 2) := by decide +kernel
theorem d_M_next_9 : decode b_M_next 9 = .ok (.iload 4, 2) := by decide +kernel
theorem d_M_next_11 : decode b_M_next 11 = .ok (.sipush 520, 3) := by decide +kernel
theorem d_M_next_14 : decode b_M_next 14 = .ok (.iload_n 2, 1) := by decide +kernel
theorem d_M_next_15 : decode b_M_next 15 = .ok (.imul, 1) := by decide +kernel
theorem d_M_next_16 : decode b_M_next 16 = .ok (.aload_n 0, 1) := by decide +kernel
theorem d_M_next_17 : decode b_M_next 17 = .ok (.getfield 28, 3) := by decide +kernel
theorem d_M_next_20 : decode b_M_next 20 = .ok (.iload_n 2, 1) := by decide +kernel
theorem d_M_next_21 : decode b_M_next 21 = .ok (.iaload, 1) := by decide +kernel
theorem d_M_next_22 : decode b_M_next 22 = .ok (.iadd, 1) := by decide +kernel
theorem d_M_next_23 : decode b_M_next 23 = .ok (.if_icmp .ge 40, 3) := by decide +kernel
theorem d_M_next_26 : decode b_M_next 26 = .ok (.aload_n 0, 1) := by decide +kernel
theorem d_M_next_27 : decode b_M_next 27 = .ok (.iload 4, 2) := by decide +kernel
theorem d_M_next_29 : decode b_M_next 29 = .ok (.iload_n 1, 1) := by decide +kernel
theorem d_M_next_30 : decode b_M_next 30 = .ok (.invokevirtual 75, 3) := by decide +kernel
theorem d_M_next_33 : decode b_M_next 33 = .ok (.ifCond .eq 24, 3) := by decide +kernel
theorem d_M_next_36 : decode b_M_next 36 = .ok (.aload_n 0, 1) := by decide +kernel
theorem d_M_next_37 : decode b_M_next 37 = .ok (.getfield 22, 3) := by decide +kernel
theorem d_M_next_40 : decode b_M_next 40 = .ok (.iload 4, 2) := by decide +kernel
theorem d_M_next_42 : decode b_M_next 42 = .ok (.iaload, 1) := by decide +kernel
theorem d_M_next_43 : decode b_M_next 43 = .ok (.iload_n 3, 1) := by decide +kernel
theorem d_M_next_44 : decode b_M_next 44 = .ok (.if_icmp .lt 13, 3) := by decide +kernel
theorem d_M_next_47 : decode b_M_next 47 = .ok (.aload_n 0, 1) := by decide +kernel
theorem d_M_next_48 : decode b_M_next 48 = .ok (.getfield 22, 3) := by decide +kernel
theorem d_M_next_51 : decode b_M_next 51 = .ok (.iload 4, 2) := by decide +kernel
theorem d_M_next_53 : decode b_M_next 53 = .ok (.iaload, 1) := by decide +kernel
theorem d_M_next_54 : decode b_M_next 54 = .ok (.iconst 1, 1) := by decide +kernel
theorem d_M_next_55 : decode b_M_next 55 = .ok (.iadd, 1) := by decide +kernel
theorem d_M_next_56 : decode b_M_next 56 = .ok (.istore_n 3, 1) := by decide +kernel
theorem d_M_next_57 : decode b_M_next 57 = .ok (.iinc 4 1, 3) := by decide +kernel
theorem d_M_next_60 : decode b_M_next 60 = .ok (.goto (-51), 3) := by decide +kernel
theorem d_M_next_63 : decode b_M_next 63 = .ok (.iload_n 3, 1) := by decide +kernel
theorem d_M_next_64 : decode b_M_next 64 = .ok (.ireturn, 1) := by decide +kernel
theorem d_M_full_0 : decode b_M_full 0 = .ok (.aload_n 0, 1) := by decide +kernel
theorem d_M_full_1 : decode b_M_full 1 = .ok (.getfield 28, 3) := by decide +kernel
theorem d_M_full_4 : decode b_M_full 4 = .ok (.iload_n 1, 1) := by decide +kernel
theorem d_M_full_5 : decode b_M_full 5 = .ok (.iaload, 1) := by decide +kernel
theorem d_M_full_6 : decode b_M_full 6 = .ok (.aload_n 0, 1) := by decide +kernel
theorem d_M_full_7 : decode b_M_full 7 = .ok (.getfield 31, 3) := by decide +kernel
theorem d_M_full_10 : decode b_M_full 10 = .ok (.iload_n 1, 1) := by decide +kernel
theorem d_M_full_11 : decode b_M_full 11 = .ok (.iaload, 1) := by decide +kernel
theorem d_M_full_12 : decode b_M_full 12 = .ok (.isub, 1) := by decide +kernel
theorem d_M_full_13 : decode b_M_full 13 = .ok (.bipush 32, 2) := by decide +kernel
theorem d_M_full_15 : decode b_M_full 15 = .ok (.if_icmp .ge 15, 3) := by decide +kernel
theorem d_M_full_18 : decode b_M_full 18 = .ok (.aload_n 0, 1) := by decide +kernel
theorem d_M_full_19 : decode b_M_full 19 = .ok (.getfield 28, 3) := by decide +kernel
theorem d_M_full_22 : decode b_M_full 22 = .ok (.iload_n 1, 1) := by decide +kernel
theorem d_M_full_23 : decode b_M_full 23 = .ok (.iaload, 1) := by decide +kernel
theorem d_M_full_24 : decode b_M_full 24 = .ok (.sipush 400, 3) := by decide +kernel
theorem d_M_full_27 : decode b_M_full 27 = .ok (.if_icmp .lt 7, 3) := by decide +kernel
theorem d_M_full_30 : decode b_M_full 30 = .ok (.iconst 1, 1) := by decide +kernel
theorem d_M_full_31 : decode b_M_full 31 = .ok (.goto 4, 3) := by decide +kernel
theorem d_M_full_34 : decode b_M_full 34 = .ok (.iconst 0, 1) := by decide +kernel
theorem d_M_full_35 : decode b_M_full 35 = .ok (.ireturn, 1) := by decide +kernel
theorem d_M_put_0 : decode b_M_put 0 = .ok (.sipush 520, 3) := by decide +kernel
theorem d_M_put_3 : decode b_M_put 3 = .ok (.iload_n 1, 1) := by decide +kernel
theorem d_M_put_4 : decode b_M_put 4 = .ok (.imul, 1) := by decide +kernel
theorem d_M_put_5 : decode b_M_put 5 = .ok (.aload_n 0, 1) := by decide +kernel
theorem d_M_put_6 : decode b_M_put 6 = .ok (.getfield 28, 3) := by decide +kernel
theorem d_M_put_9 : decode b_M_put 9 = .ok (.iload_n 1, 1) := by decide +kernel
theorem d_M_put_10 : decode b_M_put 10 = .ok (.iaload, 1) := by decide +kernel
theorem d_M_put_11 : decode b_M_put 11 = .ok (.iadd, 1) := by decide +kernel
theorem d_M_put_12 : decode b_M_put 12 = .ok (.istore 6, 2) := by decide +kernel
theorem d_M_put_14 : decode b_M_put 14 = .ok (.aload_n 0, 1) := by decide +kernel
theorem d_M_put_15 : decode b_M_put 15 = .ok (.getfield 7, 3) := by decide +kernel
theorem d_M_put_18 : decode b_M_put 18 = .ok (.iload 6, 2) := by decide +kernel
theorem d_M_put_20 : decode b_M_put 20 = .ok (.iload_n 2, 1) := by decide +kernel
theorem d_M_put_21 : decode b_M_put 21 = .ok (.iastore, 1) := by decide +kernel
theorem d_M_put_22 : decode b_M_put 22 = .ok (.aload_n 0, 1) := by decide +kernel
theorem d_M_put_23 : decode b_M_put 23 = .ok (.getfield 13, 3) := by decide +kernel
theorem d_M_put_26 : decode b_M_put 26 = .ok (.iload 6, 2) := by decide +kernel
theorem d_M_put_28 : decode b_M_put 28 = .ok (.iload_n 3, 1) := by decide +kernel
theorem d_M_put_29 : decode b_M_put 29 = .ok (.iastore, 1) := by decide +kernel
theorem d_M_put_30 : decode b_M_put 30 = .ok (.aload_n 0, 1) := by decide +kernel
theorem d_M_put_31 : decode b_M_put 31 = .ok (.getfield 16, 3) := by decide +kernel
theorem d_M_put_34 : decode b_M_put 34 = .ok (.iload 6, 2) := by decide +kernel
theorem d_M_put_36 : decode b_M_put 36 = .ok (.iload 4, 2) := by decide +kernel
theorem d_M_put_38 : decode b_M_put 38 = .ok (.iastore, 1) := by decide +kernel
theorem d_M_put_39 : decode b_M_put 39 = .ok (.aload_n 0, 1) := by decide +kernel
theorem d_M_put_40 : decode b_M_put 40 = .ok (.getfield 19, 3) := by decide +kernel
theorem d_M_put_43 : decode b_M_put 43 = .ok (.iload 6, 2) := by decide +kernel
theorem d_M_put_45 : decode b_M_put 45 = .ok (.iload 4, 2) := by decide +kernel
theorem d_M_put_47 : decode b_M_put 47 = .ok (.ifCond .ge 7, 3) := by decide +kernel
theorem d_M_put_50 : decode b_M_put 50 = .ok (.iconst 0, 1) := by decide +kernel
theorem d_M_put_51 : decode b_M_put 51 = .ok (.goto 10, 3) := by decide +kernel
theorem d_M_put_54 : decode b_M_put 54 = .ok (.aload_n 0, 1) := by decide +kernel
theorem d_M_put_55 : decode b_M_put 55 = .ok (.getfield 40, 3) := by decide +kernel
theorem d_M_put_58 : decode b_M_put 58 = .ok (.iload 4, 2) := by decide +kernel
theorem d_M_put_60 : decode b_M_put 60 = .ok (.iaload, 1) := by decide +kernel
theorem d_M_put_61 : decode b_M_put 61 = .ok (.iastore, 1) := by decide +kernel
theorem d_M_put_62 : decode b_M_put 62 = .ok (.aload_n 0, 1) := by decide +kernel
theorem d_M_put_63 : decode b_M_put 63 = .ok (.getfield 22, 3) := by decide +kernel
theorem d_M_put_66 : decode b_M_put 66 = .ok (.iload 6, 2) := by decide +kernel
theorem d_M_put_68 : decode b_M_put 68 = .ok (.iload 5, 2) := by decide +kernel
theorem d_M_put_70 : decode b_M_put 70 = .ok (.iastore, 1) := by decide +kernel
theorem d_M_put_71 : decode b_M_put 71 = .ok (.aload_n 0, 1) := by decide +kernel
theorem d_M_put_72 : decode b_M_put 72 = .ok (.getfield 25, 3) := by decide +kernel
theorem d_M_put_75 : decode b_M_put 75 = .ok (.iload 6, 2) := by decide +kernel
theorem d_M_put_77 : decode b_M_put 77 = .ok (.iload 4, 2) := by decide +kernel
theorem d_M_put_79 : decode b_M_put 79 = .ok (.ifCond .ge 7, 3) := by decide +kernel
theorem d_M_put_82 : decode b_M_put 82 = .ok (.iconst 0, 1) := by decide +kernel
theorem d_M_put_83 : decode b_M_put 83 = .ok (.goto 10, 3) := by decide +kernel
theorem d_M_put_86 : decode b_M_put 86 = .ok (.aload_n 0, 1) := by decide +kernel
theorem d_M_put_87 : decode b_M_put 87 = .ok (.getfield 43, 3) := by decide +kernel
theorem d_M_put_90 : decode b_M_put 90 = .ok (.iload 4, 2) := by decide +kernel
theorem d_M_put_92 : decode b_M_put 92 = .ok (.iaload, 1) := by decide +kernel
theorem d_M_put_93 : decode b_M_put 93 = .ok (.iastore, 1) := by decide +kernel
theorem d_M_put_94 : decode b_M_put 94 = .ok (.aload_n 0, 1) := by decide +kernel
theorem d_M_put_95 : decode b_M_put 95 = .ok (.getfield 28, 3) := by decide +kernel
theorem d_M_put_98 : decode b_M_put 98 = .ok (.iload_n 1, 1) := by decide +kernel
theorem d_M_put_99 : decode b_M_put 99 = .ok (.dup2, 1) := by decide +kernel
theorem d_M_put_100 : decode b_M_put 100 = .ok (.iaload, 1) := by decide +kernel
theorem d_M_put_101 : decode b_M_put 101 = .ok (.iconst 1, 1) := by decide +kernel
theorem d_M_put_102 : decode b_M_put 102 = .ok (.iadd, 1) := by decide +kernel
theorem d_M_put_103 : decode b_M_put 103 = .ok (.iastore, 1) := by decide +kernel
theorem d_M_put_104 : decode b_M_put 104 = .ok (.aload_n 0, 1) := by decide +kernel
theorem d_M_put_105 : decode b_M_put 105 = .ok (.getfield 28, 3) := by decide +kernel
theorem d_M_put_108 : decode b_M_put 108 = .ok (.iload_n 1, 1) := by decide +kernel
theorem d_M_put_109 : decode b_M_put 109 = .ok (.iaload, 1) := by decide +kernel
theorem d_M_put_110 : decode b_M_put 110 = .ok (.iconst 1, 1) := by decide +kernel
theorem d_M_put_111 : decode b_M_put 111 = .ok (.isub, 1) := by decide +kernel
theorem d_M_put_112 : decode b_M_put 112 = .ok (.ireturn, 1) := by decide +kernel
