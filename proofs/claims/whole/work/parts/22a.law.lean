theorem tab_out19 {x : Int32} (h0 : ¬ x = 0) (h1 : ¬ x = 1) (h2 : ¬ x = 2) (h3 : ¬ x = 3) (h4 : ¬ x = 4) (h5 : ¬ x = 5) (h6 : ¬ x = 6) (h7 : ¬ x = 7) (h8 : ¬ x = 8) (h9 : ¬ x = 9) (h10 : ¬ x = 10) (h11 : ¬ x = 11) (h12 : ¬ x = 12) (h13 : ¬ x = 13) (h14 : ¬ x = 14) (h15 : ¬ x = 15) (h16 : ¬ x = 16) (h17 : ¬ x = 17) (h18 : ¬ x = 18) : x.toInt < 0 ∨ 18 < x.toInt := by
  by_cases h : x.toInt < 0
  · exact Or.inl h
  by_cases h' : 18 < x.toInt
  · exact Or.inr h'
  exfalso
  rcases (show x.toInt = 0 ∨ x.toInt = 1 ∨ x.toInt = 2 ∨ x.toInt = 3 ∨ x.toInt = 4 ∨ x.toInt = 5 ∨ x.toInt = 6 ∨ x.toInt = 7 ∨ x.toInt = 8 ∨ x.toInt = 9 ∨ x.toInt = 10 ∨ x.toInt = 11 ∨ x.toInt = 12 ∨ x.toInt = 13 ∨ x.toInt = 14 ∨ x.toInt = 15 ∨ x.toInt = 16 ∨ x.toInt = 17 ∨ x.toInt = 18 by omega) with e | e | e | e | e | e | e | e | e | e | e | e | e | e | e | e | e | e | e
  · exact h0 (i32_of_toInt e)
  · exact h1 (i32_of_toInt e)
  · exact h2 (i32_of_toInt e)
  · exact h3 (i32_of_toInt e)
  · exact h4 (i32_of_toInt e)
  · exact h5 (i32_of_toInt e)
  · exact h6 (i32_of_toInt e)
  · exact h7 (i32_of_toInt e)
  · exact h8 (i32_of_toInt e)
  · exact h9 (i32_of_toInt e)
  · exact h10 (i32_of_toInt e)
  · exact h11 (i32_of_toInt e)
  · exact h12 (i32_of_toInt e)
  · exact h13 (i32_of_toInt e)
  · exact h14 (i32_of_toInt e)
  · exact h15 (i32_of_toInt e)
  · exact h16 (i32_of_toInt e)
  · exact h17 (i32_of_toInt e)
  · exact h18 (i32_of_toInt e)
def y_W_init : MethodName := ⟨"FencedBrokerLaw", "init", "(LFencedBroker;I[J)I"⟩
abbrev b_W_init : ByteArray := method_3_code
def hh_W_init : List (Nat × Nat × Nat × Nat) := [(0, 9, 12, 13), (0, 9, 15, 15)]
-- W_init
def y_W_begin : MethodName := ⟨"FencedBrokerLaw", "begin", "(LFencedBroker;II[J)I"⟩
abbrev b_W_begin : ByteArray := method_4_code
def hh_W_begin : List (Nat × Nat × Nat × Nat) := [(0, 10, 13, 13), (0, 10, 17, 21), (0, 10, 21, 15)]
-- W_begin
def y_W_send : MethodName := ⟨"FencedBrokerLaw", "send", "(LFencedBroker;IIIII[J)I"⟩
abbrev b_W_send : ByteArray := method_5_code
def hh_W_send : List (Nat × Nat × Nat × Nat) := [(0, 16, 19, 13), (0, 16, 23, 21), (0, 16, 27, 15), (0, 16, 31, 27)]
-- W_send
def y_W_pend : MethodName := ⟨"FencedBrokerLaw", "pend", "(LFencedBroker;IIIII[J)I"⟩
abbrev b_W_pend : ByteArray := method_6_code
def hh_W_pend : List (Nat × Nat × Nat × Nat) := [(0, 16, 19, 13), (0, 16, 23, 21), (0, 16, 27, 15)]
-- W_pend
def y_W_finish : MethodName := ⟨"FencedBrokerLaw", "finish", "(LFencedBroker;IIZ[J)I"⟩
abbrev b_W_finish : ByteArray := method_7_code
def hh_W_finish : List (Nat × Nat × Nat × Nat) := [(0, 12, 15, 13), (0, 12, 19, 21), (0, 12, 23, 15), (0, 12, 27, 27)]
-- W_finish
def y_W_plain : MethodName := ⟨"FencedBrokerLaw", "plain", "(LFencedBroker;II[J)I"⟩
abbrev b_W_plain : ByteArray := method_8_code
def hh_W_plain : List (Nat × Nat × Nat × Nat) := [(0, 10, 13, 13), (0, 10, 17, 15)]
-- W_plain
def y_W_copy : MethodName := ⟨"FencedBrokerLaw", "copy", "(LFencedBroker;II[J)I"⟩
abbrev b_W_copy : ByteArray := method_9_code
def hh_W_copy : List (Nat × Nat × Nat × Nat) := [(0, 10, 13, 13)]
-- W_copy
def y_W_lose : MethodName := ⟨"FencedBrokerLaw", "lose", "(LFencedBroker;I[J)I"⟩
abbrev b_W_lose : ByteArray := method_10_code
def hh_W_lose : List (Nat × Nat × Nat × Nat) := [(0, 9, 12, 13)]
-- W_lose
def y_W_fetch : MethodName := ⟨"FencedBrokerLaw", "fetch", "(LFencedBroker;IIZ[J)I"⟩
abbrev b_W_fetch : ByteArray := method_11_code
def hh_W_fetch : List (Nat × Nat × Nat × Nat) := [(0, 12, 15, 13), (0, 12, 19, 48), (0, 12, 23, 21)]
-- W_fetch
def y_W_trim : MethodName := ⟨"FencedBrokerLaw", "trim", "(LFencedBroker;II[J)I"⟩
abbrev b_W_trim : ByteArray := method_12_code
def hh_W_trim : List (Nat × Nat × Nat × Nat) := [(0, 10, 13, 13), (0, 10, 17, 48)]
-- W_trim
def y_W_join : MethodName := ⟨"FencedBrokerLaw", "join", "(LFencedBroker;II[J)I"⟩
abbrev b_W_join : ByteArray := method_13_code
def hh_W_join : List (Nat × Nat × Nat × Nat) := [(0, 10, 13, 13), (0, 10, 17, 15)]
-- W_join
def y_W_leave : MethodName := ⟨"FencedBrokerLaw", "leave", "(LFencedBroker;II[J)I"⟩
abbrev b_W_leave : ByteArray := method_14_code
def hh_W_leave : List (Nat × Nat × Nat × Nat) := [(0, 10, 13, 13), (0, 10, 17, 21)]
-- W_leave
def y_W_beat : MethodName := ⟨"FencedBrokerLaw", "beat", "(LFencedBroker;III[J)I"⟩
abbrev b_W_beat : ByteArray := method_15_code
def hh_W_beat : List (Nat × Nat × Nat × Nat) := [(0, 12, 15, 13), (0, 12, 19, 21), (0, 12, 23, 15)]
-- W_beat
def y_W_mark : MethodName := ⟨"FencedBrokerLaw", "mark", "(LFencedBroker;IIIII[J)I"⟩
abbrev b_W_mark : ByteArray := method_16_code
def hh_W_mark : List (Nat × Nat × Nat × Nat) := [(0, 16, 19, 13), (0, 16, 23, 21), (0, 16, 27, 15), (0, 16, 31, 27)]
-- W_mark
def y_W_tick : MethodName := ⟨"FencedBrokerLaw", "tick", "(LFencedBroker;I[J)I"⟩
abbrev b_W_tick : ByteArray := method_17_code
def hh_W_tick : List (Nat × Nat × Nat × Nat) := [(0, 9, 12, 13)]
-- W_tick
def y_W_edge : MethodName := ⟨"FencedBrokerLaw", "edge", "(LFencedBroker;II[J)I"⟩
abbrev b_W_edge : ByteArray := method_18_code
def hh_W_edge : List (Nat × Nat × Nat × Nat) := [(0, 10, 13, 13)]
-- W_edge
def y_W_fact : MethodName := ⟨"FencedBrokerLaw", "fact", "(LFencedBroker;II[J)I"⟩
abbrev b_W_fact : ByteArray := method_19_code
def hh_W_fact : List (Nat × Nat × Nat × Nat) := [(0, 10, 13, 13)]
-- W_fact
theorem cv_W_7 : CV "FencedBrokerLaw" 7 y_B_init b_B_init 3 (some .int) 1 := ⟨cb_B_init, tm (i := 335) (by decide +kernel), tm (i := 336) (by decide +kernel), tm (i := 337) (by decide +kernel)⟩
theorem cv_W_17 : CV "FencedBrokerLaw" 17 y_B_begin b_B_begin 4 (some .int) 2 := ⟨cb_B_begin, tm (i := 445) (by decide +kernel), tm (i := 446) (by decide +kernel), tm (i := 447) (by decide +kernel)⟩
theorem cv_W_23 : CV "FencedBrokerLaw" 23 y_B_send b_B_send 9 (some .int) 5 := ⟨cb_B_send, tm (i := 488) (by decide +kernel), tm (i := 489) (by decide +kernel), tm (i := 490) (by decide +kernel)⟩
theorem cv_W_29 : CV "FencedBrokerLaw" 29 y_B_pend b_B_pend 6 (some .int) 5 := ⟨cb_B_pend, tm (i := 562) (by decide +kernel), tm (i := 563) (by decide +kernel), tm (i := 564) (by decide +kernel)⟩
theorem cv_W_32 : CV "FencedBrokerLaw" 32 y_B_finish b_B_finish 5 (some .int) 3 := ⟨cb_B_finish, tm (i := 573) (by decide +kernel), tm (i := 574) (by decide +kernel), tm (i := 575) (by decide +kernel)⟩
theorem cv_W_36 : CV "FencedBrokerLaw" 36 y_B_plain b_B_plain 4 (some .int) 2 := ⟨cb_B_plain, tm (i := 603) (by decide +kernel), tm (i := 604) (by decide +kernel), tm (i := 605) (by decide +kernel)⟩
theorem cv_W_39 : CV "FencedBrokerLaw" 39 y_B_copy b_B_copy 3 (some .int) 2 := ⟨cb_B_copy, tm (i := 613) (by decide +kernel), tm (i := 614) (by decide +kernel), tm (i := 615) (by decide +kernel)⟩
theorem cv_W_42 : CV "FencedBrokerLaw" 42 y_B_lose b_B_lose 2 (some .int) 1 := ⟨cb_B_lose, tm (i := 625) (by decide +kernel), tm (i := 626) (by decide +kernel), tm (i := 627) (by decide +kernel)⟩
theorem cv_W_45 : CV "FencedBrokerLaw" 45 y_B_fetch b_B_fetch 6 (some .int) 3 := ⟨cb_B_fetch, tm (i := 646) (by decide +kernel), tm (i := 647) (by decide +kernel), tm (i := 648) (by decide +kernel)⟩
theorem cv_W_50 : CV "FencedBrokerLaw" 50 y_B_trim b_B_trim 5 (some .int) 2 := ⟨cb_B_trim, tm (i := 691) (by decide +kernel), tm (i := 692) (by decide +kernel), tm (i := 693) (by decide +kernel)⟩
theorem cv_W_53 : CV "FencedBrokerLaw" 53 y_B_join b_B_join 4 (some .int) 2 := ⟨cb_B_join, tm (i := 700) (by decide +kernel), tm (i := 701) (by decide +kernel), tm (i := 702) (by decide +kernel)⟩
theorem cv_W_56 : CV "FencedBrokerLaw" 56 y_B_leave b_B_leave 4 (some .int) 2 := ⟨cb_B_leave, tm (i := 749) (by decide +kernel), tm (i := 750) (by decide +kernel), tm (i := 751) (by decide +kernel)⟩
theorem cv_W_59 : CV "FencedBrokerLaw" 59 y_B_beat b_B_beat 5 (some .int) 3 := ⟨cb_B_beat, tm (i := 765) (by decide +kernel), tm (i := 766) (by decide +kernel), tm (i := 767) (by decide +kernel)⟩
theorem cv_W_63 : CV "FencedBrokerLaw" 63 y_B_mark b_B_mark 8 (some .int) 5 := ⟨cb_B_mark, tm (i := 778) (by decide +kernel), tm (i := 779) (by decide +kernel), tm (i := 780) (by decide +kernel)⟩
theorem cv_W_66 : CV "FencedBrokerLaw" 66 y_B_tick b_B_tick 5 (some .int) 1 := ⟨cb_B_tick, tm (i := 786) (by decide +kernel), tm (i := 787) (by decide +kernel), tm (i := 788) (by decide +kernel)⟩
theorem cv_W_69 : CV "FencedBrokerLaw" 69 y_B_edge b_B_edge 4 (some .int) 2 := ⟨cb_B_edge, tm (i := 799) (by decide +kernel), tm (i := 800) (by decide +kernel), tm (i := 801) (by decide +kernel)⟩
theorem cv_W_72 : CV "FencedBrokerLaw" 72 y_B_fact b_B_fact 4 (some .int) 2 := ⟨cb_B_fact, tm (i := 807) (by decide +kernel), tm (i := 808) (by decide +kernel), tm (i := 809) (by decide +kernel)⟩
abbrev y_W_law : MethodName := x
abbrev b_W_law : ByteArray := code
-- the law itself
theorem ci_W_75 : CI "FencedBrokerLaw" 75 y_B_ctor b_B_ctor 2 0 := ⟨cb_B_ctor, tm (i := 27) (by decide +kernel), tm (i := 28) (by decide +kernel), by decide +kernel⟩
theorem ci_W_78 : CI "FencedBrokerLaw" 78 y_M_ctor b_M_ctor 2 0 := ⟨cb_M_ctor, tm (i := 813) (by decide +kernel), tm (i := 814) (by decide +kernel), by decide +kernel⟩
theorem csw_W_79 : CSW "FencedBrokerLaw" 79 y_W_init b_W_init 4 (some .int) hh_W_init 3 := ⟨tm (i := 0) (by decide +kernel), tm (i := 332) (by decide +kernel), ⟨by decide +kernel, by decide +kernel⟩, by decide +kernel, tm (i := 330) (by decide +kernel), tm (i := 331) (by decide +kernel)⟩
theorem cv_W_84 : CV "FencedBrokerLaw" 84 y_M_init b_M_init 2 (some .int) 1 := ⟨cb_M_init, tm (i := 894) (by decide +kernel), tm (i := 895) (by decide +kernel), tm (i := 896) (by decide +kernel)⟩
theorem cv_W_85 : CV "FencedBrokerLaw" 85 y_M_thrown b_M_thrown 1 (some .int) 0 := ⟨cb_M_thrown, tm (i := 890) (by decide +kernel), tm (i := 891) (by decide +kernel), tm (i := 892) (by decide +kernel)⟩
theorem csw_W_89 : CSW "FencedBrokerLaw" 89 y_W_begin b_W_begin 5 (some .int) hh_W_begin 4 := ⟨tm (i := 0) (by decide +kernel), tm (i := 443) (by decide +kernel), ⟨by decide +kernel, by decide +kernel⟩, by decide +kernel, tm (i := 441) (by decide +kernel), tm (i := 442) (by decide +kernel)⟩
theorem cv_W_92 : CV "FencedBrokerLaw" 92 y_M_begin b_M_begin 4 (some .int) 2 := ⟨cb_M_begin, tm (i := 910) (by decide +kernel), tm (i := 911) (by decide +kernel), tm (i := 912) (by decide +kernel)⟩
theorem csw_W_93 : CSW "FencedBrokerLaw" 93 y_W_send b_W_send 8 (some .int) hh_W_send 7 := ⟨tm (i := 0) (by decide +kernel), tm (i := 486) (by decide +kernel), ⟨by decide +kernel, by decide +kernel⟩, by decide +kernel, tm (i := 484) (by decide +kernel), tm (i := 485) (by decide +kernel)⟩
theorem cv_W_96 : CV "FencedBrokerLaw" 96 y_M_send b_M_send 7 (some .int) 5 := ⟨cb_M_send, tm (i := 918) (by decide +kernel), tm (i := 919) (by decide +kernel), tm (i := 920) (by decide +kernel)⟩
theorem csw_W_97 : CSW "FencedBrokerLaw" 97 y_W_pend b_W_pend 8 (some .int) hh_W_pend 7 := ⟨tm (i := 0) (by decide +kernel), tm (i := 561) (by decide +kernel), ⟨by decide +kernel, by decide +kernel⟩, by decide +kernel, tm (i := 559) (by decide +kernel), tm (i := 560) (by decide +kernel)⟩
theorem cv_W_99 : CV "FencedBrokerLaw" 99 y_M_pend b_M_pend 8 (some .int) 5 := ⟨cb_M_pend, tm (i := 942) (by decide +kernel), tm (i := 943) (by decide +kernel), tm (i := 944) (by decide +kernel)⟩
theorem csw_W_100 : CSW "FencedBrokerLaw" 100 y_W_finish b_W_finish 6 (some .int) hh_W_finish 5 := ⟨tm (i := 0) (by decide +kernel), tm (i := 572) (by decide +kernel), ⟨by decide +kernel, by decide +kernel⟩, by decide +kernel, tm (i := 570) (by decide +kernel), tm (i := 571) (by decide +kernel)⟩
theorem cv_W_103 : CV "FencedBrokerLaw" 103 y_M_finish b_M_finish 7 (some .int) 3 := ⟨cb_M_finish, tm (i := 946) (by decide +kernel), tm (i := 947) (by decide +kernel), tm (i := 948) (by decide +kernel)⟩
theorem cv_W_104 : CV "FencedBrokerLaw" 104 y_B_step b_B_step 3 (some .int) 0 := ⟨cb_B_step, tm (i := 171) (by decide +kernel), tm (i := 172) (by decide +kernel), tm (i := 173) (by decide +kernel)⟩
theorem cv_W_107 : CV "FencedBrokerLaw" 107 y_M_step b_M_step 3 (some .int) 0 := ⟨cb_M_step, tm (i := 954) (by decide +kernel), tm (i := 955) (by decide +kernel), tm (i := 956) (by decide +kernel)⟩
theorem csw_W_108 : CSW "FencedBrokerLaw" 108 y_W_plain b_W_plain 5 (some .int) hh_W_plain 4 := ⟨tm (i := 0) (by decide +kernel), tm (i := 602) (by decide +kernel), ⟨by decide +kernel, by decide +kernel⟩, by decide +kernel, tm (i := 600) (by decide +kernel), tm (i := 601) (by decide +kernel)⟩
theorem cv_W_110 : CV "FencedBrokerLaw" 110 y_M_plain b_M_plain 3 (some .int) 2 := ⟨cb_M_plain, tm (i := 966) (by decide +kernel), tm (i := 967) (by decide +kernel), tm (i := 968) (by decide +kernel)⟩
theorem csw_W_111 : CSW "FencedBrokerLaw" 111 y_W_copy b_W_copy 5 (some .int) hh_W_copy 4 := ⟨tm (i := 0) (by decide +kernel), tm (i := 612) (by decide +kernel), ⟨by decide +kernel, by decide +kernel⟩, by decide +kernel, tm (i := 610) (by decide +kernel), tm (i := 611) (by decide +kernel)⟩
theorem cv_W_113 : CV "FencedBrokerLaw" 113 y_M_copy b_M_copy 3 (some .int) 2 := ⟨cb_M_copy, tm (i := 970) (by decide +kernel), tm (i := 971) (by decide +kernel), tm (i := 972) (by decide +kernel)⟩
theorem csw_W_114 : CSW "FencedBrokerLaw" 114 y_W_lose b_W_lose 4 (some .int) hh_W_lose 3 := ⟨tm (i := 0) (by decide +kernel), tm (i := 624) (by decide +kernel), ⟨by decide +kernel, by decide +kernel⟩, by decide +kernel, tm (i := 622) (by decide +kernel), tm (i := 623) (by decide +kernel)⟩
theorem cv_W_116 : CV "FencedBrokerLaw" 116 y_M_lose b_M_lose 3 (some .int) 1 := ⟨cb_M_lose, tm (i := 974) (by decide +kernel), tm (i := 975) (by decide +kernel), tm (i := 976) (by decide +kernel)⟩
theorem csw_W_117 : CSW "FencedBrokerLaw" 117 y_W_fetch b_W_fetch 6 (some .int) hh_W_fetch 5 := ⟨tm (i := 0) (by decide +kernel), tm (i := 644) (by decide +kernel), ⟨by decide +kernel, by decide +kernel⟩, by decide +kernel, tm (i := 642) (by decide +kernel), tm (i := 643) (by decide +kernel)⟩
theorem cv_W_119 : CV "FencedBrokerLaw" 119 y_M_fetch b_M_fetch 7 (some .int) 3 := ⟨cb_M_fetch, tm (i := 978) (by decide +kernel), tm (i := 979) (by decide +kernel), tm (i := 980) (by decide +kernel)⟩
theorem cv_W_120 : CV "FencedBrokerLaw" 120 y_B_last b_B_last 1 (some .int) 0 := ⟨cb_B_last, tm (i := 326) (by decide +kernel), tm (i := 327) (by decide +kernel), tm (i := 328) (by decide +kernel)⟩
theorem cv_W_123 : CV "FencedBrokerLaw" 123 y_M_last b_M_last 1 (some .int) 0 := ⟨cb_M_last, tm (i := 986) (by decide +kernel), tm (i := 987) (by decide +kernel), tm (i := 988) (by decide +kernel)⟩
theorem csw_W_124 : CSW "FencedBrokerLaw" 124 y_W_trim b_W_trim 5 (some .int) hh_W_trim 4 := ⟨tm (i := 0) (by decide +kernel), tm (i := 690) (by decide +kernel), ⟨by decide +kernel, by decide +kernel⟩, by decide +kernel, tm (i := 688) (by decide +kernel), tm (i := 689) (by decide +kernel)⟩
theorem cv_W_126 : CV "FencedBrokerLaw" 126 y_M_trim b_M_trim 4 (some .int) 2 := ⟨cb_M_trim, tm (i := 990) (by decide +kernel), tm (i := 991) (by decide +kernel), tm (i := 992) (by decide +kernel)⟩
theorem csw_W_127 : CSW "FencedBrokerLaw" 127 y_W_join b_W_join 5 (some .int) hh_W_join 4 := ⟨tm (i := 0) (by decide +kernel), tm (i := 699) (by decide +kernel), ⟨by decide +kernel, by decide +kernel⟩, by decide +kernel, tm (i := 697) (by decide +kernel), tm (i := 698) (by decide +kernel)⟩
theorem cv_W_129 : CV "FencedBrokerLaw" 129 y_M_join b_M_join 3 (some .int) 2 := ⟨cb_M_join, tm (i := 994) (by decide +kernel), tm (i := 995) (by decide +kernel), tm (i := 996) (by decide +kernel)⟩
theorem csw_W_130 : CSW "FencedBrokerLaw" 130 y_W_leave b_W_leave 5 (some .int) hh_W_leave 4 := ⟨tm (i := 0) (by decide +kernel), tm (i := 748) (by decide +kernel), ⟨by decide +kernel, by decide +kernel⟩, by decide +kernel, tm (i := 746) (by decide +kernel), tm (i := 747) (by decide +kernel)⟩
theorem cv_W_132 : CV "FencedBrokerLaw" 132 y_M_leave b_M_leave 3 (some .int) 2 := ⟨cb_M_leave, tm (i := 1010) (by decide +kernel), tm (i := 1011) (by decide +kernel), tm (i := 1012) (by decide +kernel)⟩
theorem csw_W_133 : CSW "FencedBrokerLaw" 133 y_W_beat b_W_beat 6 (some .int) hh_W_beat 5 := ⟨tm (i := 0) (by decide +kernel), tm (i := 764) (by decide +kernel), ⟨by decide +kernel, by decide +kernel⟩, by decide +kernel, tm (i := 762) (by decide +kernel), tm (i := 763) (by decide +kernel)⟩
theorem cv_W_136 : CV "FencedBrokerLaw" 136 y_M_beat b_M_beat 6 (some .int) 3 := ⟨cb_M_beat, tm (i := 1014) (by decide +kernel), tm (i := 1015) (by decide +kernel), tm (i := 1016) (by decide +kernel)⟩
theorem csw_W_137 : CSW "FencedBrokerLaw" 137 y_W_mark b_W_mark 8 (some .int) hh_W_mark 7 := ⟨tm (i := 0) (by decide +kernel), tm (i := 777) (by decide +kernel), ⟨by decide +kernel, by decide +kernel⟩, by decide +kernel, tm (i := 775) (by decide +kernel), tm (i := 776) (by decide +kernel)⟩
theorem cv_W_139 : CV "FencedBrokerLaw" 139 y_M_mark b_M_mark 7 (some .int) 5 := ⟨cb_M_mark, tm (i := 1018) (by decide +kernel), tm (i := 1019) (by decide +kernel), tm (i := 1020) (by decide +kernel)⟩
theorem csw_W_140 : CSW "FencedBrokerLaw" 140 y_W_tick b_W_tick 4 (some .int) hh_W_tick 3 := ⟨tm (i := 0) (by decide +kernel), tm (i := 785) (by decide +kernel), ⟨by decide +kernel, by decide +kernel⟩, by decide +kernel, tm (i := 783) (by decide +kernel), tm (i := 784) (by decide +kernel)⟩
theorem cv_W_142 : CV "FencedBrokerLaw" 142 y_M_tick b_M_tick 6 (some .int) 1 := ⟨cb_M_tick, tm (i := 1022) (by decide +kernel), tm (i := 1023) (by decide +kernel), tm (i := 1024) (by decide +kernel)⟩
theorem csw_W_143 : CSW "FencedBrokerLaw" 143 y_W_edge b_W_edge 5 (some .int) hh_W_edge 4 := ⟨tm (i := 0) (by decide +kernel), tm (i := 798) (by decide +kernel), ⟨by decide +kernel, by decide +kernel⟩, by decide +kernel, tm (i := 796) (by decide +kernel), tm (i := 797) (by decide +kernel)⟩
theorem cv_W_145 : CV "FencedBrokerLaw" 145 y_M_edge b_M_edge 3 (some .int) 2 := ⟨cb_M_edge, tm (i := 1026) (by decide +kernel), tm (i := 1027) (by decide +kernel), tm (i := 1028) (by decide +kernel)⟩
theorem csw_W_146 : CSW "FencedBrokerLaw" 146 y_W_fact b_W_fact 5 (some .int) hh_W_fact 4 := ⟨tm (i := 0) (by decide +kernel), tm (i := 806) (by decide +kernel), ⟨by decide +kernel, by decide +kernel⟩, by decide +kernel, tm (i := 804) (by decide +kernel), tm (i := 805) (by decide +kernel)⟩
theorem cv_W_148 : CV "FencedBrokerLaw" 148 y_M_fact b_M_fact 3 (some .int) 2 := ⟨cb_M_fact, tm (i := 1030) (by decide +kernel), tm (i := 1031) (by decide +kernel), tm (i := 1032) (by decide +kernel)⟩
theorem d_W_init_0 : decode b_W_init 0 = .ok (.aload_n 2, 1) := by decide +kernel
theorem d_W_init_1 : decode b_W_init 1 = .ok (.iconst 0, 1) := by decide +kernel
theorem d_W_init_2 : decode b_W_init 2 = .ok (.aload_n 0, 1) := by decide +kernel
theorem d_W_init_3 : decode b_W_init 3 = .ok (.iload_n 1, 1) := by decide +kernel
theorem d_W_init_4 : decode b_W_init 4 = .ok (.invokevirtual 7, 3) := by decide +kernel
theorem d_W_init_7 : decode b_W_init 7 = .ok (.i2l, 1) := by decide +kernel
theorem d_W_init_8 : decode b_W_init 8 = .ok (.lastore, 1) := by decide +kernel
theorem d_W_init_9 : decode b_W_init 9 = .ok (.goto 9, 3) := by decide +kernel
theorem d_W_init_12 : decode b_W_init 12 = .ok (.astore_n 3, 1) := by decide +kernel
theorem d_W_init_13 : decode b_W_init 13 = .ok (.iconst 1, 1) := by decide +kernel
theorem d_W_init_14 : decode b_W_init 14 = .ok (.ireturn, 1) := by decide +kernel
theorem d_W_init_15 : decode b_W_init 15 = .ok (.astore_n 3, 1) := by decide +kernel
theorem d_W_init_16 : decode b_W_init 16 = .ok (.iconst 2, 1) := by decide +kernel
theorem d_W_init_17 : decode b_W_init 17 = .ok (.ireturn, 1) := by decide +kernel
theorem d_W_init_18 : decode b_W_init 18 = .ok (.iconst 0, 1) := by decide +kernel
theorem d_W_init_19 : decode b_W_init 19 = .ok (.ireturn, 1) := by decide +kernel
theorem d_W_begin_0 : decode b_W_begin 0 = .ok (.aload_n 3, 1) := by decide +kernel
theorem d_W_begin_1 : decode b_W_begin 1 = .ok (.iconst 0, 1) := by decide +kernel
theorem d_W_begin_2 : decode b_W_begin 2 = .ok (.aload_n 0, 1) := by decide +kernel
theorem d_W_begin_3 : decode b_W_begin 3 = .ok (.iload_n 1, 1) := by decide +kernel
theorem d_W_begin_4 : decode b_W_begin 4 = .ok (.iload_n 2, 1) := by decide +kernel
theorem d_W_begin_5 : decode b_W_begin 5 = .ok (.invokevirtual 17, 3) := by decide +kernel
theorem d_W_begin_8 : decode b_W_begin 8 = .ok (.i2l, 1) := by decide +kernel
theorem d_W_begin_9 : decode b_W_begin 9 = .ok (.lastore, 1) := by decide +kernel
theorem d_W_begin_10 : decode b_W_begin 10 = .ok (.goto 15, 3) := by decide +kernel
theorem d_W_begin_13 : decode b_W_begin 13 = .ok (.astore 4, 2) := by decide +kernel
theorem d_W_begin_15 : decode b_W_begin 15 = .ok (.iconst 1, 1) := by decide +kernel
theorem d_W_begin_16 : decode b_W_begin 16 = .ok (.ireturn, 1) := by decide +kernel
theorem d_W_begin_17 : decode b_W_begin 17 = .ok (.astore 4, 2) := by decide +kernel
theorem d_W_begin_19 : decode b_W_begin 19 = .ok (.iconst 2, 1) := by decide +kernel
theorem d_W_begin_20 : decode b_W_begin 20 = .ok (.ireturn, 1) := by decide +kernel
theorem d_W_begin_21 : decode b_W_begin 21 = .ok (.astore 4, 2) := by decide +kernel
theorem d_W_begin_23 : decode b_W_begin 23 = .ok (.iconst 3, 1) := by decide +kernel
theorem d_W_begin_24 : decode b_W_begin 24 = .ok (.ireturn, 1) := by decide +kernel
theorem d_W_begin_25 : decode b_W_begin 25 = .ok (.iconst 0, 1) := by decide +kernel
theorem d_W_begin_26 : decode b_W_begin 26 = .ok (.ireturn, 1) := by decide +kernel
theorem d_W_send_0 : decode b_W_send 0 = .ok (.aload 6, 2) := by decide +kernel
theorem d_W_send_2 : decode b_W_send 2 = .ok (.iconst 0, 1) := by decide +kernel
theorem d_W_send_3 : decode b_W_send 3 = .ok (.aload_n 0, 1) := by decide +kernel
theorem d_W_send_4 : decode b_W_send 4 = .ok (.iload_n 1, 1) := by decide +kernel
theorem d_W_send_5 : decode b_W_send 5 = .ok (.iload_n 2, 1) := by decide +kernel
theorem d_W_send_6 : decode b_W_send 6 = .ok (.iload_n 3, 1) := by decide +kernel
theorem d_W_send_7 : decode b_W_send 7 = .ok (.iload 4, 2) := by decide +kernel
theorem d_W_send_9 : decode b_W_send 9 = .ok (.iload 5, 2) := by decide +kernel
theorem d_W_send_11 : decode b_W_send 11 = .ok (.invokevirtual 23, 3) := by decide +kernel
theorem d_W_send_14 : decode b_W_send 14 = .ok (.i2l, 1) := by decide +kernel
theorem d_W_send_15 : decode b_W_send 15 = .ok (.lastore, 1) := by decide +kernel
theorem d_W_send_16 : decode b_W_send 16 = .ok (.goto 19, 3) := by decide +kernel
theorem d_W_send_19 : decode b_W_send 19 = .ok (.astore 7, 2) := by decide +kernel
theorem d_W_send_21 : decode b_W_send 21 = .ok (.iconst 1, 1) := by decide +kernel
theorem d_W_send_22 : decode b_W_send 22 = .ok (.ireturn, 1) := by decide +kernel
theorem d_W_send_23 : decode b_W_send 23 = .ok (.astore 7, 2) := by decide +kernel
theorem d_W_send_25 : decode b_W_send 25 = .ok (.iconst 2, 1) := by decide +kernel
theorem d_W_send_26 : decode b_W_send 26 = .ok (.ireturn, 1) := by decide +kernel
theorem d_W_send_27 : decode b_W_send 27 = .ok (.astore 7, 2) := by decide +kernel
theorem d_W_send_29 : decode b_W_send 29 = .ok (.iconst 3, 1) := by decide +kernel
theorem d_W_send_30 : decode b_W_send 30 = .ok (.ireturn, 1) := by decide +kernel
theorem d_W_send_31 : decode b_W_send 31 = .ok (.astore 7, 2) := by decide +kernel
theorem d_W_send_33 : decode b_W_send 33 = .ok (.iconst 4, 1) := by decide +kernel
theorem d_W_send_34 : decode b_W_send 34 = .ok (.ireturn, 1) := by decide +kernel
theorem d_W_send_35 : decode b_W_send 35 = .ok (.iconst 0, 1) := by decide +kernel
theorem d_W_send_36 : decode b_W_send 36 = .ok (.ireturn, 1) := by decide +kernel
theorem d_W_pend_0 : decode b_W_pend 0 = .ok (.aload 6, 2) := by decide +kernel
theorem d_W_pend_2 : decode b_W_pend 2 = .ok (.iconst 0, 1) := by decide +kernel
theorem d_W_pend_3 : decode b_W_pend 3 = .ok (.aload_n 0, 1) := by decide +kernel
theorem d_W_pend_4 : decode b_W_pend 4 = .ok (.iload_n 1, 1) := by decide +kernel
theorem d_W_pend_5 : decode b_W_pend 5 = .ok (.iload_n 2, 1) := by decide +kernel
theorem d_W_pend_6 : decode b_W_pend 6 = .ok (.iload_n 3, 1) := by decide +kernel
theorem d_W_pend_7 : decode b_W_pend 7 = .ok (.iload 4, 2) := by decide +kernel
theorem d_W_pend_9 : decode b_W_pend 9 = .ok (.iload 5, 2) := by decide +kernel
theorem d_W_pend_11 : decode b_W_pend 11 = .ok (.invokevirtual 29, 3) := by decide +kernel
theorem d_W_pend_14 : decode b_W_pend 14 = .ok (.i2l, 1) := by decide +kernel
theorem d_W_pend_15 : decode b_W_pend 15 = .ok (.lastore, 1) := by decide +kernel
theorem d_W_pend_16 : decode b_W_pend 16 = .ok (.goto 15, 3) := by decide +kernel
theorem d_W_pend_19 : decode b_W_pend 19 = .ok (.astore 7, 2) := by decide +kernel
theorem d_W_pend_21 : decode b_W_pend 21 = .ok (.iconst 1, 1) := by decide +kernel
theorem d_W_pend_22 : decode b_W_pend 22 = .ok (.ireturn, 1) := by decide +kernel
theorem d_W_pend_23 : decode b_W_pend 23 = .ok (.astore 7, 2) := by decide +kernel
theorem d_W_pend_25 : decode b_W_pend 25 = .ok (.iconst 2, 1) := by decide +kernel
theorem d_W_pend_26 : decode b_W_pend 26 = .ok (.ireturn, 1) := by decide +kernel
theorem d_W_pend_27 : decode b_W_pend 27 = .ok (.astore 7, 2) := by decide +kernel
theorem d_W_pend_29 : decode b_W_pend 29 = .ok (.iconst 3, 1) := by decide +kernel
theorem d_W_pend_30 : decode b_W_pend 30 = .ok (.ireturn, 1) := by decide +kernel
theorem d_W_pend_31 : decode b_W_pend 31 = .ok (.iconst 0, 1) := by decide +kernel
theorem d_W_pend_32 : decode b_W_pend 32 = .ok (.ireturn, 1) := by decide +kernel
theorem d_W_finish_0 : decode b_W_finish 0 = .ok (.aload 4, 2) := by decide +kernel
theorem d_W_finish_2 : decode b_W_finish 2 = .ok (.iconst 0, 1) := by decide +kernel
theorem d_W_finish_3 : decode b_W_finish 3 = .ok (.aload_n 0, 1) := by decide +kernel
theorem d_W_finish_4 : decode b_W_finish 4 = .ok (.iload_n 1, 1) := by decide +kernel
theorem d_W_finish_5 : decode b_W_finish 5 = .ok (.iload_n 2, 1) := by decide +kernel
theorem d_W_finish_6 : decode b_W_finish 6 = .ok (.iload_n 3, 1) := by decide +kernel
theorem d_W_finish_7 : decode b_W_finish 7 = .ok (.invokevirtual 32, 3) := by decide +kernel
theorem d_W_finish_10 : decode b_W_finish 10 = .ok (.i2l, 1) := by decide +kernel
theorem d_W_finish_11 : decode b_W_finish 11 = .ok (.lastore, 1) := by decide +kernel
theorem d_W_finish_12 : decode b_W_finish 12 = .ok (.goto 19, 3) := by decide +kernel
theorem d_W_finish_15 : decode b_W_finish 15 = .ok (.astore 5, 2) := by decide +kernel
theorem d_W_finish_17 : decode b_W_finish 17 = .ok (.iconst 1, 1) := by decide +kernel
theorem d_W_finish_18 : decode b_W_finish 18 = .ok (.ireturn, 1) := by decide +kernel
theorem d_W_finish_19 : decode b_W_finish 19 = .ok (.astore 5, 2) := by decide +kernel
theorem d_W_finish_21 : decode b_W_finish 21 = .ok (.iconst 2, 1) := by decide +kernel
theorem d_W_finish_22 : decode b_W_finish 22 = .ok (.ireturn, 1) := by decide +kernel
theorem d_W_finish_23 : decode b_W_finish 23 = .ok (.astore 5, 2) := by decide +kernel
theorem d_W_finish_25 : decode b_W_finish 25 = .ok (.iconst 3, 1) := by decide +kernel
theorem d_W_finish_26 : decode b_W_finish 26 = .ok (.ireturn, 1) := by decide +kernel
theorem d_W_finish_27 : decode b_W_finish 27 = .ok (.astore 5, 2) := by decide +kernel
theorem d_W_finish_29 : decode b_W_finish 29 = .ok (.iconst 4, 1) := by decide +kernel
theorem d_W_finish_30 : decode b_W_finish 30 = .ok (.ireturn, 1) := by decide +kernel
theorem d_W_finish_31 : decode b_W_finish 31 = .ok (.iconst 0, 1) := by decide +kernel
theorem d_W_finish_32 : decode b_W_finish 32 = .ok (.ireturn, 1) := by decide +kernel
theorem d_W_plain_0 : decode b_W_plain 0 = .ok (.aload_n 3, 1) := by decide +kernel
theorem d_W_plain_1 : decode b_W_plain 1 = .ok (.iconst 0, 1) := by decide +kernel
theorem d_W_plain_2 : decode b_W_plain 2 = .ok (.aload_n 0, 1) := by decide +kernel
theorem d_W_plain_3 : decode b_W_plain 3 = .ok (.iload_n 1, 1) := by decide +kernel
theorem d_W_plain_4 : decode b_W_plain 4 = .ok (.iload_n 2, 1) := by decide +kernel
theorem d_W_plain_5 : decode b_W_plain 5 = .ok (.invokevirtual 36, 3) := by decide +kernel
theorem d_W_plain_8 : decode b_W_plain 8 = .ok (.i2l, 1) := by decide +kernel
theorem d_W_plain_9 : decode b_W_plain 9 = .ok (.lastore, 1) := by decide +kernel
theorem d_W_plain_10 : decode b_W_plain 10 = .ok (.goto 11, 3) := by decide +kernel
theorem d_W_plain_13 : decode b_W_plain 13 = .ok (.astore 4, 2) := by decide +kernel
theorem d_W_plain_15 : decode b_W_plain 15 = .ok (.iconst 1, 1) := by decide +kernel
theorem d_W_plain_16 : decode b_W_plain 16 = .ok (.ireturn, 1) := by decide +kernel
theorem d_W_plain_17 : decode b_W_plain 17 = .ok (.astore 4, 2) := by decide +kernel
theorem d_W_plain_19 : decode b_W_plain 19 = .ok (.iconst 2, 1) := by decide +kernel
theorem d_W_plain_20 : decode b_W_plain 20 = .ok (.ireturn, 1) := by decide +kernel
theorem d_W_plain_21 : decode b_W_plain 21 = .ok (.iconst 0, 1) := by decide +kernel
theorem d_W_plain_22 : decode b_W_plain 22 = .ok (.ireturn, 1) := by decide +kernel
theorem d_W_copy_0 : decode b_W_copy 0 = .ok (.aload_n 3, 1) := by decide +kernel
theorem d_W_copy_1 : decode b_W_copy 1 = .ok (.iconst 0, 1) := by decide +kernel
theorem d_W_copy_2 : decode b_W_copy 2 = .ok (.aload_n 0, 1) := by decide +kernel
theorem d_W_copy_3 : decode b_W_copy 3 = .ok (.iload_n 1, 1) := by decide +kernel
theorem d_W_copy_4 : decode b_W_copy 4 = .ok (.iload_n 2, 1) := by decide +kernel
theorem d_W_copy_5 : decode b_W_copy 5 = .ok (.invokevirtual 39, 3) := by decide +kernel
theorem d_W_copy_8 : decode b_W_copy 8 = .ok (.i2l, 1) := by decide +kernel
theorem d_W_copy_9 : decode b_W_copy 9 = .ok (.lastore, 1) := by decide +kernel
theorem d_W_copy_10 : decode b_W_copy 10 = .ok (.goto 7, 3) := by decide +kernel
theorem d_W_copy_13 : decode b_W_copy 13 = .ok (.astore 4, 2) := by decide +kernel
theorem d_W_copy_15 : decode b_W_copy 15 = .ok (.iconst 1, 1) := by decide +kernel
theorem d_W_copy_16 : decode b_W_copy 16 = .ok (.ireturn, 1) := by decide +kernel
theorem d_W_copy_17 : decode b_W_copy 17 = .ok (.iconst 0, 1) := by decide +kernel
theorem d_W_copy_18 : decode b_W_copy 18 = .ok (.ireturn, 1) := by decide +kernel
theorem d_W_lose_0 : decode b_W_lose 0 = .ok (.aload_n 2, 1) := by decide +kernel
theorem d_W_lose_1 : decode b_W_lose 1 = .ok (.iconst 0, 1) := by decide +kernel
theorem d_W_lose_2 : decode b_W_lose 2 = .ok (.aload_n 0, 1) := by decide +kernel
theorem d_W_lose_3 : decode b_W_lose 3 = .ok (.iload_n 1, 1) := by decide +kernel
theorem d_W_lose_4 : decode b_W_lose 4 = .ok (.invokevirtual 42, 3) := by decide +kernel
theorem d_W_lose_7 : decode b_W_lose 7 = .ok (.i2l, 1) := by decide +kernel
theorem d_W_lose_8 : decode b_W_lose 8 = .ok (.lastore, 1) := by decide +kernel
theorem d_W_lose_9 : decode b_W_lose 9 = .ok (.goto 6, 3) := by decide +kernel
theorem d_W_lose_12 : decode b_W_lose 12 = .ok (.astore_n 3, 1) := by decide +kernel
theorem d_W_lose_13 : decode b_W_lose 13 = .ok (.iconst 1, 1) := by decide +kernel
theorem d_W_lose_14 : decode b_W_lose 14 = .ok (.ireturn, 1) := by decide +kernel
theorem d_W_lose_15 : decode b_W_lose 15 = .ok (.iconst 0, 1) := by decide +kernel
theorem d_W_lose_16 : decode b_W_lose 16 = .ok (.ireturn, 1) := by decide +kernel
theorem d_W_fetch_0 : decode b_W_fetch 0 = .ok (.aload 4, 2) := by decide +kernel
theorem d_W_fetch_2 : decode b_W_fetch 2 = .ok (.iconst 0, 1) := by decide +kernel
theorem d_W_fetch_3 : decode b_W_fetch 3 = .ok (.aload_n 0, 1) := by decide +kernel
theorem d_W_fetch_4 : decode b_W_fetch 4 = .ok (.iload_n 1, 1) := by decide +kernel
theorem d_W_fetch_5 : decode b_W_fetch 5 = .ok (.iload_n 2, 1) := by decide +kernel
theorem d_W_fetch_6 : decode b_W_fetch 6 = .ok (.iload_n 3, 1) := by decide +kernel
theorem d_W_fetch_7 : decode b_W_fetch 7 = .ok (.invokevirtual 45, 3) := by decide +kernel
theorem d_W_fetch_10 : decode b_W_fetch 10 = .ok (.i2l, 1) := by decide +kernel
theorem d_W_fetch_11 : decode b_W_fetch 11 = .ok (.lastore, 1) := by decide +kernel
theorem d_W_fetch_12 : decode b_W_fetch 12 = .ok (.goto 15, 3) := by decide +kernel
theorem d_W_fetch_15 : decode b_W_fetch 15 = .ok (.astore 5, 2) := by decide +kernel
theorem d_W_fetch_17 : decode b_W_fetch 17 = .ok (.iconst 1, 1) := by decide +kernel
theorem d_W_fetch_18 : decode b_W_fetch 18 = .ok (.ireturn, 1) := by decide +kernel
theorem d_W_fetch_19 : decode b_W_fetch 19 = .ok (.astore 5, 2) := by decide +kernel
theorem d_W_fetch_21 : decode b_W_fetch 21 = .ok (.iconst 2, 1) := by decide +kernel
theorem d_W_fetch_22 : decode b_W_fetch 22 = .ok (.ireturn, 1) := by decide +kernel
theorem d_W_fetch_23 : decode b_W_fetch 23 = .ok (.astore 5, 2) := by decide +kernel
theorem d_W_fetch_25 : decode b_W_fetch 25 = .ok (.iconst 3, 1) := by decide +kernel
theorem d_W_fetch_26 : decode b_W_fetch 26 = .ok (.ireturn, 1) := by decide +kernel
theorem d_W_fetch_27 : decode b_W_fetch 27 = .ok (.iconst 0, 1) := by decide +kernel
theorem d_W_fetch_28 : decode b_W_fetch 28 = .ok (.ireturn, 1) := by decide +kernel
theorem d_W_trim_0 : decode b_W_trim 0 = .ok (.aload_n 3, 1) := by decide +kernel
theorem d_W_trim_1 : decode b_W_trim 1 = .ok (.iconst 0, 1) := by decide +kernel
theorem d_W_trim_2 : decode b_W_trim 2 = .ok (.aload_n 0, 1) := by decide +kernel
theorem d_W_trim_3 : decode b_W_trim 3 = .ok (.iload_n 1, 1) := by decide +kernel
theorem d_W_trim_4 : decode b_W_trim 4 = .ok (.iload_n 2, 1) := by decide +kernel
theorem d_W_trim_5 : decode b_W_trim 5 = .ok (.invokevirtual 50, 3) := by decide +kernel
theorem d_W_trim_8 : decode b_W_trim 8 = .ok (.i2l, 1) := by decide +kernel
theorem d_W_trim_9 : decode b_W_trim 9 = .ok (.lastore, 1) := by decide +kernel
theorem d_W_trim_10 : decode b_W_trim 10 = .ok (.goto 11, 3) := by decide +kernel
theorem d_W_trim_13 : decode b_W_trim 13 = .ok (.astore 4, 2) := by decide +kernel
theorem d_W_trim_15 : decode b_W_trim 15 = .ok (.iconst 1, 1) := by decide +kernel
theorem d_W_trim_16 : decode b_W_trim 16 = .ok (.ireturn, 1) := by decide +kernel
theorem d_W_trim_17 : decode b_W_trim 17 = .ok (.astore 4, 2) := by decide +kernel
theorem d_W_trim_19 : decode b_W_trim 19 = .ok (.iconst 2, 1) := by decide +kernel
theorem d_W_trim_20 : decode b_W_trim 20 = .ok (.ireturn, 1) := by decide +kernel
theorem d_W_trim_21 : decode b_W_trim 21 = .ok (.iconst 0, 1) := by decide +kernel
theorem d_W_trim_22 : decode b_W_trim 22 = .ok (.ireturn, 1) := by decide +kernel
theorem d_W_join_0 : decode b_W_join 0 = .ok (.aload_n 3, 1) := by decide +kernel
theorem d_W_join_1 : decode b_W_join 1 = .ok (.iconst 0, 1) := by decide +kernel
theorem d_W_join_2 : decode b_W_join 2 = .ok (.aload_n 0, 1) := by decide +kernel
theorem d_W_join_3 : decode b_W_join 3 = .ok (.iload_n 1, 1) := by decide +kernel
theorem d_W_join_4 : decode b_W_join 4 = .ok (.iload_n 2, 1) := by decide +kernel
theorem d_W_join_5 : decode b_W_join 5 = .ok (.invokevirtual 53, 3) := by decide +kernel
theorem d_W_join_8 : decode b_W_join 8 = .ok (.i2l, 1) := by decide +kernel
theorem d_W_join_9 : decode b_W_join 9 = .ok (.lastore, 1) := by decide +kernel
theorem d_W_join_10 : decode b_W_join 10 = .ok (.goto 11, 3) := by decide +kernel
theorem d_W_join_13 : decode b_W_join 13 = .ok (.astore 4, 2) := by decide +kernel
theorem d_W_join_15 : decode b_W_join 15 = .ok (.iconst 1, 1) := by decide +kernel
theorem d_W_join_16 : decode b_W_join 16 = .ok (.ireturn, 1) := by decide +kernel
theorem d_W_join_17 : decode b_W_join 17 = .ok (.astore 4, 2) := by decide +kernel
theorem d_W_join_19 : decode b_W_join 19 = .ok (.iconst 2, 1) := by decide +kernel
theorem d_W_join_20 : decode b_W_join 20 = .ok (.ireturn, 1) := by decide +kernel
theorem d_W_join_21 : decode b_W_join 21 = .ok (.iconst 0, 1) := by decide +kernel
theorem d_W_join_22 : decode b_W_join 22 = .ok (.ireturn, 1) := by decide +kernel
theorem d_W_leave_0 : decode b_W_leave 0 = .ok (.aload_n 3, 1) := by decide +kernel
theorem d_W_leave_1 : decode b_W_leave 1 = .ok (.iconst 0, 1) := by decide +kernel
theorem d_W_leave_2 : decode b_W_leave 2 = .ok (.aload_n 0, 1) := by decide +kernel
theorem d_W_leave_3 : decode b_W_leave 3 = .ok (.iload_n 1, 1) := by decide +kernel
theorem d_W_leave_4 : decode b_W_leave 4 = .ok (.iload_n 2, 1) := by decide +kernel
theorem d_W_leave_5 : decode b_W_leave 5 = .ok (.invokevirtual 56, 3) := by decide +kernel
theorem d_W_leave_8 : decode b_W_leave 8 = .ok (.i2l, 1) := by decide +kernel
theorem d_W_leave_9 : decode b_W_leave 9 = .ok (.lastore, 1) := by decide +kernel
theorem d_W_leave_10 : decode b_W_leave 10 = .ok (.goto 11, 3) := by decide +kernel
theorem d_W_leave_13 : decode b_W_leave 13 = .ok (.astore 4, 2) := by decide +kernel
theorem d_W_leave_15 : decode b_W_leave 15 = .ok (.iconst 1, 1) := by decide +kernel
theorem d_W_leave_16 : decode b_W_leave 16 = .ok (.ireturn, 1) := by decide +kernel
theorem d_W_leave_17 : decode b_W_leave 17 = .ok (.astore 4, 2) := by decide +kernel
theorem d_W_leave_19 : decode b_W_leave 19 = .ok (.iconst 2, 1) := by decide +kernel
theorem d_W_leave_20 : decode b_W_leave 20 = .ok (.ireturn, 1) := by decide +kernel
theorem d_W_leave_21 : decode b_W_leave 21 = .ok (.iconst 0, 1) := by decide +kernel
theorem d_W_leave_22 : decode b_W_leave 22 = .ok (.ireturn, 1) := by decide +kernel
theorem d_W_beat_0 : decode b_W_beat 0 = .ok (.aload 4, 2) := by decide +kernel
theorem d_W_beat_2 : decode b_W_beat 2 = .ok (.iconst 0, 1) := by decide +kernel
theorem d_W_beat_3 : decode b_W_beat 3 = .ok (.aload_n 0, 1) := by decide +kernel
theorem d_W_beat_4 : decode b_W_beat 4 = .ok (.iload_n 1, 1) := by decide +kernel
theorem d_W_beat_5 : decode b_W_beat 5 = .ok (.iload_n 2, 1) := by decide +kernel
theorem d_W_beat_6 : decode b_W_beat 6 = .ok (.iload_n 3, 1) := by decide +kernel
theorem d_W_beat_7 : decode b_W_beat 7 = .ok (.invokevirtual 59, 3) := by decide +kernel
theorem d_W_beat_10 : decode b_W_beat 10 = .ok (.i2l, 1) := by decide +kernel
theorem d_W_beat_11 : decode b_W_beat 11 = .ok (.lastore, 1) := by decide +kernel
theorem d_W_beat_12 : decode b_W_beat 12 = .ok (.goto 15, 3) := by decide +kernel
theorem d_W_beat_15 : decode b_W_beat 15 = .ok (.astore 5, 2) := by decide +kernel
theorem d_W_beat_17 : decode b_W_beat 17 = .ok (.iconst 1, 1) := by decide +kernel
theorem d_W_beat_18 : decode b_W_beat 18 = .ok (.ireturn, 1) := by decide +kernel
theorem d_W_beat_19 : decode b_W_beat 19 = .ok (.astore 5, 2) := by decide +kernel
theorem d_W_beat_21 : decode b_W_beat 21 = .ok (.iconst 2, 1) := by decide +kernel
theorem d_W_beat_22 : decode b_W_beat 22 = .ok (.ireturn, 1) := by decide +kernel
theorem d_W_beat_23 : decode b_W_beat 23 = .ok (.astore 5, 2) := by decide +kernel
theorem d_W_beat_25 : decode b_W_beat 25 = .ok (.iconst 3, 1) := by decide +kernel
theorem d_W_beat_26 : decode b_W_beat 26 = .ok (.ireturn, 1) := by decide +kernel
theorem d_W_beat_27 : decode b_W_beat 27 = .ok (.iconst 0, 1) := by decide +kernel
theorem d_W_beat_28 : decode b_W_beat 28 = .ok (.ireturn, 1) := by decide +kernel
theorem d_W_mark_0 : decode b_W_mark 0 = .ok (.aload 6, 2) := by decide +kernel
theorem d_W_mark_2 : decode b_W_mark 2 = .ok (.iconst 0, 1) := by decide +kernel
theorem d_W_mark_3 : decode b_W_mark 3 = .ok (.aload_n 0, 1) := by decide +kernel
theorem d_W_mark_4 : decode b_W_mark 4 = .ok (.iload_n 1, 1) := by decide +kernel
theorem d_W_mark_5 : decode b_W_mark 5 = .ok (.iload_n 2, 1) := by decide +kernel
theorem d_W_mark_6 : decode b_W_mark 6 = .ok (.iload_n 3, 1) := by decide +kernel
theorem d_W_mark_7 : decode b_W_mark 7 = .ok (.iload 4, 2) := by decide +kernel
theorem d_W_mark_9 : decode b_W_mark 9 = .ok (.iload 5, 2) := by decide +kernel
theorem d_W_mark_11 : decode b_W_mark 11 = .ok (.invokevirtual 63, 3) := by decide +kernel
theorem d_W_mark_14 : decode b_W_mark 14 = .ok (.i2l, 1) := by decide +kernel
theorem d_W_mark_15 : decode b_W_mark 15 = .ok (.lastore, 1) := by decide +kernel
theorem d_W_mark_16 : decode b_W_mark 16 = .ok (.goto 19, 3) := by decide +kernel
theorem d_W_mark_19 : decode b_W_mark 19 = .ok (.astore 7, 2) := by decide +kernel
theorem d_W_mark_21 : decode b_W_mark 21 = .ok (.iconst 1, 1) := by decide +kernel
theorem d_W_mark_22 : decode b_W_mark 22 = .ok (.ireturn, 1) := by decide +kernel
theorem d_W_mark_23 : decode b_W_mark 23 = .ok (.astore 7, 2) := by decide +kernel
theorem d_W_mark_25 : decode b_W_mark 25 = .ok (.iconst 2, 1) := by decide +kernel
theorem d_W_mark_26 : decode b_W_mark 26 = .ok (.ireturn, 1) := by decide +kernel
theorem d_W_mark_27 : decode b_W_mark 27 = .ok (.astore 7, 2) := by decide +kernel
theorem d_W_mark_29 : decode b_W_mark 29 = .ok (.iconst 3, 1) := by decide +kernel
theorem d_W_mark_30 : decode b_W_mark 30 = .ok (.ireturn, 1) := by decide +kernel
theorem d_W_mark_31 : decode b_W_mark 31 = .ok (.astore 7, 2) := by decide +kernel
theorem d_W_mark_33 : decode b_W_mark 33 = .ok (.iconst 4, 1) := by decide +kernel
theorem d_W_mark_34 : decode b_W_mark 34 = .ok (.ireturn, 1) := by decide +kernel
theorem d_W_mark_35 : decode b_W_mark 35 = .ok (.iconst 0, 1) := by decide +kernel
theorem d_W_mark_36 : decode b_W_mark 36 = .ok (.ireturn, 1) := by decide +kernel
theorem d_W_tick_0 : decode b_W_tick 0 = .ok (.aload_n 2, 1) := by decide +kernel
theorem d_W_tick_1 : decode b_W_tick 1 = .ok (.iconst 0, 1) := by decide +kernel
theorem d_W_tick_2 : decode b_W_tick 2 = .ok (.aload_n 0, 1) := by decide +kernel
theorem d_W_tick_3 : decode b_W_tick 3 = .ok (.iload_n 1, 1) := by decide +kernel
theorem d_W_tick_4 : decode b_W_tick 4 = .ok (.invokevirtual 66, 3) := by decide +kernel
theorem d_W_tick_7 : decode b_W_tick 7 = .ok (.i2l, 1) := by decide +kernel
theorem d_W_tick_8 : decode b_W_tick 8 = .ok (.lastore, 1) := by decide +kernel
theorem d_W_tick_9 : decode b_W_tick 9 = .ok (.goto 6, 3) := by decide +kernel
theorem d_W_tick_12 : decode b_W_tick 12 = .ok (.astore_n 3, 1) := by decide +kernel
theorem d_W_tick_13 : decode b_W_tick 13 = .ok (.iconst 1, 1) := by decide +kernel
theorem d_W_tick_14 : decode b_W_tick 14 = .ok (.ireturn, 1) := by decide +kernel
theorem d_W_tick_15 : decode b_W_tick 15 = .ok (.iconst 0, 1) := by decide +kernel
theorem d_W_tick_16 : decode b_W_tick 16 = .ok (.ireturn, 1) := by decide +kernel
theorem d_W_edge_0 : decode b_W_edge 0 = .ok (.aload_n 3, 1) := by decide +kernel
theorem d_W_edge_1 : decode b_W_edge 1 = .ok (.iconst 0, 1) := by decide +kernel
theorem d_W_edge_2 : decode b_W_edge 2 = .ok (.aload_n 0, 1) := by decide +kernel
theorem d_W_edge_3 : decode b_W_edge 3 = .ok (.iload_n 1, 1) := by decide +kernel
theorem d_W_edge_4 : decode b_W_edge 4 = .ok (.iload_n 2, 1) := by decide +kernel
theorem d_W_edge_5 : decode b_W_edge 5 = .ok (.invokevirtual 69, 3) := by decide +kernel
theorem d_W_edge_8 : decode b_W_edge 8 = .ok (.i2l, 1) := by decide +kernel
theorem d_W_edge_9 : decode b_W_edge 9 = .ok (.lastore, 1) := by decide +kernel
theorem d_W_edge_10 : decode b_W_edge 10 = .ok (.goto 7, 3) := by decide +kernel
theorem d_W_edge_13 : decode b_W_edge 13 = .ok (.astore 4, 2) := by decide +kernel
theorem d_W_edge_15 : decode b_W_edge 15 = .ok (.iconst 1, 1) := by decide +kernel
theorem d_W_edge_16 : decode b_W_edge 16 = .ok (.ireturn, 1) := by decide +kernel
theorem d_W_edge_17 : decode b_W_edge 17 = .ok (.iconst 0, 1) := by decide +kernel
theorem d_W_edge_18 : decode b_W_edge 18 = .ok (.ireturn, 1) := by decide +kernel
theorem d_W_fact_0 : decode b_W_fact 0 = .ok (.aload_n 3, 1) := by decide +kernel
theorem d_W_fact_1 : decode b_W_fact 1 = .ok (.iconst 0, 1) := by decide +kernel
theorem d_W_fact_2 : decode b_W_fact 2 = .ok (.aload_n 0, 1) := by decide +kernel
theorem d_W_fact_3 : decode b_W_fact 3 = .ok (.iload_n 1, 1) := by decide +kernel
theorem d_W_fact_4 : decode b_W_fact 4 = .ok (.iload_n 2, 1) := by decide +kernel
theorem d_W_fact_5 : decode b_W_fact 5 = .ok (.invokevirtual 72, 3) := by decide +kernel
theorem d_W_fact_8 : decode b_W_fact 8 = .ok (.i2l, 1) := by decide +kernel
theorem d_W_fact_9 : decode b_W_fact 9 = .ok (.lastore, 1) := by decide +kernel
theorem d_W_fact_10 : decode b_W_fact 10 = .ok (.goto 7, 3) := by decide +kernel
theorem d_W_fact_13 : decode b_W_fact 13 = .ok (.astore 4, 2) := by decide +kernel
theorem d_W_fact_15 : decode b_W_fact 15 = .ok (.iconst 1, 1) := by decide +kernel
theorem d_W_fact_16 : decode b_W_fact 16 = .ok (.ireturn, 1) := by decide +kernel
theorem d_W_fact_17 : decode b_W_fact 17 = .ok (.iconst 0, 1) := by decide +kernel
theorem d_W_fact_18 : decode b_W_fact 18 = .ok (.ireturn, 1) := by decide +kernel
theorem d_W_law_0 : decode b_W_law 0 = .ok (.new 8, 3) := by decide +kernel
theorem d_W_law_3 : decode b_W_law 3 = .ok (.dup, 1) := by decide +kernel
theorem d_W_law_4 : decode b_W_law 4 = .ok (.invokespecial 75, 3) := by decide +kernel
theorem d_W_law_7 : decode b_W_law 7 = .ok (.astore_n 1, 1) := by decide +kernel
theorem d_W_law_8 : decode b_W_law 8 = .ok (.new 76, 3) := by decide +kernel
theorem d_W_law_11 : decode b_W_law 11 = .ok (.dup, 1) := by decide +kernel
theorem d_W_law_12 : decode b_W_law 12 = .ok (.invokespecial 78, 3) := by decide +kernel
theorem d_W_law_15 : decode b_W_law 15 = .ok (.astore_n 2, 1) := by decide +kernel
theorem d_W_law_16 : decode b_W_law 16 = .ok (.iconst 1, 1) := by decide +kernel
theorem d_W_law_17 : decode b_W_law 17 = .ok (.newarray .long, 2) := by decide +kernel
theorem d_W_law_19 : decode b_W_law 19 = .ok (.astore_n 3, 1) := by decide +kernel
theorem d_W_law_20 : decode b_W_law 20 = .ok (.iconst 0, 1) := by decide +kernel
theorem d_W_law_21 : decode b_W_law 21 = .ok (.istore 4, 2) := by decide +kernel
theorem d_W_law_23 : decode b_W_law 23 = .ok (.iload 4, 2) := by decide +kernel
theorem d_W_law_25 : decode b_W_law 25 = .ok (.aload_n 0, 1) := by decide +kernel
theorem d_W_law_26 : decode b_W_law 26 = .ok (.arraylength, 1) := by decide +kernel
theorem d_W_law_27 : decode b_W_law 27 = .ok (.bipush 6, 2) := by decide +kernel
theorem d_W_law_29 : decode b_W_law 29 = .ok (.isub, 1) := by decide +kernel
theorem d_W_law_30 : decode b_W_law 30 = .ok (.if_icmp .gt 1430, 3) := by decide +kernel
theorem d_W_law_33 : decode b_W_law 33 = .ok (.aload_n 0, 1) := by decide +kernel
theorem d_W_law_34 : decode b_W_law 34 = .ok (.iload 4, 2) := by decide +kernel
theorem d_W_law_36 : decode b_W_law 36 = .ok (.iaload, 1) := by decide +kernel
theorem d_W_law_37 : decode b_W_law 37 = .ok (.bipush 31, 2) := by decide +kernel
theorem d_W_law_39 : decode b_W_law 39 = .ok (.iand, 1) := by decide +kernel
theorem d_W_law_40 : decode b_W_law 40 = .ok (.tableswitch 1414 0 18 #[92, 148, 216, 320, 424, 520, 533, 601, 669, 725, 821, 834, 902, 970, 1038, 1118, 1222, 1278, 1346], 92) := by decide +kernel
theorem d_W_law_132 : decode b_W_law 132 = .ok (.aload_n 1, 1) := by decide +kernel
theorem d_W_law_133 : decode b_W_law 133 = .ok (.aload_n 0, 1) := by decide +kernel
theorem d_W_law_134 : decode b_W_law 134 = .ok (.iload 4, 2) := by decide +kernel
theorem d_W_law_136 : decode b_W_law 136 = .ok (.iconst 1, 1) := by decide +kernel
theorem d_W_law_137 : decode b_W_law 137 = .ok (.iadd, 1) := by decide +kernel
theorem d_W_law_138 : decode b_W_law 138 = .ok (.iaload, 1) := by decide +kernel
theorem d_W_law_139 : decode b_W_law 139 = .ok (.aload_n 3, 1) := by decide +kernel
theorem d_W_law_140 : decode b_W_law 140 = .ok (.invokestatic 79, 3) := by decide +kernel
theorem d_W_law_143 : decode b_W_law 143 = .ok (.istore 5, 2) := by decide +kernel
theorem d_W_law_145 : decode b_W_law 145 = .ok (.aload_n 2, 1) := by decide +kernel
theorem d_W_law_146 : decode b_W_law 146 = .ok (.aload_n 0, 1) := by decide +kernel
theorem d_W_law_147 : decode b_W_law 147 = .ok (.iload 4, 2) := by decide +kernel
theorem d_W_law_149 : decode b_W_law 149 = .ok (.iconst 1, 1) := by decide +kernel
theorem d_W_law_150 : decode b_W_law 150 = .ok (.iadd, 1) := by decide +kernel
theorem d_W_law_151 : decode b_W_law 151 = .ok (.iaload, 1) := by decide +kernel
theorem d_W_law_152 : decode b_W_law 152 = .ok (.invokevirtual 84, 3) := by decide +kernel
theorem d_W_law_155 : decode b_W_law 155 = .ok (.istore 6, 2) := by decide +kernel
theorem d_W_law_157 : decode b_W_law 157 = .ok (.aload_n 2, 1) := by decide +kernel
theorem d_W_law_158 : decode b_W_law 158 = .ok (.invokevirtual 85, 3) := by decide +kernel
theorem d_W_law_161 : decode b_W_law 161 = .ok (.iload 5, 2) := by decide +kernel
theorem d_W_law_163 : decode b_W_law 163 = .ok (.if_icmp .eq 5, 3) := by decide +kernel
theorem d_W_law_166 : decode b_W_law 166 = .ok (.iconst 0, 1) := by decide +kernel
theorem d_W_law_167 : decode b_W_law 167 = .ok (.ireturn, 1) := by decide +kernel
theorem d_W_law_168 : decode b_W_law 168 = .ok (.iload 5, 2) := by decide +kernel
theorem d_W_law_170 : decode b_W_law 170 = .ok (.ifCond .ne 15, 3) := by decide +kernel
theorem d_W_law_173 : decode b_W_law 173 = .ok (.aload_n 3, 1) := by decide +kernel
theorem d_W_law_174 : decode b_W_law 174 = .ok (.iconst 0, 1) := by decide +kernel
theorem d_W_law_175 : decode b_W_law 175 = .ok (.laload, 1) := by decide +kernel
theorem d_W_law_176 : decode b_W_law 176 = .ok (.iload 6, 2) := by decide +kernel
theorem d_W_law_178 : decode b_W_law 178 = .ok (.i2l, 1) := by decide +kernel
theorem d_W_law_179 : decode b_W_law 179 = .ok (.lcmp, 1) := by decide +kernel
theorem d_W_law_180 : decode b_W_law 180 = .ok (.ifCond .eq 5, 3) := by decide +kernel
theorem d_W_law_183 : decode b_W_law 183 = .ok (.iconst 0, 1) := by decide +kernel
theorem d_W_law_184 : decode b_W_law 184 = .ok (.ireturn, 1) := by decide +kernel
theorem d_W_law_185 : decode b_W_law 185 = .ok (.goto 1269, 3) := by decide +kernel
theorem d_W_law_188 : decode b_W_law 188 = .ok (.aload_n 1, 1) := by decide +kernel
theorem d_W_law_189 : decode b_W_law 189 = .ok (.aload_n 0, 1) := by decide +kernel
theorem d_W_law_190 : decode b_W_law 190 = .ok (.iload 4, 2) := by decide +kernel
theorem d_W_law_192 : decode b_W_law 192 = .ok (.iconst 1, 1) := by decide +kernel
theorem d_W_law_193 : decode b_W_law 193 = .ok (.iadd, 1) := by decide +kernel
theorem d_W_law_194 : decode b_W_law 194 = .ok (.iaload, 1) := by decide +kernel
theorem d_W_law_195 : decode b_W_law 195 = .ok (.aload_n 0, 1) := by decide +kernel
theorem d_W_law_196 : decode b_W_law 196 = .ok (.iload 4, 2) := by decide +kernel
theorem d_W_law_198 : decode b_W_law 198 = .ok (.iconst 2, 1) := by decide +kernel
theorem d_W_law_199 : decode b_W_law 199 = .ok (.iadd, 1) := by decide +kernel
theorem d_W_law_200 : decode b_W_law 200 = .ok (.iaload, 1) := by decide +kernel
theorem d_W_law_201 : decode b_W_law 201 = .ok (.aload_n 3, 1) := by decide +kernel
theorem d_W_law_202 : decode b_W_law 202 = .ok (.invokestatic 89, 3) := by decide +kernel
theorem d_W_law_205 : decode b_W_law 205 = .ok (.istore 5, 2) := by decide +kernel
theorem d_W_law_207 : decode b_W_law 207 = .ok (.aload_n 2, 1) := by decide +kernel
theorem d_W_law_208 : decode b_W_law 208 = .ok (.aload_n 0, 1) := by decide +kernel
theorem d_W_law_209 : decode b_W_law 209 = .ok (.iload 4, 2) := by decide +kernel
theorem d_W_law_211 : decode b_W_law 211 = .ok (.iconst 1, 1) := by decide +kernel
theorem d_W_law_212 : decode b_W_law 212 = .ok (.iadd, 1) := by decide +kernel
theorem d_W_law_213 : decode b_W_law 213 = .ok (.iaload, 1) := by decide +kernel
theorem d_W_law_214 : decode b_W_law 214 = .ok (.aload_n 0, 1) := by decide +kernel
theorem d_W_law_215 : decode b_W_law 215 = .ok (.iload 4, 2) := by decide +kernel
theorem d_W_law_217 : decode b_W_law 217 = .ok (.iconst 2, 1) := by decide +kernel
theorem d_W_law_218 : decode b_W_law 218 = .ok (.iadd, 1) := by decide +kernel
theorem d_W_law_219 : decode b_W_law 219 = .ok (.iaload, 1) := by decide +kernel
theorem d_W_law_220 : decode b_W_law 220 = .ok (.invokevirtual 92, 3) := by decide +kernel
theorem d_W_law_223 : decode b_W_law 223 = .ok (.istore 6, 2) := by decide +kernel
theorem d_W_law_225 : decode b_W_law 225 = .ok (.aload_n 2, 1) := by decide +kernel
theorem d_W_law_226 : decode b_W_law 226 = .ok (.invokevirtual 85, 3) := by decide +kernel
theorem d_W_law_229 : decode b_W_law 229 = .ok (.iload 5, 2) := by decide +kernel
theorem d_W_law_231 : decode b_W_law 231 = .ok (.if_icmp .eq 5, 3) := by decide +kernel
theorem d_W_law_234 : decode b_W_law 234 = .ok (.iconst 0, 1) := by decide +kernel
theorem d_W_law_235 : decode b_W_law 235 = .ok (.ireturn, 1) := by decide +kernel
theorem d_W_law_236 : decode b_W_law 236 = .ok (.iload 5, 2) := by decide +kernel
theorem d_W_law_238 : decode b_W_law 238 = .ok (.ifCond .ne 15, 3) := by decide +kernel
theorem d_W_law_241 : decode b_W_law 241 = .ok (.aload_n 3, 1) := by decide +kernel
theorem d_W_law_242 : decode b_W_law 242 = .ok (.iconst 0, 1) := by decide +kernel
theorem d_W_law_243 : decode b_W_law 243 = .ok (.laload, 1) := by decide +kernel
theorem d_W_law_244 : decode b_W_law 244 = .ok (.iload 6, 2) := by decide +kernel
theorem d_W_law_246 : decode b_W_law 246 = .ok (.i2l, 1) := by decide +kernel
theorem d_W_law_247 : decode b_W_law 247 = .ok (.lcmp, 1) := by decide +kernel
theorem d_W_law_248 : decode b_W_law 248 = .ok (.ifCond .eq 5, 3) := by decide +kernel
theorem d_W_law_251 : decode b_W_law 251 = .ok (.iconst 0, 1) := by decide +kernel
theorem d_W_law_252 : decode b_W_law 252 = .ok (.ireturn, 1) := by decide +kernel
theorem d_W_law_253 : decode b_W_law 253 = .ok (.goto 1201, 3) := by decide +kernel
theorem d_W_law_256 : decode b_W_law 256 = .ok (.aload_n 1, 1) := by decide +kernel
theorem d_W_law_257 : decode b_W_law 257 = .ok (.aload_n 0, 1) := by decide +kernel
theorem d_W_law_258 : decode b_W_law 258 = .ok (.iload 4, 2) := by decide +kernel
theorem d_W_law_260 : decode b_W_law 260 = .ok (.iconst 1, 1) := by decide +kernel
theorem d_W_law_261 : decode b_W_law 261 = .ok (.iadd, 1) := by decide +kernel
theorem d_W_law_262 : decode b_W_law 262 = .ok (.iaload, 1) := by decide +kernel
theorem d_W_law_263 : decode b_W_law 263 = .ok (.aload_n 0, 1) := by decide +kernel
theorem d_W_law_264 : decode b_W_law 264 = .ok (.iload 4, 2) := by decide +kernel
theorem d_W_law_266 : decode b_W_law 266 = .ok (.iconst 2, 1) := by decide +kernel
theorem d_W_law_267 : decode b_W_law 267 = .ok (.iadd, 1) := by decide +kernel
theorem d_W_law_268 : decode b_W_law 268 = .ok (.iaload, 1) := by decide +kernel
theorem d_W_law_269 : decode b_W_law 269 = .ok (.aload_n 0, 1) := by decide +kernel
theorem d_W_law_270 : decode b_W_law 270 = .ok (.iload 4, 2) := by decide +kernel
theorem d_W_law_272 : decode b_W_law 272 = .ok (.iconst 3, 1) := by decide +kernel
theorem d_W_law_273 : decode b_W_law 273 = .ok (.iadd, 1) := by decide +kernel
theorem d_W_law_274 : decode b_W_law 274 = .ok (.iaload, 1) := by decide +kernel
theorem d_W_law_275 : decode b_W_law 275 = .ok (.aload_n 0, 1) := by decide +kernel
theorem d_W_law_276 : decode b_W_law 276 = .ok (.iload 4, 2) := by decide +kernel
theorem d_W_law_278 : decode b_W_law 278 = .ok (.iconst 4, 1) := by decide +kernel
theorem d_W_law_279 : decode b_W_law 279 = .ok (.iadd, 1) := by decide +kernel
theorem d_W_law_280 : decode b_W_law 280 = .ok (.iaload, 1) := by decide +kernel
theorem d_W_law_281 : decode b_W_law 281 = .ok (.aload_n 0, 1) := by decide +kernel
theorem d_W_law_282 : decode b_W_law 282 = .ok (.iload 4, 2) := by decide +kernel
theorem d_W_law_284 : decode b_W_law 284 = .ok (.iconst 5, 1) := by decide +kernel
theorem d_W_law_285 : decode b_W_law 285 = .ok (.iadd, 1) := by decide +kernel
theorem d_W_law_286 : decode b_W_law 286 = .ok (.iaload, 1) := by decide +kernel
theorem d_W_law_287 : decode b_W_law 287 = .ok (.aload_n 3, 1) := by decide +kernel
theorem d_W_law_288 : decode b_W_law 288 = .ok (.invokestatic 93, 3) := by decide +kernel
theorem d_W_law_291 : decode b_W_law 291 = .ok (.istore 5, 2) := by decide +kernel
theorem d_W_law_293 : decode b_W_law 293 = .ok (.aload_n 2, 1) := by decide +kernel
theorem d_W_law_294 : decode b_W_law 294 = .ok (.aload_n 0, 1) := by decide +kernel
theorem d_W_law_295 : decode b_W_law 295 = .ok (.iload 4, 2) := by decide +kernel
theorem d_W_law_297 : decode b_W_law 297 = .ok (.iconst 1, 1) := by decide +kernel
theorem d_W_law_298 : decode b_W_law 298 = .ok (.iadd, 1) := by decide +kernel
theorem d_W_law_299 : decode b_W_law 299 = .ok (.iaload, 1) := by decide +kernel
theorem d_W_law_300 : decode b_W_law 300 = .ok (.aload_n 0, 1) := by decide +kernel
theorem d_W_law_301 : decode b_W_law 301 = .ok (.iload 4, 2) := by decide +kernel
theorem d_W_law_303 : decode b_W_law 303 = .ok (.iconst 2, 1) := by decide +kernel
theorem d_W_law_304 : decode b_W_law 304 = .ok (.iadd, 1) := by decide +kernel
theorem d_W_law_305 : decode b_W_law 305 = .ok (.iaload, 1) := by decide +kernel
theorem d_W_law_306 : decode b_W_law 306 = .ok (.aload_n 0, 1) := by decide +kernel
theorem d_W_law_307 : decode b_W_law 307 = .ok (.iload 4, 2) := by decide +kernel
theorem d_W_law_309 : decode b_W_law 309 = .ok (.iconst 3, 1) := by decide +kernel
theorem d_W_law_310 : decode b_W_law 310 = .ok (.iadd, 1) := by decide +kernel
theorem d_W_law_311 : decode b_W_law 311 = .ok (.iaload, 1) := by decide +kernel
theorem d_W_law_312 : decode b_W_law 312 = .ok (.aload_n 0, 1) := by decide +kernel
theorem d_W_law_313 : decode b_W_law 313 = .ok (.iload 4, 2) := by decide +kernel
theorem d_W_law_315 : decode b_W_law 315 = .ok (.iconst 4, 1) := by decide +kernel
theorem d_W_law_316 : decode b_W_law 316 = .ok (.iadd, 1) := by decide +kernel
theorem d_W_law_317 : decode b_W_law 317 = .ok (.iaload, 1) := by decide +kernel
theorem d_W_law_318 : decode b_W_law 318 = .ok (.aload_n 0, 1) := by decide +kernel
theorem d_W_law_319 : decode b_W_law 319 = .ok (.iload 4, 2) := by decide +kernel
theorem d_W_law_321 : decode b_W_law 321 = .ok (.iconst 5, 1) := by decide +kernel
theorem d_W_law_322 : decode b_W_law 322 = .ok (.iadd, 1) := by decide +kernel
theorem d_W_law_323 : decode b_W_law 323 = .ok (.iaload, 1) := by decide +kernel
theorem d_W_law_324 : decode b_W_law 324 = .ok (.invokevirtual 96, 3) := by decide +kernel
theorem d_W_law_327 : decode b_W_law 327 = .ok (.istore 6, 2) := by decide +kernel
theorem d_W_law_329 : decode b_W_law 329 = .ok (.aload_n 2, 1) := by decide +kernel
theorem d_W_law_330 : decode b_W_law 330 = .ok (.invokevirtual 85, 3) := by decide +kernel
theorem d_W_law_333 : decode b_W_law 333 = .ok (.iload 5, 2) := by decide +kernel
theorem d_W_law_335 : decode b_W_law 335 = .ok (.if_icmp .eq 5, 3) := by decide +kernel
theorem d_W_law_338 : decode b_W_law 338 = .ok (.iconst 0, 1) := by decide +kernel
theorem d_W_law_339 : decode b_W_law 339 = .ok (.ireturn, 1) := by decide +kernel
theorem d_W_law_340 : decode b_W_law 340 = .ok (.iload 5, 2) := by decide +kernel
theorem d_W_law_342 : decode b_W_law 342 = .ok (.ifCond .ne 15, 3) := by decide +kernel
theorem d_W_law_345 : decode b_W_law 345 = .ok (.aload_n 3, 1) := by decide +kernel
theorem d_W_law_346 : decode b_W_law 346 = .ok (.iconst 0, 1) := by decide +kernel
theorem d_W_law_347 : decode b_W_law 347 = .ok (.laload, 1) := by decide +kernel
theorem d_W_law_348 : decode b_W_law 348 = .ok (.iload 6, 2) := by decide +kernel
theorem d_W_law_350 : decode b_W_law 350 = .ok (.i2l, 1) := by decide +kernel
theorem d_W_law_351 : decode b_W_law 351 = .ok (.lcmp, 1) := by decide +kernel
theorem d_W_law_352 : decode b_W_law 352 = .ok (.ifCond .eq 5, 3) := by decide +kernel
theorem d_W_law_355 : decode b_W_law 355 = .ok (.iconst 0, 1) := by decide +kernel
theorem d_W_law_356 : decode b_W_law 356 = .ok (.ireturn, 1) := by decide +kernel
theorem d_W_law_357 : decode b_W_law 357 = .ok (.goto 1097, 3) := by decide +kernel
theorem d_W_law_360 : decode b_W_law 360 = .ok (.aload_n 1, 1) := by decide +kernel
theorem d_W_law_361 : decode b_W_law 361 = .ok (.aload_n 0, 1) := by decide +kernel
theorem d_W_law_362 : decode b_W_law 362 = .ok (.iload 4, 2) := by decide +kernel
theorem d_W_law_364 : decode b_W_law 364 = .ok (.iconst 1, 1) := by decide +kernel
theorem d_W_law_365 : decode b_W_law 365 = .ok (.iadd, 1) := by decide +kernel
theorem d_W_law_366 : decode b_W_law 366 = .ok (.iaload, 1) := by decide +kernel
theorem d_W_law_367 : decode b_W_law 367 = .ok (.aload_n 0, 1) := by decide +kernel
theorem d_W_law_368 : decode b_W_law 368 = .ok (.iload 4, 2) := by decide +kernel
theorem d_W_law_370 : decode b_W_law 370 = .ok (.iconst 2, 1) := by decide +kernel
theorem d_W_law_371 : decode b_W_law 371 = .ok (.iadd, 1) := by decide +kernel
theorem d_W_law_372 : decode b_W_law 372 = .ok (.iaload, 1) := by decide +kernel
theorem d_W_law_373 : decode b_W_law 373 = .ok (.aload_n 0, 1) := by decide +kernel
theorem d_W_law_374 : decode b_W_law 374 = .ok (.iload 4, 2) := by decide +kernel
theorem d_W_law_376 : decode b_W_law 376 = .ok (.iconst 3, 1) := by decide +kernel
theorem d_W_law_377 : decode b_W_law 377 = .ok (.iadd, 1) := by decide +kernel
theorem d_W_law_378 : decode b_W_law 378 = .ok (.iaload, 1) := by decide +kernel
theorem d_W_law_379 : decode b_W_law 379 = .ok (.aload_n 0, 1) := by decide +kernel
theorem d_W_law_380 : decode b_W_law 380 = .ok (.iload 4, 2) := by decide +kernel
theorem d_W_law_382 : decode b_W_law 382 = .ok (.iconst 4, 1) := by decide +kernel
theorem d_W_law_383 : decode b_W_law 383 = .ok (.iadd, 1) := by decide +kernel
theorem d_W_law_384 : decode b_W_law 384 = .ok (.iaload, 1) := by decide +kernel
theorem d_W_law_385 : decode b_W_law 385 = .ok (.aload_n 0, 1) := by decide +kernel
theorem d_W_law_386 : decode b_W_law 386 = .ok (.iload 4, 2) := by decide +kernel
theorem d_W_law_388 : decode b_W_law 388 = .ok (.iconst 5, 1) := by decide +kernel
theorem d_W_law_389 : decode b_W_law 389 = .ok (.iadd, 1) := by decide +kernel
theorem d_W_law_390 : decode b_W_law 390 = .ok (.iaload, 1) := by decide +kernel
theorem d_W_law_391 : decode b_W_law 391 = .ok (.aload_n 3, 1) := by decide +kernel
theorem d_W_law_392 : decode b_W_law 392 = .ok (.invokestatic 97, 3) := by decide +kernel
theorem d_W_law_395 : decode b_W_law 395 = .ok (.istore 5, 2) := by decide +kernel
theorem d_W_law_397 : decode b_W_law 397 = .ok (.aload_n 2, 1) := by decide +kernel
theorem d_W_law_398 : decode b_W_law 398 = .ok (.aload_n 0, 1) := by decide +kernel
theorem d_W_law_399 : decode b_W_law 399 = .ok (.iload 4, 2) := by decide +kernel
theorem d_W_law_401 : decode b_W_law 401 = .ok (.iconst 1, 1) := by decide +kernel
theorem d_W_law_402 : decode b_W_law 402 = .ok (.iadd, 1) := by decide +kernel
theorem d_W_law_403 : decode b_W_law 403 = .ok (.iaload, 1) := by decide +kernel
theorem d_W_law_404 : decode b_W_law 404 = .ok (.aload_n 0, 1) := by decide +kernel
theorem d_W_law_405 : decode b_W_law 405 = .ok (.iload 4, 2) := by decide +kernel
theorem d_W_law_407 : decode b_W_law 407 = .ok (.iconst 2, 1) := by decide +kernel
theorem d_W_law_408 : decode b_W_law 408 = .ok (.iadd, 1) := by decide +kernel
theorem d_W_law_409 : decode b_W_law 409 = .ok (.iaload, 1) := by decide +kernel
theorem d_W_law_410 : decode b_W_law 410 = .ok (.aload_n 0, 1) := by decide +kernel
theorem d_W_law_411 : decode b_W_law 411 = .ok (.iload 4, 2) := by decide +kernel
theorem d_W_law_413 : decode b_W_law 413 = .ok (.iconst 3, 1) := by decide +kernel
theorem d_W_law_414 : decode b_W_law 414 = .ok (.iadd, 1) := by decide +kernel
theorem d_W_law_415 : decode b_W_law 415 = .ok (.iaload, 1) := by decide +kernel
theorem d_W_law_416 : decode b_W_law 416 = .ok (.aload_n 0, 1) := by decide +kernel
theorem d_W_law_417 : decode b_W_law 417 = .ok (.iload 4, 2) := by decide +kernel
theorem d_W_law_419 : decode b_W_law 419 = .ok (.iconst 4, 1) := by decide +kernel
theorem d_W_law_420 : decode b_W_law 420 = .ok (.iadd, 1) := by decide +kernel
theorem d_W_law_421 : decode b_W_law 421 = .ok (.iaload, 1) := by decide +kernel
theorem d_W_law_422 : decode b_W_law 422 = .ok (.aload_n 0, 1) := by decide +kernel
theorem d_W_law_423 : decode b_W_law 423 = .ok (.iload 4, 2) := by decide +kernel
theorem d_W_law_425 : decode b_W_law 425 = .ok (.iconst 5, 1) := by decide +kernel
theorem d_W_law_426 : decode b_W_law 426 = .ok (.iadd, 1) := by decide +kernel
theorem d_W_law_427 : decode b_W_law 427 = .ok (.iaload, 1) := by decide +kernel
theorem d_W_law_428 : decode b_W_law 428 = .ok (.invokevirtual 99, 3) := by decide +kernel
theorem d_W_law_431 : decode b_W_law 431 = .ok (.istore 6, 2) := by decide +kernel
theorem d_W_law_433 : decode b_W_law 433 = .ok (.aload_n 2, 1) := by decide +kernel
theorem d_W_law_434 : decode b_W_law 434 = .ok (.invokevirtual 85, 3) := by decide +kernel
theorem d_W_law_437 : decode b_W_law 437 = .ok (.iload 5, 2) := by decide +kernel
theorem d_W_law_439 : decode b_W_law 439 = .ok (.if_icmp .eq 5, 3) := by decide +kernel
theorem d_W_law_442 : decode b_W_law 442 = .ok (.iconst 0, 1) := by decide +kernel
theorem d_W_law_443 : decode b_W_law 443 = .ok (.ireturn, 1) := by decide +kernel
theorem d_W_law_444 : decode b_W_law 444 = .ok (.iload 5, 2) := by decide +kernel
theorem d_W_law_446 : decode b_W_law 446 = .ok (.ifCond .ne 15, 3) := by decide +kernel
theorem d_W_law_449 : decode b_W_law 449 = .ok (.aload_n 3, 1) := by decide +kernel
theorem d_W_law_450 : decode b_W_law 450 = .ok (.iconst 0, 1) := by decide +kernel
theorem d_W_law_451 : decode b_W_law 451 = .ok (.laload, 1) := by decide +kernel
theorem d_W_law_452 : decode b_W_law 452 = .ok (.iload 6, 2) := by decide +kernel
theorem d_W_law_454 : decode b_W_law 454 = .ok (.i2l, 1) := by decide +kernel
theorem d_W_law_455 : decode b_W_law 455 = .ok (.lcmp, 1) := by decide +kernel
theorem d_W_law_456 : decode b_W_law 456 = .ok (.ifCond .eq 5, 3) := by decide +kernel
theorem d_W_law_459 : decode b_W_law 459 = .ok (.iconst 0, 1) := by decide +kernel
theorem d_W_law_460 : decode b_W_law 460 = .ok (.ireturn, 1) := by decide +kernel
theorem d_W_law_461 : decode b_W_law 461 = .ok (.goto 993, 3) := by decide +kernel
theorem d_W_law_464 : decode b_W_law 464 = .ok (.aload_n 1, 1) := by decide +kernel
theorem d_W_law_465 : decode b_W_law 465 = .ok (.aload_n 0, 1) := by decide +kernel
theorem d_W_law_466 : decode b_W_law 466 = .ok (.iload 4, 2) := by decide +kernel
theorem d_W_law_468 : decode b_W_law 468 = .ok (.iconst 1, 1) := by decide +kernel
theorem d_W_law_469 : decode b_W_law 469 = .ok (.iadd, 1) := by decide +kernel
theorem d_W_law_470 : decode b_W_law 470 = .ok (.iaload, 1) := by decide +kernel
theorem d_W_law_471 : decode b_W_law 471 = .ok (.aload_n 0, 1) := by decide +kernel
theorem d_W_law_472 : decode b_W_law 472 = .ok (.iload 4, 2) := by decide +kernel
theorem d_W_law_474 : decode b_W_law 474 = .ok (.iconst 2, 1) := by decide +kernel
theorem d_W_law_475 : decode b_W_law 475 = .ok (.iadd, 1) := by decide +kernel
theorem d_W_law_476 : decode b_W_law 476 = .ok (.iaload, 1) := by decide +kernel
theorem d_W_law_477 : decode b_W_law 477 = .ok (.aload_n 0, 1) := by decide +kernel
theorem d_W_law_478 : decode b_W_law 478 = .ok (.iload 4, 2) := by decide +kernel
theorem d_W_law_480 : decode b_W_law 480 = .ok (.iconst 3, 1) := by decide +kernel
theorem d_W_law_481 : decode b_W_law 481 = .ok (.iadd, 1) := by decide +kernel
theorem d_W_law_482 : decode b_W_law 482 = .ok (.iaload, 1) := by decide +kernel
theorem d_W_law_483 : decode b_W_law 483 = .ok (.ifCond .eq 7, 3) := by decide +kernel
theorem d_W_law_486 : decode b_W_law 486 = .ok (.iconst 1, 1) := by decide +kernel
theorem d_W_law_487 : decode b_W_law 487 = .ok (.goto 4, 3) := by decide +kernel
theorem d_W_law_490 : decode b_W_law 490 = .ok (.iconst 0, 1) := by decide +kernel
theorem d_W_law_491 : decode b_W_law 491 = .ok (.aload_n 3, 1) := by decide +kernel
theorem d_W_law_492 : decode b_W_law 492 = .ok (.invokestatic 100, 3) := by decide +kernel
theorem d_W_law_495 : decode b_W_law 495 = .ok (.istore 5, 2) := by decide +kernel
theorem d_W_law_497 : decode b_W_law 497 = .ok (.aload_n 2, 1) := by decide +kernel
theorem d_W_law_498 : decode b_W_law 498 = .ok (.aload_n 0, 1) := by decide +kernel
theorem d_W_law_499 : decode b_W_law 499 = .ok (.iload 4, 2) := by decide +kernel
theorem d_W_law_501 : decode b_W_law 501 = .ok (.iconst 1, 1) := by decide +kernel
theorem d_W_law_502 : decode b_W_law 502 = .ok (.iadd, 1) := by decide +kernel
theorem d_W_law_503 : decode b_W_law 503 = .ok (.iaload, 1) := by decide +kernel
theorem d_W_law_504 : decode b_W_law 504 = .ok (.aload_n 0, 1) := by decide +kernel
theorem d_W_law_505 : decode b_W_law 505 = .ok (.iload 4, 2) := by decide +kernel
theorem d_W_law_507 : decode b_W_law 507 = .ok (.iconst 2, 1) := by decide +kernel
theorem d_W_law_508 : decode b_W_law 508 = .ok (.iadd, 1) := by decide +kernel
theorem d_W_law_509 : decode b_W_law 509 = .ok (.iaload, 1) := by decide +kernel
theorem d_W_law_510 : decode b_W_law 510 = .ok (.aload_n 0, 1) := by decide +kernel
theorem d_W_law_511 : decode b_W_law 511 = .ok (.iload 4, 2) := by decide +kernel
theorem d_W_law_513 : decode b_W_law 513 = .ok (.iconst 3, 1) := by decide +kernel
theorem d_W_law_514 : decode b_W_law 514 = .ok (.iadd, 1) := by decide +kernel
theorem d_W_law_515 : decode b_W_law 515 = .ok (.iaload, 1) := by decide +kernel
theorem d_W_law_516 : decode b_W_law 516 = .ok (.ifCond .eq 7, 3) := by decide +kernel
theorem d_W_law_519 : decode b_W_law 519 = .ok (.iconst 1, 1) := by decide +kernel
theorem d_W_law_520 : decode b_W_law 520 = .ok (.goto 4, 3) := by decide +kernel
theorem d_W_law_523 : decode b_W_law 523 = .ok (.iconst 0, 1) := by decide +kernel
theorem d_W_law_524 : decode b_W_law 524 = .ok (.invokevirtual 103, 3) := by decide +kernel
theorem d_W_law_527 : decode b_W_law 527 = .ok (.istore 6, 2) := by decide +kernel
theorem d_W_law_529 : decode b_W_law 529 = .ok (.aload_n 2, 1) := by decide +kernel
theorem d_W_law_530 : decode b_W_law 530 = .ok (.invokevirtual 85, 3) := by decide +kernel
theorem d_W_law_533 : decode b_W_law 533 = .ok (.iload 5, 2) := by decide +kernel
theorem d_W_law_535 : decode b_W_law 535 = .ok (.if_icmp .eq 5, 3) := by decide +kernel
theorem d_W_law_538 : decode b_W_law 538 = .ok (.iconst 0, 1) := by decide +kernel
theorem d_W_law_539 : decode b_W_law 539 = .ok (.ireturn, 1) := by decide +kernel
theorem d_W_law_540 : decode b_W_law 540 = .ok (.iload 5, 2) := by decide +kernel
theorem d_W_law_542 : decode b_W_law 542 = .ok (.ifCond .ne 15, 3) := by decide +kernel
theorem d_W_law_545 : decode b_W_law 545 = .ok (.aload_n 3, 1) := by decide +kernel
theorem d_W_law_546 : decode b_W_law 546 = .ok (.iconst 0, 1) := by decide +kernel
theorem d_W_law_547 : decode b_W_law 547 = .ok (.laload, 1) := by decide +kernel
theorem d_W_law_548 : decode b_W_law 548 = .ok (.iload 6, 2) := by decide +kernel
theorem d_W_law_550 : decode b_W_law 550 = .ok (.i2l, 1) := by decide +kernel
theorem d_W_law_551 : decode b_W_law 551 = .ok (.lcmp, 1) := by decide +kernel
theorem d_W_law_552 : decode b_W_law 552 = .ok (.ifCond .eq 5, 3) := by decide +kernel
theorem d_W_law_555 : decode b_W_law 555 = .ok (.iconst 0, 1) := by decide +kernel
theorem d_W_law_556 : decode b_W_law 556 = .ok (.ireturn, 1) := by decide +kernel
theorem d_W_law_557 : decode b_W_law 557 = .ok (.goto 897, 3) := by decide +kernel
theorem d_W_law_560 : decode b_W_law 560 = .ok (.aload_n 1, 1) := by decide +kernel
theorem d_W_law_561 : decode b_W_law 561 = .ok (.invokevirtual 104, 3) := by decide +kernel
theorem d_W_law_564 : decode b_W_law 564 = .ok (.aload_n 2, 1) := by decide +kernel
theorem d_W_law_565 : decode b_W_law 565 = .ok (.invokevirtual 107, 3) := by decide +kernel
theorem d_W_law_568 : decode b_W_law 568 = .ok (.if_icmp .eq 886, 3) := by decide +kernel
theorem d_W_law_571 : decode b_W_law 571 = .ok (.iconst 0, 1) := by decide +kernel
theorem d_W_law_572 : decode b_W_law 572 = .ok (.ireturn, 1) := by decide +kernel
theorem d_W_law_573 : decode b_W_law 573 = .ok (.aload_n 1, 1) := by decide +kernel
theorem d_W_law_574 : decode b_W_law 574 = .ok (.aload_n 0, 1) := by decide +kernel
theorem d_W_law_575 : decode b_W_law 575 = .ok (.iload 4, 2) := by decide +kernel
theorem d_W_law_577 : decode b_W_law 577 = .ok (.iconst 1, 1) := by decide +kernel
theorem d_W_law_578 : decode b_W_law 578 = .ok (.iadd, 1) := by decide +kernel
theorem d_W_law_579 : decode b_W_law 579 = .ok (.iaload, 1) := by decide +kernel
theorem d_W_law_580 : decode b_W_law 580 = .ok (.aload_n 0, 1) := by decide +kernel
theorem d_W_law_581 : decode b_W_law 581 = .ok (.iload 4, 2) := by decide +kernel
theorem d_W_law_583 : decode b_W_law 583 = .ok (.iconst 2, 1) := by decide +kernel
theorem d_W_law_584 : decode b_W_law 584 = .ok (.iadd, 1) := by decide +kernel
theorem d_W_law_585 : decode b_W_law 585 = .ok (.iaload, 1) := by decide +kernel
theorem d_W_law_586 : decode b_W_law 586 = .ok (.aload_n 3, 1) := by decide +kernel
theorem d_W_law_587 : decode b_W_law 587 = .ok (.invokestatic 108, 3) := by decide +kernel
theorem d_W_law_590 : decode b_W_law 590 = .ok (.istore 5, 2) := by decide +kernel
theorem d_W_law_592 : decode b_W_law 592 = .ok (.aload_n 2, 1) := by decide +kernel
theorem d_W_law_593 : decode b_W_law 593 = .ok (.aload_n 0, 1) := by decide +kernel
theorem d_W_law_594 : decode b_W_law 594 = .ok (.iload 4, 2) := by decide +kernel
theorem d_W_law_596 : decode b_W_law 596 = .ok (.iconst 1, 1) := by decide +kernel
theorem d_W_law_597 : decode b_W_law 597 = .ok (.iadd, 1) := by decide +kernel
theorem d_W_law_598 : decode b_W_law 598 = .ok (.iaload, 1) := by decide +kernel
theorem d_W_law_599 : decode b_W_law 599 = .ok (.aload_n 0, 1) := by decide +kernel
theorem d_W_law_600 : decode b_W_law 600 = .ok (.iload 4, 2) := by decide +kernel
theorem d_W_law_602 : decode b_W_law 602 = .ok (.iconst 2, 1) := by decide +kernel
theorem d_W_law_603 : decode b_W_law 603 = .ok (.iadd, 1) := by decide +kernel
theorem d_W_law_604 : decode b_W_law 604 = .ok (.iaload, 1) := by decide +kernel
theorem d_W_law_605 : decode b_W_law 605 = .ok (.invokevirtual 110, 3) := by decide +kernel
theorem d_W_law_608 : decode b_W_law 608 = .ok (.istore 6, 2) := by decide +kernel
theorem d_W_law_610 : decode b_W_law 610 = .ok (.aload_n 2, 1) := by decide +kernel
theorem d_W_law_611 : decode b_W_law 611 = .ok (.invokevirtual 85, 3) := by decide +kernel
theorem d_W_law_614 : decode b_W_law 614 = .ok (.iload 5, 2) := by decide +kernel
theorem d_W_law_616 : decode b_W_law 616 = .ok (.if_icmp .eq 5, 3) := by decide +kernel
theorem d_W_law_619 : decode b_W_law 619 = .ok (.iconst 0, 1) := by decide +kernel
theorem d_W_law_620 : decode b_W_law 620 = .ok (.ireturn, 1) := by decide +kernel
theorem d_W_law_621 : decode b_W_law 621 = .ok (.iload 5, 2) := by decide +kernel
theorem d_W_law_623 : decode b_W_law 623 = .ok (.ifCond .ne 15, 3) := by decide +kernel
theorem d_W_law_626 : decode b_W_law 626 = .ok (.aload_n 3, 1) := by decide +kernel
theorem d_W_law_627 : decode b_W_law 627 = .ok (.iconst 0, 1) := by decide +kernel
theorem d_W_law_628 : decode b_W_law 628 = .ok (.laload, 1) := by decide +kernel
theorem d_W_law_629 : decode b_W_law 629 = .ok (.iload 6, 2) := by decide +kernel
theorem d_W_law_631 : decode b_W_law 631 = .ok (.i2l, 1) := by decide +kernel
theorem d_W_law_632 : decode b_W_law 632 = .ok (.lcmp, 1) := by decide +kernel
theorem d_W_law_633 : decode b_W_law 633 = .ok (.ifCond .eq 5, 3) := by decide +kernel
theorem d_W_law_636 : decode b_W_law 636 = .ok (.iconst 0, 1) := by decide +kernel
theorem d_W_law_637 : decode b_W_law 637 = .ok (.ireturn, 1) := by decide +kernel
theorem d_W_law_638 : decode b_W_law 638 = .ok (.goto 816, 3) := by decide +kernel
theorem d_W_law_641 : decode b_W_law 641 = .ok (.aload_n 1, 1) := by decide +kernel
theorem d_W_law_642 : decode b_W_law 642 = .ok (.aload_n 0, 1) := by decide +kernel
theorem d_W_law_643 : decode b_W_law 643 = .ok (.iload 4, 2) := by decide +kernel
theorem d_W_law_645 : decode b_W_law 645 = .ok (.iconst 1, 1) := by decide +kernel
theorem d_W_law_646 : decode b_W_law 646 = .ok (.iadd, 1) := by decide +kernel
theorem d_W_law_647 : decode b_W_law 647 = .ok (.iaload, 1) := by decide +kernel
theorem d_W_law_648 : decode b_W_law 648 = .ok (.aload_n 0, 1) := by decide +kernel
theorem d_W_law_649 : decode b_W_law 649 = .ok (.iload 4, 2) := by decide +kernel
theorem d_W_law_651 : decode b_W_law 651 = .ok (.iconst 2, 1) := by decide +kernel
theorem d_W_law_652 : decode b_W_law 652 = .ok (.iadd, 1) := by decide +kernel
theorem d_W_law_653 : decode b_W_law 653 = .ok (.iaload, 1) := by decide +kernel
theorem d_W_law_654 : decode b_W_law 654 = .ok (.aload_n 3, 1) := by decide +kernel
theorem d_W_law_655 : decode b_W_law 655 = .ok (.invokestatic 111, 3) := by decide +kernel
theorem d_W_law_658 : decode b_W_law 658 = .ok (.istore 5, 2) := by decide +kernel
theorem d_W_law_660 : decode b_W_law 660 = .ok (.aload_n 2, 1) := by decide +kernel
theorem d_W_law_661 : decode b_W_law 661 = .ok (.aload_n 0, 1) := by decide +kernel
theorem d_W_law_662 : decode b_W_law 662 = .ok (.iload 4, 2) := by decide +kernel
theorem d_W_law_664 : decode b_W_law 664 = .ok (.iconst 1, 1) := by decide +kernel
theorem d_W_law_665 : decode b_W_law 665 = .ok (.iadd, 1) := by decide +kernel
theorem d_W_law_666 : decode b_W_law 666 = .ok (.iaload, 1) := by decide +kernel
theorem d_W_law_667 : decode b_W_law 667 = .ok (.aload_n 0, 1) := by decide +kernel
theorem d_W_law_668 : decode b_W_law 668 = .ok (.iload 4, 2) := by decide +kernel
theorem d_W_law_670 : decode b_W_law 670 = .ok (.iconst 2, 1) := by decide +kernel
theorem d_W_law_671 : decode b_W_law 671 = .ok (.iadd, 1) := by decide +kernel
theorem d_W_law_672 : decode b_W_law 672 = .ok (.iaload, 1) := by decide +kernel
theorem d_W_law_673 : decode b_W_law 673 = .ok (.invokevirtual 113, 3) := by decide +kernel
theorem d_W_law_676 : decode b_W_law 676 = .ok (.istore 6, 2) := by decide +kernel
theorem d_W_law_678 : decode b_W_law 678 = .ok (.aload_n 2, 1) := by decide +kernel
theorem d_W_law_679 : decode b_W_law 679 = .ok (.invokevirtual 85, 3) := by decide +kernel
theorem d_W_law_682 : decode b_W_law 682 = .ok (.iload 5, 2) := by decide +kernel
theorem d_W_law_684 : decode b_W_law 684 = .ok (.if_icmp .eq 5, 3) := by decide +kernel
theorem d_W_law_687 : decode b_W_law 687 = .ok (.iconst 0, 1) := by decide +kernel
theorem d_W_law_688 : decode b_W_law 688 = .ok (.ireturn, 1) := by decide +kernel
theorem d_W_law_689 : decode b_W_law 689 = .ok (.iload 5, 2) := by decide +kernel
theorem d_W_law_691 : decode b_W_law 691 = .ok (.ifCond .ne 15, 3) := by decide +kernel
theorem d_W_law_694 : decode b_W_law 694 = .ok (.aload_n 3, 1) := by decide +kernel
theorem d_W_law_695 : decode b_W_law 695 = .ok (.iconst 0, 1) := by decide +kernel
theorem d_W_law_696 : decode b_W_law 696 = .ok (.laload, 1) := by decide +kernel
theorem d_W_law_697 : decode b_W_law 697 = .ok (.iload 6, 2) := by decide +kernel
theorem d_W_law_699 : decode b_W_law 699 = .ok (.i2l, 1) := by decide +kernel
theorem d_W_law_700 : decode b_W_law 700 = .ok (.lcmp, 1) := by decide +kernel
theorem d_W_law_701 : decode b_W_law 701 = .ok (.ifCond .eq 5, 3) := by decide +kernel
theorem d_W_law_704 : decode b_W_law 704 = .ok (.iconst 0, 1) := by decide +kernel
theorem d_W_law_705 : decode b_W_law 705 = .ok (.ireturn, 1) := by decide +kernel
theorem d_W_law_706 : decode b_W_law 706 = .ok (.goto 748, 3) := by decide +kernel
theorem d_W_law_709 : decode b_W_law 709 = .ok (.aload_n 1, 1) := by decide +kernel
theorem d_W_law_710 : decode b_W_law 710 = .ok (.aload_n 0, 1) := by decide +kernel
theorem d_W_law_711 : decode b_W_law 711 = .ok (.iload 4, 2) := by decide +kernel
theorem d_W_law_713 : decode b_W_law 713 = .ok (.iconst 1, 1) := by decide +kernel
theorem d_W_law_714 : decode b_W_law 714 = .ok (.iadd, 1) := by decide +kernel
theorem d_W_law_715 : decode b_W_law 715 = .ok (.iaload, 1) := by decide +kernel
theorem d_W_law_716 : decode b_W_law 716 = .ok (.aload_n 3, 1) := by decide +kernel
theorem d_W_law_717 : decode b_W_law 717 = .ok (.invokestatic 114, 3) := by decide +kernel
theorem d_W_law_720 : decode b_W_law 720 = .ok (.istore 5, 2) := by decide +kernel
theorem d_W_law_722 : decode b_W_law 722 = .ok (.aload_n 2, 1) := by decide +kernel
theorem d_W_law_723 : decode b_W_law 723 = .ok (.aload_n 0, 1) := by decide +kernel
theorem d_W_law_724 : decode b_W_law 724 = .ok (.iload 4, 2) := by decide +kernel
theorem d_W_law_726 : decode b_W_law 726 = .ok (.iconst 1, 1) := by decide +kernel
theorem d_W_law_727 : decode b_W_law 727 = .ok (.iadd, 1) := by decide +kernel
theorem d_W_law_728 : decode b_W_law 728 = .ok (.iaload, 1) := by decide +kernel
theorem d_W_law_729 : decode b_W_law 729 = .ok (.invokevirtual 116, 3) := by decide +kernel
theorem d_W_law_732 : decode b_W_law 732 = .ok (.istore 6, 2) := by decide +kernel
theorem d_W_law_734 : decode b_W_law 734 = .ok (.aload_n 2, 1) := by decide +kernel
theorem d_W_law_735 : decode b_W_law 735 = .ok (.invokevirtual 85, 3) := by decide +kernel
theorem d_W_law_738 : decode b_W_law 738 = .ok (.iload 5, 2) := by decide +kernel
theorem d_W_law_740 : decode b_W_law 740 = .ok (.if_icmp .eq 5, 3) := by decide +kernel
theorem d_W_law_743 : decode b_W_law 743 = .ok (.iconst 0, 1) := by decide +kernel
theorem d_W_law_744 : decode b_W_law 744 = .ok (.ireturn, 1) := by decide +kernel
theorem d_W_law_745 : decode b_W_law 745 = .ok (.iload 5, 2) := by decide +kernel
theorem d_W_law_747 : decode b_W_law 747 = .ok (.ifCond .ne 15, 3) := by decide +kernel
theorem d_W_law_750 : decode b_W_law 750 = .ok (.aload_n 3, 1) := by decide +kernel
theorem d_W_law_751 : decode b_W_law 751 = .ok (.iconst 0, 1) := by decide +kernel
theorem d_W_law_752 : decode b_W_law 752 = .ok (.laload, 1) := by decide +kernel
theorem d_W_law_753 : decode b_W_law 753 = .ok (.iload 6, 2) := by decide +kernel
theorem d_W_law_755 : decode b_W_law 755 = .ok (.i2l, 1) := by decide +kernel
theorem d_W_law_756 : decode b_W_law 756 = .ok (.lcmp, 1) := by decide +kernel
theorem d_W_law_757 : decode b_W_law 757 = .ok (.ifCond .eq 5, 3) := by decide +kernel
theorem d_W_law_760 : decode b_W_law 760 = .ok (.iconst 0, 1) := by decide +kernel
theorem d_W_law_761 : decode b_W_law 761 = .ok (.ireturn, 1) := by decide +kernel
theorem d_W_law_762 : decode b_W_law 762 = .ok (.goto 692, 3) := by decide +kernel
theorem d_W_law_765 : decode b_W_law 765 = .ok (.aload_n 1, 1) := by decide +kernel
theorem d_W_law_766 : decode b_W_law 766 = .ok (.aload_n 0, 1) := by decide +kernel
theorem d_W_law_767 : decode b_W_law 767 = .ok (.iload 4, 2) := by decide +kernel
theorem d_W_law_769 : decode b_W_law 769 = .ok (.iconst 1, 1) := by decide +kernel
theorem d_W_law_770 : decode b_W_law 770 = .ok (.iadd, 1) := by decide +kernel
theorem d_W_law_771 : decode b_W_law 771 = .ok (.iaload, 1) := by decide +kernel
theorem d_W_law_772 : decode b_W_law 772 = .ok (.aload_n 0, 1) := by decide +kernel
theorem d_W_law_773 : decode b_W_law 773 = .ok (.iload 4, 2) := by decide +kernel
theorem d_W_law_775 : decode b_W_law 775 = .ok (.iconst 2, 1) := by decide +kernel
theorem d_W_law_776 : decode b_W_law 776 = .ok (.iadd, 1) := by decide +kernel
theorem d_W_law_777 : decode b_W_law 777 = .ok (.iaload, 1) := by decide +kernel
theorem d_W_law_778 : decode b_W_law 778 = .ok (.aload_n 0, 1) := by decide +kernel
theorem d_W_law_779 : decode b_W_law 779 = .ok (.iload 4, 2) := by decide +kernel
theorem d_W_law_781 : decode b_W_law 781 = .ok (.iconst 3, 1) := by decide +kernel
theorem d_W_law_782 : decode b_W_law 782 = .ok (.iadd, 1) := by decide +kernel
theorem d_W_law_783 : decode b_W_law 783 = .ok (.iaload, 1) := by decide +kernel
theorem d_W_law_784 : decode b_W_law 784 = .ok (.ifCond .eq 7, 3) := by decide +kernel
theorem d_W_law_787 : decode b_W_law 787 = .ok (.iconst 1, 1) := by decide +kernel
theorem d_W_law_788 : decode b_W_law 788 = .ok (.goto 4, 3) := by decide +kernel
theorem d_W_law_791 : decode b_W_law 791 = .ok (.iconst 0, 1) := by decide +kernel
theorem d_W_law_792 : decode b_W_law 792 = .ok (.aload_n 3, 1) := by decide +kernel
theorem d_W_law_793 : decode b_W_law 793 = .ok (.invokestatic 117, 3) := by decide +kernel
theorem d_W_law_796 : decode b_W_law 796 = .ok (.istore 5, 2) := by decide +kernel
theorem d_W_law_798 : decode b_W_law 798 = .ok (.aload_n 2, 1) := by decide +kernel
theorem d_W_law_799 : decode b_W_law 799 = .ok (.aload_n 0, 1) := by decide +kernel
theorem d_W_law_800 : decode b_W_law 800 = .ok (.iload 4, 2) := by decide +kernel
theorem d_W_law_802 : decode b_W_law 802 = .ok (.iconst 1, 1) := by decide +kernel
theorem d_W_law_803 : decode b_W_law 803 = .ok (.iadd, 1) := by decide +kernel
theorem d_W_law_804 : decode b_W_law 804 = .ok (.iaload, 1) := by decide +kernel
theorem d_W_law_805 : decode b_W_law 805 = .ok (.aload_n 0, 1) := by decide +kernel
theorem d_W_law_806 : decode b_W_law 806 = .ok (.iload 4, 2) := by decide +kernel
theorem d_W_law_808 : decode b_W_law 808 = .ok (.iconst 2, 1) := by decide +kernel
theorem d_W_law_809 : decode b_W_law 809 = .ok (.iadd, 1) := by decide +kernel
theorem d_W_law_810 : decode b_W_law 810 = .ok (.iaload, 1) := by decide +kernel
theorem d_W_law_811 : decode b_W_law 811 = .ok (.aload_n 0, 1) := by decide +kernel
theorem d_W_law_812 : decode b_W_law 812 = .ok (.iload 4, 2) := by decide +kernel
theorem d_W_law_814 : decode b_W_law 814 = .ok (.iconst 3, 1) := by decide +kernel
theorem d_W_law_815 : decode b_W_law 815 = .ok (.iadd, 1) := by decide +kernel
theorem d_W_law_816 : decode b_W_law 816 = .ok (.iaload, 1) := by decide +kernel
theorem d_W_law_817 : decode b_W_law 817 = .ok (.ifCond .eq 7, 3) := by decide +kernel
theorem d_W_law_820 : decode b_W_law 820 = .ok (.iconst 1, 1) := by decide +kernel
theorem d_W_law_821 : decode b_W_law 821 = .ok (.goto 4, 3) := by decide +kernel
theorem d_W_law_824 : decode b_W_law 824 = .ok (.iconst 0, 1) := by decide +kernel
theorem d_W_law_825 : decode b_W_law 825 = .ok (.invokevirtual 119, 3) := by decide +kernel
theorem d_W_law_828 : decode b_W_law 828 = .ok (.istore 6, 2) := by decide +kernel
theorem d_W_law_830 : decode b_W_law 830 = .ok (.aload_n 2, 1) := by decide +kernel
theorem d_W_law_831 : decode b_W_law 831 = .ok (.invokevirtual 85, 3) := by decide +kernel
theorem d_W_law_834 : decode b_W_law 834 = .ok (.iload 5, 2) := by decide +kernel
theorem d_W_law_836 : decode b_W_law 836 = .ok (.if_icmp .eq 5, 3) := by decide +kernel
theorem d_W_law_839 : decode b_W_law 839 = .ok (.iconst 0, 1) := by decide +kernel
theorem d_W_law_840 : decode b_W_law 840 = .ok (.ireturn, 1) := by decide +kernel
theorem d_W_law_841 : decode b_W_law 841 = .ok (.iload 5, 2) := by decide +kernel
theorem d_W_law_843 : decode b_W_law 843 = .ok (.ifCond .ne 15, 3) := by decide +kernel
theorem d_W_law_846 : decode b_W_law 846 = .ok (.aload_n 3, 1) := by decide +kernel
theorem d_W_law_847 : decode b_W_law 847 = .ok (.iconst 0, 1) := by decide +kernel
theorem d_W_law_848 : decode b_W_law 848 = .ok (.laload, 1) := by decide +kernel
theorem d_W_law_849 : decode b_W_law 849 = .ok (.iload 6, 2) := by decide +kernel
theorem d_W_law_851 : decode b_W_law 851 = .ok (.i2l, 1) := by decide +kernel
theorem d_W_law_852 : decode b_W_law 852 = .ok (.lcmp, 1) := by decide +kernel
theorem d_W_law_853 : decode b_W_law 853 = .ok (.ifCond .eq 5, 3) := by decide +kernel
theorem d_W_law_856 : decode b_W_law 856 = .ok (.iconst 0, 1) := by decide +kernel
theorem d_W_law_857 : decode b_W_law 857 = .ok (.ireturn, 1) := by decide +kernel
theorem d_W_law_858 : decode b_W_law 858 = .ok (.goto 596, 3) := by decide +kernel
theorem d_W_law_861 : decode b_W_law 861 = .ok (.aload_n 1, 1) := by decide +kernel
theorem d_W_law_862 : decode b_W_law 862 = .ok (.invokevirtual 120, 3) := by decide +kernel
theorem d_W_law_865 : decode b_W_law 865 = .ok (.aload_n 2, 1) := by decide +kernel
theorem d_W_law_866 : decode b_W_law 866 = .ok (.invokevirtual 123, 3) := by decide +kernel
theorem d_W_law_869 : decode b_W_law 869 = .ok (.if_icmp .eq 585, 3) := by decide +kernel
theorem d_W_law_872 : decode b_W_law 872 = .ok (.iconst 0, 1) := by decide +kernel
theorem d_W_law_873 : decode b_W_law 873 = .ok (.ireturn, 1) := by decide +kernel
theorem d_W_law_874 : decode b_W_law 874 = .ok (.aload_n 1, 1) := by decide +kernel
theorem d_W_law_875 : decode b_W_law 875 = .ok (.aload_n 0, 1) := by decide +kernel
theorem d_W_law_876 : decode b_W_law 876 = .ok (.iload 4, 2) := by decide +kernel
theorem d_W_law_878 : decode b_W_law 878 = .ok (.iconst 1, 1) := by decide +kernel
theorem d_W_law_879 : decode b_W_law 879 = .ok (.iadd, 1) := by decide +kernel
theorem d_W_law_880 : decode b_W_law 880 = .ok (.iaload, 1) := by decide +kernel
theorem d_W_law_881 : decode b_W_law 881 = .ok (.aload_n 0, 1) := by decide +kernel
theorem d_W_law_882 : decode b_W_law 882 = .ok (.iload 4, 2) := by decide +kernel
theorem d_W_law_884 : decode b_W_law 884 = .ok (.iconst 2, 1) := by decide +kernel
theorem d_W_law_885 : decode b_W_law 885 = .ok (.iadd, 1) := by decide +kernel
theorem d_W_law_886 : decode b_W_law 886 = .ok (.iaload, 1) := by decide +kernel
theorem d_W_law_887 : decode b_W_law 887 = .ok (.aload_n 3, 1) := by decide +kernel
theorem d_W_law_888 : decode b_W_law 888 = .ok (.invokestatic 124, 3) := by decide +kernel
theorem d_W_law_891 : decode b_W_law 891 = .ok (.istore 5, 2) := by decide +kernel
theorem d_W_law_893 : decode b_W_law 893 = .ok (.aload_n 2, 1) := by decide +kernel
theorem d_W_law_894 : decode b_W_law 894 = .ok (.aload_n 0, 1) := by decide +kernel
theorem d_W_law_895 : decode b_W_law 895 = .ok (.iload 4, 2) := by decide +kernel
theorem d_W_law_897 : decode b_W_law 897 = .ok (.iconst 1, 1) := by decide +kernel
theorem d_W_law_898 : decode b_W_law 898 = .ok (.iadd, 1) := by decide +kernel
theorem d_W_law_899 : decode b_W_law 899 = .ok (.iaload, 1) := by decide +kernel
theorem d_W_law_900 : decode b_W_law 900 = .ok (.aload_n 0, 1) := by decide +kernel
theorem d_W_law_901 : decode b_W_law 901 = .ok (.iload 4, 2) := by decide +kernel
theorem d_W_law_903 : decode b_W_law 903 = .ok (.iconst 2, 1) := by decide +kernel
theorem d_W_law_904 : decode b_W_law 904 = .ok (.iadd, 1) := by decide +kernel
theorem d_W_law_905 : decode b_W_law 905 = .ok (.iaload, 1) := by decide +kernel
theorem d_W_law_906 : decode b_W_law 906 = .ok (.invokevirtual 126, 3) := by decide +kernel
theorem d_W_law_909 : decode b_W_law 909 = .ok (.istore 6, 2) := by decide +kernel
theorem d_W_law_911 : decode b_W_law 911 = .ok (.aload_n 2, 1) := by decide +kernel
theorem d_W_law_912 : decode b_W_law 912 = .ok (.invokevirtual 85, 3) := by decide +kernel
theorem d_W_law_915 : decode b_W_law 915 = .ok (.iload 5, 2) := by decide +kernel
theorem d_W_law_917 : decode b_W_law 917 = .ok (.if_icmp .eq 5, 3) := by decide +kernel
theorem d_W_law_920 : decode b_W_law 920 = .ok (.iconst 0, 1) := by decide +kernel
theorem d_W_law_921 : decode b_W_law 921 = .ok (.ireturn, 1) := by decide +kernel
theorem d_W_law_922 : decode b_W_law 922 = .ok (.iload 5, 2) := by decide +kernel
theorem d_W_law_924 : decode b_W_law 924 = .ok (.ifCond .ne 15, 3) := by decide +kernel
theorem d_W_law_927 : decode b_W_law 927 = .ok (.aload_n 3, 1) := by decide +kernel
theorem d_W_law_928 : decode b_W_law 928 = .ok (.iconst 0, 1) := by decide +kernel
theorem d_W_law_929 : decode b_W_law 929 = .ok (.laload, 1) := by decide +kernel
theorem d_W_law_930 : decode b_W_law 930 = .ok (.iload 6, 2) := by decide +kernel
theorem d_W_law_932 : decode b_W_law 932 = .ok (.i2l, 1) := by decide +kernel
theorem d_W_law_933 : decode b_W_law 933 = .ok (.lcmp, 1) := by decide +kernel
theorem d_W_law_934 : decode b_W_law 934 = .ok (.ifCond .eq 5, 3) := by decide +kernel
theorem d_W_law_937 : decode b_W_law 937 = .ok (.iconst 0, 1) := by decide +kernel
theorem d_W_law_938 : decode b_W_law 938 = .ok (.ireturn, 1) := by decide +kernel
theorem d_W_law_939 : decode b_W_law 939 = .ok (.goto 515, 3) := by decide +kernel
theorem d_W_law_942 : decode b_W_law 942 = .ok (.aload_n 1, 1) := by decide +kernel
theorem d_W_law_943 : decode b_W_law 943 = .ok (.aload_n 0, 1) := by decide +kernel
theorem d_W_law_944 : decode b_W_law 944 = .ok (.iload 4, 2) := by decide +kernel
theorem d_W_law_946 : decode b_W_law 946 = .ok (.iconst 1, 1) := by decide +kernel
theorem d_W_law_947 : decode b_W_law 947 = .ok (.iadd, 1) := by decide +kernel
theorem d_W_law_948 : decode b_W_law 948 = .ok (.iaload, 1) := by decide +kernel
theorem d_W_law_949 : decode b_W_law 949 = .ok (.aload_n 0, 1) := by decide +kernel
theorem d_W_law_950 : decode b_W_law 950 = .ok (.iload 4, 2) := by decide +kernel
theorem d_W_law_952 : decode b_W_law 952 = .ok (.iconst 2, 1) := by decide +kernel
theorem d_W_law_953 : decode b_W_law 953 = .ok (.iadd, 1) := by decide +kernel
theorem d_W_law_954 : decode b_W_law 954 = .ok (.iaload, 1) := by decide +kernel
theorem d_W_law_955 : decode b_W_law 955 = .ok (.aload_n 3, 1) := by decide +kernel
theorem d_W_law_956 : decode b_W_law 956 = .ok (.invokestatic 127, 3) := by decide +kernel
theorem d_W_law_959 : decode b_W_law 959 = .ok (.istore 5, 2) := by decide +kernel
theorem d_W_law_961 : decode b_W_law 961 = .ok (.aload_n 2, 1) := by decide +kernel
theorem d_W_law_962 : decode b_W_law 962 = .ok (.aload_n 0, 1) := by decide +kernel
theorem d_W_law_963 : decode b_W_law 963 = .ok (.iload 4, 2) := by decide +kernel
theorem d_W_law_965 : decode b_W_law 965 = .ok (.iconst 1, 1) := by decide +kernel
theorem d_W_law_966 : decode b_W_law 966 = .ok (.iadd, 1) := by decide +kernel
theorem d_W_law_967 : decode b_W_law 967 = .ok (.iaload, 1) := by decide +kernel
theorem d_W_law_968 : decode b_W_law 968 = .ok (.aload_n 0, 1) := by decide +kernel
theorem d_W_law_969 : decode b_W_law 969 = .ok (.iload 4, 2) := by decide +kernel
theorem d_W_law_971 : decode b_W_law 971 = .ok (.iconst 2, 1) := by decide +kernel
theorem d_W_law_972 : decode b_W_law 972 = .ok (.iadd, 1) := by decide +kernel
theorem d_W_law_973 : decode b_W_law 973 = .ok (.iaload, 1) := by decide +kernel
theorem d_W_law_974 : decode b_W_law 974 = .ok (.invokevirtual 129, 3) := by decide +kernel
theorem d_W_law_977 : decode b_W_law 977 = .ok (.istore 6, 2) := by decide +kernel
theorem d_W_law_979 : decode b_W_law 979 = .ok (.aload_n 2, 1) := by decide +kernel
theorem d_W_law_980 : decode b_W_law 980 = .ok (.invokevirtual 85, 3) := by decide +kernel
theorem d_W_law_983 : decode b_W_law 983 = .ok (.iload 5, 2) := by decide +kernel
theorem d_W_law_985 : decode b_W_law 985 = .ok (.if_icmp .eq 5, 3) := by decide +kernel
theorem d_W_law_988 : decode b_W_law 988 = .ok (.iconst 0, 1) := by decide +kernel
theorem d_W_law_989 : decode b_W_law 989 = .ok (.ireturn, 1) := by decide +kernel
theorem d_W_law_990 : decode b_W_law 990 = .ok (.iload 5, 2) := by decide +kernel
theorem d_W_law_992 : decode b_W_law 992 = .ok (.ifCond .ne 15, 3) := by decide +kernel
theorem d_W_law_995 : decode b_W_law 995 = .ok (.aload_n 3, 1) := by decide +kernel
theorem d_W_law_996 : decode b_W_law 996 = .ok (.iconst 0, 1) := by decide +kernel
theorem d_W_law_997 : decode b_W_law 997 = .ok (.laload, 1) := by decide +kernel
theorem d_W_law_998 : decode b_W_law 998 = .ok (.iload 6, 2) := by decide +kernel
theorem d_W_law_1000 : decode b_W_law 1000 = .ok (.i2l, 1) := by decide +kernel
theorem d_W_law_1001 : decode b_W_law 1001 = .ok (.lcmp, 1) := by decide +kernel
theorem d_W_law_1002 : decode b_W_law 1002 = .ok (.ifCond .eq 5, 3) := by decide +kernel
theorem d_W_law_1005 : decode b_W_law 1005 = .ok (.iconst 0, 1) := by decide +kernel
theorem d_W_law_1006 : decode b_W_law 1006 = .ok (.ireturn, 1) := by decide +kernel
theorem d_W_law_1007 : decode b_W_law 1007 = .ok (.goto 447, 3) := by decide +kernel
theorem d_W_law_1010 : decode b_W_law 1010 = .ok (.aload_n 1, 1) := by decide +kernel
theorem d_W_law_1011 : decode b_W_law 1011 = .ok (.aload_n 0, 1) := by decide +kernel
theorem d_W_law_1012 : decode b_W_law 1012 = .ok (.iload 4, 2) := by decide +kernel
theorem d_W_law_1014 : decode b_W_law 1014 = .ok (.iconst 1, 1) := by decide +kernel
theorem d_W_law_1015 : decode b_W_law 1015 = .ok (.iadd, 1) := by decide +kernel
theorem d_W_law_1016 : decode b_W_law 1016 = .ok (.iaload, 1) := by decide +kernel
theorem d_W_law_1017 : decode b_W_law 1017 = .ok (.aload_n 0, 1) := by decide +kernel
theorem d_W_law_1018 : decode b_W_law 1018 = .ok (.iload 4, 2) := by decide +kernel
theorem d_W_law_1020 : decode b_W_law 1020 = .ok (.iconst 2, 1) := by decide +kernel
theorem d_W_law_1021 : decode b_W_law 1021 = .ok (.iadd, 1) := by decide +kernel
theorem d_W_law_1022 : decode b_W_law 1022 = .ok (.iaload, 1) := by decide +kernel
theorem d_W_law_1023 : decode b_W_law 1023 = .ok (.aload_n 3, 1) := by decide +kernel
theorem d_W_law_1024 : decode b_W_law 1024 = .ok (.invokestatic 130, 3) := by decide +kernel
theorem d_W_law_1027 : decode b_W_law 1027 = .ok (.istore 5, 2) := by decide +kernel
theorem d_W_law_1029 : decode b_W_law 1029 = .ok (.aload_n 2, 1) := by decide +kernel
theorem d_W_law_1030 : decode b_W_law 1030 = .ok (.aload_n 0, 1) := by decide +kernel
theorem d_W_law_1031 : decode b_W_law 1031 = .ok (.iload 4, 2) := by decide +kernel
theorem d_W_law_1033 : decode b_W_law 1033 = .ok (.iconst 1, 1) := by decide +kernel
theorem d_W_law_1034 : decode b_W_law 1034 = .ok (.iadd, 1) := by decide +kernel
theorem d_W_law_1035 : decode b_W_law 1035 = .ok (.iaload, 1) := by decide +kernel
theorem d_W_law_1036 : decode b_W_law 1036 = .ok (.aload_n 0, 1) := by decide +kernel
theorem d_W_law_1037 : decode b_W_law 1037 = .ok (.iload 4, 2) := by decide +kernel
theorem d_W_law_1039 : decode b_W_law 1039 = .ok (.iconst 2, 1) := by decide +kernel
theorem d_W_law_1040 : decode b_W_law 1040 = .ok (.iadd, 1) := by decide +kernel
theorem d_W_law_1041 : decode b_W_law 1041 = .ok (.iaload, 1) := by decide +kernel
theorem d_W_law_1042 : decode b_W_law 1042 = .ok (.invokevirtual 132, 3) := by decide +kernel
theorem d_W_law_1045 : decode b_W_law 1045 = .ok (.istore 6, 2) := by decide +kernel
theorem d_W_law_1047 : decode b_W_law 1047 = .ok (.aload_n 2, 1) := by decide +kernel
theorem d_W_law_1048 : decode b_W_law 1048 = .ok (.invokevirtual 85, 3) := by decide +kernel
theorem d_W_law_1051 : decode b_W_law 1051 = .ok (.iload 5, 2) := by decide +kernel
theorem d_W_law_1053 : decode b_W_law 1053 = .ok (.if_icmp .eq 5, 3) := by decide +kernel
theorem d_W_law_1056 : decode b_W_law 1056 = .ok (.iconst 0, 1) := by decide +kernel
theorem d_W_law_1057 : decode b_W_law 1057 = .ok (.ireturn, 1) := by decide +kernel
theorem d_W_law_1058 : decode b_W_law 1058 = .ok (.iload 5, 2) := by decide +kernel
theorem d_W_law_1060 : decode b_W_law 1060 = .ok (.ifCond .ne 15, 3) := by decide +kernel
theorem d_W_law_1063 : decode b_W_law 1063 = .ok (.aload_n 3, 1) := by decide +kernel
theorem d_W_law_1064 : decode b_W_law 1064 = .ok (.iconst 0, 1) := by decide +kernel
theorem d_W_law_1065 : decode b_W_law 1065 = .ok (.laload, 1) := by decide +kernel
theorem d_W_law_1066 : decode b_W_law 1066 = .ok (.iload 6, 2) := by decide +kernel
theorem d_W_law_1068 : decode b_W_law 1068 = .ok (.i2l, 1) := by decide +kernel
theorem d_W_law_1069 : decode b_W_law 1069 = .ok (.lcmp, 1) := by decide +kernel
theorem d_W_law_1070 : decode b_W_law 1070 = .ok (.ifCond .eq 5, 3) := by decide +kernel
theorem d_W_law_1073 : decode b_W_law 1073 = .ok (.iconst 0, 1) := by decide +kernel
theorem d_W_law_1074 : decode b_W_law 1074 = .ok (.ireturn, 1) := by decide +kernel
theorem d_W_law_1075 : decode b_W_law 1075 = .ok (.goto 379, 3) := by decide +kernel
theorem d_W_law_1078 : decode b_W_law 1078 = .ok (.aload_n 1, 1) := by decide +kernel
theorem d_W_law_1079 : decode b_W_law 1079 = .ok (.aload_n 0, 1) := by decide +kernel
theorem d_W_law_1080 : decode b_W_law 1080 = .ok (.iload 4, 2) := by decide +kernel
theorem d_W_law_1082 : decode b_W_law 1082 = .ok (.iconst 1, 1) := by decide +kernel
theorem d_W_law_1083 : decode b_W_law 1083 = .ok (.iadd, 1) := by decide +kernel
theorem d_W_law_1084 : decode b_W_law 1084 = .ok (.iaload, 1) := by decide +kernel
theorem d_W_law_1085 : decode b_W_law 1085 = .ok (.aload_n 0, 1) := by decide +kernel
theorem d_W_law_1086 : decode b_W_law 1086 = .ok (.iload 4, 2) := by decide +kernel
theorem d_W_law_1088 : decode b_W_law 1088 = .ok (.iconst 2, 1) := by decide +kernel
theorem d_W_law_1089 : decode b_W_law 1089 = .ok (.iadd, 1) := by decide +kernel
theorem d_W_law_1090 : decode b_W_law 1090 = .ok (.iaload, 1) := by decide +kernel
theorem d_W_law_1091 : decode b_W_law 1091 = .ok (.aload_n 0, 1) := by decide +kernel
theorem d_W_law_1092 : decode b_W_law 1092 = .ok (.iload 4, 2) := by decide +kernel
theorem d_W_law_1094 : decode b_W_law 1094 = .ok (.iconst 3, 1) := by decide +kernel
theorem d_W_law_1095 : decode b_W_law 1095 = .ok (.iadd, 1) := by decide +kernel
theorem d_W_law_1096 : decode b_W_law 1096 = .ok (.iaload, 1) := by decide +kernel
theorem d_W_law_1097 : decode b_W_law 1097 = .ok (.aload_n 3, 1) := by decide +kernel
theorem d_W_law_1098 : decode b_W_law 1098 = .ok (.invokestatic 133, 3) := by decide +kernel
theorem d_W_law_1101 : decode b_W_law 1101 = .ok (.istore 5, 2) := by decide +kernel
theorem d_W_law_1103 : decode b_W_law 1103 = .ok (.aload_n 2, 1) := by decide +kernel
theorem d_W_law_1104 : decode b_W_law 1104 = .ok (.aload_n 0, 1) := by decide +kernel
theorem d_W_law_1105 : decode b_W_law 1105 = .ok (.iload 4, 2) := by decide +kernel
theorem d_W_law_1107 : decode b_W_law 1107 = .ok (.iconst 1, 1) := by decide +kernel
theorem d_W_law_1108 : decode b_W_law 1108 = .ok (.iadd, 1) := by decide +kernel
theorem d_W_law_1109 : decode b_W_law 1109 = .ok (.iaload, 1) := by decide +kernel
theorem d_W_law_1110 : decode b_W_law 1110 = .ok (.aload_n 0, 1) := by decide +kernel
theorem d_W_law_1111 : decode b_W_law 1111 = .ok (.iload 4, 2) := by decide +kernel
theorem d_W_law_1113 : decode b_W_law 1113 = .ok (.iconst 2, 1) := by decide +kernel
theorem d_W_law_1114 : decode b_W_law 1114 = .ok (.iadd, 1) := by decide +kernel
theorem d_W_law_1115 : decode b_W_law 1115 = .ok (.iaload, 1) := by decide +kernel
theorem d_W_law_1116 : decode b_W_law 1116 = .ok (.aload_n 0, 1) := by decide +kernel
theorem d_W_law_1117 : decode b_W_law 1117 = .ok (.iload 4, 2) := by decide +kernel
theorem d_W_law_1119 : decode b_W_law 1119 = .ok (.iconst 3, 1) := by decide +kernel
theorem d_W_law_1120 : decode b_W_law 1120 = .ok (.iadd, 1) := by decide +kernel
theorem d_W_law_1121 : decode b_W_law 1121 = .ok (.iaload, 1) := by decide +kernel
theorem d_W_law_1122 : decode b_W_law 1122 = .ok (.invokevirtual 136, 3) := by decide +kernel
theorem d_W_law_1125 : decode b_W_law 1125 = .ok (.istore 6, 2) := by decide +kernel
theorem d_W_law_1127 : decode b_W_law 1127 = .ok (.aload_n 2, 1) := by decide +kernel
theorem d_W_law_1128 : decode b_W_law 1128 = .ok (.invokevirtual 85, 3) := by decide +kernel
theorem d_W_law_1131 : decode b_W_law 1131 = .ok (.iload 5, 2) := by decide +kernel
theorem d_W_law_1133 : decode b_W_law 1133 = .ok (.if_icmp .eq 5, 3) := by decide +kernel
theorem d_W_law_1136 : decode b_W_law 1136 = .ok (.iconst 0, 1) := by decide +kernel
theorem d_W_law_1137 : decode b_W_law 1137 = .ok (.ireturn, 1) := by decide +kernel
theorem d_W_law_1138 : decode b_W_law 1138 = .ok (.iload 5, 2) := by decide +kernel
theorem d_W_law_1140 : decode b_W_law 1140 = .ok (.ifCond .ne 15, 3) := by decide +kernel
theorem d_W_law_1143 : decode b_W_law 1143 = .ok (.aload_n 3, 1) := by decide +kernel
theorem d_W_law_1144 : decode b_W_law 1144 = .ok (.iconst 0, 1) := by decide +kernel
theorem d_W_law_1145 : decode b_W_law 1145 = .ok (.laload, 1) := by decide +kernel
theorem d_W_law_1146 : decode b_W_law 1146 = .ok (.iload 6, 2) := by decide +kernel
theorem d_W_law_1148 : decode b_W_law 1148 = .ok (.i2l, 1) := by decide +kernel
theorem d_W_law_1149 : decode b_W_law 1149 = .ok (.lcmp, 1) := by decide +kernel
theorem d_W_law_1150 : decode b_W_law 1150 = .ok (.ifCond .eq 5, 3) := by decide +kernel
theorem d_W_law_1153 : decode b_W_law 1153 = .ok (.iconst 0, 1) := by decide +kernel
theorem d_W_law_1154 : decode b_W_law 1154 = .ok (.ireturn, 1) := by decide +kernel
theorem d_W_law_1155 : decode b_W_law 1155 = .ok (.goto 299, 3) := by decide +kernel
theorem d_W_law_1158 : decode b_W_law 1158 = .ok (.aload_n 1, 1) := by decide +kernel
theorem d_W_law_1159 : decode b_W_law 1159 = .ok (.aload_n 0, 1) := by decide +kernel
theorem d_W_law_1160 : decode b_W_law 1160 = .ok (.iload 4, 2) := by decide +kernel
theorem d_W_law_1162 : decode b_W_law 1162 = .ok (.iconst 1, 1) := by decide +kernel
theorem d_W_law_1163 : decode b_W_law 1163 = .ok (.iadd, 1) := by decide +kernel
theorem d_W_law_1164 : decode b_W_law 1164 = .ok (.iaload, 1) := by decide +kernel
theorem d_W_law_1165 : decode b_W_law 1165 = .ok (.aload_n 0, 1) := by decide +kernel
theorem d_W_law_1166 : decode b_W_law 1166 = .ok (.iload 4, 2) := by decide +kernel
theorem d_W_law_1168 : decode b_W_law 1168 = .ok (.iconst 2, 1) := by decide +kernel
theorem d_W_law_1169 : decode b_W_law 1169 = .ok (.iadd, 1) := by decide +kernel
theorem d_W_law_1170 : decode b_W_law 1170 = .ok (.iaload, 1) := by decide +kernel
theorem d_W_law_1171 : decode b_W_law 1171 = .ok (.aload_n 0, 1) := by decide +kernel
theorem d_W_law_1172 : decode b_W_law 1172 = .ok (.iload 4, 2) := by decide +kernel
theorem d_W_law_1174 : decode b_W_law 1174 = .ok (.iconst 3, 1) := by decide +kernel
theorem d_W_law_1175 : decode b_W_law 1175 = .ok (.iadd, 1) := by decide +kernel
theorem d_W_law_1176 : decode b_W_law 1176 = .ok (.iaload, 1) := by decide +kernel
theorem d_W_law_1177 : decode b_W_law 1177 = .ok (.aload_n 0, 1) := by decide +kernel
theorem d_W_law_1178 : decode b_W_law 1178 = .ok (.iload 4, 2) := by decide +kernel
theorem d_W_law_1180 : decode b_W_law 1180 = .ok (.iconst 4, 1) := by decide +kernel
theorem d_W_law_1181 : decode b_W_law 1181 = .ok (.iadd, 1) := by decide +kernel
theorem d_W_law_1182 : decode b_W_law 1182 = .ok (.iaload, 1) := by decide +kernel
theorem d_W_law_1183 : decode b_W_law 1183 = .ok (.aload_n 0, 1) := by decide +kernel
theorem d_W_law_1184 : decode b_W_law 1184 = .ok (.iload 4, 2) := by decide +kernel
theorem d_W_law_1186 : decode b_W_law 1186 = .ok (.iconst 5, 1) := by decide +kernel
theorem d_W_law_1187 : decode b_W_law 1187 = .ok (.iadd, 1) := by decide +kernel
theorem d_W_law_1188 : decode b_W_law 1188 = .ok (.iaload, 1) := by decide +kernel
theorem d_W_law_1189 : decode b_W_law 1189 = .ok (.aload_n 3, 1) := by decide +kernel
theorem d_W_law_1190 : decode b_W_law 1190 = .ok (.invokestatic 137, 3) := by decide +kernel
theorem d_W_law_1193 : decode b_W_law 1193 = .ok (.istore 5, 2) := by decide +kernel
theorem d_W_law_1195 : decode b_W_law 1195 = .ok (.aload_n 2, 1) := by decide +kernel
theorem d_W_law_1196 : decode b_W_law 1196 = .ok (.aload_n 0, 1) := by decide +kernel
theorem d_W_law_1197 : decode b_W_law 1197 = .ok (.iload 4, 2) := by decide +kernel
theorem d_W_law_1199 : decode b_W_law 1199 = .ok (.iconst 1, 1) := by decide +kernel
theorem d_W_law_1200 : decode b_W_law 1200 = .ok (.iadd, 1) := by decide +kernel
theorem d_W_law_1201 : decode b_W_law 1201 = .ok (.iaload, 1) := by decide +kernel
theorem d_W_law_1202 : decode b_W_law 1202 = .ok (.aload_n 0, 1) := by decide +kernel
theorem d_W_law_1203 : decode b_W_law 1203 = .ok (.iload 4, 2) := by decide +kernel
theorem d_W_law_1205 : decode b_W_law 1205 = .ok (.iconst 2, 1) := by decide +kernel
theorem d_W_law_1206 : decode b_W_law 1206 = .ok (.iadd, 1) := by decide +kernel
theorem d_W_law_1207 : decode b_W_law 1207 = .ok (.iaload, 1) := by decide +kernel
theorem d_W_law_1208 : decode b_W_law 1208 = .ok (.aload_n 0, 1) := by decide +kernel
theorem d_W_law_1209 : decode b_W_law 1209 = .ok (.iload 4, 2) := by decide +kernel
theorem d_W_law_1211 : decode b_W_law 1211 = .ok (.iconst 3, 1) := by decide +kernel
theorem d_W_law_1212 : decode b_W_law 1212 = .ok (.iadd, 1) := by decide +kernel
theorem d_W_law_1213 : decode b_W_law 1213 = .ok (.iaload, 1) := by decide +kernel
theorem d_W_law_1214 : decode b_W_law 1214 = .ok (.aload_n 0, 1) := by decide +kernel
theorem d_W_law_1215 : decode b_W_law 1215 = .ok (.iload 4, 2) := by decide +kernel
theorem d_W_law_1217 : decode b_W_law 1217 = .ok (.iconst 4, 1) := by decide +kernel
theorem d_W_law_1218 : decode b_W_law 1218 = .ok (.iadd, 1) := by decide +kernel
theorem d_W_law_1219 : decode b_W_law 1219 = .ok (.iaload, 1) := by decide +kernel
theorem d_W_law_1220 : decode b_W_law 1220 = .ok (.aload_n 0, 1) := by decide +kernel
theorem d_W_law_1221 : decode b_W_law 1221 = .ok (.iload 4, 2) := by decide +kernel
theorem d_W_law_1223 : decode b_W_law 1223 = .ok (.iconst 5, 1) := by decide +kernel
theorem d_W_law_1224 : decode b_W_law 1224 = .ok (.iadd, 1) := by decide +kernel
theorem d_W_law_1225 : decode b_W_law 1225 = .ok (.iaload, 1) := by decide +kernel
theorem d_W_law_1226 : decode b_W_law 1226 = .ok (.invokevirtual 139, 3) := by decide +kernel
theorem d_W_law_1229 : decode b_W_law 1229 = .ok (.istore 6, 2) := by decide +kernel
theorem d_W_law_1231 : decode b_W_law 1231 = .ok (.aload_n 2, 1) := by decide +kernel
theorem d_W_law_1232 : decode b_W_law 1232 = .ok (.invokevirtual 85, 3) := by decide +kernel
theorem d_W_law_1235 : decode b_W_law 1235 = .ok (.iload 5, 2) := by decide +kernel
theorem d_W_law_1237 : decode b_W_law 1237 = .ok (.if_icmp .eq 5, 3) := by decide +kernel
theorem d_W_law_1240 : decode b_W_law 1240 = .ok (.iconst 0, 1) := by decide +kernel
theorem d_W_law_1241 : decode b_W_law 1241 = .ok (.ireturn, 1) := by decide +kernel
theorem d_W_law_1242 : decode b_W_law 1242 = .ok (.iload 5, 2) := by decide +kernel
theorem d_W_law_1244 : decode b_W_law 1244 = .ok (.ifCond .ne 15, 3) := by decide +kernel
theorem d_W_law_1247 : decode b_W_law 1247 = .ok (.aload_n 3, 1) := by decide +kernel
theorem d_W_law_1248 : decode b_W_law 1248 = .ok (.iconst 0, 1) := by decide +kernel
theorem d_W_law_1249 : decode b_W_law 1249 = .ok (.laload, 1) := by decide +kernel
theorem d_W_law_1250 : decode b_W_law 1250 = .ok (.iload 6, 2) := by decide +kernel
theorem d_W_law_1252 : decode b_W_law 1252 = .ok (.i2l, 1) := by decide +kernel
theorem d_W_law_1253 : decode b_W_law 1253 = .ok (.lcmp, 1) := by decide +kernel
theorem d_W_law_1254 : decode b_W_law 1254 = .ok (.ifCond .eq 5, 3) := by decide +kernel
theorem d_W_law_1257 : decode b_W_law 1257 = .ok (.iconst 0, 1) := by decide +kernel
theorem d_W_law_1258 : decode b_W_law 1258 = .ok (.ireturn, 1) := by decide +kernel
theorem d_W_law_1259 : decode b_W_law 1259 = .ok (.goto 195, 3) := by decide +kernel
theorem d_W_law_1262 : decode b_W_law 1262 = .ok (.aload_n 1, 1) := by decide +kernel
theorem d_W_law_1263 : decode b_W_law 1263 = .ok (.aload_n 0, 1) := by decide +kernel
theorem d_W_law_1264 : decode b_W_law 1264 = .ok (.iload 4, 2) := by decide +kernel
theorem d_W_law_1266 : decode b_W_law 1266 = .ok (.iconst 1, 1) := by decide +kernel
theorem d_W_law_1267 : decode b_W_law 1267 = .ok (.iadd, 1) := by decide +kernel
theorem d_W_law_1268 : decode b_W_law 1268 = .ok (.iaload, 1) := by decide +kernel
theorem d_W_law_1269 : decode b_W_law 1269 = .ok (.aload_n 3, 1) := by decide +kernel
theorem d_W_law_1270 : decode b_W_law 1270 = .ok (.invokestatic 140, 3) := by decide +kernel
theorem d_W_law_1273 : decode b_W_law 1273 = .ok (.istore 5, 2) := by decide +kernel
theorem d_W_law_1275 : decode b_W_law 1275 = .ok (.aload_n 2, 1) := by decide +kernel
theorem d_W_law_1276 : decode b_W_law 1276 = .ok (.aload_n 0, 1) := by decide +kernel
theorem d_W_law_1277 : decode b_W_law 1277 = .ok (.iload 4, 2) := by decide +kernel
theorem d_W_law_1279 : decode b_W_law 1279 = .ok (.iconst 1, 1) := by decide +kernel
theorem d_W_law_1280 : decode b_W_law 1280 = .ok (.iadd, 1) := by decide +kernel
theorem d_W_law_1281 : decode b_W_law 1281 = .ok (.iaload, 1) := by decide +kernel
theorem d_W_law_1282 : decode b_W_law 1282 = .ok (.invokevirtual 142, 3) := by decide +kernel
theorem d_W_law_1285 : decode b_W_law 1285 = .ok (.istore 6, 2) := by decide +kernel
theorem d_W_law_1287 : decode b_W_law 1287 = .ok (.aload_n 2, 1) := by decide +kernel
theorem d_W_law_1288 : decode b_W_law 1288 = .ok (.invokevirtual 85, 3) := by decide +kernel
theorem d_W_law_1291 : decode b_W_law 1291 = .ok (.iload 5, 2) := by decide +kernel
theorem d_W_law_1293 : decode b_W_law 1293 = .ok (.if_icmp .eq 5, 3) := by decide +kernel
theorem d_W_law_1296 : decode b_W_law 1296 = .ok (.iconst 0, 1) := by decide +kernel
theorem d_W_law_1297 : decode b_W_law 1297 = .ok (.ireturn, 1) := by decide +kernel
theorem d_W_law_1298 : decode b_W_law 1298 = .ok (.iload 5, 2) := by decide +kernel
theorem d_W_law_1300 : decode b_W_law 1300 = .ok (.ifCond .ne 15, 3) := by decide +kernel
theorem d_W_law_1303 : decode b_W_law 1303 = .ok (.aload_n 3, 1) := by decide +kernel
theorem d_W_law_1304 : decode b_W_law 1304 = .ok (.iconst 0, 1) := by decide +kernel
theorem d_W_law_1305 : decode b_W_law 1305 = .ok (.laload, 1) := by decide +kernel
theorem d_W_law_1306 : decode b_W_law 1306 = .ok (.iload 6, 2) := by decide +kernel
theorem d_W_law_1308 : decode b_W_law 1308 = .ok (.i2l, 1) := by decide +kernel
theorem d_W_law_1309 : decode b_W_law 1309 = .ok (.lcmp, 1) := by decide +kernel
theorem d_W_law_1310 : decode b_W_law 1310 = .ok (.ifCond .eq 5, 3) := by decide +kernel
theorem d_W_law_1313 : decode b_W_law 1313 = .ok (.iconst 0, 1) := by decide +kernel
theorem d_W_law_1314 : decode b_W_law 1314 = .ok (.ireturn, 1) := by decide +kernel
theorem d_W_law_1315 : decode b_W_law 1315 = .ok (.goto 139, 3) := by decide +kernel
theorem d_W_law_1318 : decode b_W_law 1318 = .ok (.aload_n 1, 1) := by decide +kernel
theorem d_W_law_1319 : decode b_W_law 1319 = .ok (.aload_n 0, 1) := by decide +kernel
theorem d_W_law_1320 : decode b_W_law 1320 = .ok (.iload 4, 2) := by decide +kernel
theorem d_W_law_1322 : decode b_W_law 1322 = .ok (.iconst 1, 1) := by decide +kernel
theorem d_W_law_1323 : decode b_W_law 1323 = .ok (.iadd, 1) := by decide +kernel
theorem d_W_law_1324 : decode b_W_law 1324 = .ok (.iaload, 1) := by decide +kernel
theorem d_W_law_1325 : decode b_W_law 1325 = .ok (.aload_n 0, 1) := by decide +kernel
theorem d_W_law_1326 : decode b_W_law 1326 = .ok (.iload 4, 2) := by decide +kernel
theorem d_W_law_1328 : decode b_W_law 1328 = .ok (.iconst 2, 1) := by decide +kernel
theorem d_W_law_1329 : decode b_W_law 1329 = .ok (.iadd, 1) := by decide +kernel
theorem d_W_law_1330 : decode b_W_law 1330 = .ok (.iaload, 1) := by decide +kernel
theorem d_W_law_1331 : decode b_W_law 1331 = .ok (.aload_n 3, 1) := by decide +kernel
theorem d_W_law_1332 : decode b_W_law 1332 = .ok (.invokestatic 143, 3) := by decide +kernel
theorem d_W_law_1335 : decode b_W_law 1335 = .ok (.istore 5, 2) := by decide +kernel
theorem d_W_law_1337 : decode b_W_law 1337 = .ok (.aload_n 2, 1) := by decide +kernel
theorem d_W_law_1338 : decode b_W_law 1338 = .ok (.aload_n 0, 1) := by decide +kernel
theorem d_W_law_1339 : decode b_W_law 1339 = .ok (.iload 4, 2) := by decide +kernel
theorem d_W_law_1341 : decode b_W_law 1341 = .ok (.iconst 1, 1) := by decide +kernel
theorem d_W_law_1342 : decode b_W_law 1342 = .ok (.iadd, 1) := by decide +kernel
theorem d_W_law_1343 : decode b_W_law 1343 = .ok (.iaload, 1) := by decide +kernel
theorem d_W_law_1344 : decode b_W_law 1344 = .ok (.aload_n 0, 1) := by decide +kernel
theorem d_W_law_1345 : decode b_W_law 1345 = .ok (.iload 4, 2) := by decide +kernel
theorem d_W_law_1347 : decode b_W_law 1347 = .ok (.iconst 2, 1) := by decide +kernel
theorem d_W_law_1348 : decode b_W_law 1348 = .ok (.iadd, 1) := by decide +kernel
theorem d_W_law_1349 : decode b_W_law 1349 = .ok (.iaload, 1) := by decide +kernel
theorem d_W_law_1350 : decode b_W_law 1350 = .ok (.invokevirtual 145, 3) := by decide +kernel
theorem d_W_law_1353 : decode b_W_law 1353 = .ok (.istore 6, 2) := by decide +kernel
theorem d_W_law_1355 : decode b_W_law 1355 = .ok (.aload_n 2, 1) := by decide +kernel
theorem d_W_law_1356 : decode b_W_law 1356 = .ok (.invokevirtual 85, 3) := by decide +kernel
theorem d_W_law_1359 : decode b_W_law 1359 = .ok (.iload 5, 2) := by decide +kernel
theorem d_W_law_1361 : decode b_W_law 1361 = .ok (.if_icmp .eq 5, 3) := by decide +kernel
theorem d_W_law_1364 : decode b_W_law 1364 = .ok (.iconst 0, 1) := by decide +kernel
theorem d_W_law_1365 : decode b_W_law 1365 = .ok (.ireturn, 1) := by decide +kernel
theorem d_W_law_1366 : decode b_W_law 1366 = .ok (.iload 5, 2) := by decide +kernel
theorem d_W_law_1368 : decode b_W_law 1368 = .ok (.ifCond .ne 15, 3) := by decide +kernel
theorem d_W_law_1371 : decode b_W_law 1371 = .ok (.aload_n 3, 1) := by decide +kernel
theorem d_W_law_1372 : decode b_W_law 1372 = .ok (.iconst 0, 1) := by decide +kernel
theorem d_W_law_1373 : decode b_W_law 1373 = .ok (.laload, 1) := by decide +kernel
theorem d_W_law_1374 : decode b_W_law 1374 = .ok (.iload 6, 2) := by decide +kernel
theorem d_W_law_1376 : decode b_W_law 1376 = .ok (.i2l, 1) := by decide +kernel
theorem d_W_law_1377 : decode b_W_law 1377 = .ok (.lcmp, 1) := by decide +kernel
theorem d_W_law_1378 : decode b_W_law 1378 = .ok (.ifCond .eq 5, 3) := by decide +kernel
theorem d_W_law_1381 : decode b_W_law 1381 = .ok (.iconst 0, 1) := by decide +kernel
theorem d_W_law_1382 : decode b_W_law 1382 = .ok (.ireturn, 1) := by decide +kernel
theorem d_W_law_1383 : decode b_W_law 1383 = .ok (.goto 71, 3) := by decide +kernel
theorem d_W_law_1386 : decode b_W_law 1386 = .ok (.aload_n 1, 1) := by decide +kernel
theorem d_W_law_1387 : decode b_W_law 1387 = .ok (.aload_n 0, 1) := by decide +kernel
theorem d_W_law_1388 : decode b_W_law 1388 = .ok (.iload 4, 2) := by decide +kernel
theorem d_W_law_1390 : decode b_W_law 1390 = .ok (.iconst 1, 1) := by decide +kernel
theorem d_W_law_1391 : decode b_W_law 1391 = .ok (.iadd, 1) := by decide +kernel
theorem d_W_law_1392 : decode b_W_law 1392 = .ok (.iaload, 1) := by decide +kernel
theorem d_W_law_1393 : decode b_W_law 1393 = .ok (.aload_n 0, 1) := by decide +kernel
theorem d_W_law_1394 : decode b_W_law 1394 = .ok (.iload 4, 2) := by decide +kernel
theorem d_W_law_1396 : decode b_W_law 1396 = .ok (.iconst 2, 1) := by decide +kernel
theorem d_W_law_1397 : decode b_W_law 1397 = .ok (.iadd, 1) := by decide +kernel
theorem d_W_law_1398 : decode b_W_law 1398 = .ok (.iaload, 1) := by decide +kernel
theorem d_W_law_1399 : decode b_W_law 1399 = .ok (.aload_n 3, 1) := by decide +kernel
theorem d_W_law_1400 : decode b_W_law 1400 = .ok (.invokestatic 146, 3) := by decide +kernel
theorem d_W_law_1403 : decode b_W_law 1403 = .ok (.istore 5, 2) := by decide +kernel
theorem d_W_law_1405 : decode b_W_law 1405 = .ok (.aload_n 2, 1) := by decide +kernel
theorem d_W_law_1406 : decode b_W_law 1406 = .ok (.aload_n 0, 1) := by decide +kernel
theorem d_W_law_1407 : decode b_W_law 1407 = .ok (.iload 4, 2) := by decide +kernel
theorem d_W_law_1409 : decode b_W_law 1409 = .ok (.iconst 1, 1) := by decide +kernel
theorem d_W_law_1410 : decode b_W_law 1410 = .ok (.iadd, 1) := by decide +kernel
theorem d_W_law_1411 : decode b_W_law 1411 = .ok (.iaload, 1) := by decide +kernel
theorem d_W_law_1412 : decode b_W_law 1412 = .ok (.aload_n 0, 1) := by decide +kernel
theorem d_W_law_1413 : decode b_W_law 1413 = .ok (.iload 4, 2) := by decide +kernel
theorem d_W_law_1415 : decode b_W_law 1415 = .ok (.iconst 2, 1) := by decide +kernel
theorem d_W_law_1416 : decode b_W_law 1416 = .ok (.iadd, 1) := by decide +kernel
theorem d_W_law_1417 : decode b_W_law 1417 = .ok (.iaload, 1) := by decide +kernel
theorem d_W_law_1418 : decode b_W_law 1418 = .ok (.invokevirtual 148, 3) := by decide +kernel
theorem d_W_law_1421 : decode b_W_law 1421 = .ok (.istore 6, 2) := by decide +kernel
theorem d_W_law_1423 : decode b_W_law 1423 = .ok (.aload_n 2, 1) := by decide +kernel
theorem d_W_law_1424 : decode b_W_law 1424 = .ok (.invokevirtual 85, 3) := by decide +kernel
theorem d_W_law_1427 : decode b_W_law 1427 = .ok (.iload 5, 2) := by decide +kernel
theorem d_W_law_1429 : decode b_W_law 1429 = .ok (.if_icmp .eq 5, 3) := by decide +kernel
theorem d_W_law_1432 : decode b_W_law 1432 = .ok (.iconst 0, 1) := by decide +kernel
theorem d_W_law_1433 : decode b_W_law 1433 = .ok (.ireturn, 1) := by decide +kernel
theorem d_W_law_1434 : decode b_W_law 1434 = .ok (.iload 5, 2) := by decide +kernel
theorem d_W_law_1436 : decode b_W_law 1436 = .ok (.ifCond .ne 15, 3) := by decide +kernel
theorem d_W_law_1439 : decode b_W_law 1439 = .ok (.aload_n 3, 1) := by decide +kernel
theorem d_W_law_1440 : decode b_W_law 1440 = .ok (.iconst 0, 1) := by decide +kernel
theorem d_W_law_1441 : decode b_W_law 1441 = .ok (.laload, 1) := by decide +kernel
theorem d_W_law_1442 : decode b_W_law 1442 = .ok (.iload 6, 2) := by decide +kernel
theorem d_W_law_1444 : decode b_W_law 1444 = .ok (.i2l, 1) := by decide +kernel
theorem d_W_law_1445 : decode b_W_law 1445 = .ok (.lcmp, 1) := by decide +kernel
theorem d_W_law_1446 : decode b_W_law 1446 = .ok (.ifCond .eq 5, 3) := by decide +kernel
theorem d_W_law_1449 : decode b_W_law 1449 = .ok (.iconst 0, 1) := by decide +kernel
theorem d_W_law_1450 : decode b_W_law 1450 = .ok (.ireturn, 1) := by decide +kernel
theorem d_W_law_1451 : decode b_W_law 1451 = .ok (.goto 3, 3) := by decide +kernel
theorem d_W_law_1454 : decode b_W_law 1454 = .ok (.iinc 4 6, 3) := by decide +kernel
theorem d_W_law_1457 : decode b_W_law 1457 = .ok (.goto (-1434), 3) := by decide +kernel
theorem d_W_law_1460 : decode b_W_law 1460 = .ok (.iconst 1, 1) := by decide +kernel
theorem d_W_law_1461 : decode b_W_law 1461 = .ok (.ireturn, 1) := by decide +kernel
