section
-- ===== PART A: goes FIRST, ahead of the names: the tables' words, and 'selects' of the private methods out of them =====
/-- a private method of a class that the tables say can be made, by its rows of tables_1 -/
def lw_okq (q : MethodName × Nat) : Prop := (q.1.cls ≠ "java/lang/invoke/MethodHandle" ∧ q.1.cls ≠ "java/lang/invoke/VarHandle") ∧ Cond.instantiable q.1.cls q.2 ∈ tables_1 ∧ Cond.privateMethod q.1 ∈ tables_1 ∧ Cond.instanceMethod q.1 ∈ tables_1
theorem lw_p0 : lw_okq (⟨"FencedBroker", "advance", "(LFencedBroker$Producer;)I"⟩, 6) := ⟨⟨by decide +kernel, by decide +kernel⟩, List.mem_of_getElem? (i := 26) (by decide +kernel), List.mem_of_getElem? (i := 176) (by decide +kernel), List.mem_of_getElem? (i := 177) (by decide +kernel)⟩
theorem lw_p1 : lw_okq (⟨"FencedBroker", "endTransaction", "(LFencedBroker$Producer;)V"⟩, 6) := ⟨⟨by decide +kernel, by decide +kernel⟩, List.mem_of_getElem? (i := 26) (by decide +kernel), List.mem_of_getElem? (i := 184) (by decide +kernel), List.mem_of_getElem? (i := 185) (by decide +kernel)⟩
theorem lw_p2 : lw_okq (⟨"FencedBroker", "advanceIn", "(LFencedBroker$Producer;I)I"⟩, 6) := ⟨⟨by decide +kernel, by decide +kernel⟩, List.mem_of_getElem? (i := 26) (by decide +kernel), List.mem_of_getElem? (i := 203) (by decide +kernel), List.mem_of_getElem? (i := 204) (by decide +kernel)⟩
theorem lw_p3 : lw_okq (⟨"java/util/ArrayList", "add", "(Ljava/lang/Object;[Ljava/lang/Object;I)V"⟩, 3) := ⟨⟨by decide +kernel, by decide +kernel⟩, List.mem_of_getElem? (i := 45) (by decide +kernel), List.mem_of_getElem? (i := 264) (by decide +kernel), List.mem_of_getElem? (i := 265) (by decide +kernel)⟩
theorem lw_p4 : lw_okq (⟨"java/util/ArrayList", "grow", "()[Ljava/lang/Object;"⟩, 3) := ⟨⟨by decide +kernel, by decide +kernel⟩, List.mem_of_getElem? (i := 45) (by decide +kernel), List.mem_of_getElem? (i := 268) (by decide +kernel), List.mem_of_getElem? (i := 269) (by decide +kernel)⟩
theorem lw_p5 : lw_okq (⟨"java/util/ArrayList", "grow", "(I)[Ljava/lang/Object;"⟩, 3) := ⟨⟨by decide +kernel, by decide +kernel⟩, List.mem_of_getElem? (i := 45) (by decide +kernel), List.mem_of_getElem? (i := 272) (by decide +kernel), List.mem_of_getElem? (i := 273) (by decide +kernel)⟩
theorem lw_p6 : lw_okq (⟨"java/lang/Throwable", "fillInStackTrace", "(I)Ljava/lang/Throwable;"⟩, 6) := ⟨⟨by decide +kernel, by decide +kernel⟩, List.mem_of_getElem? (i := 383) (by decide +kernel), List.mem_of_getElem? (i := 381) (by decide +kernel), List.mem_of_getElem? (i := 382) (by decide +kernel)⟩
theorem lw_p7 : lw_okq (⟨"FencedBroker", "knownProducer", "(II)LFencedBroker$Producer;"⟩, 6) := ⟨⟨by decide +kernel, by decide +kernel⟩, List.mem_of_getElem? (i := 26) (by decide +kernel), List.mem_of_getElem? (i := 450) (by decide +kernel), List.mem_of_getElem? (i := 451) (by decide +kernel)⟩
theorem lw_p8 : lw_okq (⟨"FencedBroker", "openProducer", "(II)LFencedBroker$Producer;"⟩, 6) := ⟨⟨by decide +kernel, by decide +kernel⟩, List.mem_of_getElem? (i := 26) (by decide +kernel), List.mem_of_getElem? (i := 493) (by decide +kernel), List.mem_of_getElem? (i := 494) (by decide +kernel)⟩
theorem lw_p9 : lw_okq (⟨"FencedBroker", "hasUncopied", "(I)Z"⟩, 6) := ⟨⟨by decide +kernel, by decide +kernel⟩, List.mem_of_getElem? (i := 26) (by decide +kernel), List.mem_of_getElem? (i := 578) (by decide +kernel), List.mem_of_getElem? (i := 579) (by decide +kernel)⟩
theorem lw_p10 : lw_okq (⟨"java/util/ArrayList", "fastRemove", "([Ljava/lang/Object;I)V"⟩, 3) := ⟨⟨by decide +kernel, by decide +kernel⟩, List.mem_of_getElem? (i := 45) (by decide +kernel), List.mem_of_getElem? (i := 638) (by decide +kernel), List.mem_of_getElem? (i := 639) (by decide +kernel)⟩
theorem lw_p11 : lw_okq (⟨"FencedBroker$Log", "isUnended", "(LFencedBroker$Entry;)Z"⟩, 4) := ⟨⟨by decide +kernel, by decide +kernel⟩, List.mem_of_getElem? (i := 39) (by decide +kernel), List.mem_of_getElem? (i := 675) (by decide +kernel), List.mem_of_getElem? (i := 676) (by decide +kernel)⟩
theorem lw_p12 : lw_okq (⟨"FencedBroker$Log", "isAborted", "(I)Z"⟩, 4) := ⟨⟨by decide +kernel, by decide +kernel⟩, List.mem_of_getElem? (i := 39) (by decide +kernel), List.mem_of_getElem? (i := 680) (by decide +kernel), List.mem_of_getElem? (i := 681) (by decide +kernel)⟩
theorem lw_p13 : lw_okq (⟨"FencedBroker$Group", "countMembers", "()I"⟩, 5) := ⟨⟨by decide +kernel, by decide +kernel⟩, List.mem_of_getElem? (i := 126) (by decide +kernel), List.mem_of_getElem? (i := 722) (by decide +kernel), List.mem_of_getElem? (i := 723) (by decide +kernel)⟩
theorem lw_p14 : lw_okq (⟨"FencedBroker$Group", "takeSurplus", "(II)V"⟩, 5) := ⟨⟨by decide +kernel, by decide +kernel⟩, List.mem_of_getElem? (i := 126) (by decide +kernel), List.mem_of_getElem? (i := 726) (by decide +kernel), List.mem_of_getElem? (i := 727) (by decide +kernel)⟩
theorem lw_p15 : lw_okq (⟨"FencedBroker$Group", "giveUnowned", "()V"⟩, 5) := ⟨⟨by decide +kernel, by decide +kernel⟩, List.mem_of_getElem? (i := 126) (by decide +kernel), List.mem_of_getElem? (i := 735) (by decide +kernel), List.mem_of_getElem? (i := 736) (by decide +kernel)⟩
def lw_privs_1 : List (MethodName × Nat) := [(⟨"FencedBroker", "advance", "(LFencedBroker$Producer;)I"⟩, 6), (⟨"FencedBroker", "endTransaction", "(LFencedBroker$Producer;)V"⟩, 6), (⟨"FencedBroker", "advanceIn", "(LFencedBroker$Producer;I)I"⟩, 6), (⟨"java/util/ArrayList", "add", "(Ljava/lang/Object;[Ljava/lang/Object;I)V"⟩, 3), (⟨"java/util/ArrayList", "grow", "()[Ljava/lang/Object;"⟩, 3), (⟨"java/util/ArrayList", "grow", "(I)[Ljava/lang/Object;"⟩, 3), (⟨"java/lang/Throwable", "fillInStackTrace", "(I)Ljava/lang/Throwable;"⟩, 6), (⟨"FencedBroker", "knownProducer", "(II)LFencedBroker$Producer;"⟩, 6), (⟨"FencedBroker", "openProducer", "(II)LFencedBroker$Producer;"⟩, 6), (⟨"FencedBroker", "hasUncopied", "(I)Z"⟩, 6), (⟨"java/util/ArrayList", "fastRemove", "([Ljava/lang/Object;I)V"⟩, 3), (⟨"FencedBroker$Log", "isUnended", "(LFencedBroker$Entry;)Z"⟩, 4), (⟨"FencedBroker$Log", "isAborted", "(I)Z"⟩, 4), (⟨"FencedBroker$Group", "countMembers", "()I"⟩, 5), (⟨"FencedBroker$Group", "takeSurplus", "(II)V"⟩, 5), (⟨"FencedBroker$Group", "giveUnowned", "()V"⟩, 5)]
theorem lw_r1 : ∀ q ∈ lw_privs_1, lw_okq q := List.forall_mem_cons.mpr ⟨lw_p0, List.forall_mem_cons.mpr ⟨lw_p1, List.forall_mem_cons.mpr ⟨lw_p2, List.forall_mem_cons.mpr ⟨lw_p3, List.forall_mem_cons.mpr ⟨lw_p4, List.forall_mem_cons.mpr ⟨lw_p5, List.forall_mem_cons.mpr ⟨lw_p6, List.forall_mem_cons.mpr ⟨lw_p7, List.forall_mem_cons.mpr ⟨lw_p8, List.forall_mem_cons.mpr ⟨lw_p9, List.forall_mem_cons.mpr ⟨lw_p10, List.forall_mem_cons.mpr ⟨lw_p11, List.forall_mem_cons.mpr ⟨lw_p12, List.forall_mem_cons.mpr ⟨lw_p13, List.forall_mem_cons.mpr ⟨lw_p14, List.forall_mem_cons.mpr ⟨lw_p15, fun _ h => absurd h List.not_mem_nil⟩⟩⟩⟩⟩⟩⟩⟩⟩⟩⟩⟩⟩⟩⟩⟩
theorem lw_p16 : lw_okq (⟨"FencedBroker$Group", "poorestMember", "()I"⟩, 5) := ⟨⟨by decide +kernel, by decide +kernel⟩, List.mem_of_getElem? (i := 126) (by decide +kernel), List.mem_of_getElem? (i := 739) (by decide +kernel), List.mem_of_getElem? (i := 740) (by decide +kernel)⟩
theorem lw_p17 : lw_okq (⟨"FencedBroker$Group", "isOwned", "(I)Z"⟩, 5) := ⟨⟨by decide +kernel, by decide +kernel⟩, List.mem_of_getElem? (i := 126) (by decide +kernel), List.mem_of_getElem? (i := 743) (by decide +kernel), List.mem_of_getElem? (i := 744) (by decide +kernel)⟩
theorem lw_p18 : lw_okq (⟨"FencedBroker", "groupWith", "(II)LFencedBroker$Group;"⟩, 6) := ⟨⟨by decide +kernel, by decide +kernel⟩, List.mem_of_getElem? (i := 26) (by decide +kernel), List.mem_of_getElem? (i := 754) (by decide +kernel), List.mem_of_getElem? (i := 755) (by decide +kernel)⟩
theorem lw_p19 : lw_okq (⟨"FencedBroker", "groupAt", "(III)LFencedBroker$Group;"⟩, 6) := ⟨⟨by decide +kernel, by decide +kernel⟩, List.mem_of_getElem? (i := 26) (by decide +kernel), List.mem_of_getElem? (i := 770) (by decide +kernel), List.mem_of_getElem? (i := 771) (by decide +kernel)⟩
theorem lw_p20 : lw_okq (⟨"FencedBrokerModel", "out", "(II)Z"⟩, 24) := ⟨⟨by decide +kernel, by decide +kernel⟩, List.mem_of_getElem? (i := 812) (by decide +kernel), List.mem_of_getElem? (i := 899) (by decide +kernel), List.mem_of_getElem? (i := 900) (by decide +kernel)⟩
theorem lw_p21 : lw_okq (⟨"FencedBrokerModel", "fail", "(I)I"⟩, 24) := ⟨⟨by decide +kernel, by decide +kernel⟩, List.mem_of_getElem? (i := 812) (by decide +kernel), List.mem_of_getElem? (i := 903) (by decide +kernel), List.mem_of_getElem? (i := 904) (by decide +kernel)⟩
theorem lw_p22 : lw_okq (⟨"FencedBrokerModel", "abort", "(I)V"⟩, 24) := ⟨⟨by decide +kernel, by decide +kernel⟩, List.mem_of_getElem? (i := 812) (by decide +kernel), List.mem_of_getElem? (i := 907) (by decide +kernel), List.mem_of_getElem? (i := 908) (by decide +kernel)⟩
theorem lw_p23 : lw_okq (⟨"FencedBrokerModel", "check", "(III)I"⟩, 24) := ⟨⟨by decide +kernel, by decide +kernel⟩, List.mem_of_getElem? (i := 812) (by decide +kernel), List.mem_of_getElem? (i := 915) (by decide +kernel), List.mem_of_getElem? (i := 916) (by decide +kernel)⟩
theorem lw_p24 : lw_okq (⟨"FencedBrokerModel", "recent", "(III)I"⟩, 24) := ⟨⟨by decide +kernel, by decide +kernel⟩, List.mem_of_getElem? (i := 812) (by decide +kernel), List.mem_of_getElem? (i := 923) (by decide +kernel), List.mem_of_getElem? (i := 924) (by decide +kernel)⟩
theorem lw_p25 : lw_okq (⟨"FencedBrokerModel", "ofProducer", "(II)Z"⟩, 24) := ⟨⟨by decide +kernel, by decide +kernel⟩, List.mem_of_getElem? (i := 812) (by decide +kernel), List.mem_of_getElem? (i := 927) (by decide +kernel), List.mem_of_getElem? (i := 928) (by decide +kernel)⟩
theorem lw_p26 : lw_okq (⟨"FencedBrokerModel", "next", "(II)I"⟩, 24) := ⟨⟨by decide +kernel, by decide +kernel⟩, List.mem_of_getElem? (i := 812) (by decide +kernel), List.mem_of_getElem? (i := 931) (by decide +kernel), List.mem_of_getElem? (i := 932) (by decide +kernel)⟩
theorem lw_p27 : lw_okq (⟨"FencedBrokerModel", "full", "(I)Z"⟩, 24) := ⟨⟨by decide +kernel, by decide +kernel⟩, List.mem_of_getElem? (i := 812) (by decide +kernel), List.mem_of_getElem? (i := 935) (by decide +kernel), List.mem_of_getElem? (i := 936) (by decide +kernel)⟩
theorem lw_p28 : lw_okq (⟨"FencedBrokerModel", "put", "(IIIII)I"⟩, 24) := ⟨⟨by decide +kernel, by decide +kernel⟩, List.mem_of_getElem? (i := 812) (by decide +kernel), List.mem_of_getElem? (i := 939) (by decide +kernel), List.mem_of_getElem? (i := 940) (by decide +kernel)⟩
theorem lw_p29 : lw_okq (⟨"FencedBrokerModel", "ones", "(I)I"⟩, 24) := ⟨⟨by decide +kernel, by decide +kernel⟩, List.mem_of_getElem? (i := 812) (by decide +kernel), List.mem_of_getElem? (i := 951) (by decide +kernel), List.mem_of_getElem? (i := 952) (by decide +kernel)⟩
theorem lw_p30 : lw_okq (⟨"FencedBrokerModel", "stepOf", "(I)I"⟩, 24) := ⟨⟨by decide +kernel, by decide +kernel⟩, List.mem_of_getElem? (i := 812) (by decide +kernel), List.mem_of_getElem? (i := 959) (by decide +kernel), List.mem_of_getElem? (i := 960) (by decide +kernel)⟩
theorem lw_p31 : lw_okq (⟨"FencedBrokerModel", "marked", "(IIIZ)Z"⟩, 24) := ⟨⟨by decide +kernel, by decide +kernel⟩, List.mem_of_getElem? (i := 812) (by decide +kernel), List.mem_of_getElem? (i := 963) (by decide +kernel), List.mem_of_getElem? (i := 964) (by decide +kernel)⟩
def lw_privs_2 : List (MethodName × Nat) := [(⟨"FencedBroker$Group", "poorestMember", "()I"⟩, 5), (⟨"FencedBroker$Group", "isOwned", "(I)Z"⟩, 5), (⟨"FencedBroker", "groupWith", "(II)LFencedBroker$Group;"⟩, 6), (⟨"FencedBroker", "groupAt", "(III)LFencedBroker$Group;"⟩, 6), (⟨"FencedBrokerModel", "out", "(II)Z"⟩, 24), (⟨"FencedBrokerModel", "fail", "(I)I"⟩, 24), (⟨"FencedBrokerModel", "abort", "(I)V"⟩, 24), (⟨"FencedBrokerModel", "check", "(III)I"⟩, 24), (⟨"FencedBrokerModel", "recent", "(III)I"⟩, 24), (⟨"FencedBrokerModel", "ofProducer", "(II)Z"⟩, 24), (⟨"FencedBrokerModel", "next", "(II)I"⟩, 24), (⟨"FencedBrokerModel", "full", "(I)Z"⟩, 24), (⟨"FencedBrokerModel", "put", "(IIIII)I"⟩, 24), (⟨"FencedBrokerModel", "ones", "(I)I"⟩, 24), (⟨"FencedBrokerModel", "stepOf", "(I)I"⟩, 24), (⟨"FencedBrokerModel", "marked", "(IIIZ)Z"⟩, 24)]
theorem lw_r2 : ∀ q ∈ lw_privs_2, lw_okq q := List.forall_mem_cons.mpr ⟨lw_p16, List.forall_mem_cons.mpr ⟨lw_p17, List.forall_mem_cons.mpr ⟨lw_p18, List.forall_mem_cons.mpr ⟨lw_p19, List.forall_mem_cons.mpr ⟨lw_p20, List.forall_mem_cons.mpr ⟨lw_p21, List.forall_mem_cons.mpr ⟨lw_p22, List.forall_mem_cons.mpr ⟨lw_p23, List.forall_mem_cons.mpr ⟨lw_p24, List.forall_mem_cons.mpr ⟨lw_p25, List.forall_mem_cons.mpr ⟨lw_p26, List.forall_mem_cons.mpr ⟨lw_p27, List.forall_mem_cons.mpr ⟨lw_p28, List.forall_mem_cons.mpr ⟨lw_p29, List.forall_mem_cons.mpr ⟨lw_p30, List.forall_mem_cons.mpr ⟨lw_p31, fun _ h => absurd h List.not_mem_nil⟩⟩⟩⟩⟩⟩⟩⟩⟩⟩⟩⟩⟩⟩⟩⟩
theorem lw_p32 : lw_okq (⟨"FencedBrokerModel", "stable", "(I)I"⟩, 24) := ⟨⟨by decide +kernel, by decide +kernel⟩, List.mem_of_getElem? (i := 812) (by decide +kernel), List.mem_of_getElem? (i := 983) (by decide +kernel), List.mem_of_getElem? (i := 984) (by decide +kernel)⟩
theorem lw_p33 : lw_okq (⟨"FencedBrokerModel", "share", "(I)V"⟩, 24) := ⟨⟨by decide +kernel, by decide +kernel⟩, List.mem_of_getElem? (i := 812) (by decide +kernel), List.mem_of_getElem? (i := 999) (by decide +kernel), List.mem_of_getElem? (i := 1000) (by decide +kernel)⟩
theorem lw_p34 : lw_okq (⟨"FencedBrokerModel", "has", "(II)I"⟩, 24) := ⟨⟨by decide +kernel, by decide +kernel⟩, List.mem_of_getElem? (i := 812) (by decide +kernel), List.mem_of_getElem? (i := 1003) (by decide +kernel), List.mem_of_getElem? (i := 1004) (by decide +kernel)⟩
theorem lw_p35 : lw_okq (⟨"FencedBrokerModel", "fewest", "(I)I"⟩, 24) := ⟨⟨by decide +kernel, by decide +kernel⟩, List.mem_of_getElem? (i := 812) (by decide +kernel), List.mem_of_getElem? (i := 1007) (by decide +kernel), List.mem_of_getElem? (i := 1008) (by decide +kernel)⟩
def lw_privs_3 : List (MethodName × Nat) := [(⟨"FencedBrokerModel", "stable", "(I)I"⟩, 24), (⟨"FencedBrokerModel", "share", "(I)V"⟩, 24), (⟨"FencedBrokerModel", "has", "(II)I"⟩, 24), (⟨"FencedBrokerModel", "fewest", "(I)I"⟩, 24)]
theorem lw_r3 : ∀ q ∈ lw_privs_3, lw_okq q := List.forall_mem_cons.mpr ⟨lw_p32, List.forall_mem_cons.mpr ⟨lw_p33, List.forall_mem_cons.mpr ⟨lw_p34, List.forall_mem_cons.mpr ⟨lw_p35, fun _ h => absurd h List.not_mem_nil⟩⟩⟩⟩
def lw_privs : List (MethodName × Nat) := lw_privs_1 ++ (lw_privs_2 ++ (lw_privs_3))
def lw_tbl : List Cond := k2_sels lw_privs ++ tables_1
theorem lw_privs_ok : ∀ q ∈ lw_privs, lw_okq q := by
  show ∀ q ∈ lw_privs_1 ++ (lw_privs_2 ++ (lw_privs_3)), lw_okq q
  exact List.forall_mem_append.mpr ⟨lw_r1, List.forall_mem_append.mpr ⟨lw_r2, lw_r3⟩⟩
end
section
/-! The heap as a mathematical value: cells by their addresses; a field is an int or a reference (maybe null). -/
abbrev HV : Type := Int32 ⊕ Option Nat
abbrev HA : Type := (Nat → Int32) ⊕ ((Nat → Int64) ⊕ (Nat → Option Nat))
abbrev HC : Type := (Nat × List HV) ⊕ (Nat × Nat × HA)
abbrev HH : Type := Nat → Option HC
def hv_v : HV → Value
  | .inl x => .int x
  | .inr r => va_rf r
def ha_a (n : Nat) : HA → vp_A
  | .inl f => (n, .inl f)
  | .inr (.inl f) => (n, .inr (.inl f))
  | .inr (.inr f) => (n, .inr (.inr (.inr (.inr f))))
/-- words that stay when the tables grow warmer -/
def okw (w : Cond) : Bool := match w with
  | .fieldLinkNest .. => true
  | .methodLinkNest .. => true
  | .castable .. => true
  | .declares .. => true
  | .privateMethod .. => true
  | .stringRef .. => true
  | .arrayOver (.object _) => true
  | w => goodWord w
theorem okw_move {w : Cond} (hw : okw w = true) {s U : State} (hW : s.WarmedH U.vm) {a a' : Array Value} (h : w.before a s = true) : w.before a' U = true := by
  unfold okw at hw
  split at hw
  · exact va_Nw.use rfl (va_Nw.warmF hW (va_Nw.of rfl h))
  · exact va_Nw.use rfl (va_Nw.warmM hW (va_Nw.of rfl h))
  · exact va_Nw.use rfl (va_Nw.warmC hW (va_Nw.of rfl h))
  · exact va_Nw.use rfl (va_Nw.warmD hW (va_Nw.of rfl h))
  · exact va_tabs rfl (rfl : (s.setVm U.vm).vm = U.vm) (by rw [Cond.privateMethod_setVm hW.alike]; exact h)
  · have h1 := Cond.stringRef_warmed (args := a) hW h
    simp only [Cond.before, Cond.holds, Cond.value, State.names, State.poolOf?, State.resolvedAt?, State.vm_setVm] at h1 ⊢
    exact h1
  · exact va_AO.use (va_AO.moved hW.alike (va_AO.of h))
  · exact word_at hW (good_of_word hw) h
def TW (U : State) : Prop := ∀ w ∈ lw_tbl, okw w = true → w.before #[] U = true
theorem TW.use {s : State} (h : TW s) {w : Cond} (hm : w ∈ lw_tbl) (hw : okw w = true) {args : Array Value} : w.before args s = true := okw_move hw (State.WarmedH.refl s) (h w hm hw)
theorem TW.move {s U : State} (h : TW s) (hW : s.WarmedH U.vm) : TW U := fun w hm hw => okw_move hw hW (h w hm hw)
/-! the classes of the objects: their fields in the order of the slots -/
def q_Entry : u_T := fun k => match k with
  | 0 => ("FencedBroker$Entry", "kind", "I", true)
  | 1 => ("FencedBroker$Entry", "transaction", "I", true)
  | 2 => ("FencedBroker$Entry", "name", "I", true)
  | 3 => ("FencedBroker$Entry", "age", "I", true)
  | 4 => ("FencedBroker$Entry", "sequence", "I", true)
  | _ => ("FencedBroker$Entry", "value", "I", true)
def q_Group : u_T := fun k => match k with
  | 0 => ("FencedBroker$Group", "generation", "I", false)
  | 1 => ("FencedBroker$Group", "members", "[Z", true)
  | 2 => ("FencedBroker$Group", "heardAt", "[I", true)
  | 3 => ("FencedBroker$Group", "owned", "[I", true)
  | _ => ("FencedBroker$Group", "committed", "[I", true)
def q_Log : u_T := fun k => match k with
  | 0 => ("FencedBroker$Log", "entries", "Ljava/util/ArrayList;", true)
  | 1 => ("FencedBroker$Log", "markerAt", "[I", true)
  | 2 => ("FencedBroker$Log", "start", "I", false)
  | _ => ("FencedBroker$Log", "high", "I", false)
def q_Producer : u_T := fun k => match k with
  | 0 => ("FencedBroker$Producer", "name", "I", true)
  | 1 => ("FencedBroker$Producer", "state", "I", false)
  | 2 => ("FencedBroker$Producer", "age", "I", false)
  | 3 => ("FencedBroker$Producer", "transaction", "I", false)
  | 4 => ("FencedBroker$Producer", "begunAt", "I", false)
  | 5 => ("FencedBroker$Producer", "touched", "I", false)
  | _ => ("FencedBroker$Producer", "pending", "[I", true)
def q_Broker : u_T := fun k => match k with
  | 0 => ("FencedBroker", "logs", "[LFencedBroker$Log;", true)
  | 1 => ("FencedBroker", "producers", "[LFencedBroker$Producer;", true)
  | 2 => ("FencedBroker", "groups", "[LFencedBroker$Group;", true)
  | 3 => ("FencedBroker", "transactions", "I", false)
  | 4 => ("FencedBroker", "time", "I", false)
  | _ => ("FencedBroker", "lastValue", "I", false)
def q_List : u_T := fun k => match k with
  | 0 => ("java/util/AbstractList", "modCount", "I", false)
  | 1 => ("java/util/ArrayList", "elementData", "[Ljava/lang/Object;", false)
  | _ => ("java/util/ArrayList", "size", "I", false)
def q_Model : u_T := fun k => match k with
  | 0 => ("FencedBrokerModel", "failed", "I", false)
  | 1 => ("FencedBrokerModel", "kind", "[I", true)
  | 2 => ("FencedBrokerModel", "value", "[I", true)
  | 3 => ("FencedBrokerModel", "by", "[I", true)
  | 4 => ("FencedBrokerModel", "byAge", "[I", true)
  | 5 => ("FencedBrokerModel", "sequence", "[I", true)
  | 6 => ("FencedBrokerModel", "transaction", "[I", true)
  | 7 => ("FencedBrokerModel", "length", "[I", true)
  | 8 => ("FencedBrokerModel", "start", "[I", true)
  | 9 => ("FencedBrokerModel", "high", "[I", true)
  | 10 => ("FencedBrokerModel", "status", "[I", true)
  | 11 => ("FencedBrokerModel", "age", "[I", true)
  | 12 => ("FencedBrokerModel", "current", "[I", true)
  | 13 => ("FencedBrokerModel", "touched", "[I", true)
  | 14 => ("FencedBrokerModel", "begun", "[I", true)
  | 15 => ("FencedBrokerModel", "pending", "[I", true)
  | 16 => ("FencedBrokerModel", "transactions", "I", false)
  | 17 => ("FencedBrokerModel", "generation", "[I", true)
  | 18 => ("FencedBrokerModel", "member", "[Z", true)
  | 19 => ("FencedBrokerModel", "heard", "[I", true)
  | 20 => ("FencedBrokerModel", "holder", "[I", true)
  | 21 => ("FencedBrokerModel", "committed", "[I", true)
  | 22 => ("FencedBrokerModel", "time", "I", false)
  | _ => ("FencedBrokerModel", "last", "I", false)
def ccl : List vw_C := [("FencedBroker$Entry", q_Entry, 6), ("FencedBroker$Group", q_Group, 5), ("FencedBroker$Log", q_Log, 4), ("FencedBroker$Producer", q_Producer, 7), ("FencedBroker", q_Broker, 6), ("java/util/ArrayList", q_List, 3), ("FencedBrokerModel", q_Model, 24)]
theorem ccl_in : ∀ q ∈ ccl, ∀ w ∈ u_ws q.1 q.2.1 q.2.2, w ∈ lw_tbl := by decide +kernel
theorem ccl_nm : ∀ q ∈ ccl, ∀ a, a < q.2.2 → ∀ b, b < q.2.2 → a ≠ b → (q.2.1 a).2.1 ≠ (q.2.1 b).2.1 := by decide +kernel
def tyk (k : Nat) : FieldType := match k with
  | 0 => .int
  | 1 => .boolean
  | 2 => .long
  | 3 => .object "java/lang/Object"
  | 4 => .object "FencedBroker$Log"
  | 5 => .object "FencedBroker$Producer"
  | _ => .object "FencedBroker$Group"
/-- what stays fixed: the classes' numbers, the arrays' classes, from where on cells may be written, ArrayList's empty array, the Class object of Object[] -/
abbrev EN : Type := va_G × (Nat → ClassId) × Nat × (Nat × Nat)
def tyl (G : EN) : List (ClassId × FieldType) := (List.range 7).map (fun k => (G.2.1 k, tyk k))
def AG (G : EN) : Nat → Prop := fun q => G.2.2.1 ≤ q
/-- an array that was there before: the script (7), ArrayList's empty one (8): read only -/
def hp_old (G : EN) (a k n : Nat) (x : HA) (H : Heap) : Prop := ∃ cell : Cell, H[a]? = some cell ∧ cell.cls = G.2.1 k ∧ (∀ q, cell.vm ≠ .statics q) ∧ cell.vm ≠ .unknown ∧ cell.slots.size = n ∧ ∀ f, x = .inl f → ∀ j, j < n → cell.slots[j]? = some (.int (f j))
def hp_at (G : EN) (a : Nat) (c : HC) (H : Heap) : Prop := match c with
  | .inl (ci, fs) => va_at G.1 ccl (a, .inr (ci, fs.map hv_v)) H
  | .inr (k, n, x) => (k < 7 ∧ va_at G.1 ccl (a, .inl (G.2.1 k, ha_a n x)) H) ∨ (7 ≤ k ∧ hp_old G a k n x H)
def HP (G : EN) (h : HH) (H : Heap) : Prop := ∀ (a : Nat) (c : HC), h a = some c → hp_at G a c H
theorem hp_at.kept {G : EN} {a : Nat} {c : HC} {H H1 : Heap} (h : hp_at G a c H) (hq : H1[a]? = H[a]?) : hp_at G a c H1 := by
  rcases c with ⟨ci, fs⟩ | ⟨k, n, x⟩
  · exact va_at.kept (q := (a, .inr (ci, fs.map hv_v))) h hq
  · rcases h with h | ⟨h0, cell, h1, h2⟩
    · exact Or.inl ⟨h.1, va_at.kept (q := (a, .inl (G.2.1 k, ha_a n x))) h.2 hq⟩
    · exact Or.inr ⟨h0, cell, by rw [hq]; exact h1, h2⟩
theorem hp_at.lt {G : EN} {a : Nat} {c : HC} {H : Heap} (h : hp_at G a c H) : a < H.size := by
  rcases c with ⟨ci, fs⟩ | ⟨k, n, x⟩
  · exact va_at.lt (q := (a, .inr (ci, fs.map hv_v))) h
  · rcases h with h | ⟨h0, cell, h1, h2⟩
    · exact va_at.lt (q := (a, .inl (G.2.1 k, ha_a n x))) h.2
    · exact (Array.getElem?_eq_some_iff.mp h1).1
theorem hp_ex {G : EN} {a k n : Nat} {x : HA} {H : Heap} (h : hp_at G a (.inr (k, n, x)) H) (hk : k < 7) : va_at G.1 ccl (a, .inl (G.2.1 k, ha_a n x)) H := by
  rcases h with h | h
  · exact h.2
  · exact absurd h.1 (by omega)
theorem HP.up {G : EN} {h : HH} {H H1 : Heap} {a : Nat} {c : HC} (hh : HP G h H) (hq : ∀ q : Nat, q ≠ a → H1[q]? = H[q]?) (hc : hp_at G a c H1) : HP G (va_up h a (some c)) H1 := by
  intro b d hb
  by_cases e : b = a
  · subst e
    simp [va_up] at hb
    subst hb
    exact hc
  · simp [va_up, e] at hb
    exact (hh b d hb).kept (hq b e)
theorem HP.push {G : EN} {h : HH} {H H1 : Heap} {z : Nat} {c : HC} (hh : HP G h H) (hz : H.size = z) (hq : ∀ q : Nat, q < z → H1[q]? = H[q]?) (hc : hp_at G z c H1) : HP G (va_up h z (some c)) H1 := by
  intro b d hb
  by_cases e : b = z
  · subst e
    simp [va_up] at hb
    subst hb
    exact hc
  · simp [va_up, e] at hb
    exact (hh b d hb).kept (hq b (by have := (hh b d hb).lt; omega))
/-- a later state: the tables warmer, the old cells as they were -/
def Later (bs : Nat) (U V : State) : Prop := U.WarmedH V.vm ∧ bs ≤ V.heap.size ∧ ∀ q : Nat, q < bs → V.heap[q]? = U.heap[q]?
/-- the words on heap cells that a 'throw' needs -/
def thr_ws : List Cond := [.isRef (.static "java/lang/Throwable" "UNASSIGNED_STACK" "[Ljava/lang/StackTraceElement;"), .isRef (.static "java/lang/Throwable" "SUPPRESSED_SENTINEL" "Ljava/util/List;"), .laysStatic "java/lang/Throwable" "UNASSIGNED_STACK" "[Ljava/lang/StackTraceElement;", .laysStatic "java/lang/Throwable" "SUPPRESSED_SENTINEL" "Ljava/util/List;"]
def exL : List String := ["java/lang/IllegalArgumentException", "java/lang/IllegalStateException", "java/util/NoSuchElementException", "java/lang/UnsupportedOperationException", "java/lang/IndexOutOfBoundsException"]
def GX (G : EN) (V : State) : Prop := TW V ∧ va_K G.1 ccl (tyl G) V ∧ va_Z "java/util/ArrayList" "DEFAULTCAPACITY_EMPTY_ELEMENTDATA" "[Ljava/lang/Object;" (.ref G.2.2.2.1) (AG G) V V.heap ∧ va_Mi "[Ljava/lang/Object;" G.2.2.2.2 V ∧ (∀ w ∈ thr_ws, w.before #[] V = true) ∧ (∀ E ∈ exL, ∀ E2 ∈ exL, E ≠ E2 → va_Nc E E2 V) ∧ ArrOfT V (G.2.1 7) .int ∧ ArrOfT V (G.2.1 8) (.object "java/lang/Object")
def GW (G : EN) (U : State) : Prop := ∀ V : State, Later G.2.2.1 U V → GX G V
theorem Later.trans {bs : Nat} {U V X : State} (h : Later bs U V) (h2 : Later bs V X) : Later bs U X := ⟨State.WarmedH.trans h.1 h2.1, h2.2.1, fun q hq => (h2.2.2 q hq).trans (h.2.2 q hq)⟩
theorem GW.move {G : EN} {U V : State} (h : GW G U) (hl : Later G.2.2.1 U V) : GW G V := fun X hX => h X (hl.trans hX)
end
section
/-! pure reads and writes of the heap; nothing where the machine itself would throw -/
def gV (h : HH) (a ci k : Nat) : Option HV := match h a with
  | some (.inl (c, fs)) => if c = ci then fs[k]? else none
  | _ => none
def gI (h : HH) (a ci k : Nat) : Option Int32 := match gV h a ci k with
  | some (.inl x) => some x
  | _ => none
def gR (h : HH) (a ci k : Nat) : Option Nat := match gV h a ci k with
  | some (.inr (some q)) => some q
  | _ => none
def pV (bs : Nat) (h : HH) (a ci k : Nat) (v : HV) : Option HH := match h a with
  | some (.inl (c, fs)) => if c = ci ∧ k < fs.length ∧ bs ≤ a then some (va_up h a (some (.inl (ci, fs.set k v)))) else none
  | _ => none
def inr_ (i : Int32) (n : Nat) : Bool := !(decide (i < 0) || decide (n ≤ i.toNatClampNeg))
def aI (h : HH) (a kd : Nat) (i : Int32) : Option Int32 := match h a with
  | some (.inr (k, n, .inl f)) => if k = kd ∧ inr_ i n = true then some (f i.toNatClampNeg) else none
  | _ => none
def aIs (bs : Nat) (h : HH) (a kd : Nat) (i x : Int32) : Option HH := match h a with
  | some (.inr (k, n, .inl f)) => if k = kd ∧ inr_ i n = true ∧ bs ≤ a then some (va_up h a (some (.inr (kd, n, .inl (upd f i.toNatClampNeg x))))) else none
  | _ => none
def aJ (h : HH) (a kd : Nat) (i : Int32) : Option Int64 := match h a with
  | some (.inr (k, n, .inr (.inl f))) => if k = kd ∧ inr_ i n = true then some (f i.toNatClampNeg) else none
  | _ => none
def aJs (bs : Nat) (h : HH) (a kd : Nat) (i : Int32) (x : Int64) : Option HH := match h a with
  | some (.inr (k, n, .inr (.inl f))) => if k = kd ∧ inr_ i n = true ∧ bs ≤ a then some (va_up h a (some (.inr (kd, n, .inr (.inl (vp_updL f i.toNatClampNeg x)))))) else none
  | _ => none
def aQ (h : HH) (a kd : Nat) (i : Int32) : Option (Option Nat) := match h a with
  | some (.inr (k, n, .inr (.inr f))) => if k = kd ∧ inr_ i n = true ∧ k < 7 then some (f i.toNatClampNeg) else none
  | _ => none
def aR (h : HH) (a kd : Nat) (i : Int32) : Option Nat := (aQ h a kd i).bind id
def aQs (bs : Nat) (h : HH) (a kd : Nat) (i : Int32) (x : Option Nat) : Option HH := match h a with
  | some (.inr (k, n, .inr (.inr f))) => if k = kd ∧ inr_ i n = true ∧ bs ≤ a ∧ k < 7 then some (va_up h a (some (.inr (kd, n, .inr (.inr (va_up f i.toNatClampNeg x)))))) else none
  | _ => none
def aN (h : HH) (a : Nat) : Option Int32 := match h a with
  | some (.inr (k, n, _)) => if k < 9 then some (Int32.ofNat n) else none
  | _ => none
/-- the object is of this class -/
def oK (h : HH) (a ci : Nat) : Option Unit := match h a with
  | some (.inl (c, _)) => if c = ci then some () else none
  | _ => none
def ass (c : Bool) : Option Unit := if c = true then some () else none
theorem bd {α β : Type} {x : Option α} {K : α → Option β} {r : β} (h : x.bind K = some r) : ∃ v, x = some v ∧ K v = some r := by
  cases x with
  | none => cases h
  | some v => exact ⟨v, rfl, h⟩
theorem ifp {α : Type} {c : Prop} [Decidable c] {A B r : α} (h : c) (hf : (if c then A else B) = r) : A = r := by rw [if_pos h] at hf; exact hf
theorem ifn {α : Type} {c : Prop} [Decidable c] {A B r : α} (h : ¬ c) (hf : (if c then A else B) = r) : B = r := by rw [if_neg h] at hf; exact hf
theorem ass_t {c : Bool} {u : Unit} (h : ass c = some u) : c = true := by
  unfold ass at h
  split at h
  · assumption
  · cases h
theorem inr_in {i : Int32} {n : Nat} (h : inr_ i n = true) : vp_in i n := by
  intro q
  simp only [inr_, Bool.not_eq_true', Bool.or_eq_false_iff, decide_eq_false_iff_not] at h
  rcases q with q | q
  · exact h.1 q
  · exact h.2 q
theorem gI_at {h : HH} {a ci k : Nat} {x : Int32} (e : gI h a ci k = some x) : ∃ fs, h a = some (.inl (ci, fs)) ∧ fs[k]? = some (.inl x) := by
  unfold gI gV at e
  split at e
  · rename_i y h1
    cases e
    split at h1
    · rename_i c fs h2
      split at h1
      · rename_i hc
        subst hc
        exact ⟨fs, h2, h1⟩
      · cases h1
    · cases h1
  · cases e
theorem gR_at {h : HH} {a ci k : Nat} {x : Nat} (e : gR h a ci k = some x) : ∃ fs, h a = some (.inl (ci, fs)) ∧ fs[k]? = some (.inr (some x)) := by
  unfold gR gV at e
  split at e
  · rename_i y h1
    cases e
    split at h1
    · rename_i c fs h2
      split at h1
      · rename_i hc
        subst hc
        exact ⟨fs, h2, h1⟩
      · cases h1
    · cases h1
  · cases e
theorem pV_at {bs : Nat} {h h' : HH} {a ci k : Nat} {v : HV} (e : pV bs h a ci k v = some h') : ∃ fs, h a = some (.inl (ci, fs)) ∧ k < fs.length ∧ bs ≤ a ∧ h' = va_up h a (some (.inl (ci, fs.set k v))) := by
  unfold pV at e
  split at e
  · rename_i c fs h2
    split at e
    · rename_i hc
      obtain ⟨rfl, h3, h4⟩ := hc
      cases e
      exact ⟨fs, h2, h3, h4, rfl⟩
    · cases e
  · cases e
theorem aI_at {h : HH} {a kd : Nat} {i x : Int32} (e : aI h a kd i = some x) : ∃ n f, h a = some (.inr (kd, n, .inl f)) ∧ vp_in i n ∧ x = f i.toNatClampNeg := by
  unfold aI at e
  split at e
  · rename_i k n f h2
    split at e
    · rename_i hc
      obtain ⟨rfl, h3⟩ := hc
      cases e
      exact ⟨n, f, h2, inr_in h3, rfl⟩
    · cases e
  · cases e
theorem aIs_at {bs : Nat} {h h' : HH} {a kd : Nat} {i x : Int32} (e : aIs bs h a kd i x = some h') : ∃ n f, h a = some (.inr (kd, n, .inl f)) ∧ vp_in i n ∧ bs ≤ a ∧ h' = va_up h a (some (.inr (kd, n, .inl (upd f i.toNatClampNeg x)))) := by
  unfold aIs at e
  split at e
  · rename_i k n f h2
    split at e
    · rename_i hc
      obtain ⟨rfl, h3, h4⟩ := hc
      cases e
      exact ⟨n, f, h2, inr_in h3, h4, rfl⟩
    · cases e
  · cases e
theorem aJ_at {h : HH} {a kd : Nat} {i : Int32} {x : Int64} (e : aJ h a kd i = some x) : ∃ n f, h a = some (.inr (kd, n, .inr (.inl f))) ∧ vp_in i n ∧ x = f i.toNatClampNeg := by
  unfold aJ at e
  split at e
  · rename_i k n f h2
    split at e
    · rename_i hc
      obtain ⟨rfl, h3⟩ := hc
      cases e
      exact ⟨n, f, h2, inr_in h3, rfl⟩
    · cases e
  · cases e
theorem aJs_at {bs : Nat} {h h' : HH} {a kd : Nat} {i : Int32} {x : Int64} (e : aJs bs h a kd i x = some h') : ∃ n f, h a = some (.inr (kd, n, .inr (.inl f))) ∧ vp_in i n ∧ bs ≤ a ∧ h' = va_up h a (some (.inr (kd, n, .inr (.inl (vp_updL f i.toNatClampNeg x))))) := by
  unfold aJs at e
  split at e
  · rename_i k n f h2
    split at e
    · rename_i hc
      obtain ⟨rfl, h3, h4⟩ := hc
      cases e
      exact ⟨n, f, h2, inr_in h3, h4, rfl⟩
    · cases e
  · cases e
theorem aQ_at {h : HH} {a kd : Nat} {i : Int32} {x : Option Nat} (e : aQ h a kd i = some x) : ∃ n f, h a = some (.inr (kd, n, .inr (.inr f))) ∧ vp_in i n ∧ x = f i.toNatClampNeg ∧ kd < 7 := by
  unfold aQ at e
  split at e
  · rename_i k n f h2
    split at e
    · rename_i hc
      obtain ⟨rfl, h3, h4⟩ := hc
      cases e
      exact ⟨n, f, h2, inr_in h3, rfl, h4⟩
    · cases e
  · cases e
theorem aR_at {h : HH} {a kd : Nat} {i : Int32} {x : Nat} (e : aR h a kd i = some x) : aQ h a kd i = some (some x) := by
  unfold aR at e
  cases h1 : aQ h a kd i with
  | none => rw [h1] at e; cases e
  | some y =>
    rw [h1] at e
    exact congrArg some e
theorem aQs_at {bs : Nat} {h h' : HH} {a kd : Nat} {i : Int32} {x : Option Nat} (e : aQs bs h a kd i x = some h') : ∃ n f, h a = some (.inr (kd, n, .inr (.inr f))) ∧ vp_in i n ∧ bs ≤ a ∧ kd < 7 ∧ h' = va_up h a (some (.inr (kd, n, .inr (.inr (va_up f i.toNatClampNeg x))))) := by
  unfold aQs at e
  split at e
  · rename_i k n f h2
    split at e
    · rename_i hc
      obtain ⟨rfl, h3, h4, h5⟩ := hc
      cases e
      exact ⟨n, f, h2, inr_in h3, h4, h5, rfl⟩
    · cases e
  · cases e
theorem aN_at {h : HH} {a : Nat} {x : Int32} (e : aN h a = some x) : ∃ k n f, h a = some (.inr (k, n, f)) ∧ x = Int32.ofNat n := by
  unfold aN at e
  split at e
  · rename_i k n f h2
    split at e
    · cases e
      exact ⟨k, n, f, h2, rfl⟩
    · cases e
  · cases e
theorem oK_at {h : HH} {a ci : Nat} {u : Unit} (e : oK h a ci = some u) : ∃ fs, h a = some (.inl (ci, fs)) := by
  unfold oK at e
  split at e
  · rename_i c fs h2
    split at e
    · rename_i hc
      subst hc
      exact ⟨fs, h2⟩
    · cases e
  · cases e
theorem vP1 {D : va_G} {cl : List vw_C} {a : Nat} {x : va_E} {H : Heap} (h : va_at D cl (a, x) H) : va_P D cl [(a, x)] H := fun k q hk => by
  match k, hk with
  | 0, hk => cases hk; exact h
  | k + 1, hk => simp at hk
theorem tyl_at {G : EN} {k : Nat} (h : k < 7) : (tyl G)[k]? = some (G.2.1 k, tyk k) := by simp [tyl, h]
theorem ccl_ty : ∀ q ∈ ccl, ∀ k, k < q.2.2 → parseFieldDescriptor (q.2.1 k).2.2.1 = some ((parseFieldDescriptor (q.2.1 k).2.2.1).getD .int) := by decide +kernel
theorem cond_sf {ref owner n d : String} {args : Array Value} {s : State} (h : (Cond.sameField ref owner n d).before args s = true) : ∀ x, s.fieldFound? owner n d = some x → s.fieldFound? ref n d = some x := by
  intro x hx
  simp only [Cond.before, Cond.holds, Cond.value] at h
  cases hj : s.fieldFound? ref n d with
  | none => simp [hj] at h
  | some y =>
    have h2 := Cond.sameField_spec (owner := owner) (args := args) (first := s) (o := none) (idx := []) (c := y.1) (k := y.2.1) (i := y.2.2.1) (f := y.2.2.2) hj (by simpa [Cond.holds, Cond.value] using h)
    rw [hx] at h2
    exact h2.symm
/-- a field's entry in a class's pool: the field k of the class ci -/
def FL (own : String) (index ci k : Nat) : Prop := ∃ (Cn : String) (T : u_T) (N : Nat), ccl[ci]? = some (Cn, T, N) ∧ k < N ∧ ((Cond.fieldLink own index (T k).1 (T k).2.1 (T k).2.2.1 ∈ lw_tbl) ∨ (∃ host, Cond.fieldLinkNest own index (T k).1 (T k).2.1 (T k).2.2.1 host ∈ lw_tbl) ∨ ∃ ref, Cond.fieldLink own index ref (T k).2.1 (T k).2.2.1 ∈ lw_tbl ∧ Cond.sameField ref (T k).1 (T k).2.1 (T k).2.2.1 ∈ lw_tbl)
def FLP (own : String) (index ci k : Nat) (ty : FieldType) : Prop := FL own index ci k ∧ ∀ (Cn : String) (T : u_T) (N : Nat), ccl[ci]? = some (Cn, T, N) → (T k).2.2.2 = false ∧ parseFieldDescriptor (T k).2.2.1 = some ty
def FLF (own : String) (index ci k : Nat) (ty : FieldType) : Prop := ∀ (Cn : String) (T : u_T) (N : Nat), ccl[ci]? = some (Cn, T, N) → k < N ∧ (T k).2.2.2 = true ∧ (T k).1 = own ∧ parseFieldDescriptor (T k).2.2.1 = some ty ∧ Cond.fieldLink own index (T k).1 (T k).2.1 (T k).2.2.1 ∈ lw_tbl
/-- what stays in a walk -/
def CX (G : EN) (p : Program) (l : Launch) (s : State) (m : MethodId) (meth : Method) (c : Code) (cc : ByteArray) (nL : Nat) (own : String) : Prop :=
  p.tables.exec = Jvm.exec ∧ c.code = cc ∧ c.maxLocals = nL ∧ s.vm.findClass own = some m.cls ∧ meth.locks = false ∧ GW G s ∧ G.2.2.1 ≤ s.heap.size ∧ l.stackTraces = false
/-- what moves -/
abbrev Z3 : Type := Nat × Nat × Nat
/-- z: the heap's size, and how many cells and slots may still be made -/
def ST (G : EN) (R : Room) (s : State) (h : HH) (z : Z3) (H : Heap) (locs : List Loc) (cells slots : Nat) : Prop := HP G h H ∧ H.size = z.1 ∧ va_S (AG G) s.heap H locs ∧ cells + z.2.1 ≤ R.cells ∧ slots + z.2.2 ≤ R.slots
theorem GW.here {G : EN} {s : State} (h : GW G s) (hb : G.2.2.1 ≤ s.heap.size) : GX G s := h s ⟨State.WarmedH.refl s, hb, fun _ _ => rfl⟩
theorem mem_ccl {ci : Nat} {q : vw_C} (h : ccl[ci]? = some q) : q ∈ ccl := List.mem_of_getElem? h
section RW
variable {G : EN} {p : Program} {l : Launch} {e : Env} {R : Room} {s : State} {m : MethodId} {args : Array Value} {below : List Frame} {meth : Method} {c : Code} {H : Heap} {locs : List Loc} {cells slots : Nat} {Q : State → Prop}
variable {cc : ByteArray} {pc nL : Nat} {own : String} {ls : Array Slot} {rest : List Value} {h : HH} {z : Z3} {a : Nat}
theorem r_getV (C : CX G p l s m meth c cc nL own) (hs : ST G R s h z H locs cells slots) {index ci k : Nat} (hF : FL own index ci k) {fs : List HV} {v : HV} (ha : h a = some (.inl (ci, fs))) (hv : fs[k]? = some v) (hdg : decode cc pc = .ok (.getfield index, 3))
    (kk : W p l e R s m args below meth c H locs cells slots Q (F0 m (pc + 3) ls (hv_v v :: rest))) : W p l e R s m args below meth c H locs cells slots Q (F0 m pc ls (.ref a :: rest)) := by
  obtain ⟨hx, hb, -, hown, -, hG, hbs, -⟩ := C
  obtain ⟨hT, hK, -⟩ := hG.here hbs
  obtain ⟨Cn, T, N, hc, hk, hl⟩ := hF
  have hin : ∀ w ∈ u_ws Cn T N, w ∈ (u_ws Cn T N) := fun w hw => hw
  have hok : ∀ w ∈ u_ws Cn T N, okw w = true := by
    intro w hw
    unfold u_ws u_lay at hw
    obtain ⟨j, -, rfl⟩ := List.mem_map.mp hw
    split <;> rfl
  have hts : ∀ w ∈ u_ws Cn T N, w.before args s = true := fun w hw => hT.use (ccl_in _ (mem_ccl hc) w hw) (hok w hw)
  have hP := vP1 (D := G.1) (cl := ccl) (a := a) (x := .inr (ci, fs.map hv_v)) (H := H) (hs.1 a _ ha)
  have hv' : (fs.map hv_v)[k]? = some (hv_v v) := by simp [hv]
  rcases hl with hl | ⟨host, hl⟩ | ⟨ref, hl, hl2⟩
  · exact va_get (D := G.1) hx hb hts hin hown hK hP 0 rfl hc k hk (hT.use hl rfl) (fun _ h9 => h9) hv' hdg kk
  · exact va_getN (D := G.1) hx hb hts hin hown hK hP 0 rfl hc k hk (hT.use hl rfl) (fun _ h9 => h9) hv' hdg kk
  · exact va_get (D := G.1) hx hb hts hin hown hK hP 0 rfl hc k hk (hT.use hl rfl) (cond_sf (args := args) (hT.use hl2 rfl)) hv' hdg kk
theorem r_getI (C : CX G p l s m meth c cc nL own) (hs : ST G R s h z H locs cells slots) {index ci k : Nat} (hF : FL own index ci k) (hdg : decode cc pc = .ok (.getfield index, 3)) {β : Type} {K : Int32 → Option β} {r : β} (hf : (gI h a ci k).bind K = some r)
    (kk : ∀ v, K v = some r → W p l e R s m args below meth c H locs cells slots Q (F0 m (pc + 3) ls (.int v :: rest))) : W p l e R s m args below meth c H locs cells slots Q (F0 m pc ls (.ref a :: rest)) := by
  obtain ⟨v, h1, h2⟩ := bd hf
  obtain ⟨fs, h3, h4⟩ := gI_at h1
  exact r_getV C hs hF h3 h4 hdg (kk v h2)
theorem r_getR (C : CX G p l s m meth c cc nL own) (hs : ST G R s h z H locs cells slots) {index ci k : Nat} (hF : FL own index ci k) (hdg : decode cc pc = .ok (.getfield index, 3)) {β : Type} {K : Nat → Option β} {r : β} (hf : (gR h a ci k).bind K = some r)
    (kk : ∀ v, K v = some r → W p l e R s m args below meth c H locs cells slots Q (F0 m (pc + 3) ls (.ref v :: rest))) : W p l e R s m args below meth c H locs cells slots Q (F0 m pc ls (.ref a :: rest)) := by
  obtain ⟨v, h1, h2⟩ := bd hf
  obtain ⟨fs, h3, h4⟩ := gR_at h1
  exact r_getV C hs hF h3 h4 hdg (kk v h2)
end RW
end
section
theorem hv_set (fs : List HV) (k : Nat) (v : HV) : (fs.set k v).map hv_v = (fs.map hv_v).set k (hv_v v) := by rw [List.map_set]
theorem ws_ok {Cn : String} {T : u_T} {N : Nat} : ∀ w ∈ u_ws Cn T N, okw w = true := by
  intro w hw
  unfold u_ws u_lay at hw
  obtain ⟨j, -, rfl⟩ := List.mem_map.mp hw
  split <;> rfl
theorem ws_ts {s : State} (hT : TW s) {ci : Nat} {Cn : String} {T : u_T} {N : Nat} (hc : ccl[ci]? = some (Cn, T, N)) {args : Array Value} : ∀ w ∈ u_ws Cn T N, w.before args s = true := fun w hw => hT.use (ccl_in _ (mem_ccl hc) w hw) (ws_ok w hw)
theorem old_arr {s : State} {cA : ClassId} {ty : FieldType} {cell : Cell} (h : ArrOfT s cA ty) (hc : cell.cls = cA) (hv : ∀ q, cell.vm ≠ .statics q) : s.isArrayOf cell ty := by
  obtain ⟨-, k, hk, h3⟩ := h 0 (fun _ => .null)
  exact ⟨hv, k, by rw [hc]; exact hk, h3⟩
theorem aN_78 {h : HH} {a k n : Nat} {f : HA} {x : Int32} (e : aN h a = some x) (ha : h a = some (.inr (k, n, f))) (h7 : 7 ≤ k) : k = 7 ∨ k = 8 := by
  unfold aN at e
  rw [ha] at e
  dsimp only at e
  split at e
  · omega
  · cases e
section RW2
variable {G : EN} {p : Program} {l : Launch} {e : Env} {R : Room} {s : State} {m : MethodId} {args : Array Value} {below : List Frame} {meth : Method} {c : Code} {H : Heap} {locs : List Loc} {cells slots : Nat} {Q : State → Prop}
variable {cc : ByteArray} {pc nL : Nat} {own : String} {ls : Array Slot} {rest : List Value} {h : HH} {z : Z3} {a : Nat}
theorem ST.put {H1 : Heap} {x : HC} {k : Nat} (hs : ST G R s h z H locs cells slots) (z1 : H1.size = H.size) (oq : ∀ q : Nat, q ≠ a → H1[q]? = H[q]?) (ha : G.2.2.1 ≤ a) (hc : hp_at G a x H1) : ST G R s (va_up h a (some x)) z H1 (locs ++ [⟨a, k⟩]) cells slots :=
  ⟨hs.1.up oq hc, z1.trans hs.2.1, hs.2.2.1.put z1 oq ha, hs.2.2.2⟩
theorem r_putV (C : CX G p l s m meth c cc nL own) (hs : ST G R s h z H locs cells slots) {index ci k : Nat} {ty : FieldType} (hF : FLP own index ci k ty) {v : HV} (hn : narrow ty (hv_v v) = hv_v v) (hfit : fits ty (hv_v v) = true) (hdg : decode cc pc = .ok (.putfield index, 3)) {β : Type} {K : HH → Option β} {r : β} (hf : (pV G.2.2.1 h a ci k v).bind K = some r)
    (kk : ∀ (h1 : HH) (H1 : Heap) (locs1 : List Loc), K h1 = some r → ST G R s h1 z H1 locs1 cells slots → W p l e R s m args below meth c H1 locs1 cells slots Q (F0 m (pc + 3) ls rest)) : W p l e R s m args below meth c H locs cells slots Q (F0 m pc ls (hv_v v :: .ref a :: rest)) := by
  obtain ⟨h1, hp1, hf⟩ := bd hf
  obtain ⟨fs, ha, hkl, hba, rfl⟩ := pV_at hp1
  obtain ⟨hx, hb, -, hown, -, hG, hbs, -⟩ := C
  obtain ⟨hT, hK, -⟩ := hG.here hbs
  obtain ⟨⟨Cn, T, N, hc, hk, hl⟩, hF2⟩ := hF
  obtain ⟨hfin, hd⟩ := hF2 Cn T N hc
  have hin : ∀ w ∈ u_ws Cn T N, w ∈ (u_ws Cn T N) := fun w hw => hw
  have hts : ∀ w ∈ u_ws Cn T N, w.before args s = true := ws_ts hT hc
  have hap := va_apart (own := own) hts hin _ (ccl_ty _ (mem_ccl hc)) (ccl_nm _ (mem_ccl hc)) hK hc
  obtain ⟨r0, h10, cell, q1, q2, q3, q4⟩ : va_at G.1 ccl (a, .inr (ci, fs.map hv_v)) H := hs.1 a _ ha
  have hr : r0 = (Cn, T, N) := Option.some.inj (h10.symm.trans hc)
  subst hr
  obtain ⟨hS, hfc, kC, hkC, hkind⟩ := hK.1 ci _ hc
  obtain ⟨cf, kf, fi, f, hi, hsl⟩ := hS k hk
  have hlay := hts _ (hin _ (u_in_lay hk))
  unfold u_lay at hlay
  rw [if_neg (by rw [hfin]; decide)] at hlay
  have hst := (u_facts hfc hkC (u_lays hts hin hk) hi).1
  have h6 := u_store hfc hkC hkind hlay hi hd hn hfit
  have fin : ∀ H' : Heap, H'[a]? = some (cell.setSlot f.slot (hv_v v)) → H'.size = H.size → (∀ q, q ≠ a → H'[q]? = H[q]?) → W p l e R s m args below meth c H' (locs ++ [⟨a, f.slot⟩]) cells slots Q (F0 m (pc + 3) ls rest) := by
    intro H' e1 e2 e3
    refine kk _ H' _ hf (hs.put e2 e3 hba ?_)
    show va_at G.1 ccl (a, .inr (ci, (fs.set k v).map hv_v)) H'
    rw [hv_set]
    rw [hsl] at e1
    exact ⟨_, hc, t_OB.to (V := updV (vp_V (fs.map hv_v)) k (hv_v v)) ⟨_, e1, q2, q3, t_set q4 hap hk (hv_v v)⟩ (fun j _ => vp_updV_set (by rw [List.length_map]; exact hkl) (hv_v v) j)⟩
  rcases hl with hl | ⟨host, hl⟩ | ⟨ref, hl, hl2⟩
  · exact W.putK hx hb (f := f) ⟨hown, hT.use hl rfl, ⟨_, _, _, hi⟩, hst⟩ (by rw [q2]; exact h6) q1 q3 (by rw [hsl]; exact k2_hasslot (q4 k hk)) rfl rfl hdg fin
  · exact va_WputK hx hb (f := f) hown (hT.use hl rfl) hi hst (by rw [q2]; exact h6) q1 q3 (by rw [hsl]; exact k2_hasslot (q4 k hk)) rfl rfl hdg fin
  · exact W.putK hx hb (f := f) ⟨hown, hT.use hl rfl, ⟨_, _, _, cond_sf (args := args) (hT.use hl2 rfl) _ hi⟩, hst⟩ (by rw [q2]; exact h6) q1 q3 (by rw [hsl]; exact k2_hasslot (q4 k hk)) rfl rfl hdg fin
theorem r_putF (C : CX G p l s m meth c cc nL own) (hs : ST G R s h z H locs cells slots) (hin2 : meth.name = "<init>") {index ci k : Nat} {ty : FieldType} (hF : FLF own index ci k ty) {v : HV} (hn : narrow ty (hv_v v) = hv_v v) (hfit : fits ty (hv_v v) = true) (hdg : decode cc pc = .ok (.putfield index, 3)) {β : Type} {K : HH → Option β} {r : β} (hf : (pV G.2.2.1 h a ci k v).bind K = some r)
    (kk : ∀ (h1 : HH) (H1 : Heap) (locs1 : List Loc), K h1 = some r → ST G R s h1 z H1 locs1 cells slots → W p l e R s m args below meth c H1 locs1 cells slots Q (F0 m (pc + 3) ls rest)) : W p l e R s m args below meth c H locs cells slots Q (F0 m pc ls (hv_v v :: .ref a :: rest)) := by
  obtain ⟨h1, hp1, hf⟩ := bd hf
  obtain ⟨fs, ha, hkl, hba, rfl⟩ := pV_at hp1
  obtain ⟨hx, hb, -, hown, -, hG, hbs, -⟩ := C
  obtain ⟨hT, hK, -⟩ := hG.here hbs
  obtain ⟨r0, hc, cell, q1, q2, q3, q4⟩ : va_at G.1 ccl (a, .inr (ci, fs.map hv_v)) H := hs.1 a _ ha
  obtain ⟨Cn, T, N⟩ := r0
  obtain ⟨hk, hfin, hdecl, hd, hl⟩ := hF Cn T N hc
  have hin : ∀ w ∈ u_ws Cn T N, w ∈ (u_ws Cn T N) := fun w hw => hw
  have hts : ∀ w ∈ u_ws Cn T N, w.before args s = true := ws_ts hT hc
  have hap := va_apart (own := own) hts hin _ (ccl_ty _ (mem_ccl hc)) (ccl_nm _ (mem_ccl hc)) hK hc
  obtain ⟨hS, hfc, kC, hkC, hkind⟩ := hK.1 ci _ hc
  obtain ⟨cf, kf, fi, f, hi, hsl⟩ := hS k hk
  have hlay := hts _ (hin _ (u_in_lay hk))
  unfold u_lay at hlay
  rw [if_pos hfin] at hlay
  have hst := (u_facts hfc hkC (u_lays hts hin hk) hi).1
  have hcf : m.cls = cf := by
    obtain ⟨_, _, c', _, _, _, -, -, hf', -, -, -, hown2, -⟩ := Cond.laysFinal_spec hlay
    have e1 : c' = cf := by have := hi.symm.trans hf'; simp at this; exact this.1.symm
    rw [hdecl] at hown2
    rw [← e1]; exact Option.some.inj (hown.symm.trans hown2)
  have h6 := u_fits hfc hkC hkind (Or.inr hlay) hi hd hn hfit
  refine W.putFinK hx hb hown (hT.use hl rfl) hi hst hcf hin2 (by rw [q2]; exact h6) q1 q3 (by rw [hsl]; exact k2_hasslot (q4 k hk)) rfl rfl hdg fun H' e1 e2 e3 => ?_
  refine kk _ H' _ hf (hs.put e2 e3 hba ?_)
  show va_at G.1 ccl (a, .inr (ci, (fs.set k v).map hv_v)) H'
  rw [hv_set]
  rw [hsl] at e1
  exact ⟨_, hc, t_OB.to (V := updV (vp_V (fs.map hv_v)) k (hv_v v)) ⟨_, e1, q2, q3, t_set q4 hap hk (hv_v v)⟩ (fun j _ => vp_updV_set (by rw [List.length_map]; exact hkl) (hv_v v) j)⟩
theorem r_iald (C : CX G p l s m meth c cc nL own) (hs : ST G R s h z H locs cells slots) {i : Int32} (hdg : decode cc pc = .ok (.iaload, 1)) {β : Type} {K : Int32 → Option β} {r : β} (hf : (aI h a 0 i).bind K = some r)
    (kk : ∀ v, K v = some r → W p l e R s m args below meth c H locs cells slots Q (F0 m (pc + 1) ls (.int v :: rest))) : W p l e R s m args below meth c H locs cells slots Q (F0 m pc ls (.int i :: .ref a :: rest)) := by
  obtain ⟨v, h1, hf⟩ := bd hf
  obtain ⟨n, f, ha, hin, rfl⟩ := aI_at h1
  obtain ⟨hx, hb, -, hown, -, hG, hbs, -⟩ := C
  obtain ⟨hT, hK, -⟩ := hG.here hbs
  exact va_iald hx hb hK (vP1 (hp_ex (hs.1 a _ ha) (by decide))) 0 0 rfl (tyl_at (by decide)) hin hdg (kk _ hf)
theorem r_zald (C : CX G p l s m meth c cc nL own) (hs : ST G R s h z H locs cells slots) {i : Int32} (hdg : decode cc pc = .ok (.baload, 1)) {β : Type} {K : Int32 → Option β} {r : β} (hf : (aI h a 1 i).bind K = some r)
    (kk : ∀ v, K v = some r → W p l e R s m args below meth c H locs cells slots Q (F0 m (pc + 1) ls (.int v :: rest))) : W p l e R s m args below meth c H locs cells slots Q (F0 m pc ls (.int i :: .ref a :: rest)) := by
  obtain ⟨v, h1, hf⟩ := bd hf
  obtain ⟨n, f, ha, hin, rfl⟩ := aI_at h1
  obtain ⟨hx, hb, -, hown, -, hG, hbs, -⟩ := C
  obtain ⟨hT, hK, -⟩ := hG.here hbs
  exact va_zald hx hb hK (vP1 (hp_ex (hs.1 a _ ha) (by decide))) 0 1 rfl (tyl_at (by decide)) hin hdg (kk _ hf)
theorem r_lald (C : CX G p l s m meth c cc nL own) (hs : ST G R s h z H locs cells slots) {i : Int32} (hdg : decode cc pc = .ok (.laload, 1)) {β : Type} {K : Int64 → Option β} {r : β} (hf : (aJ h a 2 i).bind K = some r)
    (kk : ∀ v, K v = some r → W p l e R s m args below meth c H locs cells slots Q (F0 m (pc + 1) ls (.long v :: rest))) : W p l e R s m args below meth c H locs cells slots Q (F0 m pc ls (.int i :: .ref a :: rest)) := by
  obtain ⟨v, h1, hf⟩ := bd hf
  obtain ⟨n, f, ha, hin, rfl⟩ := aJ_at h1
  obtain ⟨hx, hb, -, hown, -, hG, hbs, -⟩ := C
  obtain ⟨hT, hK, -⟩ := hG.here hbs
  exact va_lald hx hb hK (vP1 (hp_ex (hs.1 a _ ha) (by decide))) 0 2 rfl (tyl_at (by decide)) hin hdg (kk _ hf)
theorem r_aaldQ (C : CX G p l s m meth c cc nL own) (hs : ST G R s h z H locs cells slots) {i : Int32} {kd : Nat} (hkd : 3 ≤ kd) (hdg : decode cc pc = .ok (.aaload, 1)) {x : Option Nat} (hf : aQ h a kd i = some x)
    (kk : W p l e R s m args below meth c H locs cells slots Q (F0 m (pc + 1) ls (va_rf x :: rest))) : W p l e R s m args below meth c H locs cells slots Q (F0 m pc ls (.int i :: .ref a :: rest)) := by
  obtain ⟨n, f, ha, hin, rfl, h7⟩ := aQ_at hf
  obtain ⟨hx, hb, -, hown, -, hG, hbs, -⟩ := C
  obtain ⟨hT, hK, -⟩ := hG.here hbs
  obtain ⟨Cn, hCn⟩ : ∃ Cn, tyk kd = .object Cn := by
    rcases (show kd = 3 ∨ kd = 4 ∨ kd = 5 ∨ kd = 6 by omega) with rfl | rfl | rfl | rfl <;> exact ⟨_, rfl⟩
  exact va_aldq hx hb hK (vP1 (hp_ex (hs.1 a _ ha) h7)) 0 kd rfl (by rw [tyl_at h7, hCn]) hin hdg kk
theorem r_aald (C : CX G p l s m meth c cc nL own) (hs : ST G R s h z H locs cells slots) {i : Int32} {kd : Nat} (hkd : 3 ≤ kd) (hdg : decode cc pc = .ok (.aaload, 1)) {β : Type} {K : Nat → Option β} {r : β} (hf : (aR h a kd i).bind K = some r)
    (kk : ∀ v, K v = some r → W p l e R s m args below meth c H locs cells slots Q (F0 m (pc + 1) ls (.ref v :: rest))) : W p l e R s m args below meth c H locs cells slots Q (F0 m pc ls (.int i :: .ref a :: rest)) := by
  obtain ⟨v, h1, hf⟩ := bd hf
  exact r_aaldQ C hs hkd hdg (aR_at h1) (kk v hf)
theorem r_alen (C : CX G p l s m meth c cc nL own) (hs : ST G R s h z H locs cells slots) (hdg : decode cc pc = .ok (.arraylength, 1)) {β : Type} {K : Int32 → Option β} {r : β} (hf : (aN h a).bind K = some r)
    (kk : ∀ v, K v = some r → W p l e R s m args below meth c H locs cells slots Q (F0 m (pc + 1) ls (.int v :: rest))) : W p l e R s m args below meth c H locs cells slots Q (F0 m pc ls (.ref a :: rest)) := by
  obtain ⟨v, h1, hf⟩ := bd hf
  obtain ⟨k, n, f, ha, rfl⟩ := aN_at h1
  obtain ⟨hx, hb, -, hown, -, hG, hbs, -⟩ := C
  obtain ⟨hT, hK, -⟩ := hG.here hbs
  rcases hs.1 a _ ha with h9 | ⟨h0, cell, g1, g2, g3, g4, g5, -⟩
  · refine va_alen hx hb hK (vP1 h9.2) 0 k rfl (tyl_at h9.1) ?_ hdg (kk _ hf)
    rcases f with f | f | f <;> rfl
  · obtain ⟨-, -, -, -, -, -, hA7, hA8⟩ := hG.here hbs
    have hk78 : k = 7 ∨ k = 8 := aN_78 h1 ha h0
    rcases hk78 with rfl | rfl
    · exact W.alen (ty := .int) hx hb g1 (old_arr hA7 g2 g3) (by rw [g5]) rfl rfl hdg (kk _ hf)
    · exact W.alen (ty := .object "java/lang/Object") hx hb g1 (old_arr hA8 g2 g3) (by rw [g5]) rfl rfl hdg (kk _ hf)
/-- a read of the script -/
theorem r_iald7 (C : CX G p l s m meth c cc nL own) (hs : ST G R s h z H locs cells slots) {i : Int32} (hdg : decode cc pc = .ok (.iaload, 1)) {β : Type} {K : Int32 → Option β} {r : β} (hf : (aI h a 7 i).bind K = some r)
    (kk : ∀ v, K v = some r → W p l e R s m args below meth c H locs cells slots Q (F0 m (pc + 1) ls (.int v :: rest))) : W p l e R s m args below meth c H locs cells slots Q (F0 m pc ls (.int i :: .ref a :: rest)) := by
  obtain ⟨v, h1, hf⟩ := bd hf
  obtain ⟨n, f, ha, hin, rfl⟩ := aI_at h1
  obtain ⟨hx, hb, -, hown, -, hG, hbs, -⟩ := C
  obtain ⟨-, -, -, -, -, -, hA7, hA8⟩ := hG.here hbs
  rcases hs.1 a _ ha with h9 | ⟨h0, cell, g1, g2, g3, g4, g5, g6⟩
  · exact absurd h9.1 (by decide)
  · have hlt : i.toNatClampNeg < n := Nat.not_le.mp fun q => hin (Or.inr q)
    exact W.iald hx hb g1 (old_arr hA7 g2 g3) g4 (by rw [g5]; exact hin) (g6 f rfl _ hlt) rfl rfl hdg (kk _ hf)
end RW2
end
section
def dflV (ty : FieldType) : HV := match ty with
  | .object _ => .inr none
  | .array _ => .inr none
  | _ => .inl 0
def dfl (ci : Nat) : List HV := match ccl[ci]? with
  | some q => (List.range q.2.2).map (fun k => dflV ((parseFieldDescriptor (q.2.1 k).2.2.1).getD .int))
  | none => []
theorem dfl_ok : ∀ q ∈ ccl, ∀ k, k < q.2.2 → defaultValue ((parseFieldDescriptor (q.2.1 k).2.2.1).getD .int) = hv_v (dflV ((parseFieldDescriptor (q.2.1 k).2.2.1).getD .int)) := by
  have h1 : ∀ q ∈ ccl, ∀ k, k < q.2.2 → ((parseFieldDescriptor (q.2.1 k).2.2.1).getD .int) = .int ∨ (∃ n, ((parseFieldDescriptor (q.2.1 k).2.2.1).getD .int) = .object n) ∨ ∃ n, ((parseFieldDescriptor (q.2.1 k).2.2.1).getD .int) = .array n := by
    intro q hq k hk
    have h2 : ((parseFieldDescriptor (q.2.1 k).2.2.1).getD .int) ∈ [FieldType.int, .object "java/util/ArrayList", .array .int, .array .boolean, .array (.object "java/lang/Object"), .array (.object "FencedBroker$Log"), .array (.object "FencedBroker$Producer"), .array (.object "FencedBroker$Group")] := by
      revert q k
      decide +kernel
    simp only [List.mem_cons, List.not_mem_nil, or_false] at h2
    rcases h2 with h | h | h | h | h | h | h | h
    · exact Or.inl h
    · exact Or.inr (Or.inl ⟨_, h⟩)
    all_goals exact Or.inr (Or.inr ⟨_, h⟩)
  intro q hq k hk
  rcases h1 q hq k hk with h | ⟨n, h⟩ | ⟨n, h⟩ <;> rw [h] <;> rfl
section RW3
variable {G : EN} {p : Program} {l : Launch} {e : Env} {R : Room} {s : State} {m : MethodId} {args : Array Value} {below : List Frame} {meth : Method} {c : Code} {H : Heap} {locs : List Loc} {cells slots : Nat} {Q : State → Prop}
variable {cc : ByteArray} {pc nL : Nat} {own : String} {ls : Array Slot} {rest : List Value} {h : HH} {z : Z3} {a : Nat}
/-- room for one cell of N slots -/
def nO (z : Z3) (N : Nat) : Option Unit := if 1 ≤ z.2.1 ∧ N ≤ z.2.2 then some () else none
def nZ (z : Z3) (N : Nat) : Z3 := (z.1 + 1, z.2.1 - 1, z.2.2 - N)
theorem nO_at {z : Z3} {N : Nat} {u : Unit} (h : nO z N = some u) : 1 ≤ z.2.1 ∧ N ≤ z.2.2 := by
  unfold nO at h
  split at h
  · assumption
  · cases h
theorem ST.new {H1 : Heap} {x : HC} {N N0 : Nat} (hs : ST G R s h z H locs cells slots) (hN : N0 ≤ N) (hz : 1 ≤ z.2.1 ∧ N ≤ z.2.2) (z1 : H1.size = H.size + 1) (oq : ∀ q : Nat, q < H.size → H1[q]? = H[q]?) (hc : hp_at G z.1 x H1) : ST G R s (va_up h z.1 (some x)) (nZ z N) H1 locs (cells + 1) (slots + N0) := by
  obtain ⟨h1, h2, h3, h4, h5⟩ := hs
  refine ⟨h1.push h2 (fun q hq => oq q (by omega)) hc, by show H1.size = z.1 + 1; omega, ⟨by rw [z1]; exact Nat.le_trans h3.1 (Nat.le_succ _), fun q hq hA => ?_, h3.2.2⟩, by show cells + 1 + (z.2.1 - 1) ≤ _; omega, by show slots + N0 + (z.2.2 - N) ≤ _; omega⟩
  rw [oq q (Nat.lt_of_lt_of_le hq h3.1)]
  exact h3.2.1 q hq hA
theorem r_iast (C : CX G p l s m meth c cc nL own) (hs : ST G R s h z H locs cells slots) {i x : Int32} (hdg : decode cc pc = .ok (.iastore, 1)) {β : Type} {K : HH → Option β} {r : β} (hf : (aIs G.2.2.1 h a 0 i x).bind K = some r)
    (kk : ∀ (h1 : HH) (H1 : Heap) (locs1 : List Loc), K h1 = some r → ST G R s h1 z H1 locs1 cells slots → W p l e R s m args below meth c H1 locs1 cells slots Q (F0 m (pc + 1) ls rest)) : W p l e R s m args below meth c H locs cells slots Q (F0 m pc ls (.int x :: .int i :: .ref a :: rest)) := by
  obtain ⟨v, h1, hf⟩ := bd hf
  obtain ⟨n, f, ha, hin, hba, rfl⟩ := aIs_at h1
  obtain ⟨hx, hb, -, hown, -, hG, hbs, -⟩ := C
  obtain ⟨hT, hK, -⟩ := hG.here hbs
  refine W.iast hx hb (hp_ex (hs.1 a _ ha) (by decide)) ((hK.2 0 _ (tyl_at (by decide))).1 n (fun j => .int (f j))) (fun q => by cases q) (by show ¬ (i < 0 ∨ (arrV _ _ _).slots.size ≤ _); rw [arrV_size]; exact hin) rfl rfl hdg fun H1 e1 z1 oq => ?_
  refine kk _ H1 _ hf (hs.put z1 oq hba (Or.inl ⟨by decide, ?_⟩))
  show H1[a]? = some (vp_cell (G.2.1 0) (n, .inl (upd f i.toNatClampNeg x)))
  rw [e1]
  show some ((vp_cell (G.2.1 0) (n, .inl f)).setSlot _ _) = _
  rw [vp_cell_i, vp_cell_i, arrV_store]
  congr 2
  funext q
  by_cases hq : q = i.toNatClampNeg
  · subst hq
    simp [updV, upd]
  · simp [updV, upd, hq]
theorem r_zast (C : CX G p l s m meth c cc nL own) (hs : ST G R s h z H locs cells slots) {i x : Int32} (hdg : decode cc pc = .ok (.bastore, 1)) {β : Type} {K : HH → Option β} {r : β} (hf : (aIs G.2.2.1 h a 1 i (vp_nar .boolean x)).bind K = some r)
    (kk : ∀ (h1 : HH) (H1 : Heap) (locs1 : List Loc), K h1 = some r → ST G R s h1 z H1 locs1 cells slots → W p l e R s m args below meth c H1 locs1 cells slots Q (F0 m (pc + 1) ls rest)) : W p l e R s m args below meth c H locs cells slots Q (F0 m pc ls (.int x :: .int i :: .ref a :: rest)) := by
  obtain ⟨v, h1, hf⟩ := bd hf
  obtain ⟨n, f, ha, hin, hba, rfl⟩ := aIs_at h1
  obtain ⟨hx, hb, -, hown, -, hG, hbs, -⟩ := C
  obtain ⟨hT, hK, -⟩ := hG.here hbs
  refine W.zast hx hb (hp_ex (hs.1 a _ ha) (by decide)) ((hK.2 1 _ (tyl_at (by decide))).1 n (fun j => .int (f j))) (fun q => by cases q) (by show ¬ (i < 0 ∨ (arrV _ _ _).slots.size ≤ _); rw [arrV_size]; exact hin) rfl rfl hdg fun H1 e1 z1 oq => ?_
  refine kk _ H1 _ hf (hs.put z1 oq hba (Or.inl ⟨by decide, ?_⟩))
  show H1[a]? = some (vp_cell (G.2.1 1) (n, .inl (upd f i.toNatClampNeg (vp_nar .boolean x))))
  rw [e1]
  show some ((vp_cell (G.2.1 1) (n, .inl f)).setSlot _ _) = _
  rw [vp_cell_i, vp_cell_i, arrV_store]
  congr 2
  funext q
  by_cases hq : q = i.toNatClampNeg
  · subst hq
    simp [updV, upd, vp_nar]
    try rfl
  · simp [updV, upd, hq]
theorem r_last (C : CX G p l s m meth c cc nL own) (hs : ST G R s h z H locs cells slots) {i : Int32} {x : Int64} (hdg : decode cc pc = .ok (.lastore, 1)) {β : Type} {K : HH → Option β} {r : β} (hf : (aJs G.2.2.1 h a 2 i x).bind K = some r)
    (kk : ∀ (h1 : HH) (H1 : Heap) (locs1 : List Loc), K h1 = some r → ST G R s h1 z H1 locs1 cells slots → W p l e R s m args below meth c H1 locs1 cells slots Q (F0 m (pc + 1) ls rest)) : W p l e R s m args below meth c H locs cells slots Q (F0 m pc ls (.long x :: .int i :: .ref a :: rest)) := by
  obtain ⟨v, h1, hf⟩ := bd hf
  obtain ⟨n, f, ha, hin, hba, rfl⟩ := aJs_at h1
  obtain ⟨hx, hb, -, hown, -, hG, hbs, -⟩ := C
  obtain ⟨hT, hK, -⟩ := hG.here hbs
  refine W.last hx hb (hp_ex (hs.1 a _ ha) (by decide)) ((hK.2 2 _ (tyl_at (by decide))).1 n (fun j => .long (f j))) (fun q => by cases q) (by show ¬ (i < 0 ∨ (arrV _ _ _).slots.size ≤ _); rw [arrV_size]; exact hin) rfl rfl hdg fun H1 e1 z1 oq => ?_
  refine kk _ H1 _ hf (hs.put z1 oq hba (Or.inl ⟨by decide, ?_⟩))
  show H1[a]? = some (vp_cell (G.2.1 2) (n, .inr (.inl (vp_updL f i.toNatClampNeg x))))
  rw [e1]
  show some ((vp_cell (G.2.1 2) (n, .inr (.inl f))).setSlot _ _) = _
  rw [vp_cell_l, vp_cell_l, arrV_store]
  congr 2
  funext q
  by_cases hq : q = i.toNatClampNeg
  · subst hq
    simp [updV, vp_updL]
  · simp [updV, vp_updL, hq]
theorem aQs_cell {n : Nat} {f : Nat → Option Nat} {H1 : Heap} {cA : ClassId} {i : Int32} {x : Option Nat} (e1 : H1[a]? = some ((vp_cell cA (n, .inr (.inr (.inr (.inr f))))).setSlot i.toNatClampNeg (va_rf x))) : H1[a]? = some (vp_cell cA (n, .inr (.inr (.inr (.inr (va_up f i.toNatClampNeg x)))))) := by
  rw [e1, vp_cell_q, vp_cell_q, arrV_store]
  congr 2
  funext q
  by_cases hq : q = i.toNatClampNeg
  · subst hq
    simp [updV, va_up]
  · simp [updV, va_up, hq]
/-- a reference is put into an array of references: the value's class ci, castable to the array's -/
theorem r_aast (C : CX G p l s m meth c cc nL own) (hs : ST G R s h z H locs cells slots) {i : Int32} {kd ci v : Nat} {E Cn : String} {T : u_T} {N : Nat} (hE : tyk kd = .object E) (hc : ccl[ci]? = some (Cn, T, N)) (hca : Cn = E ∨ Cond.castable Cn E ∈ lw_tbl) (hdg : decode cc pc = .ok (.aastore, 1)) {β : Type} {K : HH → Option β} {r : β} (hf : ((oK h v ci).bind fun _ => (aQs G.2.2.1 h a kd i (some v)).bind K) = some r)
    (kk : ∀ (h1 : HH) (H1 : Heap) (locs1 : List Loc), K h1 = some r → ST G R s h1 z H1 locs1 cells slots → W p l e R s m args below meth c H1 locs1 cells slots Q (F0 m (pc + 1) ls rest)) : W p l e R s m args below meth c H locs cells slots Q (F0 m pc ls (.ref v :: .int i :: .ref a :: rest)) := by
  obtain ⟨u, h0, hf⟩ := bd hf
  obtain ⟨h2, h1, hf⟩ := bd hf
  obtain ⟨fs, hv⟩ := oK_at h0
  obtain ⟨n, f, ha, hin, hba, h7, rfl⟩ := aQs_at h1
  obtain ⟨hx, hb, -, hown, -, hG, hbs, -⟩ := C
  obtain ⟨hT, hK, -⟩ := hG.here hbs
  have hlt : i.toNatClampNeg < n := Nat.not_le.mp fun q => hin (Or.inr q)
  have h0 : ¬ i < 0 := fun q => hin (Or.inl q)
  obtain ⟨r', hr', cellV, g1, g2, g3, -⟩ : va_at G.1 ccl (v, .inr (ci, fs.map hv_v)) H := hs.1 v _ hv
  have hcls := (hK.1 ci _ hc).2
  have ht := tyl_at (G := G) h7
  rw [hE] at ht
  obtain ⟨kA, comp, k1, k2, k3, -⟩ := (hK.2 kd _ ht).2
  obtain ⟨kE, hkE, -⟩ := Vm.findClass_spec k3
  obtain ⟨kC, hkC, -⟩ := hcls.2
  have hasg : s.vm.assignable (G.1.1 ci) comp = true := by
    rcases hca with e1 | hca
    · subst e1
      have : comp = G.1.1 ci := Option.some.inj (k3.symm.trans hcls.1)
      rw [this]
      exact va_assign hcls
    · obtain ⟨c0, t1, f1, f2, f3⟩ := Cond.castable_spec (hT.use (args := args) hca rfl)
      cases hcls.1.symm.trans f1
      cases k3.symm.trans f2
      exact f3
  refine W.aast hx hb (hp_ex (hs.1 a _ ha) h7) (fun q h => by cases h) (fun h => by cases h) k1 k2 rfl hkE ⟨h0, by show _ < (arrV _ _ _).slots.size; rw [arrV_size]; exact hlt⟩ g1 (fun q h => by rw [g3] at h; cases h) (by rw [g2]; exact hkC) (by rw [g2]; exact hasg) rfl rfl hdg fun H1 e1 z1 oq => ?_
  exact kk _ H1 _ hf (hs.put z1 oq hba (Or.inl ⟨h7, aQs_cell (x := some v) e1⟩))
theorem r_aastN (C : CX G p l s m meth c cc nL own) (hs : ST G R s h z H locs cells slots) {i : Int32} {kd : Nat} {E : String} (hE : tyk kd = .object E) (hdg : decode cc pc = .ok (.aastore, 1)) {β : Type} {K : HH → Option β} {r : β} (hf : (aQs G.2.2.1 h a kd i none).bind K = some r)
    (kk : ∀ (h1 : HH) (H1 : Heap) (locs1 : List Loc), K h1 = some r → ST G R s h1 z H1 locs1 cells slots → W p l e R s m args below meth c H1 locs1 cells slots Q (F0 m (pc + 1) ls rest)) : W p l e R s m args below meth c H locs cells slots Q (F0 m pc ls (.null :: .int i :: .ref a :: rest)) := by
  obtain ⟨h2, h1, hf⟩ := bd hf
  obtain ⟨n, f, ha, hin, hba, h7, rfl⟩ := aQs_at h1
  obtain ⟨hx, hb, -, hown, -, hG, hbs, -⟩ := C
  obtain ⟨hT, hK, -⟩ := hG.here hbs
  have ht := tyl_at (G := G) h7
  rw [hE] at ht
  refine va_WaastN (C := E) hx hb (hp_ex (hs.1 a _ ha) h7) ((hK.2 kd _ ht).1 n (fun j => va_rf (f j))) (fun h => by cases h) (by show ¬ (i < 0 ∨ (arrV _ _ _).slots.size ≤ _); rw [arrV_size]; exact hin) rfl rfl hdg fun H1 e1 z1 oq => ?_
  exact kk _ H1 _ hf (hs.put z1 oq hba (Or.inl ⟨h7, aQs_cell (x := none) e1⟩))
theorem r_new (C : CX G p l s m meth c cc nL own) (hs : ST G R s h z H locs cells slots) {index ci : Nat} {Cn : String} {T : u_T} {N : Nat} (hc : ccl[ci]? = some (Cn, T, N)) (hl : Cond.classLink own index Cn ∈ lw_tbl) (hi : Cond.instantiable Cn N ∈ lw_tbl) (hi2 : Cond.initialized Cn ∈ lw_tbl) (hdg : decode cc pc = .ok (.new index, 3)) {β : Type} {K : Unit → Option β} {r : β} (hf : (nO z N).bind K = some r)
    (kk : ∀ (H1 : Heap), K () = some r → ST G R s (va_up h z.1 (some (.inl (ci, dfl ci)))) (nZ z N) H1 locs (cells + 1) (slots + N) → W p l e R s m args below meth c H1 locs (cells + 1) (slots + N) Q (F0 m (pc + 3) ls (.ref z.1 :: rest))) : W p l e R s m args below meth c H locs cells slots Q (F0 m pc ls rest) := by
  obtain ⟨u, h0, hf⟩ := bd hf
  have hz := nO_at h0
  obtain ⟨hx, hb, -, hown, -, hG, hbs, -⟩ := C
  obtain ⟨hT, hK, -⟩ := hG.here hbs
  have hin : ∀ w ∈ u_ws Cn T N, w ∈ (u_ws Cn T N) := fun w hw => hw
  have hts : ∀ w ∈ u_ws Cn T N, w.before args s = true := ws_ts hT hc
  have hKn := hK.1 ci _ hc
  have hr1 := hs.2.2.2.1
  have hr2 := hs.2.2.2.2
  refine W.newcK hx hb hown (hT.use hl rfl) (hT.use hi rfl) (hT.use hi2 rfl) rfl hdg (by omega) (by omega) hKn.2.1 hs.2.1 fun H1 kC hkC e1 z1 o1 => ?_
  refine kk H1 hf (hs.new (Nat.le_refl N) hz (by rw [z1, hs.2.1]) (fun q hq => o1 q (by rw [← hs.2.1]; exact hq)) ?_)
  show va_at G.1 ccl (z.1, .inr (ci, (dfl ci).map hv_v)) H1
  refine ⟨_, hc, (u_born _ hts hin hKn hkC e1 (ccl_ty _ (mem_ccl hc))).to ?_⟩
  intro j hj
  show _ = vp_V ((dfl ci).map hv_v) j
  have hj' : j < N := hj
  rw [dfl_ok _ (mem_ccl hc) j hj]
  simp [vp_V, dfl, hc, hj']
/-- the length of a new array is a number that the room allows; NB: a bound of it -/
def nA (n : Int32) (NB : Nat) : Option Unit := if ¬ n < 0 ∧ n.toNatClampNeg ≤ NB ∧ NB ≤ 5000 then some () else none
theorem nA_at {n : Int32} {NB : Nat} {u : Unit} (h : nA n NB = some u) : ¬ n < 0 ∧ n.toNatClampNeg ≤ NB ∧ NB ≤ 5000 := by
  unfold nA at h
  split at h
  · assumption
  · cases h
theorem r_newa (C : CX G p l s m meth c cc nL own) (hs : ST G R s h z H locs cells slots) {atype : ArrayType} {kd : Nat} (hk : kd < 2) (hty : newarray.typeOf atype = tyk kd) (hl : Cond.arrayClass (newarray.typeOf atype) ∈ lw_tbl) {n : Int32} {NB : Nat} (hdg : decode cc pc = .ok (.newarray atype, 2)) {β : Type} {K : Unit → Option β} {r : β} (hf : ((nA n NB).bind fun _ => (nO z NB).bind K) = some r)
    (kk : ∀ (H1 : Heap) (slots1 : Nat), K () = some r → ST G R s (va_up h z.1 (some (.inr (kd, n.toNatClampNeg, .inl (fun _ => 0))))) (nZ z NB) H1 locs (cells + 1) slots1 → W p l e R s m args below meth c H1 locs (cells + 1) slots1 Q (F0 m (pc + 2) ls (.ref z.1 :: rest))) : W p l e R s m args below meth c H locs cells slots Q (F0 m pc ls (.int n :: rest)) := by
  obtain ⟨u, h0, hf⟩ := bd hf
  obtain ⟨u2, h00, hf⟩ := bd hf
  have hz := nO_at h00
  obtain ⟨hn0, hnb, hb5⟩ := nA_at h0
  obtain ⟨hx, hb, -, hown, -, hG, hbs, -⟩ := C
  obtain ⟨hT, hK, -⟩ := hG.here hbs
  have hr1 := hs.2.2.2.1
  have hr2 := hs.2.2.2.2
  have h7 : kd < 7 := by omega
  have hcb : componentBytes (newarray.typeOf atype) ≤ 8 := by rw [hty]; rcases (show kd = 0 ∨ kd = 1 by omega) with rfl | rfl <;> decide
  have hbytes : n.toNatClampNeg * componentBytes (newarray.typeOf atype) ≤ 536870912 := Nat.le_trans (Nat.mul_le_mul (Nat.le_trans hnb hb5) hcb) (by decide)
  refine va_newaK hx hb (hT.use hl rfl) rfl hdg rfl hn0 rfl hbytes (by omega) (by omega) hs.2.1 fun H1 cA e1 z1 o1 hAr hNm => ?_
  have hcA : cA = G.2.1 kd := by
    have h9 := (hK.2 kd _ (tyl_at h7)).2
    rw [hty] at hNm
    rcases (show kd = 0 ∨ kd = 1 by omega) with rfl | rfl
    · exact Option.some.inj (hNm.symm.trans h9)
    · exact Option.some.inj (hNm.symm.trans h9)
  subst hcA
  refine kk H1 _ hf (hs.new hnb hz (by rw [z1, hs.2.1]) (fun q hq => o1 q (by rw [← hs.2.1]; exact hq)) (Or.inl ⟨h7, ?_⟩))
  show H1[z.1]? = some (vp_cell _ (_, .inl _))
  rw [e1, vp_cell_i, hty]
  rcases (show kd = 0 ∨ kd = 1 by omega) with rfl | rfl <;> rfl
theorem r_newl (C : CX G p l s m meth c cc nL own) (hs : ST G R s h z H locs cells slots) {atype : ArrayType} (hty : newarray.typeOf atype = .long) (hl : Cond.arrayClass (newarray.typeOf atype) ∈ lw_tbl) {n : Int32} {NB : Nat} (hdg : decode cc pc = .ok (.newarray atype, 2)) {β : Type} {K : Unit → Option β} {r : β} (hf : ((nA n NB).bind fun _ => (nO z NB).bind K) = some r)
    (kk : ∀ (H1 : Heap) (slots1 : Nat), K () = some r → ST G R s (va_up h z.1 (some (.inr (2, n.toNatClampNeg, .inr (.inl (fun _ => 0)))))) (nZ z NB) H1 locs (cells + 1) slots1 → W p l e R s m args below meth c H1 locs (cells + 1) slots1 Q (F0 m (pc + 2) ls (.ref z.1 :: rest))) : W p l e R s m args below meth c H locs cells slots Q (F0 m pc ls (.int n :: rest)) := by
  obtain ⟨u, h0, hf⟩ := bd hf
  obtain ⟨u2, h00, hf⟩ := bd hf
  have hz := nO_at h00
  obtain ⟨hn0, hnb, hb5⟩ := nA_at h0
  obtain ⟨hx, hb, -, hown, -, hG, hbs, -⟩ := C
  obtain ⟨hT, hK, -⟩ := hG.here hbs
  have hr1 := hs.2.2.2.1
  have hr2 := hs.2.2.2.2
  have hcb : componentBytes (newarray.typeOf atype) ≤ 8 := by rw [hty]; decide
  have hbytes : n.toNatClampNeg * componentBytes (newarray.typeOf atype) ≤ 536870912 := Nat.le_trans (Nat.mul_le_mul (Nat.le_trans hnb hb5) hcb) (by decide)
  refine va_newaK hx hb (hT.use hl rfl) rfl hdg rfl hn0 rfl hbytes (by omega) (by omega) hs.2.1 fun H1 cA e1 z1 o1 hAr hNm => ?_
  have hcA : cA = G.2.1 2 := by
    have h9 : va_RA s (G.2.1 2) .long := (hK.2 2 _ (tyl_at (by decide))).2
    rw [hty] at hNm
    exact Option.some.inj (hNm.symm.trans h9)
  subst hcA
  refine kk H1 _ hf (hs.new hnb hz (by rw [z1, hs.2.1]) (fun q hq => o1 q (by rw [← hs.2.1]; exact hq)) (Or.inl ⟨by decide, ?_⟩))
  have hd : ∀ j : Nat, defaultValue .long = Value.long ((fun _ : Nat => (0 : Int64)) j) := fun j => by simp only [defaultValue]
  rw [hty, funext hd] at e1
  show H1[z.1]? = some (vp_cell _ (_, .inr (.inl _)))
  rw [vp_cell_l]
  exact e1
theorem r_anew (C : CX G p l s m meth c cc nL own) (hs : ST G R s h z H locs cells slots) {kd index : Nat} {E : String} (hE : tyk kd = .object E) (h7 : kd < 7) (hl : Cond.classLink own index E ∈ lw_tbl) (hl2 : Cond.arrayOver (.object E) ∈ lw_tbl) {n : Int32} {NB : Nat} (hdg : decode cc pc = .ok (.anewarray index, 3)) {β : Type} {K : Unit → Option β} {r : β} (hf : ((nA n NB).bind fun _ => (nO z NB).bind K) = some r)
    (kk : ∀ (H1 : Heap) (slots1 : Nat), K () = some r → ST G R s (va_up h z.1 (some (.inr (kd, n.toNatClampNeg, .inr (.inr (fun _ => none)))))) (nZ z NB) H1 locs (cells + 1) slots1 → W p l e R s m args below meth c H1 locs (cells + 1) slots1 Q (F0 m (pc + 3) ls (.ref z.1 :: rest))) : W p l e R s m args below meth c H locs cells slots Q (F0 m pc ls (.int n :: rest)) := by
  obtain ⟨u, h0, hf⟩ := bd hf
  obtain ⟨u2, h00, hf⟩ := bd hf
  have hz := nO_at h00
  obtain ⟨hn0, hnb, hb5⟩ := nA_at h0
  obtain ⟨hx, hb, -, hown, -, hG, hbs, -⟩ := C
  obtain ⟨hT, hK, -⟩ := hG.here hbs
  have hr1 := hs.2.2.2.1
  have hr2 := hs.2.2.2.2
  refine W.anew hx hb hown (hT.use hl rfl) (hT.use hl2 rfl) rfl hdg rfl hn0 (Nat.le_trans (Nat.mul_le_mul (Nat.le_trans hnb hb5) (Nat.le_refl 4)) (by decide)) (by omega) (by omega) fun cA kA comp f1 f2 f3 f4 => ?_
  generalize hH1 : H.push ({ cls := cA, slots := Array.replicate n.toNatClampNeg .null, vm := .none } : Cell) = H1
  have z1 : H1.size = H.size + 1 := by rw [← hH1, Array.size_push]
  have e1 : H1[H.size]? = some (arrV cA n.toNatClampNeg (fun _ => .null)) := by rw [← hH1, Array.getElem?_push_size, ← arrV_new]
  have o1 : ∀ q : Nat, q < H.size → H1[q]? = H[q]? := fun q hq => by rw [← hH1, Array.getElem?_push, if_neg (Nat.ne_of_lt hq)]
  have hcA : cA = G.2.1 kd := by
    have ht := tyl_at (G := G) h7
    rw [hE] at ht
    obtain ⟨kA', comp', -, -, -, g4⟩ := (hK.2 kd _ ht).2
    exact Option.some.inj (f1.symm.trans g4)
  subst hcA
  rw [hs.2.1] at e1 ⊢
  refine kk H1 _ hf (hs.new hnb hz z1 o1 (Or.inl ⟨h7, ?_⟩))
  show H1[z.1]? = some (vp_cell _ (_, .inr (.inr (.inr (.inr _)))))
  rw [vp_cell_q]
  exact e1
end RW3
end
section
/-! A method's contract: from the heap h of size z it comes to 'res': what it answers or throws, the heap behind it. -/
abbrev RS : Type := (Option Value ⊕ String) × HH × Z3
def PQ (G : EN) (res : RS) (st : State) (o : Outcome) (t : State) : Prop := match res with
  | (.inl v, h1, z1) => o = .returned v ∧ HP G h1 t.heap ∧ t.heap.size = z1.1
  | (.inr E, h1, z1) => ∃ (q : Addr) (ce : Cell), o = .threw q ∧ HP G h1 t.heap ∧ t.heap.size = z1.1 ∧ t.heap[q]? = some ce ∧ ce.vm = .none ∧ st.vm.findClass E = some ce.cls
def FE (st t : State) (L : List Loc) (k n : Nat) : Prop := st.WarmedH t.vm ∧ st.sameButNew ({ t with vm := st.vm } : State) L k n
def PRE (G : EN) (h : HH) (z : Z3) (U : State) : Prop := HP G h U.heap ∧ U.heap.size = z.1 ∧ GW G U ∧ G.2.2.1 ≤ U.heap.size
def PX (G : EN) (res : RS) (mc ms : Nat) (st : State) (o : Outcome) (t : State) : Prop := PQ G res st o t ∧ va_F (AG G) st t ∧ res.2.2.2.1 ≤ mc ∧ res.2.2.2.2 ≤ ms ∧ ∃ L, FE st t L (mc - res.2.2.2.1) (ms - res.2.2.2.2) ∧ ∀ q ∈ L, G.2.2.1 ≤ q.base
abbrev RM (fr lo : Nat) (z : Z3) : Room := { frames := fr, cells := z.2.1, slots := z.2.2, locals := lo }
def CM (G : EN) (l : Launch) (y : MethodName) (cd : Cond) (fr lo : Nat) (As : List Value) (h : HH) (z : Z3) (res : RS) : Prop :=
  MetFree l y (headSpec [cd] (RM fr lo z)) (fun a U => a = As.toArray ∧ PRE G h z U) (fun _ _ _ _ _ => True) (fun _ st o t => PX G res z.2.1 z.2.2 st o t)
def MX (G : EN) (below : List Frame) (s : State) (res : RS) (mc ms : Nat) : State → Prop := fun t => ∃ o, t.status = .running ∧ Ended t below o ∧ PX G res mc ms s o t
theorem CM.ofW {G : EN} {l : Launch} {y : MethodName} {cc : ByteArray} {maxL : Nat} {ret : Option FieldType} {fr lo : Nat} {As : List Value} {h : HH} {z : Z3} {res : RS} (hl : l.stackTraces = false) (hy : plainName y.cls = true)
    (body : ∀ (p : Program) (e : Env) (s : State) (m : MethodId) (below : List Frame) (meth : Method) (c : Code), CX G p l s m meth c cc maxL y.cls → meth.sig.returnType = ret → c.exceptionTable.toList = [] → meth.name = y.name → ST G (RM fr lo z) s h z s.heap [] 0 0 →
      W p l e (RM fr lo z) s m As.toArray below meth c s.heap [] 0 0 (MX G below s res z.2.1 z.2.2) (entryFrame m As.toArray maxL)) : CM G l y (.code y cc maxL ret) fr lo As h z res := by
  refine MetFree.of_bodyS (code := cc) (maxLocals := maxL) (ret := ret) hy ?_ ?_
  · intro args s m h hn
    obtain ⟨meth, c, h1, h2, h3, h4, h5, h6, -, -⟩ := Cond.code_spec hn (atoms_spec (ws := [.code y cc maxL ret]) h _ List.mem_cons_self)
    exact ⟨meth, c, h1, h2, h3, h4, h5, h6⟩
  · intro p e s m args below meth c s₁ B hml hP _
    obtain ⟨rfl, hh, hz, hG, hbs⟩ := hP
    have hcd : (Cond.code y cc maxL ret).before As.toArray s = true := atoms_spec (ws := [.code y cc maxL ret]) B.pre _ List.mem_cons_self
    have hh0 : s₁.heap = s.heap := by rw [B.state]; rfl
    have hml' : c.maxLocals = maxL := B.maxLocals_eq hcd
    have hex : c.exceptionTable.toList = [] := by
      have h1 := B.noHandlers hcd
      have h2 : c.exceptionTable = #[] := by simpa using h1
      rw [h2]
    have hown : s.vm.findClass y.cls = some m.cls := findClass_of_methodNamed B.named
    obtain ⟨t, a1, o, b1, b2, b3⟩ := body p e s m below meth c ⟨B.exec, B.bytes, hml', hown, B.notSynchronized, hG, hbs, hl⟩ B.returns hex (name_of_methodNamed B.named B.method).1 ⟨hh, hz, va_S.rf, by show 0 + z.2.1 ≤ z.2.1; omega, by show 0 + z.2.2 ≤ z.2.2; omega⟩ s₁ hh0 (Stand.of_body B)
    exact ⟨t, o, a1, b1, b2, b3⟩
section KO
variable {G : EN} {p : Program} {l : Launch} {e : Env} {R : Room} {s : State} {m : MethodId} {args : Array Value} {below : List Frame} {meth : Method} {c : Code} {U : State} {locs : List Loc} {cells slots : Nat}
/-- where a called method has come -/
def Out (G : EN) (p : Program) (l : Launch) (e : Env) (R : Room) (s : State) (m : MethodId) (args : Array Value) (below : List Frame) (meth : Method) (c : Code) (H : Heap) (locs : List Loc) (cells slots : Nat) (z : Z3) (res : RS) (T : State) (g : JFrame) (len : Nat) (rest : List Value) : Prop :=
  (∃ (v : Option Value) (h1 : HH) (z1 : Z3) (V : State) (L : List Loc), res = (.inl v, h1, z1) ∧ Stand p l e R s m args below meth c V (locs ++ L) (cells + (z.2.1 - z1.2.1)) (slots + (z.2.2 - z1.2.2)) ∧ z1.2.1 ≤ z.2.1 ∧ z1.2.2 ≤ z.2.2 ∧ (∀ q ∈ L, G.2.2.1 ≤ q.base) ∧ HP G h1 V.heap ∧ V.heap.size = z1.1 ∧ (H.size ≤ V.heap.size ∧ ∀ q : Nat, q < H.size → ¬ AG G q → V.heap[q]? = H[q]?) ∧
    ∀ tg, Steps p.tables e below (V.setTop { g with pc := g.pc + len, stack := v.toList ++ rest }) tg → Steps p.tables e below (T.setTop g) tg) ∨
  (∃ (E : String) (h1 : HH) (z1 : Z3) (V : State) (L : List Loc) (q : Addr) (ce : Cell), res = (.inr E, h1, z1) ∧ Stand p l e R s m args below meth c V (locs ++ L) (cells + (z.2.1 - z1.2.1)) (slots + (z.2.2 - z1.2.2)) ∧ z1.2.1 ≤ z.2.1 ∧ z1.2.2 ≤ z.2.2 ∧ (∀ q ∈ L, G.2.2.1 ≤ q.base) ∧ HP G h1 V.heap ∧ V.heap.size = z1.1 ∧ (H.size ≤ V.heap.size ∧ ∀ q : Nat, q < H.size → ¬ AG G q → V.heap[q]? = H[q]?) ∧
    V.heap[q]? = some ce ∧ ce.vm = .none ∧ s.vm.findClass E = some ce.cls ∧ Steps p.tables e below (T.setTop g) ((V.setTop { g with stack := rest }).pushFrame (.throwing q)))
theorem ko_out {y : MethodName} {cd : Cond} {fr lo : Nat} {As : List Value} {h : HH} {z : Z3} {res : RS} (hM : CM G l y cd fr lo As h z res) (X : Stand p l e R s m args below meth c U locs cells slots) {g : JFrame} (hg : g.method = m) (hsize : g.locals.size = c.maxLocals) {ig : Instr} {len : Nat} (hdg : decode c.code g.pc = .ok (ig, len))
    (hW : 2 * g.monitorRoom + (g.stack.map fun v => v.category).sum ≤ 8) {mk : MethodId} (hn : U.methodNamed? y = some mk) {maxL : Nat} (hcd : cd.before As.toArray U = true) (hY : ∃ methY cY, U.vm.method? mk = some methY ∧ methY.code = some cY ∧ cY.maxLocals = maxL) (hini : (Cond.initialized y.cls).before As.toArray U = true)
    (hframes : fr + 1 ≤ R.frames) (hlocals : 8 + (maxL + 11) + lo ≤ R.locals) (hcells : cells + z.2.1 ≤ R.cells) (hslots : slots + z.2.2 ≤ R.slots) (hP : PRE G h z U) :
    (∃ (v : Option Value) (h1 : HH) (z1 : Z3) (V : State) (L : List Loc), res = (.inl v, h1, z1) ∧ Stand p l e R s m args below meth c V (locs ++ L) (cells + (z.2.1 - z1.2.1)) (slots + (z.2.2 - z1.2.2)) ∧ z1.2.1 ≤ z.2.1 ∧ z1.2.2 ≤ z.2.2 ∧ (∀ q ∈ L, G.2.2.1 ≤ q.base) ∧ HP G h1 V.heap ∧ V.heap.size = z1.1 ∧ va_F (AG G) U V ∧
      Steps p.tables e below (doInvoke e (U.setTop g) [] mk As.toArray).1 (V.setTop { g with pc := g.pc + len, stack := v.toList ++ g.stack })) ∨
    (∃ (E : String) (h1 : HH) (z1 : Z3) (V : State) (L : List Loc) (q : Addr) (ce : Cell), res = (.inr E, h1, z1) ∧ Stand p l e R s m args below meth c V (locs ++ L) (cells + (z.2.1 - z1.2.1)) (slots + (z.2.2 - z1.2.2)) ∧ z1.2.1 ≤ z.2.1 ∧ z1.2.2 ≤ z.2.2 ∧ (∀ q ∈ L, G.2.2.1 ≤ q.base) ∧ HP G h1 V.heap ∧ V.heap.size = z1.1 ∧ va_F (AG G) U V ∧
      V.heap[q]? = some ce ∧ ce.vm = .none ∧ U.vm.findClass E = some ce.cls ∧ Steps p.tables e below (doInvoke e (U.setTop g) [] mk As.toArray).1 ((V.setTop g).pushFrame (.throwing q))) := by
  obtain ⟨methY, cY, hmY, hcY, hlY⟩ := hY
  obtain ⟨kY, hkY, -⟩ := className_of_methodNamed hn
  have hinitY : kY.init = .initialized := Cond.initialized_spec (findClass_of_methodNamed hn) hkY hini
  have hat : At U g.method c below := by rw [hg]; exact X.here
  have hpre : (headSpec [cd] (RM fr lo z)).pre.before As.toArray U = true := atoms_intro fun w hw => by
    rw [List.mem_singleton.mp hw]
    exact hcd
  have happ : (headSpec [cd] (RM fr lo z)).appliesLoose y e.platform (U.calling g mk As.toArray) = true :=
    Spec.appliesLoose_calling (g := g) hat hdg hn hkY hinitY
      (X.room_calling (g := g) (R' := (headSpec [cd] (RM fr lo z)).room) hsize hmY hcY hframes (by rw [hlY]; have : (headSpec [cd] (RM fr lo z)).room.locals = lo := rfl; omega) hcells hslots) hpre
  obtain ⟨mid, hmid⟩ := hat.above
  have hfr : (U.setTop g).frames = (.java g :: mid) ++ below := by rw [State.frames_setTop' g hat.top, hmid]; rfl
  have hPc : As.toArray = As.toArray ∧ PRE G h z (U.calling g mk As.toArray) := by
    refine ⟨rfl, hP.1, hP.2.1, fun V hV => hP.2.2.1 V ⟨hV.1, hV.2.1, hV.2.2⟩, hP.2.2.2⟩
  obtain ⟨o, t, hsteps, -, hend, hq⟩ := Steps.callFree hM p X.admits X.cas X.clock (acts := []) hfr happ hPc trivial
  have hq' : PX G res z.2.1 z.2.2 (U.calling g mk As.toArray) o t := hq
  obtain ⟨hq1, hF, hk1, hk2, L, ⟨hWt, hsm⟩, hL⟩ := hq'
  rw [State.frames_setTop' g hat.top] at hend
  obtain ⟨g₀, hg0⟩ := Option.isSome_iff_exists.mp hat.top
  obtain ⟨rr, hr⟩ := State.topJava?_eq_some.mp hg0
  have hr' : (({ U with heap := t.heap, slotsUsed := t.slotsUsed } : State).setVm t.vm).frames = .java g₀ :: rr := hr
  have hWU : U.WarmedH t.vm := hWt
  obtain ⟨e2, q2, q3, q4, q5, q6⟩ := id hsm
  have e3 : t = ({ (U.calling g mk As.toArray).setFrames t.frames with heap := t.heap, slotsUsed := t.slotsUsed } : State).setVm t.vm := by
    have : t = ({ t with vm := (U.calling g mk As.toArray).vm } : State).setVm t.vm := rfl
    rw [e2] at this
    exact this
  have hsame : U.sameButNew ({ U with heap := t.heap, slotsUsed := t.slotsUsed } : State) L (z.2.1 - res.2.2.2.1) (z.2.2 - res.2.2.2.2) := by
    refine ⟨?_, q2, q3, q4, q5, q6⟩
    obtain ⟨t0, ht0, -⟩ := State.frames_cons hr
    show ({ U with heap := t.heap, slotsUsed := t.slotsUsed } : State) = { U.setFrames U.frames with heap := t.heap, slotsUsed := t.slotsUsed }
    rw [State.setFrames_self ht0]
  have Y : Stand p l e R s m args below meth c (({ U with heap := t.heap, slotsUsed := t.slotsUsed } : State).setVm t.vm) (locs ++ L) (cells + (z.2.1 - res.2.2.2.1)) (slots + (z.2.2 - res.2.2.2.2)) :=
    ⟨X.admits, X.cas, X.clock, X.frames, X.room, X.hears, X.method, X.code, (X.here.setHeapUsed t.heap t.slotsUsed).setVm hWU.alike, X.tail, State.WarmedH.trans X.warmed hWU, X.limits, X.bytes, X.same.trans (hsame.setVm s.vm)⟩
  subst hg
  rcases res with ⟨v | E, h1, z1⟩
  · obtain ⟨rfl, hh1, hz1⟩ := hq1
    obtain ⟨c₂, i₂, len₂, hc₂, hd₂, hf₂⟩ := hend
    have hcc : c₂ = c := by
      have h1 : t.code? g.method = U.code? g.method := by
        rw [State.code?_eq, State.code?_eq, hWU.alike.method?]
      exact Option.some.inj (hc₂.symm.trans (h1.trans hat.code))
    subst hcc
    have hlen : len₂ = len := by rw [hdg] at hd₂; cases hd₂; rfl
    subst hlen
    refine Or.inl ⟨v, h1, z1, _, L, rfl, Y, hk1, hk2, hL, hh1, hz1, hF, ?_⟩
    have hs₂ : t = (({ U with heap := t.heap, slotsUsed := t.slotsUsed } : State).setVm t.vm).setTop { g with pc := g.pc + len₂, stack := v.toList ++ g.stack } := by
      refine e3.trans ?_
      rw [hf₂, State.calling_eq hat.top, State.setFrames_setFrames, State.setTop_of_frames _ hr', hr]
      rfl
    rw [← hs₂]
    exact hsteps
  · obtain ⟨q, ce, rfl, hh1, hz1, hce, hcv, hcl⟩ := hq1
    have hf₂ : t.frames = .throwing q :: .java g :: U.frames.tail := hend
    refine Or.inr ⟨E, h1, z1, _, L, q, ce, rfl, Y, hk1, hk2, hL, hh1, hz1, hF, hce, hcv, hcl, ?_⟩
    have hs₂ : t = ((({ U with heap := t.heap, slotsUsed := t.slotsUsed } : State).setVm t.vm).setTop g).pushFrame (.throwing q) := by
      refine e3.trans ?_
      rw [hf₂, State.calling_eq hat.top, State.setFrames_setFrames, State.pushFrame, State.frames_setTop _ hr', State.setTop_of_frames _ hr', State.setFrames_setFrames, hr]
      rfl
    rw [← hs₂]
    exact hsteps
end KO
end
section
/-! what a call asks of the tables -/
def CB (y : MethodName) (cc : ByteArray) (maxL : Nat) (ret : Option FieldType) (n : Nat) : Prop := Cond.initialized y.cls ∈ lw_tbl ∧ Cond.code y cc maxL ret ∈ lw_tbl ∧ (y.cls ≠ "java/lang/invoke/MethodHandle" ∧ y.cls ≠ "java/lang/invoke/VarHandle") ∧ (parseMethodDescriptor y.desc).map (fun d => d.parameters.length) = some n
def CV (own : String) (index : Nat) (y : MethodName) (cc : ByteArray) (maxL : Nat) (ret : Option FieldType) (n : Nat) : Prop := CB y cc maxL ret n ∧ Cond.methodLink own index y ∈ lw_tbl ∧ Cond.instanceMethod y ∈ lw_tbl ∧ Cond.selects y.cls y y ∈ lw_tbl
def CS (own : String) (index : Nat) (y : MethodName) (cc : ByteArray) (maxL : Nat) (ret : Option FieldType) (n : Nat) : Prop := CB y cc maxL ret n ∧ (Cond.methodLink own index y ∈ lw_tbl ∨ ∃ host, Cond.methodLinkNest own index y host ∈ lw_tbl) ∧ Cond.static y ∈ lw_tbl
def CI (own : String) (index : Nat) (y : MethodName) (cc : ByteArray) (maxL : Nat) (n : Nat) : Prop := CB y cc maxL none n ∧ Cond.methodLink own index y ∈ lw_tbl ∧ Cond.instanceMethod y ∈ lw_tbl ∧ y.name = "<init>"
theorem cb_len {y : MethodName} {n : Nat} (h : (parseMethodDescriptor y.desc).map (fun d => d.parameters.length) = some n) : ∀ sig, parseMethodDescriptor y.desc = some sig → n = sig.parameters.length := by
  intro sig h1
  rw [h1] at h
  exact (Option.some.inj h).symm
section KC
variable {G : EN} {p : Program} {l : Launch} {e : Env} {R : Room} {s : State} {m : MethodId} {args : Array Value} {below : List Frame} {meth : Method} {c : Code} {H : Heap} {locs : List Loc} {cells slots : Nat}
variable {cc bc : ByteArray} {pc nL : Nat} {own : String} {ls : Array Slot} {rest st0 : List Value} {h : HH} {z : Z3} {b : Nat} {y : MethodName} {fr lo : Nat} {As : List Value} {res : RS} {maxL n index : Nat} {ret : Option FieldType}
/-- the precondition at the call -/
theorem pre_at {T : State} {vm₁ : Vm} (C : CX G p l s m meth c cc nL own) (hs : ST G R s h z H locs cells slots) (hT : T.heap = H) (hW : s.WarmedH vm₁) : PRE G h z (T.setVm vm₁) := by
  obtain ⟨-, -, -, -, -, hG, hbs, -⟩ := C
  have hb2 : G.2.2.1 ≤ (T.setVm vm₁).heap.size := by
    show G.2.2.1 ≤ T.heap.size
    rw [hT]
    exact Nat.le_trans hbs hs.2.2.1.1
  refine ⟨by show HP G h T.heap; rw [hT]; exact hs.1, by show T.heap.size = z.1; rw [hT]; exact hs.2.1, hG.move ⟨hW, hb2, fun q hq => ?_⟩, hb2⟩
  show T.heap[q]? = _
  rw [hT]
  exact hs.2.2.1.2.1 q (Nat.lt_of_lt_of_le hq hbs) (fun h9 => absurd (show G.2.2.1 ≤ q from h9) (by omega))
theorem out_of {T : State} {vm₁ : Vm} {g : JFrame} {ig : Instr} {mk : MethodId} (C : CX G p l s m meth c cc nL own) (hs : ST G R s h z H locs cells slots) (hT : T.heap = H) (X₁ : Stand p l e R s m args below meth c (T.setVm vm₁) locs cells slots) (hM : CM G l y (.code y bc maxL ret) fr lo As h z res) (hB : CB y bc maxL ret n) (hg : g.method = m) (hsize : g.locals.size = nL) (hdg : decode c.code g.pc = .ok (ig, 3))
    (hW : 2 * g.monitorRoom + (rest.map fun v => v.category).sum ≤ 8) (hn : (T.setVm vm₁).methodNamed? y = some mk) (hR : fr + 1 ≤ R.frames ∧ 8 + (maxL + 11) + lo ≤ R.locals)
    (st : ∀ tg, Steps p.tables e below (doInvoke e ((T.setVm vm₁).setTop { g with stack := rest }) [] mk As.toArray).1 tg → Steps p.tables e below (T.setTop g) tg) : Out G p l e R s m args below meth c H locs cells slots z res T g 3 rest := by
  have hp := pre_at (vm₁ := vm₁) C hs hT X₁.warmed
  have hTW : TW (T.setVm vm₁) := (hp.2.2.1.here hp.2.2.2).1
  have hcd : (Cond.code y bc maxL ret).before As.toArray (T.setVm vm₁) = true := hTW.use hB.2.1 rfl
  obtain ⟨methY, cY, hmY, hcY, -, hlY, -, -, -, -⟩ := Cond.code_spec hn hcd
  have hml : c.maxLocals = nL := C.2.2.1
  rcases ko_out (g := { g with stack := rest }) hM X₁ hg (hsize.trans hml.symm) hdg hW hn hcd ⟨methY, cY, hmY, hcY, hlY⟩ (hTW.use hB.1 rfl) hR.1 hR.2 hs.2.2.2.1 hs.2.2.2.2 hp with ⟨v, h1, z1, V, L, e1, Y, hk1, hk2, hL, hh, hz, hF, hst⟩ | ⟨E, h1, z1, V, L, q, ce, e1, Y, hk1, hk2, hL, hh, hz, hF, hce, hcv, hcl, hst⟩
  · refine Or.inl ⟨v, h1, z1, V, L, e1, Y, hk1, hk2, hL, hh, hz, ?_, fun tg ht => st tg (hst.trans ht)⟩
    obtain ⟨f1, f2⟩ := hF
    exact ⟨by rw [← hT]; exact f1, fun q h1 h2 => by rw [← hT]; exact f2 q (by show q < T.heap.size; rw [hT]; exact h1) h2⟩
  · refine Or.inr ⟨E, h1, z1, V, L, q, ce, e1, Y, hk1, hk2, hL, hh, hz, ?_, hce, hcv, ?_, st _ hst⟩
    · obtain ⟨f1, f2⟩ := hF
      exact ⟨by rw [← hT]; exact f1, fun q h1 h2 => by rw [← hT]; exact f2 q (by show q < T.heap.size; rw [hT]; exact h1) h2⟩
    · have h9 : vm₁.findClass E = some ce.cls := hcl
      rw [← h9]
      exact (X₁.warmed.alike.findClass E _).symm
theorem iv_V (C : CX G p l s m meth c cc nL own) (hs : ST G R s h z H locs cells slots) (hV : CV own index y bc maxL ret n) (hM : CM G l y (.code y bc maxL ret) fr lo (.ref b :: As) h z res) {ci : Nat} {q : vw_C} (hcl : ccl[ci]? = some q) (hq : q.1 = y.cls) (ho : oK h b ci = some ()) (hn : As.length = n) (hsize : ls.size = nL) (hstack : st0 = As.reverse ++ .ref b :: rest) (hW : (rest.map fun v => v.category).sum ≤ 8) (hdg : decode cc pc = .ok (.invokevirtual index, 3)) (hR : fr + 1 ≤ R.frames ∧ 8 + (maxL + 11) + lo ≤ R.locals) :
    ∀ T : State, T.heap = H → Stand p l e R s m args below meth c T locs cells slots → Out G p l e R s m args below meth c H locs cells slots z res T (F0 m pc ls st0) 3 rest := by
  intro T hT X
  obtain ⟨hB, hl, hin, hse⟩ := id hV
  obtain ⟨hx, hb, hml, hown, -, hG, hbs, -⟩ := id C
  obtain ⟨hTW, hK, -⟩ := hG.here hbs
  obtain ⟨mk, methM, hnamed, hmethM, hstM, habM⟩ := Cond.instanceMethod_spec (hTW.use (args := args) hin rfl)
  obtain ⟨methM', cM, hmethM', -, -, -, -, -, -, hsigM⟩ := Cond.code_spec hnamed (hTW.use (args := args) hB.2.1 rfl)
  cases hmethM.symm.trans hmethM'
  obtain ⟨fs, ha⟩ := oK_at ho
  obtain ⟨cellB, hcB, hoB, hclB⟩ := va_recv (q0 := 0) (fs := fs.map hv_v) hK (vP1 (D := G.1) (cl := ccl) (a := b) (x := .inr (ci, fs.map hv_v)) (H := H) (hs.1 b _ ha)) hcl rfl
  rw [hq] at hclB
  obtain ⟨c2, r2, m2, q1, q2, q3, q4, kP, hkP, hkPi⟩ := Cond.selects_spec (hTW.use (args := args) hse rfl)
  cases hclB.symm.trans q1
  cases (State.methodFound?_of_named hnamed hB.2.2.1).symm.trans q2
  cases hnamed.symm.trans q3
  have hselP : selectMethod e.platform s.vm cellB.cls mk = .method mk := by rw [Launch.admits_selectMethod X.admits]; exact q4
  obtain ⟨vm₁, X₁, hstep₁⟩ := X.invokevirtual hx hown (hTW.use (args := args) hl rfl) hnamed hmethM hstM hkP hkPi hB.2.2.1 (a := b) (cell := cellB) (by rw [hT]; exact hcB)
    (fun z h => by rw [h] at hoB; cases hoB) hselP hmethM habM hkP hkPi (g := F0 m pc ls st0) rfl (argsL := As) (rest := rest) (hn.trans (cb_len hB.2.2.2 _ hsigM)) hstack (by rw [hb]; exact hdg)
  exact out_of C hs hT X₁ hM hB rfl hsize (by rw [hb]; exact hdg) (lv_room (ls := ls) (rest := st0) (m := m) (pc := pc) hW) (X₁.named hnamed) hR (fun tg ht => hstep₁ _ fun acts => by rw [doInvoke_state]; exact ht)
theorem iv_S (C : CX G p l s m meth c cc nL own) (hs : ST G R s h z H locs cells slots) (hV : CS own index y bc maxL ret n) (hM : CM G l y (.code y bc maxL ret) fr lo As h z res) (hn : As.length = n) (hsize : ls.size = nL) (hstack : st0 = As.reverse ++ rest) (hW : (rest.map fun v => v.category).sum ≤ 8) (hdg : decode cc pc = .ok (.invokestatic index, 3)) (hR : fr + 1 ≤ R.frames ∧ 8 + (maxL + 11) + lo ≤ R.locals) :
    ∀ T : State, T.heap = H → Stand p l e R s m args below meth c T locs cells slots → Out G p l e R s m args below meth c H locs cells slots z res T (F0 m pc ls st0) 3 rest := by
  intro T hT X
  obtain ⟨hB, hl, hstt⟩ := id hV
  obtain ⟨hx, hb, hml, hown, -, hG, hbs, -⟩ := id C
  obtain ⟨hTW, hK, -⟩ := hG.here hbs
  obtain ⟨mk, hnamed⟩ := Cond.code_named (hTW.use (args := args) hB.2.1 rfl)
  obtain ⟨methM, cM, hmethM, -, -, -, -, -, -, hsigM⟩ := Cond.code_spec hnamed (hTW.use (args := args) hB.2.1 rfl)
  have hstatic : methM.isStatic = true := Cond.static_spec hnamed hmethM (hTW.use (args := args) hstt rfl)
  obtain ⟨kP, hkP, -⟩ := className_of_methodNamed hnamed
  have hinitP : kP.init = .initialized := Cond.initialized_spec (findClass_of_methodNamed hnamed) hkP (hTW.use (args := args) hB.1 rfl)
  rcases hl with hl | ⟨host, hl⟩
  · obtain ⟨vm₁, X₁, hstep₁⟩ := X.invokestatic hx hown (hTW.use (args := args) hl rfl) hnamed hmethM hstatic hkP hinitP hB.2.2.1 (g := F0 m pc ls st0) rfl (argsL := As) (rest := rest) (hn.trans (cb_len hB.2.2.2 _ hsigM)) hstack (by rw [hb]; exact hdg)
    exact out_of C hs hT X₁ hM hB rfl hsize (by rw [hb]; exact hdg) (lv_room (ls := ls) (rest := st0) (m := m) (pc := pc) hW) (X₁.named hnamed) hR (fun tg ht => hstep₁ _ fun acts => by rw [doInvoke_state]; exact ht)
  · obtain ⟨vm₁, X₁, hstep₁⟩ := X.invokestaticNest hx hown (hTW.use (args := args) hl rfl) hnamed hmethM hstatic hkP hinitP hB.2.2.1 (g := F0 m pc ls st0) rfl (argsL := As) (rest := rest) (hn.trans (cb_len hB.2.2.2 _ hsigM)) hstack (by rw [hb]; exact hdg)
    exact out_of C hs hT X₁ hM hB rfl hsize (by rw [hb]; exact hdg) (lv_room (ls := ls) (rest := st0) (m := m) (pc := pc) hW) (X₁.named hnamed) hR (fun tg ht => hstep₁ _ fun acts => by rw [doInvoke_state]; exact ht)
theorem iv_I (C : CX G p l s m meth c cc nL own) (hs : ST G R s h z H locs cells slots) (hV : CI own index y bc maxL n) (hM : CM G l y (.code y bc maxL none) fr lo (.ref b :: As) h z res) (hn : As.length = n) (hsize : ls.size = nL) (hstack : st0 = As.reverse ++ .ref b :: rest) (hW : (rest.map fun v => v.category).sum ≤ 8) (hdg : decode cc pc = .ok (.invokespecial index, 3)) (hR : fr + 1 ≤ R.frames ∧ 8 + (maxL + 11) + lo ≤ R.locals) :
    ∀ T : State, T.heap = H → Stand p l e R s m args below meth c T locs cells slots → Out G p l e R s m args below meth c H locs cells slots z res T (F0 m pc ls st0) 3 rest := by
  intro T hT X
  obtain ⟨hB, hl, hin, hy1⟩ := id hV
  obtain ⟨hx, hb, hml, hown, -, hG, hbs, -⟩ := id C
  obtain ⟨hTW, hK, -⟩ := hG.here hbs
  have hpl : e.platform.magicAccessors = ({} : Platform).magicAccessors := by rw [X.admits.platform]
  obtain ⟨mk, methM, cM, kP, vm₁, hnamed, hmethM, hcodeM, -, hlocalsM, -, hkP, -, hW₁, hstep₁⟩ := Steps.initColdArgs (e := e) (f := F0 m pc ls st0) (argsL := As) (rest := rest) (a := b) X.here hx X.warmed hpl hown hy1 hB.2.2.1 (hTW.use (args := args) hl rfl) (hTW.use (args := args) hin rfl) (hTW.use (args := args) hB.2.1 rfl) rfl (fun sig h9 => hn.trans (cb_len hB.2.2.2 _ h9)) hstack (by rw [hb]; exact hdg)
  have X₁ := X.noted hW₁
  exact out_of C hs hT X₁ hM hB rfl hsize (by rw [hb]; exact hdg) (lv_room (ls := ls) (rest := st0) (m := m) (pc := pc) hW) (X₁.named hnamed) hR (fun tg ht => hstep₁ _ fun acts => by rw [doInvoke_state]; exact ht)
/-- behind a call, in a method that catches nothing -/
theorem k_fin (C : CX G p l s m meth c cc nL own) (hs : ST G R s h z H locs cells slots) (hex : c.exceptionTable.toList = []) {r : RS}
    (hO : ∀ T : State, T.heap = H → Stand p l e R s m args below meth c T locs cells slots → Out G p l e R s m args below meth c H locs cells slots z res T (F0 m pc ls st0) 3 rest)
    (kk : ∀ (v : Option Value) (h1 : HH) (z1 : Z3), res = (.inl v, h1, z1) → ∀ (H1 : Heap) (locs1 : List Loc) (cells1 slots1 : Nat), ST G R s h1 z1 H1 locs1 cells1 slots1 → W p l e R s m args below meth c H1 locs1 cells1 slots1 (MX G below s r R.cells R.slots) (F0 m (pc + 3) ls (v.toList ++ rest)))
    (kx : ∀ (E : String) (h1 : HH) (z1 : Z3), res = (.inr E, h1, z1) → r = (.inr E, h1, z1)) :
    W p l e R s m args below meth c H locs cells slots (MX G below s r R.cells R.slots) (F0 m pc ls st0) := by
  intro T hT X
  obtain ⟨-, -, hS, hr1, hr2⟩ := hs
  rcases hO T hT X with ⟨v, h1, z1, V, L, e1, Y, hk1, hk2, hL, hh, hz, ⟨f1, f2⟩, st⟩ | ⟨E, h1, z1, V, L, q, ce, e1, Y, hk1, hk2, hL, hh, hz, ⟨f1, f2⟩, hce, hcv, hcl, st⟩
  · have hS1 : va_S (AG G) s.heap V.heap (locs ++ L) := ⟨Nat.le_trans hS.1 f1, fun q g1 g2 => (f2 q (Nat.lt_of_lt_of_le g1 hS.1) g2).trans (hS.2.1 q g1 g2), fun q hq => (List.mem_append.mp hq).elim (hS.2.2 q) (hL q)⟩
    obtain ⟨t, a1, b1⟩ := kk v h1 z1 e1 V.heap (locs ++ L) _ _ ⟨hh, hz, hS1, by omega, by omega⟩ V rfl Y
    exact ⟨t, st t a1, b1⟩
  · have hS1 : va_S (AG G) s.heap V.heap (locs ++ L) := ⟨Nat.le_trans hS.1 f1, fun q g1 g2 => (f2 q (Nat.lt_of_lt_of_le g1 hS.1) g2).trans (hS.2.1 q g1 g2), fun q hq => (List.mem_append.mp hq).elim (hS.2.2 q) (hL q)⟩
    have hlocks : meth.locks = false := C.2.2.2.2.1
    obtain ⟨hwalk, hrun, hend, hWt, hsame⟩ := Y.leaveThrown q (g := F0 m pc ls rest) rfl rfl rfl (fun x hx => by rw [hex] at hx; cases hx) hlocks
    rw [kx E h1 z1 e1]
    refine ⟨V.setFrames (.throwing q :: below), st.trans hwalk, .threw q, hrun, hend, ⟨q, ce, rfl, hh, hz, hce, hcv, hcl⟩, hS1.F rfl, by show z1.2.1 ≤ _; omega, by show z1.2.2 ≤ _; omega, locs ++ L, ⟨hWt, hsame.mono (by show _ ≤ R.cells - z1.2.1; omega) (by show _ ≤ R.slots - z1.2.2; omega)⟩, hS1.2.2⟩
end KC
end
section
/-! what comes behind a call: an int, a reference, nothing; an exception goes on -/
def cI (x : Option RS) (K : Int32 → HH → Z3 → Option RS) : Option RS := match x with
  | some (.inl (some (.int v)), h, z) => K v h z
  | some (.inr E, h, z) => some (.inr E, h, z)
  | _ => none
def cR (x : Option RS) (K : Nat → HH → Z3 → Option RS) : Option RS := match x with
  | some (.inl (some (.ref v)), h, z) => K v h z
  | some (.inr E, h, z) => some (.inr E, h, z)
  | _ => none
def cV (x : Option RS) (K : HH → Z3 → Option RS) : Option RS := match x with
  | some (.inl none, h, z) => K h z
  | some (.inr E, h, z) => some (.inr E, h, z)
  | _ => none
theorem cI_at {x : Option RS} {K : Int32 → HH → Z3 → Option RS} {r : RS} (hf : cI x K = some r) : ∃ res, x = some res ∧ (∀ v h1 z1, res = (.inl v, h1, z1) → ∃ i : Int32, v = some (.int i) ∧ K i h1 z1 = some r) ∧ ∀ E h1 z1, res = (.inr E, h1, z1) → r = (.inr E, h1, z1) := by
  unfold cI at hf
  split at hf
  · rename_i v h z
    exact ⟨_, rfl, fun v1 h1 z1 e => by cases e; exact ⟨v, rfl, hf⟩, fun E h1 z1 e => by cases e⟩
  · rename_i E h z
    exact ⟨_, rfl, fun v1 h1 z1 e => (by cases e), fun E1 h1 z1 e => by cases e; exact (Option.some.inj hf).symm⟩
  · cases hf
theorem cR_at {x : Option RS} {K : Nat → HH → Z3 → Option RS} {r : RS} (hf : cR x K = some r) : ∃ res, x = some res ∧ (∀ v h1 z1, res = (.inl v, h1, z1) → ∃ i : Nat, v = some (.ref i) ∧ K i h1 z1 = some r) ∧ ∀ E h1 z1, res = (.inr E, h1, z1) → r = (.inr E, h1, z1) := by
  unfold cR at hf
  split at hf
  · rename_i v h z
    exact ⟨_, rfl, fun v1 h1 z1 e => by cases e; exact ⟨v, rfl, hf⟩, fun E h1 z1 e => by cases e⟩
  · rename_i E h z
    exact ⟨_, rfl, fun v1 h1 z1 e => (by cases e), fun E1 h1 z1 e => by cases e; exact (Option.some.inj hf).symm⟩
  · cases hf
theorem cV_at {x : Option RS} {K : HH → Z3 → Option RS} {r : RS} (hf : cV x K = some r) : ∃ res, x = some res ∧ (∀ v h1 z1, res = (.inl v, h1, z1) → v = none ∧ K h1 z1 = some r) ∧ ∀ E h1 z1, res = (.inr E, h1, z1) → r = (.inr E, h1, z1) := by
  unfold cV at hf
  split at hf
  · rename_i h z
    exact ⟨_, rfl, fun v1 h1 z1 e => by cases e; exact ⟨rfl, hf⟩, fun E h1 z1 e => by cases e⟩
  · rename_i E h z
    exact ⟨_, rfl, fun v1 h1 z1 e => (by cases e), fun E1 h1 z1 e => by cases e; exact (Option.some.inj hf).symm⟩
  · cases hf
def bz (v : Int32) : Option Unit := if v = 0 ∨ v = 1 then some () else none
theorem bz_at {v : Int32} {u : Unit} (h : bz v = some u) : narrow .boolean (.int v) = .int v := by
  unfold bz at h
  split at h
  · rename_i hc
    rcases hc with rfl | rfl <;> rfl
  · cases h
/-- what an invocation gives -/
abbrev IV (G : EN) (p : Program) (l : Launch) (e : Env) (R : Room) (s : State) (m : MethodId) (args : Array Value) (below : List Frame) (meth : Method) (c : Code) (H : Heap) (locs : List Loc) (cells slots : Nat) (z : Z3) (x : Option RS) (pc : Nat) (ls : Array Slot) (st0 rest : List Value) : Prop :=
  ∀ res, x = some res → ∀ T : State, T.heap = H → Stand p l e R s m args below meth c T locs cells slots → Out G p l e R s m args below meth c H locs cells slots z res T (F0 m pc ls st0) 3 rest
section KE
variable {G : EN} {p : Program} {l : Launch} {e : Env} {R : Room} {s : State} {m : MethodId} {args : Array Value} {below : List Frame} {meth : Method} {c : Code} {H : Heap} {locs : List Loc} {cells slots : Nat}
variable {cc : ByteArray} {pc nL : Nat} {own : String} {ls : Array Slot} {rest st0 : List Value} {h : HH} {z : Z3} {x : Option RS} {r : RS}
theorem k_I (C : CX G p l s m meth c cc nL own) (hs : ST G R s h z H locs cells slots) (hex : c.exceptionTable.toList = []) {K : Int32 → HH → Z3 → Option RS} (hf : cI x K = some r) (hO : IV G p l e R s m args below meth c H locs cells slots z x pc ls st0 rest)
    (kk : ∀ (v : Int32) (h1 : HH) (z1 : Z3) (H1 : Heap) (locs1 : List Loc) (cells1 slots1 : Nat), K v h1 z1 = some r → ST G R s h1 z1 H1 locs1 cells1 slots1 → W p l e R s m args below meth c H1 locs1 cells1 slots1 (MX G below s r R.cells R.slots) (F0 m (pc + 3) ls (.int v :: rest))) : W p l e R s m args below meth c H locs cells slots (MX G below s r R.cells R.slots) (F0 m pc ls st0) := by
  obtain ⟨res, e1, h1, h2⟩ := cI_at hf
  refine k_fin C hs hex (hO res e1) (fun v h3 z3 e3 H1 locs1 cells1 slots1 hs1 => ?_) h2
  obtain ⟨i, rfl, h4⟩ := h1 v h3 z3 e3
  exact kk i h3 z3 H1 locs1 cells1 slots1 h4 hs1
theorem k_R (C : CX G p l s m meth c cc nL own) (hs : ST G R s h z H locs cells slots) (hex : c.exceptionTable.toList = []) {K : Nat → HH → Z3 → Option RS} (hf : cR x K = some r) (hO : IV G p l e R s m args below meth c H locs cells slots z x pc ls st0 rest)
    (kk : ∀ (v : Nat) (h1 : HH) (z1 : Z3) (H1 : Heap) (locs1 : List Loc) (cells1 slots1 : Nat), K v h1 z1 = some r → ST G R s h1 z1 H1 locs1 cells1 slots1 → W p l e R s m args below meth c H1 locs1 cells1 slots1 (MX G below s r R.cells R.slots) (F0 m (pc + 3) ls (.ref v :: rest))) : W p l e R s m args below meth c H locs cells slots (MX G below s r R.cells R.slots) (F0 m pc ls st0) := by
  obtain ⟨res, e1, h1, h2⟩ := cR_at hf
  refine k_fin C hs hex (hO res e1) (fun v h3 z3 e3 H1 locs1 cells1 slots1 hs1 => ?_) h2
  obtain ⟨i, rfl, h4⟩ := h1 v h3 z3 e3
  exact kk i h3 z3 H1 locs1 cells1 slots1 h4 hs1
theorem k_V (C : CX G p l s m meth c cc nL own) (hs : ST G R s h z H locs cells slots) (hex : c.exceptionTable.toList = []) {K : HH → Z3 → Option RS} (hf : cV x K = some r) (hO : IV G p l e R s m args below meth c H locs cells slots z x pc ls st0 rest)
    (kk : ∀ (h1 : HH) (z1 : Z3) (H1 : Heap) (locs1 : List Loc) (cells1 slots1 : Nat), K h1 z1 = some r → ST G R s h1 z1 H1 locs1 cells1 slots1 → W p l e R s m args below meth c H1 locs1 cells1 slots1 (MX G below s r R.cells R.slots) (F0 m (pc + 3) ls rest)) : W p l e R s m args below meth c H locs cells slots (MX G below s r R.cells R.slots) (F0 m pc ls st0) := by
  obtain ⟨res, e1, h1, h2⟩ := cV_at hf
  refine k_fin C hs hex (hO res e1) (fun v h3 z3 e3 H1 locs1 cells1 slots1 hs1 => ?_) h2
  obtain ⟨rfl, h4⟩ := h1 v h3 z3 e3
  exact kk h3 z3 H1 locs1 cells1 slots1 h4 hs1
/-- ends -/
theorem x_end {v : Option Value} {g : JFrame} (hs : ST G R s h z H locs cells slots) (hf : some ((.inl v, h, z) : RS) = some r)
    (k : W p l e R s m args below meth c H locs cells slots (MQ below (fun _ st o t => PQ G (.inl v, h, z) st o t ∧ va_F (AG G) st t) args s cells slots (AG G)) g) : W p l e R s m args below meth c H locs cells slots (MX G below s r R.cells R.slots) g := by
  intro T hT X
  obtain ⟨t, a1, o, b1, b2, ⟨b3, b4⟩, L, ⟨b5, b6, b7⟩, b8⟩ := k T hT X
  cases hf
  obtain ⟨-, -, -, hr1, hr2⟩ := hs
  exact ⟨t, a1, o, b1, b2, b3, b4, by show z.2.1 ≤ _; omega, by show z.2.2 ≤ _; omega, L, ⟨b6, b7.mono (by show cells ≤ R.cells - z.2.1; omega) (by show slots ≤ R.slots - z.2.2; omega)⟩, b8⟩
theorem r_ireturn (C : CX G p l s m meth c cc nL own) (hs : ST G R s h z H locs cells slots) (hr : meth.sig.returnType = some .int) {v : Int32} (hdg : decode cc pc = .ok (.ireturn, 1)) (hf : some ((.inl (some (.int v)), h, z) : RS) = some r) : W p l e R s m args below meth c H locs cells slots (MX G below s r R.cells R.slots) (F0 m pc ls [.int v]) :=
  x_end hs hf (W.iret C.1 C.2.1 hr (fun t ht hW => ⟨⟨rfl, by rw [ht]; exact hs.1, by rw [ht]; exact hs.2.1⟩, hs.2.2.1.F ht⟩) hs.2.2.1.2.2 hdg C.2.2.2.2.1)
theorem r_zreturn (C : CX G p l s m meth c cc nL own) (hs : ST G R s h z H locs cells slots) (hr : meth.sig.returnType = some .boolean) {v : Int32} (hdg : decode cc pc = .ok (.ireturn, 1)) (hf : ((bz v).bind fun _ => some ((.inl (some (.int v)), h, z) : RS)) = some r) : W p l e R s m args below meth c H locs cells slots (MX G below s r R.cells R.slots) (F0 m pc ls [.int v]) := by
  obtain ⟨u, h1, hf⟩ := bd hf
  exact x_end hs hf (W.zret C.1 C.2.1 hr (bz_at h1) (fun t ht hW => ⟨⟨rfl, by rw [ht]; exact hs.1, by rw [ht]; exact hs.2.1⟩, hs.2.2.1.F ht⟩) hs.2.2.1.2.2 hdg C.2.2.2.2.1)
theorem r_areturn (C : CX G p l s m meth c cc nL own) (hs : ST G R s h z H locs cells slots) {rt : FieldType} (hr : meth.sig.returnType = some rt) (hrt : (∃ n, rt = .object n) ∨ ∃ t, rt = .array t) {v : Nat} (hdg : decode cc pc = .ok (.areturn, 1)) (hf : some ((.inl (some (.ref v)), h, z) : RS) = some r) : W p l e R s m args below meth c H locs cells slots (MX G below s r R.cells R.slots) (F0 m pc ls [.ref v]) :=
  x_end hs hf (W.aret C.1 C.2.1 hr hrt (Or.inr ⟨v, rfl⟩) (fun t ht hW => ⟨⟨rfl, by rw [ht]; exact hs.1, by rw [ht]; exact hs.2.1⟩, hs.2.2.1.F ht⟩) hs.2.2.1.2.2 hdg C.2.2.2.2.1)
theorem r_vreturn (C : CX G p l s m meth c cc nL own) (hs : ST G R s h z H locs cells slots) (hr : meth.sig.returnType = none) (hdg : decode cc pc = .ok (.return_, 1)) (hf : some ((.inl none, h, z) : RS) = some r) : W p l e R s m args below meth c H locs cells slots (MX G below s r R.cells R.slots) (F0 m pc ls []) :=
  x_end hs hf (W.vret C.1 C.2.1 hr (fun t ht hW => ⟨⟨rfl, by rw [ht]; exact hs.1, by rw [ht]; exact hs.2.1⟩, hs.2.2.1.F ht⟩) hs.2.2.1.2.2 hdg C.2.2.2.2.1)
/-- the start: the locals -/
theorem x_entry {As : List Value} {Q : State → Prop} {n : Nat} (hn : (lg_sl As).length ≤ n) (k : ∀ ls : Array Slot, lv_has ls n (lv_args 0 As) → W p l e R s m args below meth c H locs cells slots Q (F0 m 0 ls [])) : W p l e R s m args below meth c H locs cells slots Q (entryFrame m As.toArray n) := by
  have hl := lv_entry As (n := n) hn
  rw [lg_entry_eq]
  exact k _ hl
theorem r_objInit (C : CX G p l s m meth c cc nL own) {Q : State → Prop} {index a : Nat} (hsize : ls.size = nL) (hl : Cond.methodLink own index objectInit ∈ lw_tbl) (h2 : Cond.instanceMethod objectInit ∈ lw_tbl) (h3 : Cond.code objectInit ⟨#[0xb1]⟩ 1 none ∈ lw_tbl) (hdg : decode cc pc = .ok (.invokespecial index, 3)) (hR : 1 ≤ R.frames ∧ (rest.map fun v => v.category).sum + 12 ≤ R.locals)
    (kk : W p l e R s m args below meth c H locs cells slots Q (F0 m (pc + 3) ls rest)) : W p l e R s m args below meth c H locs cells slots Q (F0 m pc ls (.ref a :: rest)) := by
  obtain ⟨hx, hb, hml, hown, -, hG, hbs, -⟩ := C
  obtain ⟨hTW, -⟩ := hG.here hbs
  exact W.objInit hx hb hown (hTW.use hl rfl) (hTW.use h2 rfl) (hTW.use h3 rfl) rfl (by rw [hml]; exact hsize) rfl hdg hR.1 (by have := hR.2; simp [JFrame.monitorRoom]; omega) kk
end KE
end
section
def FU : Nat := 1000
theorem tm {w : Cond} {i : Nat} (h : tables_1[i]? = some w) : w ∈ lw_tbl := List.mem_append_right _ (List.mem_of_getElem? h)
theorem i32_of_toInt {x : Int32} {n : Int} (h : x.toInt = n) : x = Int32.ofInt n := by
  rw [← h, Int32.ofInt_toInt]
theorem tab_out4 {x : Int32} (h0 : ¬ x = 0) (h1 : ¬ x = 1) (h2 : ¬ x = 2) (h3 : ¬ x = 3) : x.toInt < 0 ∨ 3 < x.toInt := by
  by_cases h : x.toInt < 0
  · exact Or.inl h
  by_cases h' : 3 < x.toInt
  · exact Or.inr h'
  exfalso
  rcases (show x.toInt = 0 ∨ x.toInt = 1 ∨ x.toInt = 2 ∨ x.toInt = 3 by omega) with e | e | e | e
  · exact h0 (i32_of_toInt e)
  · exact h1 (i32_of_toInt e)
  · exact h2 (i32_of_toInt e)
  · exact h3 (i32_of_toInt e)
def aK3 (h : HH) (a : Nat) : Option Unit := match h a with
  | some (.inr (3, _, .inr (.inr _))) => some ()
  | _ => none
theorem aK3_at {h : HH} {a : Nat} {u : Unit} (e : aK3 h a = some u) : ∃ n f, h a = some (.inr (3, n, .inr (.inr f))) := by
  unfold aK3 at e
  split at e
  · rename_i n f h2
    exact ⟨n, f, h2⟩
  · cases e
def entOk (h : HH) (x : Option Nat) : Bool := match x with
  | none => true
  | some y => (oK h y 0).isSome
def aCp (bs : Nat) (h : HH) (a0 : Nat) (sp : Int32) (a : Nat) (dp n : Int32) : Option HH := match h a0, h a with
  | some (.inr (3, n0, .inr (.inr f))), some (.inr (3, n1, .inr (.inr g))) =>
    if ¬ sp < 0 ∧ ¬ dp < 0 ∧ ¬ n < 0 ∧ sp.toNatClampNeg + n.toNatClampNeg ≤ n0 ∧ dp.toNatClampNeg + n.toNatClampNeg ≤ n1 ∧ (List.range n.toNatClampNeg).all (fun i => entOk h (f (sp.toNatClampNeg + i))) = true ∧ bs ≤ a
    then some (va_up h a (some (.inr (3, n1, .inr (.inr (va_cpy f g sp.toNatClampNeg dp.toNatClampNeg n.toNatClampNeg)))))) else none
  | _, _ => none
theorem aCp_at {bs : Nat} {h h1 : HH} {a0 a : Nat} {sp dp n : Int32} (e : aCp bs h a0 sp a dp n = some h1) : ∃ n0 f n1 g, h a0 = some (.inr (3, n0, .inr (.inr f))) ∧ h a = some (.inr (3, n1, .inr (.inr g))) ∧ ¬ sp < 0 ∧ ¬ dp < 0 ∧ ¬ n < 0 ∧ sp.toNatClampNeg + n.toNatClampNeg ≤ n0 ∧ dp.toNatClampNeg + n.toNatClampNeg ≤ n1 ∧ (∀ i, i < n.toNatClampNeg → ∀ y, f (sp.toNatClampNeg + i) = some y → ∃ fs, h y = some (.inl (0, fs))) ∧ bs ≤ a ∧ h1 = va_up h a (some (.inr (3, n1, .inr (.inr (va_cpy f g sp.toNatClampNeg dp.toNatClampNeg n.toNatClampNeg))))) := by
  unfold aCp at e
  split at e
  · rename_i n0 f n1 g e1 e2
    split at e
    · rename_i hc
      obtain ⟨c1, c2, c3, c4, c5, c6, c7⟩ := hc
      cases e
      refine ⟨n0, f, n1, g, e1, e2, c1, c2, c3, c4, c5, fun i hi y hy => ?_, c7, rfl⟩
      have h9 := List.all_eq_true.mp c6 i (List.mem_range.mpr hi)
      rw [hy] at h9
      obtain ⟨u, hu⟩ := Option.isSome_iff_exists.mp (show (oK h y 0).isSome = true from h9)
      exact oK_at hu
    · cases e
  · cases e
section RM9
variable {G : EN} {p : Program} {l : Launch} {e : Env} {R : Room} {s : State} {m : MethodId} {args : Array Value} {below : List Frame} {meth : Method} {c : Code} {H : Heap} {locs : List Loc} {cells slots : Nat} {Q : State → Prop}
variable {cc : ByteArray} {pc nL : Nat} {own : String} {ls : Array Slot} {rest : List Value} {h : HH} {z : Z3} {a : Nat}
theorem r_cast (C : CX G p l s m meth c cc nL own) (hs : ST G R s h z H locs cells slots) {index ci : Nat} {Cn : String} {T : u_T} {N : Nat} (hc : ccl[ci]? = some (Cn, T, N)) (hl : Cond.classLink own index Cn ∈ lw_tbl) (hl2 : Cond.castable Cn Cn ∈ lw_tbl) (hdg : decode cc pc = .ok (.checkcast index, 3)) {β : Type} {K : Unit → Option β} {r : β} (hf : (oK h a ci).bind K = some r)
    (kk : K () = some r → W p l e R s m args below meth c H locs cells slots Q (F0 m (pc + 3) ls (.ref a :: rest))) : W p l e R s m args below meth c H locs cells slots Q (F0 m pc ls (.ref a :: rest)) := by
  obtain ⟨u, h1, hf⟩ := bd hf
  obtain ⟨fs, ha⟩ := oK_at h1
  obtain ⟨hx, hb, -, hown, -, hG, hbs, -⟩ := C
  obtain ⟨hT, hK, -⟩ := hG.here hbs
  have hr := va_recv (q0 := 0) (fs := fs.map hv_v) hK (vP1 (D := G.1) (cl := ccl) (a := a) (x := .inr (ci, fs.map hv_v)) (H := H) (hs.1 a _ ha)) hc rfl
  exact va_castY (C := Cn) (nm := Cn) hx hb hown (hT.use hl rfl) (va_Nw.of rfl (hT.use (args := args) hl2 rfl)) hr hdg (kk hf)
theorem r_gets (C : CX G p l s m meth c cc nL own) (hs : ST G R s h z H locs cells slots) {index : Nat} (hl : Cond.fieldLink own index "java/util/ArrayList" "DEFAULTCAPACITY_EMPTY_ELEMENTDATA" "[Ljava/lang/Object;" ∈ lw_tbl) (hdg : decode cc pc = .ok (.getstatic index, 3))
    (kk : W p l e R s m args below meth c H locs cells slots Q (F0 m (pc + 3) ls (.ref G.2.2.2.1 :: rest))) : W p l e R s m args below meth c H locs cells slots Q (F0 m pc ls rest) := by
  obtain ⟨hx, hb, -, hown, -, hG, hbs, -⟩ := C
  obtain ⟨hT, hK, hZ, -⟩ := hG.here hbs
  exact va_gets hx hb hZ hs.2.2.1 hown (hT.use hl rfl) (fun _ h9 => h9) hdg kk
theorem r_ldcM (C : CX G p l s m meth c cc nL own) {index : Nat} (hl : Cond.classLink own index "[Ljava/lang/Object;" ∈ lw_tbl) (hdg : decode cc pc = .ok (.ldc index, 2))
    (kk : W p l e R s m args below meth c H locs cells slots Q (F0 m (pc + 2) ls (.ref G.2.2.2.2 :: rest))) : W p l e R s m args below meth c H locs cells slots Q (F0 m pc ls rest) := by
  obtain ⟨hx, hb, -, hown, -, hG, hbs, -⟩ := C
  obtain ⟨hT, hK, -, hM, -⟩ := hG.here hbs
  exact va_ldcM hx hb hown (hT.use hl rfl) hM hdg kk
/-- getClass of an array of Objects -/
theorem r_getC (C : CX G p l s m meth c cc nL own) (hs : ST G R s h z H locs cells slots) (hsize : ls.size = nL) {index : Nat} (hl : Cond.methodLink own index ⟨"java/lang/Object", "getClass", "()Ljava/lang/Class;"⟩ ∈ lw_tbl) (h2 : Cond.declares ⟨"java/lang/Object", "getClass", "()Ljava/lang/Class;"⟩ ∈ lw_tbl) (h3 : Cond.selects "[Ljava/lang/Object;" ⟨"java/lang/Object", "getClass", "()Ljava/lang/Class;"⟩ ⟨"java/lang/Object", "getClass", "()Ljava/lang/Class;"⟩ ∈ lw_tbl) (h4 : Cond.instanceMethod ⟨"java/lang/Object", "getClass", "()Ljava/lang/Class;"⟩ ∈ lw_tbl) (h5 : Cond.native ⟨"java/lang/Object", "getClass", "()Ljava/lang/Class;"⟩ ∈ lw_tbl)
    (hR : 1 ≤ R.frames ∧ (rest.map fun v => v.category).sum + 14 ≤ R.locals) (hdg : decode cc pc = .ok (.invokevirtual index, 3)) {β : Type} {K : Unit → Option β} {r : β} (hf : (aK3 h a).bind K = some r)
    (kk : K () = some r → W p l e R s m args below meth c H locs cells slots Q (F0 m (pc + 3) ls (.ref G.2.2.2.2 :: rest))) : W p l e R s m args below meth c H locs cells slots Q (F0 m pc ls (.ref a :: rest)) := by
  obtain ⟨u, h1, hf⟩ := bd hf
  obtain ⟨n, f, ha⟩ := aK3_at h1
  obtain ⟨hx, hb, hml, hown, -, hG, hbs, -⟩ := C
  obtain ⟨hT, hK, -, hM, -⟩ := hG.here hbs
  have h9 := hs.1 a _ ha
  obtain ⟨kA, comp, g1, g2, g3, g4⟩ : va_RA s (G.2.1 3) (.object "java/lang/Object") := (hK.2 3 _ (tyl_at (by decide))).2
  exact va_getC (C := "[Ljava/lang/Object;") hx hb (by rw [hml, hsize]) hown (hT.use hl rfl) (hT.use h2 rfl) (hT.use h3 rfl) (hT.use h4 rfl) (hT.use h5 rfl) hM ⟨_, hp_ex h9 (by decide), rfl, g4⟩ hR.1 hR.2 hdg (kk hf)
/-- System.arraycopy between two arrays of Objects whose elements are Entries -/
theorem r_acp (C : CX G p l s m meth c cc nL own) (hs : ST G R s h z H locs cells slots) (hsize : ls.size = nL) {index a0 : Nat} {sp dp n : Int32} (hl : Cond.methodLink own index arraycopyName ∈ lw_tbl) (h2 : Cond.native arraycopyName ∈ lw_tbl) (h3 : Cond.static arraycopyName ∈ lw_tbl) (h4 : Cond.initialized "java/lang/System" ∈ lw_tbl) (h5 : Cond.castable "FencedBroker$Entry" "java/lang/Object" ∈ lw_tbl)
    (hR : 1 ≤ R.frames ∧ (rest.map fun v => v.category).sum + (nativeFrameWords "java/lang/System" "arraycopy" 5 + 11) ≤ R.locals) (hdg : decode cc pc = .ok (.invokestatic index, 3)) {β : Type} {K : HH → Option β} {r : β} (hf : (aCp G.2.2.1 h a0 sp a dp n).bind K = some r)
    (kk : ∀ (h1 : HH) (H1 : Heap) (locs1 : List Loc), K h1 = some r → ST G R s h1 z H1 locs1 cells slots → W p l e R s m args below meth c H1 locs1 cells slots Q (F0 m (pc + 3) ls rest)) : W p l e R s m args below meth c H locs cells slots Q (F0 m pc ls (.int n :: .int dp :: .ref a :: .int sp :: .ref a0 :: rest)) := by
  obtain ⟨h1, hcp, hf⟩ := bd hf
  obtain ⟨n0, f, n1, g, ha0, ha1, k1, k2, k3, k4, k5, hel, hba, rfl⟩ := aCp_at hcp
  obtain ⟨hx, hb, hml, hown, -, hG, hbs, -⟩ := C
  obtain ⟨hTW, hK, -⟩ := hG.here hbs
  have nn : ∀ z : Int32, ¬ z < 0 → z.toInt = (z.toNatClampNeg : Int) := by
    intro z hz
    have hz0 : (0 : Int) ≤ z.toInt := by
      have := Int32.not_lt.mp hz
      simpa using Int32.le_iff_toInt_le.mp this
    show z.toInt = ((z.toInt.toNat : Nat) : Int)
    omega
  have hc0 : H[a0]? = some (vp_cell (G.2.1 3) (n0, .inr (.inr (.inr (.inr f))))) := hp_ex (hs.1 a0 _ ha0) (by decide)
  have hc1 : H[a]? = some (vp_cell (G.2.1 3) (n1, .inr (.inr (.inr (.inr g))))) := hp_ex (hs.1 a _ ha1) (by decide)
  have hK3 := hK.2 3 _ (tyl_at (by decide))
  obtain ⟨-, q0, hq0, cm0, hkk0⟩ := hK3.1 n0 (fun j => va_rf (f j))
  obtain ⟨kA, comp, r1, r2, r3, -⟩ : va_RA s (G.2.1 3) (.object "java/lang/Object") := hK3.2
  obtain ⟨c0, t1, f1, f2, f3⟩ := Cond.castable_spec (hTW.use (args := args) h5 rfl)
  have hcls := (hK.1 0 _ (show ccl[0]? = some ("FencedBroker$Entry", q_Entry, 6) from rfl)).2.1
  intro T hT X
  obtain ⟨vm', X', step⟩ := X.arraycopy hx hown (hTW.use hl rfl) (hTW.use h2 rfl) (hTW.use h3 rfl) (hTW.use h4 rfl) (src := a0) (dst := a) (cs := vp_cell (G.2.1 3) (n0, .inr (.inr (.inr (.inr f))))) (cd := vp_cell (G.2.1 3) (n1, .inr (.inr (.inr (.inr g))))) (srcPos := sp) (destPos := dp) (n := n) (by rw [hT]; exact hc0) (by rw [hT]; exact hc1)
    (fun _ h => by cases h) (fun _ h => by cases h) (fun h => by cases h) (fun h => by cases h) hq0 r1 hkk0 r2 rfl k1 k2 k3
    (by rw [nn sp k1, nn n k3]; show ¬ _ > ((arrV _ n0 (fun j => va_rf (f j))).slots.size : Int); rw [arrV_size]; omega)
    (by rw [nn dp k2, nn n k3]; show ¬ _ > ((arrV _ n1 (fun j => va_rf (g j))).slots.size : Int); rw [arrV_size]; omega)
    (fun vm₁ hal i hi => by
      have e9 : (vp_cell (G.2.1 3) (n0, .inr (.inr (.inr (.inr f))))).slots.getD (sp.toNatClampNeg + i) .null = va_rf (f (sp.toNatClampNeg + i)) := by
        show (arrV _ n0 (fun j => va_rf (f j))).slots.getD _ _ = _
        rw [Array.getD_eq_getD_getElem?, arrV_read _ _ (by omega)]
        rfl
      rw [e9]
      cases hy : f (sp.toNatClampNeg + i) with
      | none => exact ⟨rfl, trivial⟩
      | some y =>
        obtain ⟨fs, hyc⟩ := hel i hi y hy
        obtain ⟨r', hr', cellV, g1, g2, g3, -⟩ : va_at G.1 ccl (y, .inr (0, fs.map hv_v)) H := hs.1 y _ hyc
        have hcV : s.vm.findClass "FencedBroker$Entry" = some cellV.cls := by rw [g2]; exact hcls
        cases f1.symm.trans hcV
        cases f2.symm.trans r3
        obtain ⟨kC, hkC, -⟩ := Vm.findClass_spec hcV
        obtain ⟨kE, hkE, -⟩ := Vm.findClass_spec r3
        obtain ⟨kC', hkC', -⟩ := hal.2.2 _ _ hkC
        obtain ⟨kE', hkE', -⟩ := hal.2.2 _ _ hkE
        refine ⟨rfl, cellV, (show T.heap[y]? = some cellV by rw [hT]; exact g1), (fun q h => by rw [g3] at h; cases h), ⟨kC', hkC'⟩, ⟨kE', hkE'⟩, ?_⟩
        show vm₁.assignable _ _ = true
        rw [hal.assignable]
        exact f3)
    (g := F0 m pc ls (.int n :: .int dp :: .ref a :: .int sp :: .ref a0 :: rest)) rfl (by rw [hml]; exact hsize) (rest := rest) rfl (by rw [hb]; exact hdg) hR.1 (by show 2 * 0 + _ + _ ≤ _; have := hR.2; omega)
  have e1 : copied (vp_cell (G.2.1 3) (n0, .inr (.inr (.inr (.inr f))))) (vp_cell (G.2.1 3) (n1, .inr (.inr (.inr (.inr g))))) sp dp n = vp_cell (G.2.1 3) (n1, .inr (.inr (.inr (.inr (va_cpy f g sp.toNatClampNeg dp.toNatClampNeg n.toNatClampNeg))))) := by
    rw [vp_cell_q, vp_cell_q, vp_cell_q]
    exact va_copied (fun z => va_rf z) _ _ f g k4
  rw [e1] at X' step
  have hl9 : a < H.size := (Array.getElem?_eq_some_iff.mp hc1).1
  generalize hnew : vp_cell (G.2.1 3) (n1, .inr (.inr (.inr (.inr (va_cpy f g sp.toNatClampNeg dp.toNatClampNeg n.toNatClampNeg))))) = nw at X' step
  have hheap : ((T.setVm vm').setCell a nw).heap = H.setIfInBounds a nw := by rw [← hT]; rfl
  have oq : ∀ q : Nat, q ≠ a → (H.setIfInBounds a nw)[q]? = H[q]? := fun q hq => by simp [Array.getElem?_setIfInBounds, Ne.symm hq]
  have hs1 := hs.put (k := 0) (x := .inr (3, n1, .inr (.inr (va_cpy f g sp.toNatClampNeg dp.toNatClampNeg n.toNatClampNeg)))) (a := a) (H1 := H.setIfInBounds a nw) (by simp) oq hba (Or.inl ⟨by decide, by
    show (H.setIfInBounds a nw)[a]? = some (vp_cell _ (n1, .inr (.inr (.inr (.inr _)))))
    rw [hnew]
    simp [Array.getElem?_setIfInBounds, hl9]⟩)
  obtain ⟨s1, s2, s3, s4⟩ := hs1
  obtain ⟨t, a1, b1⟩ := kk _ _ _ hf ⟨s1, s2, ⟨s3.1, s3.2.1, fun q hq => by
      rcases List.mem_append.mp hq with h | h
      · exact hs.2.2.1.2.2 q h
      · obtain ⟨z, -, hz⟩ := List.mem_map.mp h
        rw [← hz]
        exact hba⟩, s4⟩ _ hheap X'
  exact ⟨t, step t a1, b1⟩
theorem r_mmax (C : CX G p l s m meth c cc nL own) (hs : ST G R s h z H locs cells slots) (hsize : ls.size = nL) {index : Nat} (hl : Cond.methodLink own index Lib.Math.max.name ∈ lw_tbl) (h2 : Cond.static Lib.Math.max.name ∈ lw_tbl) (h3 : Cond.initialized "java/lang/Math" ∈ lw_tbl) (h4 : Cond.code Lib.Math.max.name Lib.Math.max.code 2 (some .int) ∈ lw_tbl) (hR : 1 ≤ R.frames ∧ (rest.map fun v => v.category).sum + 13 ≤ R.locals) {x y : Int32} (hdg : decode cc pc = .ok (.invokestatic index, 3))
    (kk : W p l e R s m args below meth c H locs cells slots Q (F0 m (pc + 3) ls (.int (if x < y then y else x) :: rest))) : W p l e R s m args below meth c H locs cells slots Q (F0 m pc ls (.int y :: .int x :: rest)) := by
  obtain ⟨hx, hb, hml, hown, -, hG, hbs, -⟩ := C
  obtain ⟨hT, -⟩ := hG.here hbs
  have hr1 := hs.2.2.2.1
  have hr2 := hs.2.2.2.2
  exact va_mmax hx hb (by rw [hml, hsize]) hown (hT.use hl rfl) (hT.use h2 rfl) (hT.use h3 rfl) (hT.use h4 rfl) hR.1 hR.2 (by omega) (by omega) hdg kk
theorem r_mmin (C : CX G p l s m meth c cc nL own) (hs : ST G R s h z H locs cells slots) (hsize : ls.size = nL) {index : Nat} (hl : Cond.methodLink own index Lib.Math.min.name ∈ lw_tbl) (h2 : Cond.static Lib.Math.min.name ∈ lw_tbl) (h3 : Cond.initialized "java/lang/Math" ∈ lw_tbl) (h4 : Cond.code Lib.Math.min.name Lib.Math.min.code 2 (some .int) ∈ lw_tbl) (hR : 1 ≤ R.frames ∧ (rest.map fun v => v.category).sum + 13 ≤ R.locals) {x y : Int32} (hdg : decode cc pc = .ok (.invokestatic index, 3))
    (kk : W p l e R s m args below meth c H locs cells slots Q (F0 m (pc + 3) ls (.int (if y < x then y else x) :: rest))) : W p l e R s m args below meth c H locs cells slots Q (F0 m pc ls (.int y :: .int x :: rest)) := by
  obtain ⟨hx, hb, hml, hown, -, hG, hbs, -⟩ := C
  obtain ⟨hT, -⟩ := hG.here hbs
  have hr1 := hs.2.2.2.1
  have hr2 := hs.2.2.2.2
  exact va_mmin hx hb (by rw [hml, hsize]) hown (hT.use hl rfl) (hT.use h2 rfl) (hT.use h3 rfl) (hT.use h4 rfl) hR.1 hR.2 (by omega) (by omega) hdg kk
end RM9
end
section
/-! NoSuchElementException: her constructor calls the next one by the entry 13 of her pool (the others: 7) -/
def nsN : String := "java/util/NoSuchElementException"
def nsB : ByteArray := ⟨#[0x2a, 0x2b, 0xb7, 0x00, 0x0d, 0xb1]⟩
def nsL (own : String) (ic : Nat) : List Cond :=
  Bundle.throwableAtoms ++ (Bundle.throwableSAtoms ++ (Bundle.passSAtoms nsN "java/lang/RuntimeException" 13 nsB ++ (Bundle.chainSAtoms "java/lang/RuntimeException" ["java/lang/Exception"] ++
  [.methodLink own ic (Bundle.initS nsN), .instantiable nsN 6, .castable nsN nsN, .selects nsN Bundle.tFill0 Bundle.tFill0, .selects nsN Bundle.tFill Bundle.tFill,
   .lays nsN Bundle.tN "cause" "Ljava/lang/Throwable;", .lays nsN Bundle.tN "stackTrace" Bundle.steD, .lays nsN Bundle.tN "suppressedExceptions" Bundle.listD, .lays nsN Bundle.tN "detailMessage" "Ljava/lang/String;",
   .isRef (.static Bundle.tN "UNASSIGNED_STACK" Bundle.steD), .isRef (.static Bundle.tN "SUPPRESSED_SENTINEL" Bundle.listD),
   .fieldLink Bundle.tN 198 Bundle.tN "backtrace" "Ljava/lang/Object;", .lays Bundle.tN Bundle.tN "backtrace" "Ljava/lang/Object;", .lays nsN Bundle.tN "backtrace" "Ljava/lang/Object;"])))
theorem nsB_0 : decode nsB 0 = .ok (.aload_n 0, 1) := by decide +kernel
theorem nsB_1 : decode nsB 1 = .ok (.aload_n 1, 1) := by decide +kernel
theorem nsB_2 : decode nsB 2 = .ok (.invokespecial 13, 3) := by decide +kernel
theorem nsB_5 : decode nsB 5 = .ok (.return_, 1) := by decide +kernel
theorem nsFit : Bundle.fit nsN = true := by decide +kernel
section NS
variable {p : Program} {l : Launch} {e : Env} {R : Room} {s : State} {m₀ : MethodId} {args : Array Value} {below : List Frame} {meth : Method} {c : Code} {W9 : State} {locs : List Loc} {cells slots : Nat}
set_option maxHeartbeats 4000000 in
theorem ns_throw (X : Stand p l e R s m₀ args below meth c W9 [] cells slots) (hexec : p.tables.exec = Jvm.exec) (htr : e.platform.stackTraces = false) {own : String} {ic : Nat}
    (hown : s.vm.findClass own = some m₀.cls) (h : ∀ w ∈ nsL own ic, w.before args s = true)
    {a : Addr} {cX : ClassId} {kX : Class} (hfoundX : s.vm.findClass nsN = some cX) (hkX : s.vm.classes[cX]? = some kX) (hcell : W9.heap[a]? = some (freshCell cX kX)) (hnew : s.heap.size ≤ a)
    {msg : Value} (hmsg : msg.isRef = true)
    {g : JFrame} (hg : g.method = m₀) (hsize : g.locals.size = c.maxLocals) (hlocked : g.locked = none) (hentered : g.entered = []) {rest : List Value} (hstack : g.stack = msg :: .ref a :: .ref a :: rest)
    (hd6 : decode c.code g.pc = .ok (.invokespecial ic, 3)) (hd9 : decode c.code (g.pc + 3) = .ok (.athrow, 1)) (hout : ∀ x ∈ c.exceptionTable.toList, covers x (g.pc + 3) = false)
    (hRframes : 5 < R.frames) (hRlocals : 2 * g.monitorRoom + ((Value.ref a :: rest).map fun v => v.category).sum + 81 ≤ R.locals) (hlocks : meth.locks = false) :
    ∃ U : State, Steps p.tables e below (W9.setTop g) U ∧ U.status = .running ∧ Ended U below (.threw a) ∧ s.WarmedH U.vm ∧ s.sameButNew ({ U with vm := s.vm } : State) [] cells slots ∧
      ∃ ce, U.heap[a]? = some ce ∧ ce.cls = cX ∧ ce.vm = .none := by
  have howns : e.platform.frameOwnsMonitors = true := by rw [X.admits.platform]
  have hfin : e.platform.finalization = false := by rw [X.admits.platform]
  have hpl : e.platform.magicAccessors = ({} : Platform).magicAccessors := by rw [X.admits.platform]
  obtain ⟨T, Z0, L, -, Y⟩ := ThrowableC.of_atoms (args := args) howns hfin hpl (fun x hx => h x (List.mem_append_left _ hx))
  obtain ⟨Z, M, LZ, LM, hnZ⟩ := Init0T.ofS_atoms (args := args) hpl L Y (fun x hx => h x (List.mem_append_right _ (List.mem_append_left _ hx)))
  have hpass : ∀ w ∈ Bundle.passSAtoms nsN "java/lang/RuntimeException" 13 nsB, w.before args s = true := fun x hx => h x (List.mem_append_right _ (List.mem_append_right _ (List.mem_append_left _ hx)))
  have htl : ∀ w, w ∈ [Cond.methodLink own ic (Bundle.initS nsN), .instantiable nsN 6, .castable nsN nsN, .selects nsN Bundle.tFill0 Bundle.tFill0, .selects nsN Bundle.tFill Bundle.tFill,
   .lays nsN Bundle.tN "cause" "Ljava/lang/Throwable;", .lays nsN Bundle.tN "stackTrace" Bundle.steD, .lays nsN Bundle.tN "suppressedExceptions" Bundle.listD, .lays nsN Bundle.tN "detailMessage" "Ljava/lang/String;",
   .isRef (.static Bundle.tN "UNASSIGNED_STACK" Bundle.steD), .isRef (.static Bundle.tN "SUPPRESSED_SENTINEL" Bundle.listD),
   .fieldLink Bundle.tN 198 Bundle.tN "backtrace" "Ljava/lang/Object;", .lays Bundle.tN Bundle.tN "backtrace" "Ljava/lang/Object;", .lays nsN Bundle.tN "backtrace" "Ljava/lang/Object;"] → w.before args s = true := fun x hx => h x (List.mem_append_right _ (List.mem_append_right _ (List.mem_append_right _ (List.mem_append_right _ hx))))
  obtain ⟨P1, L1, hP1m, hP1s⟩ := PassC.ofS_atoms (args := args) (s := s) hpl (X := nsN) (Y := "java/lang/RuntimeException") (Bundle.fit_spec nsFit).1 (by decide) nsB_0 nsB_1 nsB_2 nsB_5 hpass
  obtain ⟨P2, Ps, hlen, L2, hL, hm2, hlink2, hlink⟩ := Bundle.chainS (args := args) hpl hnZ ["java/lang/Exception"] "java/lang/RuntimeException" (by decide +kernel) (by decide +kernel) (fun x hx => h x (List.mem_append_right _ (List.mem_append_right _ (List.mem_append_right _ (List.mem_append_left _ hx)))))
  have hsup : P1.sup = P2.m := Option.some.inj (hP1s.symm.trans hm2)
  have hfound : s.vm.findClass nsN = some P1.m.cls := findClass_of_methodNamed hP1m
  cases Option.some.inj (hfoundX.symm.trans hfound)
  obtain ⟨c1, kX', hc1, hk, hord, -, -, hn6⟩ := Cond.instantiable_spec (htl (.instantiable nsN 6) (by simp))
  cases Option.some.inj (hc1.symm.trans hfound)
  cases Option.some.inj (hkX.symm.trans hk)
  have sel : ∀ (y : MethodName) (my : MethodId), s.methodNamed? y = some my → (y.cls ≠ "java/lang/invoke/MethodHandle" ∧ y.cls ≠ "java/lang/invoke/VarHandle") → (Cond.selects nsN y y).before args s = true → selectMethod e.platform s.vm P1.m.cls my = .method my := by
    intro y my hy hyn hw
    obtain ⟨c2, r2, m2, q1, q2, q3, q4, -⟩ := Cond.selects_spec hw
    cases Option.some.inj (q1.symm.trans hfound)
    cases Option.some.inj (q2.symm.trans (State.methodFound?_of_named hy hyn))
    cases Option.some.inj (q3.symm.trans hy)
    rw [Launch.admits_selectMethod X.admits]
    exact q4
  obtain ⟨cellS0, hcS0, hiss⟩ := Y.statics
  obtain ⟨u0, hu0⟩ := Cond.staticRefV Y.unassigned L.unassignedStatic L.statics hcS0 hiss (htl (.isRef (.static Bundle.tN "UNASSIGNED_STACK" Bundle.steD)) (by simp))
  obtain ⟨sen, hsen⟩ := Cond.staticRefV Y.sentinel L.sentinelStatic L.statics hcS0 hiss (htl (.isRef (.static Bundle.tN "SUPPRESSED_SENTINEL" Bundle.listD)) (by simp))
  obtain ⟨ci198, i198, fB, hk198, hg198, ha198, hsB, -, hnB, htB, hffB⟩ := Cond.ownField (t := .object "java/lang/Object") Y.found L.cls (by decide +kernel) (htl (.fieldLink Bundle.tN 198 Bundle.tN "backtrace" "Ljava/lang/Object;") (by simp)) (htl (.lays Bundle.tN Bundle.tN "backtrace" "Ljava/lang/Object;") (by simp)) e.platform hpl
  obtain ⟨cellS, hcS', heS, -, hkeep⟩ := X.same.2.2.2.2.2 T.aS cellS0 hcS0
  have hcellS : W9.heap[T.aS]? = some cellS := hcS'
  have hknownS : cellS.vm ≠ .unknown := by
    rw [heS]
    intro hu
    rw [show cellS0.vm = .unknown from hu] at hiss
    cases hiss
  have hneS : T.aS ≠ a := Nat.ne_of_lt (Nat.lt_of_lt_of_le (Array.getElem?_eq_some_iff.mp hcS0).1 hnew)
  obtain ⟨iM, hffM⟩ := Y.msg
  obtain ⟨tyC, dC, hdC, hdnC⟩ := Cond.laysAt hfound hk Y.cause (htl (.lays nsN Bundle.tN "cause" "Ljava/lang/Throwable;") (by simp))
  obtain ⟨tyS, dS, hdS, hdnS⟩ := Cond.laysAt hfound hk Y.stack (htl (.lays nsN Bundle.tN "stackTrace" Bundle.steD) (by simp))
  obtain ⟨tyP, dP, hdP, hdnP⟩ := Cond.laysAt hfound hk Y.supp (htl (.lays nsN Bundle.tN "suppressedExceptions" Bundle.listD) (by simp))
  obtain ⟨tyM, dM, hdM, hdnM⟩ := Cond.laysAt hfound hk hffM (htl (.lays nsN Bundle.tN "detailMessage" "Ljava/lang/String;") (by simp))
  obtain ⟨tyB, dB, hdB, hdnB⟩ := Cond.laysAt hfound hk hffB (htl (.lays nsN Bundle.tN "backtrace" "Ljava/lang/Object;") (by simp))
  have bC := Cond.laysApart hdB hdC hdnB hdnC (by rw [hnB, Y.causeName]; decide)
  have bS := Cond.laysApart hdB hdS hdnB hdnS (by rw [hnB, Y.stackName]; decide)
  have bP := Cond.laysApart hdB hdP hdnB hdnP (by rw [hnB, Y.suppName]; decide)
  have hskip : SkipFacts T e.platform s (fun u => u) u0 ((preparedCellV T.toThrowableT (freshCell P1.m.cls kX) a u0 sen).withEntry W9.cur) :=
    ⟨{ ci198 := ci198, i198 := i198, fBack := fB }, ⟨hk198, hg198, ha198, hsB⟩, by
      have h9 := fresh_default (c := P1.m.cls) tyB
      rw [htB] at h9
      simpa [preparedCellV, Cell.setSlot, Cell.withEntry, Array.getElem?_setIfInBounds, bC, bS, bP, bC.symm, bS.symm, bP.symm, defaultValue] using h9, fun _ _ => rfl⟩
  obtain ⟨tm9, methC, cdC, kC, vm₁, hnC, -, -, -, -, -, -, -, hW₁, st1⟩ := Steps.initColdS (tb := p.tables) (e := e) (below := below) (s := s) (U := W9) X.here hexec X.warmed hpl hown (t := Bundle.initS nsN) rfl rfl (Bundle.fit_spec nsFit).2
    (htl (.methodLink own ic (Bundle.initS nsN)) (by simp)) (hpass (.instanceMethod (Bundle.initS nsN)) (by simp [Bundle.passSAtoms])) (bytes := nsB) (maxL := 2) (hpass (.code (Bundle.initS nsN) nsB 2 none) (by simp [Bundle.passSAtoms]))
    (f := g) hg (a := a) (msg := msg) (rest := .ref a :: rest) hstack hd6
  cases Option.some.inj (hnC.symm.trans hP1m)
  have X₁ := X.noted hW₁
  have hlen' : Ps.length = 1 := hlen
  obtain ⟨vm₂, X₂, st2⟩ := X₁.ctorMessageOffV hexec (g := { g with stack := .ref a :: rest }) hg hsize T L Z LZ M LM (P1 :: P2 :: Ps)
    (fun P hP => by
      rcases List.mem_cons.mp hP with rfl | hP
      · exact L1
      · rcases List.mem_cons.mp hP with rfl | hP
        · exact L2
        · exact hL P hP) ⟨hsup, hlink2, hlink⟩ (u0 := u0) (sen := sen) (self := a) hmsg (cell := freshCell P1.m.cls kX) (cellS := cellS)
    hcell (fun _ => by simp) (by simp) rfl rfl (sel _ _ Y.fill0 (by decide) (htl (.selects nsN Bundle.tFill0 Bundle.tFill0) (by simp))) (sel _ _ Y.fill (by decide) (htl (.selects nsN Bundle.tFill Bundle.tFill) (by simp))) hcellS hneS hknownS (by rw [hkeep _ (by simp)]; exact hu0) (by rw [hkeep _ (by simp)]; exact hsen)
    (Takes.of_laid hk hord tyC (by rw [Y.causeType]; rfl)) (Takes.of_laid hk hord tyS (by rw [Y.stackType]; exact fits_refV_array _ u0)) (Takes.of_laid hk hord tyP (by rw [Y.suppType]; exact fits_refV_object _ sen))
    (Takes.of_laid hk hord tyM (by rw [Y.msgType]; exact fits_refV_object _ ⟨msg, hmsg⟩)) Y.objLocals hskip htr [] hd6
    (by simp only [List.length_cons, hlen']; omega) (by simp only [List.length_cons, hlen']; exact hRlocals)
  obtain ⟨hwalk, hrun, hended, hWU, hsame⟩ := X₂.athrowLeaves hexec (g := { g with stack := .ref a :: rest, pc := g.pc + 3 }) hg hlocked hentered hout (a := a) (rest := rest) rfl hd9
  have hlt : a < ((W9.setVm vm₁).setVm vm₂).heap.size := (Array.getElem?_eq_some_iff.mp hcell).1
  have hU := heapAt_setCell_self (s := (W9.setVm vm₁).setVm vm₂) (plainBareV T.toThrowableT (freshCell P1.m.cls kX) a u0 sen msg) hlt
  refine ⟨_, st1 _ (fun acts => ?_), hrun, hended, hWU, hsame.weaken (fun y hy hlt' => ?_) (Nat.le_refl _) (Nat.le_refl _), _, hU, rfl, rfl⟩
  · rw [doInvoke_state]
    exact st2 _ hwalk
  · exfalso
    rcases List.mem_append.mp hy with h1 | h1
    · cases h1
    · have hb : y.base = a := by
        simp only [List.mem_cons, List.not_mem_nil, or_false] at h1
        rcases h1 with rfl | rfl | rfl | rfl | rfl <;> rfl
      rw [hb] at hlt'
      exact Nat.not_lt.mpr hnew hlt'
end NS
end
section
/-! 'throw new E("text")' in a launch without stack traces -/
def tO (h : HH) (z : Z3) (E : String) : Option RS := (nO z 6).bind fun _ => some (.inr E, h, nZ z 6)
def thN : List String := ["java/lang/RuntimeException", "java/lang/Exception"]
def TH (own : String) (ik ic : Nat) (cls : String) : Prop := Cond.classLink own ik cls ∈ lw_tbl ∧ Cond.initialized cls ∈ lw_tbl ∧ Cond.instantiable cls 6 ∈ lw_tbl ∧ (((∀ w ∈ Bundle.ownAtoms own ic cls thN, (w ∈ lw_tbl ∧ okw w = true) ∨ w ∈ thr_ws) ∧ Bundle.fit cls = true) ∨ (cls = nsN ∧ ∀ w ∈ nsL own ic, (w ∈ lw_tbl ∧ okw w = true) ∨ w ∈ thr_ws))
section RT
variable {G : EN} {p : Program} {l : Launch} {e : Env} {R : Room} {s : State} {m : MethodId} {args : Array Value} {below : List Frame} {meth : Method} {c : Code} {H : Heap} {locs : List Loc} {cells slots : Nat}
variable {cc : ByteArray} {pc nL : Nat} {own : String} {ls : Array Slot} {rest : List Value} {h : HH} {z : Z3} {r : RS}
/-- the walk from here on, as if the method had begun at this heap -/
theorem st_again {T : State} (X : Stand p l e R s m args below meth c T locs cells slots) (hc : cells + 1 ≤ R.cells) (hs : slots + 6 ≤ R.slots) :
    Stand p l e { frames := R.frames, locals := R.locals, cells := 1, slots := 6 } ((T.setVm s.vm).setFrames (.invoking m args :: below)) m args below meth c T [] 0 0 := by
  have htop : (T.setVm s.vm).topJava?.isSome := X.here.top
  have hF := State.frames_setFrames (s := T.setVm s.vm) (.invoking m args :: below) (State.cur_lt_of_top htop)
  have hn : (T.heap.toList.drop T.heap.size) = [] := List.drop_eq_nil_of_le (Nat.le_of_eq Array.length_toList)
  have hR := X.room
  have hloc : ((T.setVm s.vm).setFrames (.invoking m args :: below)).localsInUse = s.localsInUse := by
    rw [State.localsInUse_invoking hF (meth := meth) (c := c) X.method X.code, State.localsInUse_invoking X.frames X.method X.code]
  constructor
  case admits => exact X.admits
  case cas => exact X.cas
  case clock => exact X.clock
  case frames => exact hF
  case hears => exact X.hears
  case method => exact X.method
  case code => exact X.code
  case here => exact X.here
  case tail => exact X.tail
  case warmed => exact X.warmed
  case limits => rw [State.stackLimits_setFrames]; rfl
  case bytes => rw [State.stackBytes_setFrames]; rfl
  case room =>
    have e1 : e.platform.stackLimits (T.setVm s.vm).me = e.platform.stackLimits s.me := X.limits
    have e2 : (T.setVm s.vm).me.stackBytes = s.me.stackBytes := X.bytes
    have e3 := X.heapSize
    have e4 := X.used
    simp only [State.hasRoom, Bool.and_eq_true, decide_eq_true_eq] at hR ⊢
    obtain ⟨⟨⟨⟨a1, a2, a3, a4, a5, a6⟩, a7⟩, a8⟩, a9⟩ := hR
    rw [X.frames, List.length_cons] at a2 a3
    simp only [hF, hloc, List.length_cons, State.stackLimits_setFrames, State.stackBytes_setFrames, e1, e2]
    have b7 : T.heap.size + 1 ≤ e.platform.maxCells := by omega
    have b8 : T.slotsUsed + 6 ≤ e.platform.maxSlots := by omega
    exact ⟨⟨⟨⟨by omega, by omega, by omega, by omega, by omega, a6⟩, b7⟩, b8⟩, X.book⟩
  case same =>
    obtain ⟨g₀, hg0⟩ := Option.isSome_iff_exists.mp htop
    obtain ⟨rr, hr⟩ := State.topJava?_eq_some.mp hg0
    obtain ⟨t, ht, -⟩ := State.frames_cons hr
    refine ⟨?_, Nat.le_refl _, Nat.le_refl _, ?_, ?_, fun a c9 h9 => ⟨c9, h9, rfl, rfl, fun _ _ => rfl⟩⟩
    · show T.setVm s.vm = { ((T.setVm s.vm).setFrames (.invoking m args :: below)).setFrames (T.setVm s.vm).frames with heap := T.heap, slotsUsed := T.slotsUsed }
      rw [State.setFrames_setFrames, State.setFrames_self ht]
      rfl
    · show T.slotsUsed = T.slotsUsed + ((T.heap.toList.drop T.heap.size).map (·.slots.size)).sum
      rw [hn]
      rfl
    · show ((T.heap.toList.drop T.heap.size).map (·.slots.size)).sum ≤ 0
      rw [hn]
      exact Nat.le_refl _
theorem r_thr0 (C : CX G p l s m meth c cc nL own) (hs : ST G R s h z H locs cells slots) (hex : c.exceptionTable.toList = []) (hsize : ls.size = nL) {ik is ic : Nat} {cls text : String} (hT : TH own ik ic cls) (hstr : Cond.stringRef own is text ∈ lw_tbl) (hR : 5 < R.frames ∧ (rest.map fun v => v.category).sum + 82 ≤ R.locals) {n : Nat}
    (d0 : decode cc pc = .ok (.new ik, 3)) (d3 : decode cc (pc + 3) = .ok (.dup, 1)) (d4 : ∀ (T : State) (sa : Addr) (s' : State), Stand p l e { frames := R.frames, locals := R.locals, cells := 1, slots := 6 } s' m args below meth c T [] 1 6 → s'.vm.findClass own = some m.cls → (Cond.stringRef own is text).before args s' = true → (Term.string own is).eval args s' none [] s' = some (.ref sa) → ∀ (st : List Value) (tg : State), Steps p.tables e below (T.setTop (F0 m n ls (.ref sa :: st))) tg → Steps p.tables e below (T.setTop (F0 m (pc + 4) ls st)) tg)
    (d6 : decode cc n = .ok (.invokespecial ic, 3)) (d9 : decode cc (n + 3) = .ok (.athrow, 1)) (hf : tO h z cls = some r) : W p l e R s m args below meth c H locs cells slots (MX G below s r R.cells R.slots) (F0 m pc ls rest) := by
  obtain ⟨u, h0, hf⟩ := bd hf
  cases hf
  have hz := nO_at h0
  obtain ⟨hx, hb, hml, hown, hlocks, hG, hbs, hl⟩ := id C
  obtain ⟨hk, hini, hins0, hat⟩ := hT
  obtain ⟨hh, hsz, hS, hr1, hr2⟩ := hs
  intro T hTH X
  have htr : e.platform.stackTraces = false := (show e.platform.stackTraces = l.stackTraces by rw [X.admits.platform]).trans hl
  have Y := st_again X (by omega) (by omega)
  generalize hA : (T.setVm s.vm).setFrames (.invoking m args :: below) = s' at Y
  have hvm : s'.vm = s.vm := by rw [← hA]; rfl
  have hhp : s'.heap = H := by rw [← hA]; exact hTH
  have hLt : Later G.2.2.1 s s' := by
    refine ⟨by rw [hvm]; exact State.WarmedH.refl s, by rw [hhp]; exact Nat.le_trans hbs hS.1, fun q hq => ?_⟩
    rw [hhp]
    exact hS.2.1 q (Nat.lt_of_lt_of_le hq hbs) (fun h9 => absurd (show G.2.2.1 ≤ q from h9) (by omega))
  obtain ⟨hTW, -, -, -, hthr, -⟩ := hG s' hLt
  have hown' : s'.vm.findClass own = some m.cls := by rw [hvm]; exact hown
  have hwd : ∀ w : Cond, ((w ∈ lw_tbl ∧ okw w = true) ∨ w ∈ thr_ws) → w.before args s' = true := by
    intro w hw
    rcases hw with ⟨h1, h2⟩ | h1
    · exact hTW.use h1 h2
    · have h2 := hthr w h1
      simp only [thr_ws, List.mem_cons, List.not_mem_nil, or_false] at h1
      rcases h1 with rfl | rfl | rfl | rfl <;> exact h2
  have hins : (Cond.instantiable cls 6).before args s' = true := hTW.use hins0 rfl
  obtain ⟨vm₁, cX, kX, hfX, hkX, -, -, X₁, st1⟩ := Y.newCold hx (own := own) (C := cls) (index := ik) (n := 6) hown' (hTW.use hk rfl) hins (hTW.use hini rfl) (g := F0 m pc ls rest) rfl (by rw [hb]; exact d0) (Nat.le_refl _) (Nat.le_refl _)
  generalize hT1 : (T.setVm vm₁).pushCell { cls := cX, slots := kX.instanceTypes.map defaultValue, vm := .none } = T1 at X₁ st1
  have hcellA : T1.heap[T.heap.size]? = some (freshCell cX kX) := by rw [← hT1]; exact State.heap_pushCell_size _ _
  have hst9 := hTW.use (args := args) hstr rfl
  obtain ⟨-, -, -, sa, -, -, -, -, -, hev⟩ := Cond.stringRef_spec hown' hst9
  have hcat : (Value.ref T.heap.size).category = 1 := rfl
  have hex9 : ∀ x ∈ c.exceptionTable.toList, covers x (n + 3) = false := fun x hx => by rw [hex] at hx; cases hx
  have hlo9 : 2 * (F0 m n ls (.ref sa :: .ref T.heap.size :: .ref T.heap.size :: rest)).monitorRoom + ((Value.ref T.heap.size :: rest).map fun v => v.category).sum + 81 ≤ R.locals := by
    have h2 := hR.2
    simp only [List.map_cons, List.sum_cons, hcat, JFrame.monitorRoom]
    simp
    omega
  obtain ⟨U, hsteps, hrun, hend, hWU, hsame, ce, hce, hOc, hOv⟩ : ∃ U : State, Steps p.tables e below (T1.setTop (F0 m n ls (.ref sa :: .ref T.heap.size :: .ref T.heap.size :: rest))) U ∧ U.status = .running ∧ Ended U below (.threw T.heap.size) ∧ s'.WarmedH U.vm ∧ s'.sameButNew ({ U with vm := s'.vm } : State) [] (0 + 1) (0 + 6) ∧ ∃ ce, U.heap[T.heap.size]? = some ce ∧ s'.vm.findClass cls = some ce.cls ∧ ce.vm = .none := by
    rcases hat with ⟨hat, hfit⟩ | ⟨rfl, hat⟩
    · obtain ⟨U, g1, g2, g3, g4, g5, ce, g6, hO⟩ := X₁.ctorThrowS hx htr (own := own) (cls := cls) (names := thN) (ic := ic) hown' hfit (by decide) (fun w hw => hwd w (hat w hw)) (fun x hx => nomatch hx) hfX hkX hcellA (by rw [hhp, hTH]; exact Nat.le_refl _) (msg := .ref sa) rfl
        (g := F0 m n ls (.ref sa :: .ref T.heap.size :: .ref T.heap.size :: rest)) rfl (by rw [hml]; exact hsize) rfl rfl (rest := rest) rfl
        (by rw [hb]; exact d6) (by rw [hb]; exact d9) hex9 hR.1 hlo9 hlocks
      exact ⟨U, g1, g2, g3, g4, g5, ce, g6, hO.cls, hO.vm⟩
    · obtain ⟨U, g1, g2, g3, g4, g5, ce, g6, g7, g8⟩ := ns_throw X₁ hx htr (own := own) (ic := ic) hown' (fun w hw => hwd w (hat w hw)) hfX hkX hcellA (by rw [hhp, hTH]; exact Nat.le_refl _) (msg := .ref sa) rfl
        (g := F0 m n ls (.ref sa :: .ref T.heap.size :: .ref T.heap.size :: rest)) rfl (by rw [hml]; exact hsize) rfl rfl (rest := rest) rfl
        (by rw [hb]; exact d6) (by rw [hb]; exact d9) hex9 hR.1 hlo9 hlocks
      exact ⟨U, g1, g2, g3, g4, g5, ce, g6, by rw [g7]; exact hfX, g8⟩
  have hWs : s.WarmedH U.vm := State.WarmedH.trans hLt.1 hWU
  have hfr : H.size ≤ U.heap.size ∧ ∀ q : Nat, q < H.size → U.heap[q]? = H[q]? := by
    obtain ⟨e1, e2, e3, e4, e5, e6⟩ := hsame
    rw [hhp] at e2 e6
    refine ⟨e2, fun q hq => ?_⟩
    obtain ⟨cq, hcq⟩ : ∃ cq, H[q]? = some cq := ⟨H[q], Array.getElem?_eq_getElem hq⟩
    obtain ⟨c9, h9, f1, f2, f3⟩ := e6 q cq hcq
    have h8 : U.heap[q]? = some c9 := h9
    have hsl : c9.slots = cq.slots := Array.ext_getElem? (fun i => f3 i (by simp))
    rw [hcq, h8, f1, hsl]
  have hsm : s.sameButNew ({ U with vm := s.vm } : State) locs (cells + 1) (slots + 6) := by
    subst hA
    obtain ⟨e1, e2⟩ := hsame
    rw [State.setFrames_setFrames] at e1
    have h2 : (T.setVm s.vm).sameButNew ({ U with vm := s.vm } : State) [] (0 + 1) (0 + 6) := ⟨e1, e2⟩
    have h3 := X.same.trans h2
    rw [List.append_nil] at h3
    exact h3
  have hcl : s.vm.findClass cls = some ce.cls := by
    rw [← hvm]
    exact hOc
  have hz9 : U.heap.size = z.1 + 1 := by
    have h1 : T.heap.size < U.heap.size := (Array.getElem?_eq_some_iff.mp hce).1
    have h2 : U.heap.size ≤ s'.heap.size + (0 + 1) := hsame.2.2.1
    rw [hhp, hsz] at h2
    rw [hTH, hsz] at h1
    omega
  have hS2 : va_S (AG G) s.heap U.heap locs := ⟨Nat.le_trans hS.1 hfr.1, fun q g1 g2 => (hfr.2 q (Nat.lt_of_lt_of_le g1 hS.1)).trans (hS.2.1 q g1 g2), hS.2.2⟩
  refine ⟨U, ?_, .threw T.heap.size, hrun, hend, ⟨T.heap.size, ce, rfl, fun a c9 h9 => (hh a c9 h9).kept (hfr.2 a (hh a c9 h9).lt), hz9, hce, hOv, hcl⟩, hS2.F rfl, by show z.2.1 - 1 ≤ _; omega, by show z.2.2 - 6 ≤ _; omega, locs, ⟨hWs, hsm.mono (by show _ ≤ R.cells - (z.2.1 - 1); omega) (by show _ ≤ R.slots - (z.2.2 - 6); omega)⟩, hS.2.2⟩
  refine st1 _ ?_
  show Steps p.tables e below (T1.setTop { method := m, pc := pc + 3, locals := ls, stack := .ref T.heap.size :: rest, locked := none }) _
  have d3' : decode c.code (pc + 3) = .ok (.dup, 1) := by rw [hb]; exact d3
  jvm_step X₁.here [X₁.here.top, hx, d3', Value.category]
  exact d4 T1 sa s' X₁ hown' hst9 hev _ _ hsteps
theorem r_throw (C : CX G p l s m meth c cc nL own) (hs : ST G R s h z H locs cells slots) (hex : c.exceptionTable.toList = []) (hsize : ls.size = nL) {ik is ic : Nat} {cls text : String} (hT : TH own ik ic cls) (hstr : Cond.stringRef own is text ∈ lw_tbl) (hR : 5 < R.frames ∧ (rest.map fun v => v.category).sum + 82 ≤ R.locals)
    (d0 : decode cc pc = .ok (.new ik, 3)) (d3 : decode cc (pc + 3) = .ok (.dup, 1)) (d4 : decode cc (pc + 4) = .ok (.ldc is, 2)) (d6 : decode cc (pc + 6) = .ok (.invokespecial ic, 3)) (d9 : decode cc (pc + 9) = .ok (.athrow, 1)) (hf : tO h z cls = some r) : W p l e R s m args below meth c H locs cells slots (MX G below s r R.cells R.slots) (F0 m pc ls rest) := by
  have hx := C.1
  have hb := C.2.1
  exact r_thr0 C hs hex hsize hT hstr hR (n := pc + 6) d0 d3 (fun T sa s' X₁ h1 h2 h3 st tg h4 => X₁.ldcString hx h1 h2 h3 (g := F0 m (pc + 4) ls st) rfl (by rw [hb]; exact d4) tg h4) d6 d9 hf
theorem r_throwW (C : CX G p l s m meth c cc nL own) (hs : ST G R s h z H locs cells slots) (hex : c.exceptionTable.toList = []) (hsize : ls.size = nL) {ik is ic : Nat} {cls text : String} (hT : TH own ik ic cls) (hstr : Cond.stringRef own is text ∈ lw_tbl) (hR : 5 < R.frames ∧ (rest.map fun v => v.category).sum + 82 ≤ R.locals)
    (d0 : decode cc pc = .ok (.new ik, 3)) (d3 : decode cc (pc + 3) = .ok (.dup, 1)) (d4 : decode cc (pc + 4) = .ok (.ldc_w is, 3)) (d6 : decode cc (pc + 7) = .ok (.invokespecial ic, 3)) (d9 : decode cc (pc + 10) = .ok (.athrow, 1)) (hf : tO h z cls = some r) : W p l e R s m args below meth c H locs cells slots (MX G below s r R.cells R.slots) (F0 m pc ls rest) := by
  have hx := C.1
  have hb := C.2.1
  exact r_thr0 C hs hex hsize hT hstr hR (n := pc + 7) d0 d3 (fun T sa s' X₁ h1 h2 h3 st tg h4 => X₁.ldcStringW hx h1 h2 h3 (g := F0 m (pc + 4) ls st) rfl (by rw [hb]; exact d4) tg h4) d6 d9 hf
end RT
end
section
/-! an exception that a callee has thrown, caught by its class's name -/
section CT
variable {p : Program} {l : Launch} {e : Env} {R : Room} {s : State} {m : MethodId} {args : Array Value} {below : List Frame} {meth : Method} {c : Code} {T : State} {locs : List Loc} {cells slots : Nat}
/-- a row of the table that covers the place and names the class k: it catches, or the search goes on; the class is resolved -/
theorem fh_row {Q : Handler → Pre} {E : CtlPost} {d : Bool} {acts : List Action} {S : State} {f : JFrame} {q : Addr} {x : ExceptionTableEntry} {t : List ExceptionTableEntry} {k : ClassId} {ce : Cell} (hx : covers x f.pc = true) (h0 : x.catchType ≠ 0) (hl : S.vm.ClassLinks e.platform f.method.cls x.catchType k) (hce : S.heap[q]? = some ce) (hcv : ce.vm = .none) (h1 : ∃ w, S.vm.classes[ce.cls]? = some w) (h2 : ∃ w, S.vm.classes[k]? = some w) :
    wp (findHandler.go f q (x :: t)) Q E e d acts S ↔ if S.vm.assignable ce.cls k = true then Q (.found x.handlerPc) d acts (S.setVm (S.vm.noted f.method.cls x.catchType (.cls k))) else wp (findHandler.go f q t) Q E e d acts (S.setVm (S.vm.noted f.method.cls x.catchType (.cls k))) := by
  have hal : S.vm.Alike (S.vm.noted f.method.cls x.catchType (.cls k)) := (Vm.Alike.refl S.vm).noted _ _ _
  obtain ⟨w1, hw1⟩ := h1
  obtain ⟨w2, hw2⟩ := h2
  obtain ⟨v1, hv1, -⟩ := hal.2.2 _ _ hw1
  obtain ⟨v2, hv2, -⟩ := hal.2.2 _ _ hw2
  obtain ⟨ha, ht⟩ := (resolveClass_links e.toSetting hl).op (op := VmOp.resolveClass f.method.cls x.catchType) rfl
  have hobj : ∀ k, ce.vm ≠ .statics k := fun k h => by rw [hcv] at h; cases h
  simp only [covers] at hx
  by_cases hf : S.vm.assignable ce.cls k = true
  · have hf' : (S.vm.noted f.method.cls x.catchType (.cls k)).assignable ce.cls k = true := by rw [hal.assignable]; exact hf
    rw [if_pos hf]
    simp [findHandler.go, hx, h0, ha, ht, hce, hobj, hv1, hv2, hf', VmOp.dirties, VmOp.acts]
  · have hf' : (S.vm.noted f.method.cls x.catchType (.cls k)).assignable ce.cls k = false := by rw [hal.assignable]; simpa using hf
    rw [if_neg hf]
    simp [findHandler.go, hx, h0, ha, ht, hce, hobj, hv1, hv2, hf', VmOp.dirties, VmOp.acts]
theorem fh_all {f : JFrame} {q : Addr} {ce : Cell} (hcv : ce.vm = .none) (hc0 : ∃ w, s.vm.classes[ce.cls]? = some w) {x : ExceptionTableEntry} {suf : List ExceptionTableEntry} (hx : covers x f.pc = true) (h0 : x.catchType ≠ 0) {k : ClassId} (hl : s.vm.ClassLinks e.platform f.method.cls x.catchType k) (hk : s.vm.assignable ce.cls k = true) :
    ∀ (pre : List ExceptionTableEntry) (S : State), s.WarmedH S.vm → S.heap[q]? = some ce → (∀ y ∈ pre, covers y f.pc = true ∧ y.catchType ≠ 0 ∧ ∃ k2, s.vm.ClassLinks e.platform f.method.cls y.catchType k2 ∧ s.vm.assignable ce.cls k2 = false) →
      ∃ vm1, s.WarmedH vm1 ∧ ∀ (Q : Handler → Pre) (E : CtlPost) (d : Bool) (acts : List Action), wp (findHandler.go f q (pre ++ x :: suf)) Q E e d acts S ↔ Q (.found x.handlerPc) d acts (S.setVm vm1) := by
  have hmove : ∀ {S : State} {j : Nat}, s.WarmedH S.vm → (∃ w, s.vm.classes[j]? = some w) → ∃ w, S.vm.classes[j]? = some w := fun hW ⟨w, hw⟩ => by
    obtain ⟨v, hv, -⟩ := hW.alike.2.2 _ _ hw
    exact ⟨v, hv⟩
  intro pre
  induction pre with
  | nil =>
    intro S hW hce _
    obtain ⟨dk, _, _, kt, hd, _, _, _, _, hkt, _, hop⟩ := hl.here
    refine ⟨_, hW.noted hd hop (State.rightAt_cls hl), fun Q E d acts => ?_⟩
    rw [List.nil_append, fh_row hx h0 (hW.classLinks hl) hce hcv (hmove hW hc0) (hmove hW ⟨kt, hkt⟩), if_pos (by rw [hW.alike.assignable]; exact hk)]
  | cons y ys ih =>
    intro S hW hce hp
    obtain ⟨hy, hy0, k2, hl2, hno⟩ := hp y List.mem_cons_self
    obtain ⟨dk, _, _, kt, hd, _, _, _, _, hkt, _, hop⟩ := hl2.here
    obtain ⟨vm1, hW1, hq⟩ := ih (S.setVm (S.vm.noted f.method.cls y.catchType (.cls k2))) (hW.noted hd hop (State.rightAt_cls hl2)) hce (fun w hw => hp w (List.mem_cons_of_mem _ hw))
    refine ⟨vm1, hW1, fun Q E d acts => ?_⟩
    rw [List.cons_append, fh_row hy hy0 (hW.classLinks hl2) hce hcv (hmove hW hc0) (hmove hW ⟨kt, hkt⟩), if_neg (by rw [hW.alike.assignable, hno]; decide)]
    exact hq Q E d acts
theorem catch_at (X : Stand p l e R s m args below meth c T locs cells slots) {own : String} (hown : s.vm.findClass own = some m.cls) (hTW : TW s) {q : Addr} {ce : Cell} (hce : T.heap[q]? = some ce) (hcv : ce.vm = .none) {E : String} (hE : s.vm.findClass E = some ce.cls) {g : JFrame} (hg : g.method = m)
    (pre : List ExceptionTableEntry) (x : ExceptionTableEntry) (suf : List ExceptionTableEntry) (htab : c.exceptionTable.toList = pre ++ x :: suf) (hpre : ∀ y ∈ pre, covers y g.pc = true ∧ y.catchType ≠ 0 ∧ ∃ nm, Cond.classLink own y.catchType nm ∈ lw_tbl ∧ va_Nc E nm s) (hx : covers x g.pc = true) (h0 : x.catchType ≠ 0) (hl : Cond.classLink own x.catchType E ∈ lw_tbl) (hself : Cond.castable E E ∈ lw_tbl) :
    ∃ vm1, Stand p l e R s m args below meth c (T.setVm vm1) locs cells slots ∧ ∀ tg, Steps p.tables e below ((T.setVm vm1).setTop { g with pc := x.handlerPc, stack := [.ref q] }) tg → Steps p.tables e below ((T.setTop g).pushFrame (.throwing q)) tg := by
  subst hg
  have hpl : e.platform.magicAccessors = ({} : Platform).magicAccessors := by rw [X.admits.platform]
  obtain ⟨k, hkf, hkl⟩ := Cond.classLink_spec hown (hTW.use (args := args) hl rfl) e.platform hpl
  obtain ⟨c3, c4, hc3, hc4, hasg⟩ := Cond.castable_spec (hTW.use (args := args) hself rfl)
  cases hc3.symm.trans hE
  cases hc4.symm.trans hkf
  obtain ⟨w0, hw0, -⟩ := Vm.findClass_spec hE
  obtain ⟨vm1, hW1, hq⟩ := fh_all (e := e) (s := s) (f := g) (q := q) hcv ⟨w0, hw0⟩ (suf := suf) hx h0 hkl hasg pre ((T.setTop g).pushFrame (.throwing q)) X.warmed hce (fun y hy => by
    obtain ⟨a1, a2, nm, a3, c5, c6, a4, a5, a6⟩ := hpre y hy
    obtain ⟨k2, hk2, hl2⟩ := Cond.classLink_spec hown (hTW.use (args := args) a3 rfl) e.platform hpl
    cases a4.symm.trans hE
    cases a5.symm.trans hk2
    exact ⟨a1, a2, _, hl2, a6⟩)
  refine ⟨vm1, X.noted hW1, fun tg hrest => ?_⟩
  have hstep : (stepThrowing e ((T.setTop g).pushFrame (.throwing q)) q (.java g :: T.frames.tail)).Is ((((T.setTop g).pushFrame (.throwing q)).setVm vm1).setFrames (.java { g with pc := x.handlerPc, stack := [.ref q] } :: T.frames.tail)) [] := by
    simp only [stepThrowing, searchFrame, vmDo]
    generalize hr : Sem.go _ e false [] ((T.setTop g).pushFrame (.throwing q)) = res
    have hfh : ∀ (Q : Handler → Pre) (E : CtlPost) (d : Bool) (acts : List Action), wp (findHandler g q) Q E e d acts ((T.setTop g).pushFrame (.throwing q)) ↔ Q (.found x.handlerPc) d acts (((T.setTop g).pushFrame (.throwing q)).setVm vm1) := fun Q E d acts => by
      rw [W.findHandler_eq (show ((T.setTop g).pushFrame (.throwing q)).vm.method? g.method = some meth from X.method') X.code, htab]
      exact hq Q E d acts
    obtain ⟨as, rfl, ha⟩ := Sem.eq_ok_of hr (a := Handler.found x.handlerPc) (s' := ((T.setTop g).pushFrame (.throwing q)).setVm vm1) (acts' := []) (by simp [hfh _ _ _ _])
    exact ⟨rfl, ha⟩
  have hat := X.here
  obtain ⟨hgo, hw⟩ := hat.throwing q
  refine Steps.head hgo hw ?_
  obtain ⟨g₀, hg0⟩ := Option.isSome_iff_exists.mp hat.top
  obtain ⟨rr, hr⟩ := State.topJava?_eq_some.mp hg0
  rw [stepThread_throwing (frames_entered hat.top _), hstep.1]
  have hr' : (T.setVm vm1).frames = .java g₀ :: rr := hr
  rw [State.setTop_of_frames _ hr'] at hrest
  have e1 : (((T.setTop g).pushFrame (.throwing q)).setVm vm1).setFrames (.java { g with pc := x.handlerPc, stack := [.ref q] } :: T.frames.tail) = (T.setVm vm1).setFrames (.java { g with pc := x.handlerPc, stack := [.ref q] } :: rr) := by
    have h9 : ∀ (U : State) (F F2 : List Frame), ((U.setFrames F).setVm vm1).setFrames F2 = (U.setVm vm1).setFrames F2 := fun U F F2 => by
      have h8 : (U.setFrames F).setVm vm1 = (U.setVm vm1).setFrames F := rfl
      rw [h8, State.setFrames_setFrames]
    rw [hr, List.tail_cons, State.pushFrame, h9, State.setTop_of_frames _ hr, h9]
  rw [e1]
  exact hrest
end CT
end
section
/-! methods with an exception table: their contract, the call of them, the catch in them; and the law's own calls -/
def mkE (t : Nat × Nat × Nat × Nat) : ExceptionTableEntry := ⟨t.1, t.2.1, t.2.2.1, t.2.2.2⟩
theorem mkE_of {L : List ExceptionTableEntry} {hh : List (Nat × Nat × Nat × Nat)} (h : L.map (fun h => (h.startPc, h.endPc, h.handlerPc, h.catchType)) = hh) : L = hh.map mkE := by
  subst h
  rw [List.map_map]
  have : (mkE ∘ fun h : ExceptionTableEntry => (h.startPc, h.endPc, h.handlerPc, h.catchType)) = id := by
    funext x
    cases x
    rfl
  rw [this, List.map_id]
theorem CM.ofWH {G : EN} {l : Launch} {y : MethodName} {cc : ByteArray} {maxL : Nat} {ret : Option FieldType} {hh : List (Nat × Nat × Nat × Nat)} {fr lo : Nat} {As : List Value} {h : HH} {z : Z3} {res : RS} (hl : l.stackTraces = false) (hy : plainName y.cls = true)
    (body : ∀ (p : Program) (e : Env) (s : State) (m : MethodId) (below : List Frame) (meth : Method) (c : Code), CX G p l s m meth c cc maxL y.cls → meth.sig.returnType = ret → c.exceptionTable.toList = hh.map mkE → ST G (RM fr lo z) s h z s.heap [] 0 0 →
      W p l e (RM fr lo z) s m As.toArray below meth c s.heap [] 0 0 (MX G below s res z.2.1 z.2.2) (entryFrame m As.toArray maxL)) : CM G l y (.codeWith y cc maxL ret hh) fr lo As h z res := by
  refine MetFree.of_bodyS (code := cc) (maxLocals := maxL) (ret := ret) hy ?_ ?_
  · intro args s m h hn
    obtain ⟨m9, meth, c, hn9, h1, h2, h3, h4, -, h5, h6, -⟩ := Cond.codeWith_spec (atoms_spec (ws := [.codeWith y cc maxL ret hh]) h _ List.mem_cons_self)
    cases hn.symm.trans hn9
    exact ⟨meth, c, h1, h2, h3, h4, h5, h6⟩
  · intro p e s m args below meth c s₁ B hml hP _
    obtain ⟨rfl, hh0, hz, hG, hbs⟩ := hP
    have hcd : (Cond.codeWith y cc maxL ret hh).before As.toArray s = true := atoms_spec (ws := [.codeWith y cc maxL ret hh]) B.pre _ List.mem_cons_self
    obtain ⟨m9, meth9, c9, hn9, h1, h2, h3, h4, h7, h5, h6, -⟩ := Cond.codeWith_spec hcd
    cases B.named.symm.trans hn9
    cases B.method.symm.trans h1
    have X := Stand.of_body B
    cases X.code.symm.trans h2
    have hh1 : s₁.heap = s.heap := by rw [B.state]; rfl
    have hown : s.vm.findClass y.cls = some m.cls := findClass_of_methodNamed B.named
    obtain ⟨t, a1, o, b1, b2, b3⟩ := body p e s m below meth c ⟨B.exec, B.bytes, h4, hown, B.notSynchronized, hG, hbs, hl⟩ B.returns (mkE_of h7) ⟨hh0, hz, va_S.rf, by show 0 + z.2.1 ≤ z.2.1; omega, by show 0 + z.2.2 ≤ z.2.2; omega⟩ s₁ hh1 X
    exact ⟨t, o, a1, b1, b2, b3⟩
def CSW (own : String) (index : Nat) (y : MethodName) (cc : ByteArray) (maxL : Nat) (ret : Option FieldType) (hh : List (Nat × Nat × Nat × Nat)) (n : Nat) : Prop := Cond.initialized y.cls ∈ lw_tbl ∧ Cond.codeWith y cc maxL ret hh ∈ lw_tbl ∧ (y.cls ≠ "java/lang/invoke/MethodHandle" ∧ y.cls ≠ "java/lang/invoke/VarHandle") ∧ (parseMethodDescriptor y.desc).map (fun d => d.parameters.length) = some n ∧ Cond.methodLink own index y ∈ lw_tbl ∧ Cond.static y ∈ lw_tbl
/-- an answer, or an exception that is caught -/
def cX (x : Option RS) (K : Int32 → HH → Z3 → Option RS) (KX : String → HH → Z3 → Option RS) : Option RS := match x with
  | some (.inl (some (.int v)), h, z) => K v h z
  | some (.inr E, h, z) => KX E h z
  | _ => none
theorem cX_at {x : Option RS} {K : Int32 → HH → Z3 → Option RS} {KX : String → HH → Z3 → Option RS} {r : RS} (hf : cX x K KX = some r) : ∃ res, x = some res ∧ (∀ v h1 z1, res = (.inl v, h1, z1) → ∃ i : Int32, v = some (.int i) ∧ K i h1 z1 = some r) ∧ ∀ E h1 z1, res = (.inr E, h1, z1) → KX E h1 z1 = some r := by
  unfold cX at hf
  split at hf
  · rename_i v h z
    exact ⟨_, rfl, fun v1 h1 z1 e => by cases e; exact ⟨v, rfl, hf⟩, fun E h1 z1 e => by cases e⟩
  · rename_i E h z
    exact ⟨_, rfl, fun v1 h1 z1 e => (by cases e), fun E1 h1 z1 e => by cases e; exact hf⟩
  · cases hf
section KW
variable {G : EN} {p : Program} {l : Launch} {e : Env} {R : Room} {s : State} {m : MethodId} {args : Array Value} {below : List Frame} {meth : Method} {c : Code} {H : Heap} {locs : List Loc} {cells slots : Nat}
variable {cc bc : ByteArray} {pc nL : Nat} {own : String} {ls : Array Slot} {rest st0 : List Value} {h : HH} {z : Z3} {x : Option RS} {r : RS} {y : MethodName} {fr lo : Nat} {As : List Value} {res : RS} {maxL n index : Nat} {ret : Option FieldType} {hh : List (Nat × Nat × Nat × Nat)}
theorem iv_SW (C : CX G p l s m meth c cc nL own) (hs : ST G R s h z H locs cells slots) (hV : CSW own index y bc maxL ret hh n) (hM : CM G l y (.codeWith y bc maxL ret hh) fr lo As h z res) (hn : As.length = n) (hsize : ls.size = nL) (hstack : st0 = As.reverse ++ rest) (hW : (rest.map fun v => v.category).sum ≤ 8) (hdg : decode cc pc = .ok (.invokestatic index, 3)) (hR : fr + 1 ≤ R.frames ∧ 8 + (maxL + 11) + lo ≤ R.locals) :
    ∀ T : State, T.heap = H → Stand p l e R s m args below meth c T locs cells slots → Out G p l e R s m args below meth c H locs cells slots z res T (F0 m pc ls st0) 3 rest := by
  intro T hT X
  obtain ⟨hi, hcw, hy, hdn, hl, hstt⟩ := hV
  obtain ⟨hx, hb, hml, hown, -, hG, hbs, -⟩ := id C
  obtain ⟨hTW, hK, -⟩ := hG.here hbs
  obtain ⟨mk, methM, cM, hnamed, hmethM, hcM, -, hlM, -, -, -, hsigM⟩ := Cond.codeWith_spec (hTW.use (args := args) hcw rfl)
  have hstatic : methM.isStatic = true := Cond.static_spec hnamed hmethM (hTW.use (args := args) hstt rfl)
  obtain ⟨kP, hkP, -⟩ := className_of_methodNamed hnamed
  have hinitP : kP.init = .initialized := Cond.initialized_spec (findClass_of_methodNamed hnamed) hkP (hTW.use (args := args) hi rfl)
  obtain ⟨vm₁, X₁, hstep₁⟩ := X.invokestatic hx hown (hTW.use (args := args) hl rfl) hnamed hmethM hstatic hkP hinitP hy (g := F0 m pc ls st0) rfl (argsL := As) (rest := rest) (hn.trans (cb_len hdn _ hsigM)) hstack (by rw [hb]; exact hdg)
  have hp := pre_at (vm₁ := vm₁) C hs hT X₁.warmed
  have hTW1 : TW (T.setVm vm₁) := (hp.2.2.1.here hp.2.2.2).1
  have hcd : (Cond.codeWith y bc maxL ret hh).before As.toArray (T.setVm vm₁) = true := hTW1.use hcw rfl
  have hn1 : (T.setVm vm₁).methodNamed? y = some mk := X₁.named hnamed
  obtain ⟨mk2, methY, cY, hn2, hmY, hcY, -, hlY, -, -, -, -⟩ := Cond.codeWith_spec hcd
  cases hn1.symm.trans hn2
  rcases ko_out (g := F0 m pc ls rest) (ig := .invokestatic index) (len := 3) hM X₁ rfl (hsize.trans hml.symm) (by rw [hb]; exact hdg) (lv_room (ls := ls) (rest := rest) (m := m) (pc := pc) hW) hn1 hcd ⟨methY, cY, hmY, hcY, hlY⟩ (hTW1.use hi rfl) hR.1 hR.2 hs.2.2.2.1 hs.2.2.2.2 hp with ⟨v, h1, z1, V, L, e1, Y, hk1, hk2, hL, hh1, hz, hF, hst⟩ | ⟨E, h1, z1, V, L, q, ce, e1, Y, hk1, hk2, hL, hh1, hz, hF, hce, hcv, hcl, hst⟩
  · refine Or.inl ⟨v, h1, z1, V, L, e1, Y, hk1, hk2, hL, hh1, hz, ?_, fun tg ht => hstep₁ _ fun acts => by rw [doInvoke_state]; exact hst.trans ht⟩
    obtain ⟨f1, f2⟩ := hF
    exact ⟨by rw [← hT]; exact f1, fun q h1 h2 => by rw [← hT]; exact f2 q (by show q < T.heap.size; rw [hT]; exact h1) h2⟩
  · refine Or.inr ⟨E, h1, z1, V, L, q, ce, e1, Y, hk1, hk2, hL, hh1, hz, ?_, hce, hcv, ?_, hstep₁ _ fun acts => by rw [doInvoke_state]; exact hst⟩
    · obtain ⟨f1, f2⟩ := hF
      exact ⟨by rw [← hT]; exact f1, fun q h1 h2 => by rw [← hT]; exact f2 q (by show q < T.heap.size; rw [hT]; exact h1) h2⟩
    · have h9 : vm₁.findClass E = some ce.cls := hcl
      rw [← h9]
      exact (X₁.warmed.alike.findClass E _).symm
/-- behind a call in a method that catches: which row of the table takes the class E -/
theorem k_X {Q : State → Prop} (C : CX G p l s m meth c cc nL own) (hs : ST G R s h z H locs cells slots) {K : Int32 → HH → Z3 → Option RS} {KX : String → HH → Z3 → Option RS} (hf : cX x K KX = some r) (hO : IV G p l e R s m args below meth c H locs cells slots z x pc ls st0 rest)
    (kk : ∀ (v : Int32) (h1 : HH) (z1 : Z3) (H1 : Heap) (locs1 : List Loc) (cells1 slots1 : Nat), K v h1 z1 = some r → ST G R s h1 z1 H1 locs1 cells1 slots1 → W p l e R s m args below meth c H1 locs1 cells1 slots1 Q (F0 m (pc + 3) ls (.int v :: rest)))
    (kx : ∀ (E : String) (h1 : HH) (z1 : Z3), KX E h1 z1 = some r → ∃ (pre : List ExceptionTableEntry) (row : ExceptionTableEntry) (suf : List ExceptionTableEntry), c.exceptionTable.toList = pre ++ row :: suf ∧ (∀ y ∈ pre, covers y pc = true ∧ y.catchType ≠ 0 ∧ ∃ nm, Cond.classLink own y.catchType nm ∈ lw_tbl ∧ va_Nc E nm s) ∧ covers row pc = true ∧ row.catchType ≠ 0 ∧ Cond.classLink own row.catchType E ∈ lw_tbl ∧ Cond.castable E E ∈ lw_tbl ∧
      ∀ (q : Nat) (H1 : Heap) (locs1 : List Loc) (cells1 slots1 : Nat), ST G R s h1 z1 H1 locs1 cells1 slots1 → W p l e R s m args below meth c H1 locs1 cells1 slots1 Q (F0 m row.handlerPc ls [.ref q])) : W p l e R s m args below meth c H locs cells slots Q (F0 m pc ls st0) := by
  obtain ⟨res, e1, h1, h2⟩ := cX_at hf
  obtain ⟨-, -, hS, hr1, hr2⟩ := hs
  obtain ⟨hx, hb, -, hown, -, hG, hbs, -⟩ := C
  obtain ⟨hTW, -⟩ := hG.here hbs
  intro T hT X
  rcases hO res e1 T hT X with ⟨v, h3, z3, V, L, e3, Y, hk1, hk2, hL, hh, hz, ⟨f1, f2⟩, st⟩ | ⟨E, h3, z3, V, L, q, ce, e3, Y, hk1, hk2, hL, hh, hz, ⟨f1, f2⟩, hce, hcv, hcl, st⟩
  · have hS1 : va_S (AG G) s.heap V.heap (locs ++ L) := ⟨Nat.le_trans hS.1 f1, fun q g1 g2 => (f2 q (Nat.lt_of_lt_of_le g1 hS.1) g2).trans (hS.2.1 q g1 g2), fun q hq => (List.mem_append.mp hq).elim (hS.2.2 q) (hL q)⟩
    obtain ⟨i, rfl, h4⟩ := h1 v h3 z3 e3
    obtain ⟨t, a1, b1⟩ := kk i h3 z3 V.heap (locs ++ L) _ _ h4 ⟨hh, hz, hS1, by omega, by omega⟩ V rfl Y
    exact ⟨t, st t a1, b1⟩
  · have hS1 : va_S (AG G) s.heap V.heap (locs ++ L) := ⟨Nat.le_trans hS.1 f1, fun q g1 g2 => (f2 q (Nat.lt_of_lt_of_le g1 hS.1) g2).trans (hS.2.1 q g1 g2), fun q hq => (List.mem_append.mp hq).elim (hS.2.2 q) (hL q)⟩
    obtain ⟨pre, row, suf, t1, t2, t3, t4, t5, t6, kw⟩ := kx E h3 z3 (h2 E h3 z3 e3)
    obtain ⟨vm1, Y1, st1⟩ := catch_at Y hown hTW hce hcv hcl (g := F0 m pc ls rest) rfl pre row suf t1 t2 t3 t4 t5 t6
    obtain ⟨t, a1, b1⟩ := kw q V.heap (locs ++ L) _ _ ⟨hh, hz, hS1, by omega, by omega⟩ (V.setVm vm1) rfl Y1
    exact ⟨t, st.trans (st1 t a1), b1⟩
/-- a call where nothing is thrown, since the end is an answer -/
theorem kl_fin {Q : State → Prop} (hs : ST G R s h z H locs cells slots) (hno : ∀ E h1 z1, r ≠ (.inr E, h1, z1))
    (hO : ∀ T : State, T.heap = H → Stand p l e R s m args below meth c T locs cells slots → Out G p l e R s m args below meth c H locs cells slots z res T (F0 m pc ls st0) 3 rest)
    (kk : ∀ (v : Option Value) (h1 : HH) (z1 : Z3), res = (.inl v, h1, z1) → ∀ (H1 : Heap) (locs1 : List Loc) (cells1 slots1 : Nat), ST G R s h1 z1 H1 locs1 cells1 slots1 → W p l e R s m args below meth c H1 locs1 cells1 slots1 Q (F0 m (pc + 3) ls (v.toList ++ rest)))
    (kx : ∀ (E : String) (h1 : HH) (z1 : Z3), res = (.inr E, h1, z1) → r = (.inr E, h1, z1)) :
    W p l e R s m args below meth c H locs cells slots Q (F0 m pc ls st0) := by
  intro T hT X
  obtain ⟨-, -, hS, hr1, hr2⟩ := hs
  rcases hO T hT X with ⟨v, h1, z1, V, L, e1, Y, hk1, hk2, hL, hh, hz, ⟨f1, f2⟩, st⟩ | ⟨E, h1, z1, V, L, q, ce, e1, Y, hk1, hk2, hL, hh, hz, ⟨f1, f2⟩, hce, hcv, hcl, st⟩
  · have hS1 : va_S (AG G) s.heap V.heap (locs ++ L) := ⟨Nat.le_trans hS.1 f1, fun q g1 g2 => (f2 q (Nat.lt_of_lt_of_le g1 hS.1) g2).trans (hS.2.1 q g1 g2), fun q hq => (List.mem_append.mp hq).elim (hS.2.2 q) (hL q)⟩
    obtain ⟨t, a1, b1⟩ := kk v h1 z1 e1 V.heap (locs ++ L) _ _ ⟨hh, hz, hS1, by omega, by omega⟩ V rfl Y
    exact ⟨t, st t a1, b1⟩
  · exact absurd (kx E h1 z1 e1) (hno E h1 z1)
theorem kl_I {Q : State → Prop} (C : CX G p l s m meth c cc nL own) (hs : ST G R s h z H locs cells slots) (hno : ∀ E h1 z1, r ≠ (.inr E, h1, z1)) {K : Int32 → HH → Z3 → Option RS} (hf : cI x K = some r) (hO : IV G p l e R s m args below meth c H locs cells slots z x pc ls st0 rest)
    (kk : ∀ (v : Int32) (h1 : HH) (z1 : Z3) (H1 : Heap) (locs1 : List Loc) (cells1 slots1 : Nat), K v h1 z1 = some r → ST G R s h1 z1 H1 locs1 cells1 slots1 → W p l e R s m args below meth c H1 locs1 cells1 slots1 Q (F0 m (pc + 3) ls (.int v :: rest))) : W p l e R s m args below meth c H locs cells slots Q (F0 m pc ls st0) := by
  obtain ⟨res, e1, h1, h2⟩ := cI_at hf
  refine kl_fin hs hno (hO res e1) (fun v h3 z3 e3 H1 locs1 cells1 slots1 hs1 => ?_) h2
  obtain ⟨i, rfl, h4⟩ := h1 v h3 z3 e3
  exact kk i h3 z3 H1 locs1 cells1 slots1 h4 hs1
theorem kl_V {Q : State → Prop} (C : CX G p l s m meth c cc nL own) (hs : ST G R s h z H locs cells slots) (hno : ∀ E h1 z1, r ≠ (.inr E, h1, z1)) {K : HH → Z3 → Option RS} (hf : cV x K = some r) (hO : IV G p l e R s m args below meth c H locs cells slots z x pc ls st0 rest)
    (kk : ∀ (h1 : HH) (z1 : Z3) (H1 : Heap) (locs1 : List Loc) (cells1 slots1 : Nat), K h1 z1 = some r → ST G R s h1 z1 H1 locs1 cells1 slots1 → W p l e R s m args below meth c H1 locs1 cells1 slots1 Q (F0 m (pc + 3) ls rest)) : W p l e R s m args below meth c H locs cells slots Q (F0 m pc ls st0) := by
  obtain ⟨res, e1, h1, h2⟩ := cV_at hf
  refine kl_fin hs hno (hO res e1) (fun v h3 z3 e3 H1 locs1 cells1 slots1 hs1 => ?_) h2
  obtain ⟨rfl, h4⟩ := h1 v h3 z3 e3
  exact kk h3 z3 H1 locs1 cells1 slots1 h4 hs1
end KW
end
