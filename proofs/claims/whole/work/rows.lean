section
-- ===== PART A: goes FIRST, ahead of the names: the tables' words, and 'selects' of the private methods out of them =====
/-- a private method of a class that the tables say can be made, by its rows of tables_1 -/
def lw_okq (q : MethodName × Nat) : Prop := (q.1.cls ≠ "java/lang/invoke/MethodHandle" ∧ q.1.cls ≠ "java/lang/invoke/VarHandle") ∧ Cond.instantiable q.1.cls q.2 ∈ tables_1 ∧ Cond.privateMethod q.1 ∈ tables_1 ∧ Cond.instanceMethod q.1 ∈ tables_1
theorem lw_p0 : lw_okq (⟨"FencedBroker", "advance", "(LFencedBroker$Producer;)I"⟩, 6) := ⟨⟨by decide +kernel, by decide +kernel⟩, List.mem_of_getElem? (i := 26) (by decide +kernel), List.mem_of_getElem? (i := 176) (by decide +kernel), List.mem_of_getElem? (i := 177) (by decide +kernel)⟩
theorem lw_p1 : lw_okq (⟨"FencedBroker", "endTransaction", "(LFencedBroker$Producer;)V"⟩, 6) := ⟨⟨by decide +kernel, by decide +kernel⟩, List.mem_of_getElem? (i := 26) (by decide +kernel), List.mem_of_getElem? (i := 184) (by decide +kernel), List.mem_of_getElem? (i := 185) (by decide +kernel)⟩
theorem lw_p2 : lw_okq (⟨"FencedBroker", "advanceIn", "(LFencedBroker$Producer;I)I"⟩, 6) := ⟨⟨by decide +kernel, by decide +kernel⟩, List.mem_of_getElem? (i := 26) (by decide +kernel), List.mem_of_getElem? (i := 203) (by decide +kernel), List.mem_of_getElem? (i := 204) (by decide +kernel)⟩
theorem lw_p3 : lw_okq (⟨"java/util/ArrayList", "add", "(Ljava/lang/Object;[Ljava/lang/Object;I)V"⟩, 3) := ⟨⟨by decide +kernel, by decide +kernel⟩, List.mem_of_getElem? (i := 45) (by decide +kernel), List.mem_of_getElem? (i := 264) (by decide +kernel), List.mem_of_getElem? (i := 265) (by decide +kernel)⟩
theorem lw_p4 : lw_okq (⟨"java/util/ArrayList", "grow", "()[Ljava/lang/Object;"⟩, 3) := ⟨⟨by decide +kernel, by decide +kernel⟩, List.mem_of_getElem? (i := 45) (by decide +kernel), List.mem_of_getElem? (i := 268) (by decide +kernel), List.mem_of_getElem? (i := 269) (by decide +kernel)⟩
theorem lw_p5 : lw_okq (⟨"java/util/ArrayList", "grow", "(I)[Ljava/lang/Object;"⟩, 3) := ⟨⟨by decide +kernel, by decide +kernel⟩, List.mem_of_getElem? (i := 45) (by decide +kernel), List.mem_of_getElem? (i := 272) (by decide +kernel), List.mem_of_getElem? (i := 273) (by decide +kernel)⟩
theorem lw_p6 : lw_okq (⟨"java/lang/Throwable", "fillInStackTrace", "(I)Ljava/lang/Throwable;"⟩, 6) := ⟨⟨by decide +kernel, by decide +kernel⟩, List.mem_of_getElem? (i := 383) (by decide +kernel), List.mem_of_getElem? (i := 381) (by decide +kernel), List.mem_of_getElem? (i := 382) (by decide +kernel)⟩
theorem lw_p7 : lw_okq (⟨"FencedBroker", "knownProducer", "(II)LFencedBroker$Producer;"⟩, 6) := ⟨⟨by decide +kernel, by decide +kernel⟩, List.mem_of_getElem? (i := 26) (by decide +kernel), List.mem_of_getElem? (i := 450) (by decide +kernel), List.mem_of_getElem? (i := 451) (by decide +kernel)⟩
theorem lw_p8 : lw_okq (⟨"FencedBroker", "openProducer", "(II)LFencedBroker$Producer;"⟩, 6) := ⟨⟨by decide +kernel, by decide +kernel⟩, List.mem_of_getElem? (i := 26) (by decide +kernel), List.mem_of_getElem? (i := 493) (by decide +kernel), List.mem_of_getElem? (i := 494) (by decide +kernel)⟩
theorem lw_p9 : lw_okq (⟨"FencedBroker", "hasUncopied", "(I)Z"⟩, 6) := ⟨⟨by decide +kernel, by decide +kernel⟩, List.mem_of_getElem? (i := 26) (by decide +kernel), List.mem_of_getElem? (i := 578) (by decide +kernel), List.mem_of_getElem? (i := 579) (by decide +kernel)⟩
theorem lw_p10 : lw_okq (⟨"java/util/ArrayList", "fastRemove", "([Ljava/lang/Object;I)V"⟩, 3) := ⟨⟨by decide +kernel, by decide +kernel⟩, List.mem_of_getElem? (i := 45) (by decide +kernel), List.mem_of_getElem? (i := 638) (by decide +kernel), List.mem_of_getElem? (i := 639) (by decide +kernel)⟩
theorem lw_p11 : lw_okq (⟨"FencedBroker$Log", "isUnended", "(LFencedBroker$Entry;)Z"⟩, 4) := ⟨⟨by decide +kernel, by decide +kernel⟩, List.mem_of_getElem? (i := 39) (by decide +kernel), List.mem_of_getElem? (i := 675) (by decide +kernel), List.mem_of_getElem? (i := 676) (by decide +kernel)⟩
theorem lw_p12 : lw_okq (⟨"FencedBroker$Log", "isAborted", "(I)Z"⟩, 4) := ⟨⟨by decide +kernel, by decide +kernel⟩, List.mem_of_getElem? (i := 39) (by decide +kernel), List.mem_of_getElem? (i := 680) (by decide +kernel), List.mem_of_getElem? (i := 681) (by decide +kernel)⟩
theorem lw_p13 : lw_okq (⟨"FencedBroker$Group", "countMembers", "()I"⟩, 5) := ⟨⟨by decide +kernel, by decide +kernel⟩, List.mem_of_getElem? (i := 126) (by decide +kernel), List.mem_of_getElem? (i := 722) (by decide +kernel), List.mem_of_getElem? (i := 723) (by decide +kernel)⟩
theorem lw_p14 : lw_okq (⟨"FencedBroker$Group", "takeSurplus", "(II)V"⟩, 5) := ⟨⟨by decide +kernel, by decide +kernel⟩, List.mem_of_getElem? (i := 126) (by decide +kernel), List.mem_of_getElem? (i := 726) (by decide +kernel), List.mem_of_getElem? (i := 727) (by decide +kernel)⟩
theorem lw_p15 : lw_okq (⟨"FencedBroker$Group", "giveUnowned", "()V"⟩, 5) := ⟨⟨by decide +kernel, by decide +kernel⟩, List.mem_of_getElem? (i := 126) (by decide +kernel), List.mem_of_getElem? (i := 735) (by decide +kernel), List.mem_of_getElem? (i := 736) (by decide +kernel)⟩
def lw_privs_1 : List (MethodName × Nat) := [(⟨"FencedBroker", "advance", "(LFencedBroker$Producer;)I"⟩, 6), (⟨"FencedBroker", "endTransaction", "(LFencedBroker$Producer;)V"⟩, 6), (⟨"FencedBroker", "advanceIn", "(LFencedBroker$Producer;I)I"⟩, 6), (⟨"java/util/ArrayList", "add", "(Ljava/lang/Object;[Ljava/lang/Object;I)V"⟩, 3), (⟨"java/util/ArrayList", "grow", "()[Ljava/lang/Object;"⟩, 3), (⟨"java/util/ArrayList", "grow", "(I)[Ljava/lang/Object;"⟩, 3), (⟨"java/lang/Throwable", "fillInStackTrace", "(I)Ljava/lang/Throwable;"⟩, 6), (⟨"FencedBroker", "knownProducer", "(II)LFencedBroker$Producer;"⟩, 6), (⟨"FencedBroker", "openProducer", "(II)LFencedBroker$Producer;"⟩, 6), (⟨"FencedBroker", "hasUncopied", "(I)Z"⟩, 6), (⟨"java/util/ArrayList", "fastRemove", "([Ljava/lang/Object;I)V"⟩, 3), (⟨"FencedBroker$Log", "isUnended", "(LFencedBroker$Entry;)Z"⟩, 4), (⟨"FencedBroker$Log", "isAborted", "(I)Z"⟩, 4), (⟨"FencedBroker$Group", "countMembers", "()I"⟩, 5), (⟨"FencedBroker$Group", "takeSurplus", "(II)V"⟩, 5), (⟨"FencedBroker$Group", "giveUnowned", "()V"⟩, 5)]
theorem lw_r1 : ∀ q ∈ lw_privs_1, lw_okq q := List.forall_mem_cons.mpr ⟨lw_p0, List.forall_mem_cons.mpr ⟨lw_p1, List.forall_mem_cons.mpr ⟨lw_p2, List.forall_mem_cons.mpr ⟨lw_p3, List.forall_mem_cons.mpr ⟨lw_p4, List.forall_mem_cons.mpr ⟨lw_p5, List.forall_mem_cons.mpr ⟨lw_p6, List.forall_mem_cons.mpr ⟨lw_p7, List.forall_mem_cons.mpr ⟨lw_p8, List.forall_mem_cons.mpr ⟨lw_p9, List.forall_mem_cons.mpr ⟨lw_p10, List.forall_mem_cons.mpr ⟨lw_p11, List.forall_mem_cons.mpr ⟨lw_p12, List.forall_mem_cons.mpr ⟨lw_p13, List.forall_mem_cons.mpr ⟨lw_p14, List.forall_mem_cons.mpr ⟨lw_p15, fun _ h => absurd h List.not_mem_nil⟩⟩⟩⟩⟩⟩⟩⟩⟩⟩⟩⟩⟩⟩⟩⟩
theorem lw_p16 : lw_okq (⟨"FencedBroker$Group", "poorestMember", "()I"⟩, 5) := ⟨⟨by decide +kernel, by decide +kernel⟩, List.mem_of_getElem? (i := 126) (by decide +kernel), List.mem_of_getElem? (i := 739) (by decide +kernel), List.mem_of_getElem? (i := 740) (by decide +kernel)⟩
theorem lw_p17 : lw_okq (⟨"FencedBroker$Group", "isOwned", "(I)Z"⟩, 5) := ⟨⟨by decide +kernel, by decide +kernel⟩, List.mem_of_getElem? (i := 126) (by decide +kernel), List.mem_of_getElem? (i := 743) (by decide +kernel), List.mem_of_getElem? (i := 744) (by decide +kernel)⟩
theorem lw_p18 : lw_okq (⟨"FencedBroker", "groupWith", "(II)LFencedBroker$Group;"⟩, 6) := ⟨⟨by decide +kernel, by decide +kernel⟩, List.mem_of_getElem? (i := 26) (by decide +kernel), List.mem_of_getElem? (i := 754) (by decide +kernel), List.mem_of_getElem? (i := 755) (by decide +kernel)⟩
theorem lw_p19 : lw_okq (⟨"FencedBroker", "groupAt", "(III)LFencedBroker$Group;"⟩, 6) := ⟨⟨by decide +kernel, by decide +kernel⟩, List.mem_of_getElem? (i := 26) (by decide +kernel), List.mem_of_getElem? (i := 770) (by decide +kernel), List.mem_of_getElem? (i := 771) (by decide +kernel)⟩
theorem lw_p20 : lw_okq (⟨"FencedBrokerModel", "out", "(II)Z"⟩, 24) := ⟨⟨by decide +kernel, by decide +kernel⟩, List.mem_of_getElem? (i := 812) (by decide +kernel), List.mem_of_getElem? (i := 899) (by decide +kernel), List.mem_of_getElem? (i := 900) (by decide +kernel)⟩
theorem lw_p21 : lw_okq (⟨"FencedBrokerModel", "fail", "(I)I"⟩, 24) := ⟨⟨by decide +kernel, by decide +kernel⟩, List.mem_of_getElem? (i := 812) (by decide +kernel), List.mem_of_getElem? (i := 903) (by decide +kernel), List.mem_of_getElem? (i := 904) (by decide +kernel)⟩
theorem lw_p22 : lw_okq (⟨"FencedBrokerModel", "abort", "(I)V"⟩, 24) := ⟨⟨by decide +kernel, by decide +kernel⟩, List.mem_of_getElem? (i := 812) (by decide +kernel), List.mem_of_getElem? (i := 907) (by decide +kernel), List.mem_of_getElem? (i := 908) (by decide +kernel)⟩
theorem lw_p23 : lw_okq (⟨"FencedBrokerModel", "check", "(III)I"⟩, 24) := ⟨⟨by decide +kernel, by decide +kernel⟩, List.mem_of_getElem? (i := 812) (by decide +kernel), List.mem_of_getElem? (i := 915) (by decide +kernel), List.mem_of_getElem? (i := 916) (by decide +kernel)⟩
theorem lw_p24 : lw_okq (⟨"FencedBrokerModel", "recent", "(III)I"⟩, 24) := ⟨⟨by decide +kernel, by decide +kernel⟩, List.mem_of_getElem? (i := 812) (by decide +kernel), List.mem_of_getElem? (i := 923) (by decide +kernel), List.mem_of_getElem? (i := 924) (by decide +kernel)⟩
theorem lw_p25 : lw_okq (⟨"FencedBrokerModel", "ofProducer", "(II)Z"⟩, 24) := ⟨⟨by decide +kernel, by decide +kernel⟩, List.mem_of_getElem? (i := 812) (by decide +kernel), List.mem_of_getElem? (i := 927) (by decide +kernel), List.mem_of_getElem? (i := 928) (by decide +kernel)⟩
theorem lw_p26 : lw_okq (⟨"FencedBrokerModel", "next", "(II)I"⟩, 24) := ⟨⟨by decide +kernel, by decide +kernel⟩, List.mem_of_getElem? (i := 812) (by decide +kernel), List.mem_of_getElem? (i := 931) (by decide +kernel), List.mem_of_getElem? (i := 932) (by decide +kernel)⟩
theorem lw_p27 : lw_okq (⟨"FencedBrokerModel", "full", "(I)Z"⟩, 24) := ⟨⟨by decide +kernel, by decide +kernel⟩, List.mem_of_getElem? (i := 812) (by decide +kernel), List.mem_of_getElem? (i := 935) (by decide +kernel), List.mem_of_getElem? (i := 936) (by decide +kernel)⟩
theorem lw_p28 : lw_okq (⟨"FencedBrokerModel", "put", "(IIIII)I"⟩, 24) := ⟨⟨by decide +kernel, by decide +kernel⟩, List.mem_of_getElem? (i := 812) (by decide +kernel), List.mem_of_getElem? (i := 939) (by decide +kernel), List.mem_of_getElem? (i := 940) (by decide +kernel)⟩
theorem lw_p29 : lw_okq (⟨"FencedBrokerModel", "ones", "(I)I"⟩, 24) := ⟨⟨by decide +kernel, by decide +kernel⟩, List.mem_of_getElem? (i := 812) (by decide +kernel), List.mem_of_getElem? (i := 951) (by decide +kernel), List.mem_of_getElem? (i := 952) (by decide +kernel)⟩
theorem lw_p30 : lw_okq (⟨"FencedBrokerModel", "stepOf", "(I)I"⟩, 24) := ⟨⟨by decide +kernel, by decide +kernel⟩, List.mem_of_getElem? (i := 812) (by decide +kernel), List.mem_of_getElem? (i := 959) (by decide +kernel), List.mem_of_getElem? (i := 960) (by decide +kernel)⟩
theorem lw_p31 : lw_okq (⟨"FencedBrokerModel", "marked", "(IIIZ)Z"⟩, 24) := ⟨⟨by decide +kernel, by decide +kernel⟩, List.mem_of_getElem? (i := 812) (by decide +kernel), List.mem_of_getElem? (i := 963) (by decide +kernel), List.mem_of_getElem? (i := 964) (by decide +kernel)⟩
def lw_privs_2 : List (MethodName × Nat) := [(⟨"FencedBroker$Group", "poorestMember", "()I"⟩, 5), (⟨"FencedBroker$Group", "isOwned", "(I)Z"⟩, 5), (⟨"FencedBroker", "groupWith", "(II)LFencedBroker$Group;"⟩, 6), (⟨"FencedBroker", "groupAt", "(III)LFencedBroker$Group;"⟩, 6), (⟨"FencedBrokerModel", "out", "(II)Z"⟩, 24), (⟨"FencedBrokerModel", "fail", "(I)I"⟩, 24), (⟨"FencedBrokerModel", "abort", "(I)V"⟩, 24), (⟨"FencedBrokerModel", "check", "(III)I"⟩, 24), (⟨"FencedBrokerModel", "recent", "(III)I"⟩, 24), (⟨"FencedBrokerModel", "ofProducer", "(II)Z"⟩, 24), (⟨"FencedBrokerModel", "next", "(II)I"⟩, 24), (⟨"FencedBrokerModel", "full", "(I)Z"⟩, 24), (⟨"FencedBrokerModel", "put", "(IIIII)I"⟩, 24), (⟨"FencedBrokerModel", "ones", "(I)I"⟩, 24), (⟨"FencedBrokerModel", "stepOf", "(I)I"⟩, 24), (⟨"FencedBrokerModel", "marked", "(IIIZ)Z"⟩, 24)]
theorem lw_r2 : ∀ q ∈ lw_privs_2, lw_okq q := List.forall_mem_cons.mpr ⟨lw_p16, List.forall_mem_cons.mpr ⟨lw_p17, List.forall_mem_cons.mpr ⟨lw_p18, List.forall_mem_cons.mpr ⟨lw_p19, List.forall_mem_cons.mpr ⟨lw_p20, List.forall_mem_cons.mpr ⟨lw_p21, List.forall_mem_cons.mpr ⟨lw_p22, List.forall_mem_cons.mpr ⟨lw_p23, List.forall_mem_cons.mpr ⟨lw_p24, List.forall_mem_cons.mpr ⟨lw_p25, List.forall_mem_cons.mpr ⟨lw_p26, List.forall_mem_cons.mpr ⟨lw_p27, List.forall_mem_cons.mpr ⟨lw_p28, List.forall_mem_cons.mpr ⟨lw_p29, List.forall_mem_cons.mpr ⟨lw_p30, List.forall_mem_cons.mpr ⟨lw_p31, fun _ h => absurd h List.not_mem_nil⟩⟩⟩⟩⟩⟩⟩⟩⟩⟩⟩⟩⟩⟩⟩⟩
theorem lw_p32 : lw_okq (⟨"FencedBrokerModel", "stable", "(I)I"⟩, 24) := ⟨⟨by decide +kernel, by decide +kernel⟩, List.mem_of_getElem? (i := 812) (by decide +kernel), List.mem_of_getElem? (i := 983) (by decide +kernel), List.mem_of_getElem? (i := 984) (by decide +kernel)⟩
theorem lw_p33 : lw_okq (⟨"FencedBrokerModel", "share", "(I)V"⟩, 24) := ⟨⟨by decide +kernel, by decide +kernel⟩, List.mem_of_getElem? (i := 812) (by decide +kernel), List.mem_of_getElem? (i := 999) (by decide +kernel), List.mem_of_getElem? (i := 1000) (by decide +kernel)⟩
theorem lw_p34 : lw_okq (⟨"FencedBrokerModel", "has", "(II)I"⟩, 24) := ⟨⟨by decide +kernel, by decide +kernel⟩, List.mem_of_getElem? (i := 812) (by decide +kernel), List.mem_of_getElem? (i := 1003) (by decide +kernel), List.mem_of_getElem? (i := 1004) (by decide +kernel)⟩
theorem lw_p35 : lw_okq (⟨"FencedBrokerModel", "fewest", "(I)I"⟩, 24) := ⟨⟨by decide +kernel, by decide +kernel⟩, List.mem_of_getElem? (i := 812) (by decide +kernel), List.mem_of_getElem? (i := 1007) (by decide +kernel), List.mem_of_getElem? (i := 1008) (by decide +kernel)⟩
def lw_privs_3 : List (MethodName × Nat) := [(⟨"FencedBrokerModel", "stable", "(I)I"⟩, 24), (⟨"FencedBrokerModel", "share", "(I)V"⟩, 24), (⟨"FencedBrokerModel", "has", "(II)I"⟩, 24), (⟨"FencedBrokerModel", "fewest", "(I)I"⟩, 24)]
theorem lw_r3 : ∀ q ∈ lw_privs_3, lw_okq q := List.forall_mem_cons.mpr ⟨lw_p32, List.forall_mem_cons.mpr ⟨lw_p33, List.forall_mem_cons.mpr ⟨lw_p34, List.forall_mem_cons.mpr ⟨lw_p35, fun _ h => absurd h List.not_mem_nil⟩⟩⟩⟩
def lw_privs : List (MethodName × Nat) := lw_privs_1 ++ (lw_privs_2 ++ (lw_privs_3))
def lw_tbl : List Cond := k2_sels lw_privs ++ tables_1
theorem lw_privs_ok : ∀ q ∈ lw_privs, lw_okq q := by
  show ∀ q ∈ lw_privs_1 ++ (lw_privs_2 ++ (lw_privs_3)), lw_okq q
  exact List.forall_mem_append.mpr ⟨lw_r1, List.forall_mem_append.mpr ⟨lw_r2, lw_r3⟩⟩
end
section
/-! The heap as a mathematical value: cells by their addresses; a field is an int or a reference (maybe null). -/
abbrev HV : Type := Int32 ⊕ Option Nat
abbrev HA : Type := (Nat → Int32) ⊕ ((Nat → Int64) ⊕ (Nat → Option Nat))
abbrev HC : Type := (Nat × List HV) ⊕ (Nat × Nat × HA)
abbrev HH : Type := Nat → Option HC
def hv_v : HV → Value
  | .inl x => .int x
  | .inr r => va_rf r
def ha_a (n : Nat) : HA → vp_A
  | .inl f => (n, .inl f)
  | .inr (.inl f) => (n, .inr (.inl f))
  | .inr (.inr f) => (n, .inr (.inr (.inr (.inr f))))
/-- words that stay when the tables grow warmer -/
def okw (w : Cond) : Bool := match w with
  | .fieldLinkNest .. => true
  | .methodLinkNest .. => true
  | .castable .. => true
  | .declares .. => true
  | .privateMethod .. => true
  | .stringRef .. => true
  | .arrayOver (.object _) => true
  | w => goodWord w
theorem okw_move {w : Cond} (hw : okw w = true) {s U : State} (hW : s.WarmedH U.vm) {a a' : Array Value} (h : w.before a s = true) : w.before a' U = true := by
  unfold okw at hw
  split at hw
  · exact va_Nw.use rfl (va_Nw.warmF hW (va_Nw.of rfl h))
  · exact va_Nw.use rfl (va_Nw.warmM hW (va_Nw.of rfl h))
  · exact va_Nw.use rfl (va_Nw.warmC hW (va_Nw.of rfl h))
  · exact va_Nw.use rfl (va_Nw.warmD hW (va_Nw.of rfl h))
  · exact va_tabs rfl (rfl : (s.setVm U.vm).vm = U.vm) (by rw [Cond.privateMethod_setVm hW.alike]; exact h)
  · have h1 := Cond.stringRef_warmed (args := a) hW h
    simp only [Cond.before, Cond.holds, Cond.value, State.names, State.poolOf?, State.resolvedAt?, State.vm_setVm] at h1 ⊢
    exact h1
  · exact va_AO.use (va_AO.moved hW.alike (va_AO.of h))
  · exact word_at hW (good_of_word hw) h
def TW (U : State) : Prop := ∀ w ∈ lw_tbl, okw w = true → w.before #[] U = true
theorem TW.use {s : State} (h : TW s) {w : Cond} (hm : w ∈ lw_tbl) (hw : okw w = true) {args : Array Value} : w.before args s = true := okw_move hw (State.WarmedH.refl s) (h w hm hw)
theorem TW.move {s U : State} (h : TW s) (hW : s.WarmedH U.vm) : TW U := fun w hm hw => okw_move hw hW (h w hm hw)
/-! the classes of the objects: their fields in the order of the slots -/
def q_Entry : u_T := fun k => match k with
  | 0 => ("FencedBroker$Entry", "kind", "I", true)
  | 1 => ("FencedBroker$Entry", "transaction", "I", true)
  | 2 => ("FencedBroker$Entry", "name", "I", true)
  | 3 => ("FencedBroker$Entry", "age", "I", true)
  | 4 => ("FencedBroker$Entry", "sequence", "I", true)
  | _ => ("FencedBroker$Entry", "value", "I", true)
def q_Group : u_T := fun k => match k with
  | 0 => ("FencedBroker$Group", "generation", "I", false)
  | 1 => ("FencedBroker$Group", "members", "[Z", true)
  | 2 => ("FencedBroker$Group", "heardAt", "[I", true)
  | 3 => ("FencedBroker$Group", "owned", "[I", true)
  | _ => ("FencedBroker$Group", "committed", "[I", true)
def q_Log : u_T := fun k => match k with
  | 0 => ("FencedBroker$Log", "entries", "Ljava/util/ArrayList;", true)
  | 1 => ("FencedBroker$Log", "markerAt", "[I", true)
  | 2 => ("FencedBroker$Log", "start", "I", false)
  | _ => ("FencedBroker$Log", "high", "I", false)
def q_Producer : u_T := fun k => match k with
  | 0 => ("FencedBroker$Producer", "name", "I", true)
  | 1 => ("FencedBroker$Producer", "state", "I", false)
  | 2 => ("FencedBroker$Producer", "age", "I", false)
  | 3 => ("FencedBroker$Producer", "transaction", "I", false)
  | 4 => ("FencedBroker$Producer", "begunAt", "I", false)
  | 5 => ("FencedBroker$Producer", "touched", "I", false)
  | _ => ("FencedBroker$Producer", "pending", "[I", true)
def q_Broker : u_T := fun k => match k with
  | 0 => ("FencedBroker", "logs", "[LFencedBroker$Log;", true)
  | 1 => ("FencedBroker", "producers", "[LFencedBroker$Producer;", true)
  | 2 => ("FencedBroker", "groups", "[LFencedBroker$Group;", true)
  | 3 => ("FencedBroker", "transactions", "I", false)
  | 4 => ("FencedBroker", "time", "I", false)
  | _ => ("FencedBroker", "lastValue", "I", false)
def q_List : u_T := fun k => match k with
  | 0 => ("java/util/AbstractList", "modCount", "I", false)
  | 1 => ("java/util/ArrayList", "elementData", "[Ljava/lang/Object;", false)
  | _ => ("java/util/ArrayList", "size", "I", false)
def q_Model : u_T := fun k => match k with
  | 0 => ("FencedBrokerModel", "failed", "I", false)
  | 1 => ("FencedBrokerModel", "kind", "[I", true)
  | 2 => ("FencedBrokerModel", "value", "[I", true)
  | 3 => ("FencedBrokerModel", "by", "[I", true)
  | 4 => ("FencedBrokerModel", "byAge", "[I", true)
  | 5 => ("FencedBrokerModel", "sequence", "[I", true)
  | 6 => ("FencedBrokerModel", "transaction", "[I", true)
  | 7 => ("FencedBrokerModel", "length", "[I", true)
  | 8 => ("FencedBrokerModel", "start", "[I", true)
  | 9 => ("FencedBrokerModel", "high", "[I", true)
  | 10 => ("FencedBrokerModel", "status", "[I", true)
  | 11 => ("FencedBrokerModel", "age", "[I", true)
  | 12 => ("FencedBrokerModel", "current", "[I", true)
  | 13 => ("FencedBrokerModel", "touched", "[I", true)
  | 14 => ("FencedBrokerModel", "begun", "[I", true)
  | 15 => ("FencedBrokerModel", "pending", "[I", true)
  | 16 => ("FencedBrokerModel", "transactions", "I", false)
  | 17 => ("FencedBrokerModel", "generation", "[I", true)
  | 18 => ("FencedBrokerModel", "member", "[Z", true)
  | 19 => ("FencedBrokerModel", "heard", "[I", true)
  | 20 => ("FencedBrokerModel", "holder", "[I", true)
  | 21 => ("FencedBrokerModel", "committed", "[I", true)
  | 22 => ("FencedBrokerModel", "time", "I", false)
  | _ => ("FencedBrokerModel", "last", "I", false)
def ccl : List vw_C := [("FencedBroker$Entry", q_Entry, 6), ("FencedBroker$Group", q_Group, 5), ("FencedBroker$Log", q_Log, 4), ("FencedBroker$Producer", q_Producer, 7), ("FencedBroker", q_Broker, 6), ("java/util/ArrayList", q_List, 3), ("FencedBrokerModel", q_Model, 24)]
theorem ccl_in : ∀ q ∈ ccl, ∀ w ∈ u_ws q.1 q.2.1 q.2.2, w ∈ lw_tbl := by decide +kernel
theorem ccl_nm : ∀ q ∈ ccl, ∀ a, a < q.2.2 → ∀ b, b < q.2.2 → a ≠ b → (q.2.1 a).2.1 ≠ (q.2.1 b).2.1 := by decide +kernel
def tyk (k : Nat) : FieldType := match k with
  | 0 => .int
  | 1 => .boolean
  | 2 => .long
  | 3 => .object "java/lang/Object"
  | 4 => .object "FencedBroker$Log"
  | 5 => .object "FencedBroker$Producer"
  | _ => .object "FencedBroker$Group"
/-- what stays fixed: the classes' numbers, the arrays' classes, from where on cells may be written, ArrayList's empty array -/
abbrev EN : Type := va_G × (Nat → ClassId) × Nat × Nat
def tyl (G : EN) : List (ClassId × FieldType) := (List.range 7).map (fun k => (G.2.1 k, tyk k))
def AG (G : EN) : Nat → Prop := fun q => G.2.2.1 ≤ q
def hp_at (G : EN) (a : Nat) (c : HC) (H : Heap) : Prop := match c with
  | .inl (ci, fs) => va_at G.1 ccl (a, .inr (ci, fs.map hv_v)) H
  | .inr (k, n, x) => k < 7 ∧ va_at G.1 ccl (a, .inl (G.2.1 k, ha_a n x)) H
def HP (G : EN) (h : HH) (H : Heap) : Prop := ∀ (a : Nat) (c : HC), h a = some c → hp_at G a c H
theorem hp_at.kept {G : EN} {a : Nat} {c : HC} {H H1 : Heap} (h : hp_at G a c H) (hq : H1[a]? = H[a]?) : hp_at G a c H1 := by
  rcases c with ⟨ci, fs⟩ | ⟨k, n, x⟩
  · exact va_at.kept (q := (a, .inr (ci, fs.map hv_v))) h hq
  · exact ⟨h.1, va_at.kept (q := (a, .inl (G.2.1 k, ha_a n x))) h.2 hq⟩
theorem hp_at.lt {G : EN} {a : Nat} {c : HC} {H : Heap} (h : hp_at G a c H) : a < H.size := by
  rcases c with ⟨ci, fs⟩ | ⟨k, n, x⟩
  · exact va_at.lt (q := (a, .inr (ci, fs.map hv_v))) h
  · exact va_at.lt (q := (a, .inl (G.2.1 k, ha_a n x))) h.2
theorem HP.up {G : EN} {h : HH} {H H1 : Heap} {a : Nat} {c : HC} (hh : HP G h H) (hq : ∀ q : Nat, q ≠ a → H1[q]? = H[q]?) (hc : hp_at G a c H1) : HP G (va_up h a (some c)) H1 := by
  intro b d hb
  by_cases e : b = a
  · subst e
    simp [va_up] at hb
    subst hb
    exact hc
  · simp [va_up, e] at hb
    exact (hh b d hb).kept (hq b e)
theorem HP.push {G : EN} {h : HH} {H H1 : Heap} {z : Nat} {c : HC} (hh : HP G h H) (hz : H.size = z) (hq : ∀ q : Nat, q < z → H1[q]? = H[q]?) (hc : hp_at G z c H1) : HP G (va_up h z (some c)) H1 := by
  intro b d hb
  by_cases e : b = z
  · subst e
    simp [va_up] at hb
    subst hb
    exact hc
  · simp [va_up, e] at hb
    exact (hh b d hb).kept (hq b (by have := (hh b d hb).lt; omega))
/-- a later state: the tables warmer, the old cells as they were -/
def Later (bs : Nat) (U V : State) : Prop := U.WarmedH V.vm ∧ bs ≤ V.heap.size ∧ ∀ q : Nat, q < bs → V.heap[q]? = U.heap[q]?
/-- the words on heap cells that a 'throw' needs -/
def thr_ws : List Cond := [.isRef (.static "java/lang/Throwable" "UNASSIGNED_STACK" "[Ljava/lang/StackTraceElement;"), .isRef (.static "java/lang/Throwable" "SUPPRESSED_SENTINEL" "Ljava/util/List;"), .laysStatic "java/lang/Throwable" "UNASSIGNED_STACK" "[Ljava/lang/StackTraceElement;", .laysStatic "java/lang/Throwable" "SUPPRESSED_SENTINEL" "Ljava/util/List;"]
def GX (G : EN) (V : State) : Prop := TW V ∧ va_K G.1 ccl (tyl G) V ∧ va_Z "java/util/ArrayList" "DEFAULTCAPACITY_EMPTY_ELEMENTDATA" "[Ljava/lang/Object;" (.ref G.2.2.2) (AG G) V V.heap ∧ ∀ w ∈ thr_ws, w.before #[] V = true
def GW (G : EN) (U : State) : Prop := ∀ V : State, Later G.2.2.1 U V → GX G V
theorem Later.trans {bs : Nat} {U V X : State} (h : Later bs U V) (h2 : Later bs V X) : Later bs U X := ⟨State.WarmedH.trans h.1 h2.1, h2.2.1, fun q hq => (h2.2.2 q hq).trans (h.2.2 q hq)⟩
theorem GW.move {G : EN} {U V : State} (h : GW G U) (hl : Later G.2.2.1 U V) : GW G V := fun X hX => h X (hl.trans hX)
end
section
/-! pure reads and writes of the heap; nothing where the machine itself would throw -/
def gV (h : HH) (a ci k : Nat) : Option HV := match h a with
  | some (.inl (c, fs)) => if c = ci then fs[k]? else none
  | _ => none
def gI (h : HH) (a ci k : Nat) : Option Int32 := match gV h a ci k with
  | some (.inl x) => some x
  | _ => none
def gR (h : HH) (a ci k : Nat) : Option Nat := match gV h a ci k with
  | some (.inr (some q)) => some q
  | _ => none
def pV (bs : Nat) (h : HH) (a ci k : Nat) (v : HV) : Option HH := match h a with
  | some (.inl (c, fs)) => if c = ci ∧ k < fs.length ∧ bs ≤ a then some (va_up h a (some (.inl (ci, fs.set k v)))) else none
  | _ => none
def inr_ (i : Int32) (n : Nat) : Bool := !(decide (i < 0) || decide (n ≤ i.toNatClampNeg))
def aI (h : HH) (a kd : Nat) (i : Int32) : Option Int32 := match h a with
  | some (.inr (k, n, .inl f)) => if k = kd ∧ inr_ i n = true then some (f i.toNatClampNeg) else none
  | _ => none
def aIs (bs : Nat) (h : HH) (a kd : Nat) (i x : Int32) : Option HH := match h a with
  | some (.inr (k, n, .inl f)) => if k = kd ∧ inr_ i n = true ∧ bs ≤ a then some (va_up h a (some (.inr (kd, n, .inl (upd f i.toNatClampNeg x))))) else none
  | _ => none
def aJ (h : HH) (a kd : Nat) (i : Int32) : Option Int64 := match h a with
  | some (.inr (k, n, .inr (.inl f))) => if k = kd ∧ inr_ i n = true then some (f i.toNatClampNeg) else none
  | _ => none
def aJs (bs : Nat) (h : HH) (a kd : Nat) (i : Int32) (x : Int64) : Option HH := match h a with
  | some (.inr (k, n, .inr (.inl f))) => if k = kd ∧ inr_ i n = true ∧ bs ≤ a then some (va_up h a (some (.inr (kd, n, .inr (.inl (vp_updL f i.toNatClampNeg x)))))) else none
  | _ => none
def aQ (h : HH) (a kd : Nat) (i : Int32) : Option (Option Nat) := match h a with
  | some (.inr (k, n, .inr (.inr f))) => if k = kd ∧ inr_ i n = true then some (f i.toNatClampNeg) else none
  | _ => none
def aR (h : HH) (a kd : Nat) (i : Int32) : Option Nat := (aQ h a kd i).bind id
def aQs (bs : Nat) (h : HH) (a kd : Nat) (i : Int32) (x : Option Nat) : Option HH := match h a with
  | some (.inr (k, n, .inr (.inr f))) => if k = kd ∧ inr_ i n = true ∧ bs ≤ a then some (va_up h a (some (.inr (kd, n, .inr (.inr (va_up f i.toNatClampNeg x)))))) else none
  | _ => none
def aN (h : HH) (a : Nat) : Option Int32 := match h a with
  | some (.inr (_, n, _)) => some (Int32.ofNat n)
  | _ => none
/-- the object is of this class -/
def oK (h : HH) (a ci : Nat) : Option Unit := match h a with
  | some (.inl (c, _)) => if c = ci then some () else none
  | _ => none
def ass (c : Bool) : Option Unit := if c = true then some () else none
theorem bd {α β : Type} {x : Option α} {K : α → Option β} {r : β} (h : x.bind K = some r) : ∃ v, x = some v ∧ K v = some r := by
  cases x with
  | none => cases h
  | some v => exact ⟨v, rfl, h⟩
theorem ifp {α : Type} {c : Prop} [Decidable c] {A B r : α} (h : c) (hf : (if c then A else B) = r) : A = r := by rw [if_pos h] at hf; exact hf
theorem ifn {α : Type} {c : Prop} [Decidable c] {A B r : α} (h : ¬ c) (hf : (if c then A else B) = r) : B = r := by rw [if_neg h] at hf; exact hf
theorem ass_t {c : Bool} {u : Unit} (h : ass c = some u) : c = true := by
  unfold ass at h
  split at h
  · assumption
  · cases h
theorem inr_in {i : Int32} {n : Nat} (h : inr_ i n = true) : vp_in i n := by
  intro q
  simp only [inr_, Bool.not_eq_true', Bool.or_eq_false_iff, decide_eq_false_iff_not] at h
  rcases q with q | q
  · exact h.1 q
  · exact h.2 q
theorem gI_at {h : HH} {a ci k : Nat} {x : Int32} (e : gI h a ci k = some x) : ∃ fs, h a = some (.inl (ci, fs)) ∧ fs[k]? = some (.inl x) := by
  unfold gI gV at e
  split at e
  · rename_i y h1
    cases e
    split at h1
    · rename_i c fs h2
      split at h1
      · rename_i hc
        subst hc
        exact ⟨fs, h2, h1⟩
      · cases h1
    · cases h1
  · cases e
theorem gR_at {h : HH} {a ci k : Nat} {x : Nat} (e : gR h a ci k = some x) : ∃ fs, h a = some (.inl (ci, fs)) ∧ fs[k]? = some (.inr (some x)) := by
  unfold gR gV at e
  split at e
  · rename_i y h1
    cases e
    split at h1
    · rename_i c fs h2
      split at h1
      · rename_i hc
        subst hc
        exact ⟨fs, h2, h1⟩
      · cases h1
    · cases h1
  · cases e
theorem pV_at {bs : Nat} {h h' : HH} {a ci k : Nat} {v : HV} (e : pV bs h a ci k v = some h') : ∃ fs, h a = some (.inl (ci, fs)) ∧ k < fs.length ∧ bs ≤ a ∧ h' = va_up h a (some (.inl (ci, fs.set k v))) := by
  unfold pV at e
  split at e
  · rename_i c fs h2
    split at e
    · rename_i hc
      obtain ⟨rfl, h3, h4⟩ := hc
      cases e
      exact ⟨fs, h2, h3, h4, rfl⟩
    · cases e
  · cases e
theorem aI_at {h : HH} {a kd : Nat} {i x : Int32} (e : aI h a kd i = some x) : ∃ n f, h a = some (.inr (kd, n, .inl f)) ∧ vp_in i n ∧ x = f i.toNatClampNeg := by
  unfold aI at e
  split at e
  · rename_i k n f h2
    split at e
    · rename_i hc
      obtain ⟨rfl, h3⟩ := hc
      cases e
      exact ⟨n, f, h2, inr_in h3, rfl⟩
    · cases e
  · cases e
theorem aIs_at {bs : Nat} {h h' : HH} {a kd : Nat} {i x : Int32} (e : aIs bs h a kd i x = some h') : ∃ n f, h a = some (.inr (kd, n, .inl f)) ∧ vp_in i n ∧ bs ≤ a ∧ h' = va_up h a (some (.inr (kd, n, .inl (upd f i.toNatClampNeg x)))) := by
  unfold aIs at e
  split at e
  · rename_i k n f h2
    split at e
    · rename_i hc
      obtain ⟨rfl, h3, h4⟩ := hc
      cases e
      exact ⟨n, f, h2, inr_in h3, h4, rfl⟩
    · cases e
  · cases e
theorem aJ_at {h : HH} {a kd : Nat} {i : Int32} {x : Int64} (e : aJ h a kd i = some x) : ∃ n f, h a = some (.inr (kd, n, .inr (.inl f))) ∧ vp_in i n ∧ x = f i.toNatClampNeg := by
  unfold aJ at e
  split at e
  · rename_i k n f h2
    split at e
    · rename_i hc
      obtain ⟨rfl, h3⟩ := hc
      cases e
      exact ⟨n, f, h2, inr_in h3, rfl⟩
    · cases e
  · cases e
theorem aJs_at {bs : Nat} {h h' : HH} {a kd : Nat} {i : Int32} {x : Int64} (e : aJs bs h a kd i x = some h') : ∃ n f, h a = some (.inr (kd, n, .inr (.inl f))) ∧ vp_in i n ∧ bs ≤ a ∧ h' = va_up h a (some (.inr (kd, n, .inr (.inl (vp_updL f i.toNatClampNeg x))))) := by
  unfold aJs at e
  split at e
  · rename_i k n f h2
    split at e
    · rename_i hc
      obtain ⟨rfl, h3, h4⟩ := hc
      cases e
      exact ⟨n, f, h2, inr_in h3, h4, rfl⟩
    · cases e
  · cases e
theorem aQ_at {h : HH} {a kd : Nat} {i : Int32} {x : Option Nat} (e : aQ h a kd i = some x) : ∃ n f, h a = some (.inr (kd, n, .inr (.inr f))) ∧ vp_in i n ∧ x = f i.toNatClampNeg := by
  unfold aQ at e
  split at e
  · rename_i k n f h2
    split at e
    · rename_i hc
      obtain ⟨rfl, h3⟩ := hc
      cases e
      exact ⟨n, f, h2, inr_in h3, rfl⟩
    · cases e
  · cases e
theorem aR_at {h : HH} {a kd : Nat} {i : Int32} {x : Nat} (e : aR h a kd i = some x) : aQ h a kd i = some (some x) := by
  unfold aR at e
  cases h1 : aQ h a kd i with
  | none => rw [h1] at e; cases e
  | some y =>
    rw [h1] at e
    exact congrArg some e
theorem aQs_at {bs : Nat} {h h' : HH} {a kd : Nat} {i : Int32} {x : Option Nat} (e : aQs bs h a kd i x = some h') : ∃ n f, h a = some (.inr (kd, n, .inr (.inr f))) ∧ vp_in i n ∧ bs ≤ a ∧ h' = va_up h a (some (.inr (kd, n, .inr (.inr (va_up f i.toNatClampNeg x))))) := by
  unfold aQs at e
  split at e
  · rename_i k n f h2
    split at e
    · rename_i hc
      obtain ⟨rfl, h3, h4⟩ := hc
      cases e
      exact ⟨n, f, h2, inr_in h3, h4, rfl⟩
    · cases e
  · cases e
theorem aN_at {h : HH} {a : Nat} {x : Int32} (e : aN h a = some x) : ∃ k n f, h a = some (.inr (k, n, f)) ∧ x = Int32.ofNat n := by
  unfold aN at e
  split at e
  · rename_i k n f h2
    cases e
    exact ⟨k, n, f, h2, rfl⟩
  · cases e
theorem oK_at {h : HH} {a ci : Nat} {u : Unit} (e : oK h a ci = some u) : ∃ fs, h a = some (.inl (ci, fs)) := by
  unfold oK at e
  split at e
  · rename_i c fs h2
    split at e
    · rename_i hc
      subst hc
      exact ⟨fs, h2⟩
    · cases e
  · cases e
theorem vP1 {D : va_G} {cl : List vw_C} {a : Nat} {x : va_E} {H : Heap} (h : va_at D cl (a, x) H) : va_P D cl [(a, x)] H := fun k q hk => by
  match k, hk with
  | 0, hk => cases hk; exact h
  | k + 1, hk => simp at hk
theorem tyl_at {G : EN} {k : Nat} (h : k < 7) : (tyl G)[k]? = some (G.2.1 k, tyk k) := by simp [tyl, h]
theorem ccl_ty : ∀ q ∈ ccl, ∀ k, k < q.2.2 → parseFieldDescriptor (q.2.1 k).2.2.1 = some ((parseFieldDescriptor (q.2.1 k).2.2.1).getD .int) := by decide +kernel
theorem cond_sf {ref owner n d : String} {args : Array Value} {s : State} (h : (Cond.sameField ref owner n d).before args s = true) : ∀ x, s.fieldFound? owner n d = some x → s.fieldFound? ref n d = some x := by
  intro x hx
  simp only [Cond.before, Cond.holds, Cond.value] at h
  cases hj : s.fieldFound? ref n d with
  | none => simp [hj] at h
  | some y =>
    have h2 := Cond.sameField_spec (owner := owner) (args := args) (first := s) (o := none) (idx := []) (c := y.1) (k := y.2.1) (i := y.2.2.1) (f := y.2.2.2) hj (by simpa [Cond.holds, Cond.value] using h)
    rw [hx] at h2
    exact h2.symm
/-- a field's entry in a class's pool: the field k of the class ci -/
def FL (own : String) (index ci k : Nat) : Prop := ∃ (Cn : String) (T : u_T) (N : Nat), ccl[ci]? = some (Cn, T, N) ∧ k < N ∧ ((Cond.fieldLink own index (T k).1 (T k).2.1 (T k).2.2.1 ∈ lw_tbl) ∨ (∃ host, Cond.fieldLinkNest own index (T k).1 (T k).2.1 (T k).2.2.1 host ∈ lw_tbl) ∨ ∃ ref, Cond.fieldLink own index ref (T k).2.1 (T k).2.2.1 ∈ lw_tbl ∧ Cond.sameField ref (T k).1 (T k).2.1 (T k).2.2.1 ∈ lw_tbl)
def FLP (own : String) (index ci k : Nat) (ty : FieldType) : Prop := FL own index ci k ∧ ∀ (Cn : String) (T : u_T) (N : Nat), ccl[ci]? = some (Cn, T, N) → (T k).2.2.2 = false ∧ parseFieldDescriptor (T k).2.2.1 = some ty
def FLF (own : String) (index ci k : Nat) (ty : FieldType) : Prop := ∀ (Cn : String) (T : u_T) (N : Nat), ccl[ci]? = some (Cn, T, N) → k < N ∧ (T k).2.2.2 = true ∧ (T k).1 = own ∧ parseFieldDescriptor (T k).2.2.1 = some ty ∧ Cond.fieldLink own index (T k).1 (T k).2.1 (T k).2.2.1 ∈ lw_tbl
/-- what stays in a walk -/
def CX (G : EN) (p : Program) (l : Launch) (s : State) (m : MethodId) (meth : Method) (c : Code) (cc : ByteArray) (nL : Nat) (own : String) : Prop :=
  p.tables.exec = Jvm.exec ∧ c.code = cc ∧ c.maxLocals = nL ∧ s.vm.findClass own = some m.cls ∧ meth.locks = false ∧ GW G s ∧ G.2.2.1 ≤ s.heap.size ∧ l.stackTraces = false
/-- what moves -/
abbrev Z3 : Type := Nat × Nat × Nat
/-- z: the heap's size, and how many cells and slots may still be made -/
def ST (G : EN) (R : Room) (s : State) (h : HH) (z : Z3) (H : Heap) (locs : List Loc) (cells slots : Nat) : Prop := HP G h H ∧ H.size = z.1 ∧ va_S (AG G) s.heap H locs ∧ cells + z.2.1 ≤ R.cells ∧ slots + z.2.2 ≤ R.slots
theorem GW.here {G : EN} {s : State} (h : GW G s) (hb : G.2.2.1 ≤ s.heap.size) : GX G s := h s ⟨State.WarmedH.refl s, hb, fun _ _ => rfl⟩
theorem mem_ccl {ci : Nat} {q : vw_C} (h : ccl[ci]? = some q) : q ∈ ccl := List.mem_of_getElem? h
section RW
variable {G : EN} {p : Program} {l : Launch} {e : Env} {R : Room} {s : State} {m : MethodId} {args : Array Value} {below : List Frame} {meth : Method} {c : Code} {H : Heap} {locs : List Loc} {cells slots : Nat} {Q : State → Prop}
variable {cc : ByteArray} {pc nL : Nat} {own : String} {ls : Array Slot} {rest : List Value} {h : HH} {z : Z3} {a : Nat}
theorem r_getV (C : CX G p l s m meth c cc nL own) (hs : ST G R s h z H locs cells slots) {index ci k : Nat} (hF : FL own index ci k) {fs : List HV} {v : HV} (ha : h a = some (.inl (ci, fs))) (hv : fs[k]? = some v) (hdg : decode cc pc = .ok (.getfield index, 3))
    (kk : W p l e R s m args below meth c H locs cells slots Q (F0 m (pc + 3) ls (hv_v v :: rest))) : W p l e R s m args below meth c H locs cells slots Q (F0 m pc ls (.ref a :: rest)) := by
  obtain ⟨hx, hb, -, hown, -, hG, hbs, -⟩ := C
  obtain ⟨hT, hK, -⟩ := hG.here hbs
  obtain ⟨Cn, T, N, hc, hk, hl⟩ := hF
  have hin : ∀ w ∈ u_ws Cn T N, w ∈ (u_ws Cn T N) := fun w hw => hw
  have hok : ∀ w ∈ u_ws Cn T N, okw w = true := by
    intro w hw
    unfold u_ws u_lay at hw
    obtain ⟨j, -, rfl⟩ := List.mem_map.mp hw
    split <;> rfl
  have hts : ∀ w ∈ u_ws Cn T N, w.before args s = true := fun w hw => hT.use (ccl_in _ (mem_ccl hc) w hw) (hok w hw)
  have hP := vP1 (D := G.1) (cl := ccl) (a := a) (x := .inr (ci, fs.map hv_v)) (H := H) (hs.1 a _ ha)
  have hv' : (fs.map hv_v)[k]? = some (hv_v v) := by simp [hv]
  rcases hl with hl | ⟨host, hl⟩ | ⟨ref, hl, hl2⟩
  · exact va_get (D := G.1) hx hb hts hin hown hK hP 0 rfl hc k hk (hT.use hl rfl) (fun _ h9 => h9) hv' hdg kk
  · exact va_getN (D := G.1) hx hb hts hin hown hK hP 0 rfl hc k hk (hT.use hl rfl) (fun _ h9 => h9) hv' hdg kk
  · exact va_get (D := G.1) hx hb hts hin hown hK hP 0 rfl hc k hk (hT.use hl rfl) (cond_sf (args := args) (hT.use hl2 rfl)) hv' hdg kk
theorem r_getI (C : CX G p l s m meth c cc nL own) (hs : ST G R s h z H locs cells slots) {index ci k : Nat} (hF : FL own index ci k) (hdg : decode cc pc = .ok (.getfield index, 3)) {β : Type} {K : Int32 → Option β} {r : β} (hf : (gI h a ci k).bind K = some r)
    (kk : ∀ v, K v = some r → W p l e R s m args below meth c H locs cells slots Q (F0 m (pc + 3) ls (.int v :: rest))) : W p l e R s m args below meth c H locs cells slots Q (F0 m pc ls (.ref a :: rest)) := by
  obtain ⟨v, h1, h2⟩ := bd hf
  obtain ⟨fs, h3, h4⟩ := gI_at h1
  exact r_getV C hs hF h3 h4 hdg (kk v h2)
theorem r_getR (C : CX G p l s m meth c cc nL own) (hs : ST G R s h z H locs cells slots) {index ci k : Nat} (hF : FL own index ci k) (hdg : decode cc pc = .ok (.getfield index, 3)) {β : Type} {K : Nat → Option β} {r : β} (hf : (gR h a ci k).bind K = some r)
    (kk : ∀ v, K v = some r → W p l e R s m args below meth c H locs cells slots Q (F0 m (pc + 3) ls (.ref v :: rest))) : W p l e R s m args below meth c H locs cells slots Q (F0 m pc ls (.ref a :: rest)) := by
  obtain ⟨v, h1, h2⟩ := bd hf
  obtain ⟨fs, h3, h4⟩ := gR_at h1
  exact r_getV C hs hF h3 h4 hdg (kk v h2)
end RW
end
section
theorem hv_set (fs : List HV) (k : Nat) (v : HV) : (fs.set k v).map hv_v = (fs.map hv_v).set k (hv_v v) := by rw [List.map_set]
theorem ws_ok {Cn : String} {T : u_T} {N : Nat} : ∀ w ∈ u_ws Cn T N, okw w = true := by
  intro w hw
  unfold u_ws u_lay at hw
  obtain ⟨j, -, rfl⟩ := List.mem_map.mp hw
  split <;> rfl
theorem ws_ts {s : State} (hT : TW s) {ci : Nat} {Cn : String} {T : u_T} {N : Nat} (hc : ccl[ci]? = some (Cn, T, N)) {args : Array Value} : ∀ w ∈ u_ws Cn T N, w.before args s = true := fun w hw => hT.use (ccl_in _ (mem_ccl hc) w hw) (ws_ok w hw)
section RW2
variable {G : EN} {p : Program} {l : Launch} {e : Env} {R : Room} {s : State} {m : MethodId} {args : Array Value} {below : List Frame} {meth : Method} {c : Code} {H : Heap} {locs : List Loc} {cells slots : Nat} {Q : State → Prop}
variable {cc : ByteArray} {pc nL : Nat} {own : String} {ls : Array Slot} {rest : List Value} {h : HH} {z : Z3} {a : Nat}
theorem ST.put {H1 : Heap} {x : HC} {k : Nat} (hs : ST G R s h z H locs cells slots) (z1 : H1.size = H.size) (oq : ∀ q : Nat, q ≠ a → H1[q]? = H[q]?) (ha : G.2.2.1 ≤ a) (hc : hp_at G a x H1) : ST G R s (va_up h a (some x)) z H1 (locs ++ [⟨a, k⟩]) cells slots :=
  ⟨hs.1.up oq hc, z1.trans hs.2.1, hs.2.2.1.put z1 oq ha, hs.2.2.2⟩
theorem r_putV (C : CX G p l s m meth c cc nL own) (hs : ST G R s h z H locs cells slots) {index ci k : Nat} {ty : FieldType} (hF : FLP own index ci k ty) {v : HV} (hn : narrow ty (hv_v v) = hv_v v) (hfit : fits ty (hv_v v) = true) (hdg : decode cc pc = .ok (.putfield index, 3)) {β : Type} {K : HH → Option β} {r : β} (hf : (pV G.2.2.1 h a ci k v).bind K = some r)
    (kk : ∀ (h1 : HH) (H1 : Heap) (locs1 : List Loc), K h1 = some r → ST G R s h1 z H1 locs1 cells slots → W p l e R s m args below meth c H1 locs1 cells slots Q (F0 m (pc + 3) ls rest)) : W p l e R s m args below meth c H locs cells slots Q (F0 m pc ls (hv_v v :: .ref a :: rest)) := by
  obtain ⟨h1, hp1, hf⟩ := bd hf
  obtain ⟨fs, ha, hkl, hba, rfl⟩ := pV_at hp1
  obtain ⟨hx, hb, -, hown, -, hG, hbs, -⟩ := C
  obtain ⟨hT, hK, -⟩ := hG.here hbs
  obtain ⟨⟨Cn, T, N, hc, hk, hl⟩, hF2⟩ := hF
  obtain ⟨hfin, hd⟩ := hF2 Cn T N hc
  have hin : ∀ w ∈ u_ws Cn T N, w ∈ (u_ws Cn T N) := fun w hw => hw
  have hts : ∀ w ∈ u_ws Cn T N, w.before args s = true := ws_ts hT hc
  have hap := va_apart (own := own) hts hin _ (ccl_ty _ (mem_ccl hc)) (ccl_nm _ (mem_ccl hc)) hK hc
  obtain ⟨r0, h10, cell, q1, q2, q3, q4⟩ : va_at G.1 ccl (a, .inr (ci, fs.map hv_v)) H := hs.1 a _ ha
  have hr : r0 = (Cn, T, N) := Option.some.inj (h10.symm.trans hc)
  subst hr
  obtain ⟨hS, hfc, kC, hkC, hkind⟩ := hK.1 ci _ hc
  obtain ⟨cf, kf, fi, f, hi, hsl⟩ := hS k hk
  have hlay := hts _ (hin _ (u_in_lay hk))
  unfold u_lay at hlay
  rw [if_neg (by rw [hfin]; decide)] at hlay
  have hst := (u_facts hfc hkC (u_lays hts hin hk) hi).1
  have h6 := u_store hfc hkC hkind hlay hi hd hn hfit
  have fin : ∀ H' : Heap, H'[a]? = some (cell.setSlot f.slot (hv_v v)) → H'.size = H.size → (∀ q, q ≠ a → H'[q]? = H[q]?) → W p l e R s m args below meth c H' (locs ++ [⟨a, f.slot⟩]) cells slots Q (F0 m (pc + 3) ls rest) := by
    intro H' e1 e2 e3
    refine kk _ H' _ hf (hs.put e2 e3 hba ?_)
    show va_at G.1 ccl (a, .inr (ci, (fs.set k v).map hv_v)) H'
    rw [hv_set]
    rw [hsl] at e1
    exact ⟨_, hc, t_OB.to (V := updV (vp_V (fs.map hv_v)) k (hv_v v)) ⟨_, e1, q2, q3, t_set q4 hap hk (hv_v v)⟩ (fun j _ => vp_updV_set (by rw [List.length_map]; exact hkl) (hv_v v) j)⟩
  rcases hl with hl | ⟨host, hl⟩ | ⟨ref, hl, hl2⟩
  · exact W.putK hx hb (f := f) ⟨hown, hT.use hl rfl, ⟨_, _, _, hi⟩, hst⟩ (by rw [q2]; exact h6) q1 q3 (by rw [hsl]; exact k2_hasslot (q4 k hk)) rfl rfl hdg fin
  · exact va_WputK hx hb (f := f) hown (hT.use hl rfl) hi hst (by rw [q2]; exact h6) q1 q3 (by rw [hsl]; exact k2_hasslot (q4 k hk)) rfl rfl hdg fin
  · exact W.putK hx hb (f := f) ⟨hown, hT.use hl rfl, ⟨_, _, _, cond_sf (args := args) (hT.use hl2 rfl) _ hi⟩, hst⟩ (by rw [q2]; exact h6) q1 q3 (by rw [hsl]; exact k2_hasslot (q4 k hk)) rfl rfl hdg fin
theorem r_putF (C : CX G p l s m meth c cc nL own) (hs : ST G R s h z H locs cells slots) (hin2 : meth.name = "<init>") {index ci k : Nat} {ty : FieldType} (hF : FLF own index ci k ty) {v : HV} (hn : narrow ty (hv_v v) = hv_v v) (hfit : fits ty (hv_v v) = true) (hdg : decode cc pc = .ok (.putfield index, 3)) {β : Type} {K : HH → Option β} {r : β} (hf : (pV G.2.2.1 h a ci k v).bind K = some r)
    (kk : ∀ (h1 : HH) (H1 : Heap) (locs1 : List Loc), K h1 = some r → ST G R s h1 z H1 locs1 cells slots → W p l e R s m args below meth c H1 locs1 cells slots Q (F0 m (pc + 3) ls rest)) : W p l e R s m args below meth c H locs cells slots Q (F0 m pc ls (hv_v v :: .ref a :: rest)) := by
  obtain ⟨h1, hp1, hf⟩ := bd hf
  obtain ⟨fs, ha, hkl, hba, rfl⟩ := pV_at hp1
  obtain ⟨hx, hb, -, hown, -, hG, hbs, -⟩ := C
  obtain ⟨hT, hK, -⟩ := hG.here hbs
  obtain ⟨r0, hc, cell, q1, q2, q3, q4⟩ : va_at G.1 ccl (a, .inr (ci, fs.map hv_v)) H := hs.1 a _ ha
  obtain ⟨Cn, T, N⟩ := r0
  obtain ⟨hk, hfin, hdecl, hd, hl⟩ := hF Cn T N hc
  have hin : ∀ w ∈ u_ws Cn T N, w ∈ (u_ws Cn T N) := fun w hw => hw
  have hts : ∀ w ∈ u_ws Cn T N, w.before args s = true := ws_ts hT hc
  have hap := va_apart (own := own) hts hin _ (ccl_ty _ (mem_ccl hc)) (ccl_nm _ (mem_ccl hc)) hK hc
  obtain ⟨hS, hfc, kC, hkC, hkind⟩ := hK.1 ci _ hc
  obtain ⟨cf, kf, fi, f, hi, hsl⟩ := hS k hk
  have hlay := hts _ (hin _ (u_in_lay hk))
  unfold u_lay at hlay
  rw [if_pos hfin] at hlay
  have hst := (u_facts hfc hkC (u_lays hts hin hk) hi).1
  have hcf : m.cls = cf := by
    obtain ⟨_, _, c', _, _, _, -, -, hf', -, -, -, hown2, -⟩ := Cond.laysFinal_spec hlay
    have e1 : c' = cf := by have := hi.symm.trans hf'; simp at this; exact this.1.symm
    rw [hdecl] at hown2
    rw [← e1]; exact Option.some.inj (hown.symm.trans hown2)
  have h6 := u_fits hfc hkC hkind (Or.inr hlay) hi hd hn hfit
  refine W.putFinK hx hb hown (hT.use hl rfl) hi hst hcf hin2 (by rw [q2]; exact h6) q1 q3 (by rw [hsl]; exact k2_hasslot (q4 k hk)) rfl rfl hdg fun H' e1 e2 e3 => ?_
  refine kk _ H' _ hf (hs.put e2 e3 hba ?_)
  show va_at G.1 ccl (a, .inr (ci, (fs.set k v).map hv_v)) H'
  rw [hv_set]
  rw [hsl] at e1
  exact ⟨_, hc, t_OB.to (V := updV (vp_V (fs.map hv_v)) k (hv_v v)) ⟨_, e1, q2, q3, t_set q4 hap hk (hv_v v)⟩ (fun j _ => vp_updV_set (by rw [List.length_map]; exact hkl) (hv_v v) j)⟩
theorem r_iald (C : CX G p l s m meth c cc nL own) (hs : ST G R s h z H locs cells slots) {i : Int32} (hdg : decode cc pc = .ok (.iaload, 1)) {β : Type} {K : Int32 → Option β} {r : β} (hf : (aI h a 0 i).bind K = some r)
    (kk : ∀ v, K v = some r → W p l e R s m args below meth c H locs cells slots Q (F0 m (pc + 1) ls (.int v :: rest))) : W p l e R s m args below meth c H locs cells slots Q (F0 m pc ls (.int i :: .ref a :: rest)) := by
  obtain ⟨v, h1, hf⟩ := bd hf
  obtain ⟨n, f, ha, hin, rfl⟩ := aI_at h1
  obtain ⟨hx, hb, -, hown, -, hG, hbs, -⟩ := C
  obtain ⟨hT, hK, -⟩ := hG.here hbs
  exact va_iald hx hb hK (vP1 (hs.1 a _ ha).2) 0 0 rfl (tyl_at (by decide)) hin hdg (kk _ hf)
theorem r_zald (C : CX G p l s m meth c cc nL own) (hs : ST G R s h z H locs cells slots) {i : Int32} (hdg : decode cc pc = .ok (.baload, 1)) {β : Type} {K : Int32 → Option β} {r : β} (hf : (aI h a 1 i).bind K = some r)
    (kk : ∀ v, K v = some r → W p l e R s m args below meth c H locs cells slots Q (F0 m (pc + 1) ls (.int v :: rest))) : W p l e R s m args below meth c H locs cells slots Q (F0 m pc ls (.int i :: .ref a :: rest)) := by
  obtain ⟨v, h1, hf⟩ := bd hf
  obtain ⟨n, f, ha, hin, rfl⟩ := aI_at h1
  obtain ⟨hx, hb, -, hown, -, hG, hbs, -⟩ := C
  obtain ⟨hT, hK, -⟩ := hG.here hbs
  exact va_zald hx hb hK (vP1 (hs.1 a _ ha).2) 0 1 rfl (tyl_at (by decide)) hin hdg (kk _ hf)
theorem r_lald (C : CX G p l s m meth c cc nL own) (hs : ST G R s h z H locs cells slots) {i : Int32} (hdg : decode cc pc = .ok (.laload, 1)) {β : Type} {K : Int64 → Option β} {r : β} (hf : (aJ h a 2 i).bind K = some r)
    (kk : ∀ v, K v = some r → W p l e R s m args below meth c H locs cells slots Q (F0 m (pc + 1) ls (.long v :: rest))) : W p l e R s m args below meth c H locs cells slots Q (F0 m pc ls (.int i :: .ref a :: rest)) := by
  obtain ⟨v, h1, hf⟩ := bd hf
  obtain ⟨n, f, ha, hin, rfl⟩ := aJ_at h1
  obtain ⟨hx, hb, -, hown, -, hG, hbs, -⟩ := C
  obtain ⟨hT, hK, -⟩ := hG.here hbs
  exact va_lald hx hb hK (vP1 (hs.1 a _ ha).2) 0 2 rfl (tyl_at (by decide)) hin hdg (kk _ hf)
theorem r_aaldQ (C : CX G p l s m meth c cc nL own) (hs : ST G R s h z H locs cells slots) {i : Int32} {kd : Nat} (hkd : 3 ≤ kd) (hdg : decode cc pc = .ok (.aaload, 1)) {x : Option Nat} (hf : aQ h a kd i = some x)
    (kk : W p l e R s m args below meth c H locs cells slots Q (F0 m (pc + 1) ls (va_rf x :: rest))) : W p l e R s m args below meth c H locs cells slots Q (F0 m pc ls (.int i :: .ref a :: rest)) := by
  obtain ⟨n, f, ha, hin, rfl⟩ := aQ_at hf
  obtain ⟨hx, hb, -, hown, -, hG, hbs, -⟩ := C
  obtain ⟨hT, hK, -⟩ := hG.here hbs
  have h7 : kd < 7 := (hs.1 a _ ha).1
  obtain ⟨Cn, hCn⟩ : ∃ Cn, tyk kd = .object Cn := by
    rcases (show kd = 3 ∨ kd = 4 ∨ kd = 5 ∨ kd = 6 by omega) with rfl | rfl | rfl | rfl <;> exact ⟨_, rfl⟩
  exact va_aldq hx hb hK (vP1 (hs.1 a _ ha).2) 0 kd rfl (by rw [tyl_at h7, hCn]) hin hdg kk
theorem r_aald (C : CX G p l s m meth c cc nL own) (hs : ST G R s h z H locs cells slots) {i : Int32} {kd : Nat} (hkd : 3 ≤ kd) (hdg : decode cc pc = .ok (.aaload, 1)) {β : Type} {K : Nat → Option β} {r : β} (hf : (aR h a kd i).bind K = some r)
    (kk : ∀ v, K v = some r → W p l e R s m args below meth c H locs cells slots Q (F0 m (pc + 1) ls (.ref v :: rest))) : W p l e R s m args below meth c H locs cells slots Q (F0 m pc ls (.int i :: .ref a :: rest)) := by
  obtain ⟨v, h1, hf⟩ := bd hf
  exact r_aaldQ C hs hkd hdg (aR_at h1) (kk v hf)
theorem r_alen (C : CX G p l s m meth c cc nL own) (hs : ST G R s h z H locs cells slots) (hdg : decode cc pc = .ok (.arraylength, 1)) {β : Type} {K : Int32 → Option β} {r : β} (hf : (aN h a).bind K = some r)
    (kk : ∀ v, K v = some r → W p l e R s m args below meth c H locs cells slots Q (F0 m (pc + 1) ls (.int v :: rest))) : W p l e R s m args below meth c H locs cells slots Q (F0 m pc ls (.ref a :: rest)) := by
  obtain ⟨v, h1, hf⟩ := bd hf
  obtain ⟨k, n, f, ha, rfl⟩ := aN_at h1
  obtain ⟨hx, hb, -, hown, -, hG, hbs, -⟩ := C
  obtain ⟨hT, hK, -⟩ := hG.here hbs
  have h9 := hs.1 a _ ha
  refine va_alen hx hb hK (vP1 h9.2) 0 k rfl (tyl_at h9.1) ?_ hdg (kk _ hf)
  rcases f with f | f | f <;> rfl
end RW2
end
section
def dflV (ty : FieldType) : HV := match ty with
  | .object _ => .inr none
  | .array _ => .inr none
  | _ => .inl 0
def dfl (ci : Nat) : List HV := match ccl[ci]? with
  | some q => (List.range q.2.2).map (fun k => dflV ((parseFieldDescriptor (q.2.1 k).2.2.1).getD .int))
  | none => []
theorem dfl_ok : ∀ q ∈ ccl, ∀ k, k < q.2.2 → defaultValue ((parseFieldDescriptor (q.2.1 k).2.2.1).getD .int) = hv_v (dflV ((parseFieldDescriptor (q.2.1 k).2.2.1).getD .int)) := by
  have h1 : ∀ q ∈ ccl, ∀ k, k < q.2.2 → ((parseFieldDescriptor (q.2.1 k).2.2.1).getD .int) = .int ∨ (∃ n, ((parseFieldDescriptor (q.2.1 k).2.2.1).getD .int) = .object n) ∨ ∃ n, ((parseFieldDescriptor (q.2.1 k).2.2.1).getD .int) = .array n := by
    intro q hq k hk
    have h2 : ((parseFieldDescriptor (q.2.1 k).2.2.1).getD .int) ∈ [FieldType.int, .object "java/util/ArrayList", .array .int, .array .boolean, .array (.object "java/lang/Object"), .array (.object "FencedBroker$Log"), .array (.object "FencedBroker$Producer"), .array (.object "FencedBroker$Group")] := by
      revert q k
      decide +kernel
    simp only [List.mem_cons, List.not_mem_nil, or_false] at h2
    rcases h2 with h | h | h | h | h | h | h | h
    · exact Or.inl h
    · exact Or.inr (Or.inl ⟨_, h⟩)
    all_goals exact Or.inr (Or.inr ⟨_, h⟩)
  intro q hq k hk
  rcases h1 q hq k hk with h | ⟨n, h⟩ | ⟨n, h⟩ <;> rw [h] <;> rfl
section RW3
variable {G : EN} {p : Program} {l : Launch} {e : Env} {R : Room} {s : State} {m : MethodId} {args : Array Value} {below : List Frame} {meth : Method} {c : Code} {H : Heap} {locs : List Loc} {cells slots : Nat} {Q : State → Prop}
variable {cc : ByteArray} {pc nL : Nat} {own : String} {ls : Array Slot} {rest : List Value} {h : HH} {z : Z3} {a : Nat}
/-- room for one cell of N slots -/
def nO (z : Z3) (N : Nat) : Option Unit := if 1 ≤ z.2.1 ∧ N ≤ z.2.2 then some () else none
def nZ (z : Z3) (N : Nat) : Z3 := (z.1 + 1, z.2.1 - 1, z.2.2 - N)
theorem nO_at {z : Z3} {N : Nat} {u : Unit} (h : nO z N = some u) : 1 ≤ z.2.1 ∧ N ≤ z.2.2 := by
  unfold nO at h
  split at h
  · assumption
  · cases h
theorem ST.new {H1 : Heap} {x : HC} {N N0 : Nat} (hs : ST G R s h z H locs cells slots) (hN : N0 ≤ N) (hz : 1 ≤ z.2.1 ∧ N ≤ z.2.2) (z1 : H1.size = H.size + 1) (oq : ∀ q : Nat, q < H.size → H1[q]? = H[q]?) (hc : hp_at G z.1 x H1) : ST G R s (va_up h z.1 (some x)) (nZ z N) H1 locs (cells + 1) (slots + N0) := by
  obtain ⟨h1, h2, h3, h4, h5⟩ := hs
  refine ⟨h1.push h2 (fun q hq => oq q (by omega)) hc, by show H1.size = z.1 + 1; omega, ⟨by rw [z1]; exact Nat.le_trans h3.1 (Nat.le_succ _), fun q hq hA => ?_, h3.2.2⟩, by show cells + 1 + (z.2.1 - 1) ≤ _; omega, by show slots + N0 + (z.2.2 - N) ≤ _; omega⟩
  rw [oq q (Nat.lt_of_lt_of_le hq h3.1)]
  exact h3.2.1 q hq hA
theorem r_iast (C : CX G p l s m meth c cc nL own) (hs : ST G R s h z H locs cells slots) {i x : Int32} (hdg : decode cc pc = .ok (.iastore, 1)) {β : Type} {K : HH → Option β} {r : β} (hf : (aIs G.2.2.1 h a 0 i x).bind K = some r)
    (kk : ∀ (h1 : HH) (H1 : Heap) (locs1 : List Loc), K h1 = some r → ST G R s h1 z H1 locs1 cells slots → W p l e R s m args below meth c H1 locs1 cells slots Q (F0 m (pc + 1) ls rest)) : W p l e R s m args below meth c H locs cells slots Q (F0 m pc ls (.int x :: .int i :: .ref a :: rest)) := by
  obtain ⟨v, h1, hf⟩ := bd hf
  obtain ⟨n, f, ha, hin, hba, rfl⟩ := aIs_at h1
  obtain ⟨hx, hb, -, hown, -, hG, hbs, -⟩ := C
  obtain ⟨hT, hK, -⟩ := hG.here hbs
  refine W.iast hx hb (hs.1 a _ ha).2 ((hK.2 0 _ (tyl_at (by decide))).1 n (fun j => .int (f j))) (fun q => by cases q) (by show ¬ (i < 0 ∨ (arrV _ _ _).slots.size ≤ _); rw [arrV_size]; exact hin) rfl rfl hdg fun H1 e1 z1 oq => ?_
  refine kk _ H1 _ hf (hs.put z1 oq hba ⟨by decide, ?_⟩)
  show H1[a]? = some (vp_cell (G.2.1 0) (n, .inl (upd f i.toNatClampNeg x)))
  rw [e1]
  show some ((vp_cell (G.2.1 0) (n, .inl f)).setSlot _ _) = _
  rw [vp_cell_i, vp_cell_i, arrV_store]
  congr 2
  funext q
  by_cases hq : q = i.toNatClampNeg
  · subst hq
    simp [updV, upd]
  · simp [updV, upd, hq]
theorem r_zast (C : CX G p l s m meth c cc nL own) (hs : ST G R s h z H locs cells slots) {i x : Int32} (hdg : decode cc pc = .ok (.bastore, 1)) {β : Type} {K : HH → Option β} {r : β} (hf : (aIs G.2.2.1 h a 1 i (vp_nar .boolean x)).bind K = some r)
    (kk : ∀ (h1 : HH) (H1 : Heap) (locs1 : List Loc), K h1 = some r → ST G R s h1 z H1 locs1 cells slots → W p l e R s m args below meth c H1 locs1 cells slots Q (F0 m (pc + 1) ls rest)) : W p l e R s m args below meth c H locs cells slots Q (F0 m pc ls (.int x :: .int i :: .ref a :: rest)) := by
  obtain ⟨v, h1, hf⟩ := bd hf
  obtain ⟨n, f, ha, hin, hba, rfl⟩ := aIs_at h1
  obtain ⟨hx, hb, -, hown, -, hG, hbs, -⟩ := C
  obtain ⟨hT, hK, -⟩ := hG.here hbs
  refine W.zast hx hb (hs.1 a _ ha).2 ((hK.2 1 _ (tyl_at (by decide))).1 n (fun j => .int (f j))) (fun q => by cases q) (by show ¬ (i < 0 ∨ (arrV _ _ _).slots.size ≤ _); rw [arrV_size]; exact hin) rfl rfl hdg fun H1 e1 z1 oq => ?_
  refine kk _ H1 _ hf (hs.put z1 oq hba ⟨by decide, ?_⟩)
  show H1[a]? = some (vp_cell (G.2.1 1) (n, .inl (upd f i.toNatClampNeg (vp_nar .boolean x))))
  rw [e1]
  show some ((vp_cell (G.2.1 1) (n, .inl f)).setSlot _ _) = _
  rw [vp_cell_i, vp_cell_i, arrV_store]
  congr 2
  funext q
  by_cases hq : q = i.toNatClampNeg
  · subst hq
    simp [updV, upd, vp_nar]
    try rfl
  · simp [updV, upd, hq]
theorem r_last (C : CX G p l s m meth c cc nL own) (hs : ST G R s h z H locs cells slots) {i : Int32} {x : Int64} (hdg : decode cc pc = .ok (.lastore, 1)) {β : Type} {K : HH → Option β} {r : β} (hf : (aJs G.2.2.1 h a 2 i x).bind K = some r)
    (kk : ∀ (h1 : HH) (H1 : Heap) (locs1 : List Loc), K h1 = some r → ST G R s h1 z H1 locs1 cells slots → W p l e R s m args below meth c H1 locs1 cells slots Q (F0 m (pc + 1) ls rest)) : W p l e R s m args below meth c H locs cells slots Q (F0 m pc ls (.long x :: .int i :: .ref a :: rest)) := by
  obtain ⟨v, h1, hf⟩ := bd hf
  obtain ⟨n, f, ha, hin, hba, rfl⟩ := aJs_at h1
  obtain ⟨hx, hb, -, hown, -, hG, hbs, -⟩ := C
  obtain ⟨hT, hK, -⟩ := hG.here hbs
  refine W.last hx hb (hs.1 a _ ha).2 ((hK.2 2 _ (tyl_at (by decide))).1 n (fun j => .long (f j))) (fun q => by cases q) (by show ¬ (i < 0 ∨ (arrV _ _ _).slots.size ≤ _); rw [arrV_size]; exact hin) rfl rfl hdg fun H1 e1 z1 oq => ?_
  refine kk _ H1 _ hf (hs.put z1 oq hba ⟨by decide, ?_⟩)
  show H1[a]? = some (vp_cell (G.2.1 2) (n, .inr (.inl (vp_updL f i.toNatClampNeg x))))
  rw [e1]
  show some ((vp_cell (G.2.1 2) (n, .inr (.inl f))).setSlot _ _) = _
  rw [vp_cell_l, vp_cell_l, arrV_store]
  congr 2
  funext q
  by_cases hq : q = i.toNatClampNeg
  · subst hq
    simp [updV, vp_updL]
  · simp [updV, vp_updL, hq]
theorem aQs_cell {n : Nat} {f : Nat → Option Nat} {H1 : Heap} {cA : ClassId} {i : Int32} {x : Option Nat} (e1 : H1[a]? = some ((vp_cell cA (n, .inr (.inr (.inr (.inr f))))).setSlot i.toNatClampNeg (va_rf x))) : H1[a]? = some (vp_cell cA (n, .inr (.inr (.inr (.inr (va_up f i.toNatClampNeg x)))))) := by
  rw [e1, vp_cell_q, vp_cell_q, arrV_store]
  congr 2
  funext q
  by_cases hq : q = i.toNatClampNeg
  · subst hq
    simp [updV, va_up]
  · simp [updV, va_up, hq]
/-- a reference is put into an array of references: the value's class ci, castable to the array's -/
theorem r_aast (C : CX G p l s m meth c cc nL own) (hs : ST G R s h z H locs cells slots) {i : Int32} {kd ci v : Nat} {E Cn : String} {T : u_T} {N : Nat} (hE : tyk kd = .object E) (hc : ccl[ci]? = some (Cn, T, N)) (hca : Cn = E ∨ Cond.castable Cn E ∈ lw_tbl) (hdg : decode cc pc = .ok (.aastore, 1)) {β : Type} {K : HH → Option β} {r : β} (hf : ((oK h v ci).bind fun _ => (aQs G.2.2.1 h a kd i (some v)).bind K) = some r)
    (kk : ∀ (h1 : HH) (H1 : Heap) (locs1 : List Loc), K h1 = some r → ST G R s h1 z H1 locs1 cells slots → W p l e R s m args below meth c H1 locs1 cells slots Q (F0 m (pc + 1) ls rest)) : W p l e R s m args below meth c H locs cells slots Q (F0 m pc ls (.ref v :: .int i :: .ref a :: rest)) := by
  obtain ⟨u, h0, hf⟩ := bd hf
  obtain ⟨h2, h1, hf⟩ := bd hf
  obtain ⟨fs, hv⟩ := oK_at h0
  obtain ⟨n, f, ha, hin, hba, rfl⟩ := aQs_at h1
  obtain ⟨hx, hb, -, hown, -, hG, hbs, -⟩ := C
  obtain ⟨hT, hK, -⟩ := hG.here hbs
  have h7 : kd < 7 := (hs.1 a _ ha).1
  have hlt : i.toNatClampNeg < n := Nat.not_le.mp fun q => hin (Or.inr q)
  have h0 : ¬ i < 0 := fun q => hin (Or.inl q)
  obtain ⟨r', hr', cellV, g1, g2, g3, -⟩ : va_at G.1 ccl (v, .inr (ci, fs.map hv_v)) H := hs.1 v _ hv
  have hcls := (hK.1 ci _ hc).2
  have ht := tyl_at (G := G) h7
  rw [hE] at ht
  obtain ⟨kA, comp, k1, k2, k3, -⟩ := (hK.2 kd _ ht).2
  obtain ⟨kE, hkE, -⟩ := Vm.findClass_spec k3
  obtain ⟨kC, hkC, -⟩ := hcls.2
  have hasg : s.vm.assignable (G.1.1 ci) comp = true := by
    rcases hca with e1 | hca
    · subst e1
      have : comp = G.1.1 ci := Option.some.inj (k3.symm.trans hcls.1)
      rw [this]
      exact va_assign hcls
    · obtain ⟨c0, t1, f1, f2, f3⟩ := Cond.castable_spec (hT.use (args := args) hca rfl)
      cases hcls.1.symm.trans f1
      cases k3.symm.trans f2
      exact f3
  refine W.aast hx hb (hs.1 a _ ha).2 (fun q h => by cases h) (fun h => by cases h) k1 k2 rfl hkE ⟨h0, by show _ < (arrV _ _ _).slots.size; rw [arrV_size]; exact hlt⟩ g1 (fun q h => by rw [g3] at h; cases h) (by rw [g2]; exact hkC) (by rw [g2]; exact hasg) rfl rfl hdg fun H1 e1 z1 oq => ?_
  exact kk _ H1 _ hf (hs.put z1 oq hba ⟨h7, aQs_cell (x := some v) e1⟩)
theorem r_aastN (C : CX G p l s m meth c cc nL own) (hs : ST G R s h z H locs cells slots) {i : Int32} {kd : Nat} {E : String} (hE : tyk kd = .object E) (hdg : decode cc pc = .ok (.aastore, 1)) {β : Type} {K : HH → Option β} {r : β} (hf : (aQs G.2.2.1 h a kd i none).bind K = some r)
    (kk : ∀ (h1 : HH) (H1 : Heap) (locs1 : List Loc), K h1 = some r → ST G R s h1 z H1 locs1 cells slots → W p l e R s m args below meth c H1 locs1 cells slots Q (F0 m (pc + 1) ls rest)) : W p l e R s m args below meth c H locs cells slots Q (F0 m pc ls (.null :: .int i :: .ref a :: rest)) := by
  obtain ⟨h2, h1, hf⟩ := bd hf
  obtain ⟨n, f, ha, hin, hba, rfl⟩ := aQs_at h1
  obtain ⟨hx, hb, -, hown, -, hG, hbs, -⟩ := C
  obtain ⟨hT, hK, -⟩ := hG.here hbs
  have h7 : kd < 7 := (hs.1 a _ ha).1
  have ht := tyl_at (G := G) h7
  rw [hE] at ht
  refine va_WaastN (C := E) hx hb (hs.1 a _ ha).2 ((hK.2 kd _ ht).1 n (fun j => va_rf (f j))) (fun h => by cases h) (by show ¬ (i < 0 ∨ (arrV _ _ _).slots.size ≤ _); rw [arrV_size]; exact hin) rfl rfl hdg fun H1 e1 z1 oq => ?_
  exact kk _ H1 _ hf (hs.put z1 oq hba ⟨h7, aQs_cell (x := none) e1⟩)
theorem r_new (C : CX G p l s m meth c cc nL own) (hs : ST G R s h z H locs cells slots) {index ci : Nat} {Cn : String} {T : u_T} {N : Nat} (hc : ccl[ci]? = some (Cn, T, N)) (hl : Cond.classLink own index Cn ∈ lw_tbl) (hi : Cond.instantiable Cn N ∈ lw_tbl) (hi2 : Cond.initialized Cn ∈ lw_tbl) (hdg : decode cc pc = .ok (.new index, 3)) {β : Type} {K : Unit → Option β} {r : β} (hf : (nO z N).bind K = some r)
    (kk : ∀ (H1 : Heap), K () = some r → ST G R s (va_up h z.1 (some (.inl (ci, dfl ci)))) (nZ z N) H1 locs (cells + 1) (slots + N) → W p l e R s m args below meth c H1 locs (cells + 1) (slots + N) Q (F0 m (pc + 3) ls (.ref z.1 :: rest))) : W p l e R s m args below meth c H locs cells slots Q (F0 m pc ls rest) := by
  obtain ⟨u, h0, hf⟩ := bd hf
  have hz := nO_at h0
  obtain ⟨hx, hb, -, hown, -, hG, hbs, -⟩ := C
  obtain ⟨hT, hK, -⟩ := hG.here hbs
  have hin : ∀ w ∈ u_ws Cn T N, w ∈ (u_ws Cn T N) := fun w hw => hw
  have hts : ∀ w ∈ u_ws Cn T N, w.before args s = true := ws_ts hT hc
  have hKn := hK.1 ci _ hc
  have hr1 := hs.2.2.2.1
  have hr2 := hs.2.2.2.2
  refine W.newcK hx hb hown (hT.use hl rfl) (hT.use hi rfl) (hT.use hi2 rfl) rfl hdg (by omega) (by omega) hKn.2.1 hs.2.1 fun H1 kC hkC e1 z1 o1 => ?_
  refine kk H1 hf (hs.new (Nat.le_refl N) hz (by rw [z1, hs.2.1]) (fun q hq => o1 q (by rw [← hs.2.1]; exact hq)) ?_)
  show va_at G.1 ccl (z.1, .inr (ci, (dfl ci).map hv_v)) H1
  refine ⟨_, hc, (u_born _ hts hin hKn hkC e1 (ccl_ty _ (mem_ccl hc))).to ?_⟩
  intro j hj
  show _ = vp_V ((dfl ci).map hv_v) j
  have hj' : j < N := hj
  rw [dfl_ok _ (mem_ccl hc) j hj]
  simp [vp_V, dfl, hc, hj']
/-- the length of a new array is a number that the room allows; NB: a bound of it -/
def nA (n : Int32) (NB : Nat) : Option Unit := if ¬ n < 0 ∧ n.toNatClampNeg ≤ NB ∧ NB ≤ 5000 then some () else none
theorem nA_at {n : Int32} {NB : Nat} {u : Unit} (h : nA n NB = some u) : ¬ n < 0 ∧ n.toNatClampNeg ≤ NB ∧ NB ≤ 5000 := by
  unfold nA at h
  split at h
  · assumption
  · cases h
theorem r_newa (C : CX G p l s m meth c cc nL own) (hs : ST G R s h z H locs cells slots) {atype : ArrayType} {kd : Nat} (hk : kd < 2) (hty : newarray.typeOf atype = tyk kd) (hl : Cond.arrayClass (newarray.typeOf atype) ∈ lw_tbl) {n : Int32} {NB : Nat} (hdg : decode cc pc = .ok (.newarray atype, 2)) {β : Type} {K : Unit → Option β} {r : β} (hf : ((nA n NB).bind fun _ => (nO z NB).bind K) = some r)
    (kk : ∀ (H1 : Heap) (slots1 : Nat), K () = some r → ST G R s (va_up h z.1 (some (.inr (kd, n.toNatClampNeg, .inl (fun _ => 0))))) (nZ z NB) H1 locs (cells + 1) slots1 → W p l e R s m args below meth c H1 locs (cells + 1) slots1 Q (F0 m (pc + 2) ls (.ref z.1 :: rest))) : W p l e R s m args below meth c H locs cells slots Q (F0 m pc ls (.int n :: rest)) := by
  obtain ⟨u, h0, hf⟩ := bd hf
  obtain ⟨u2, h00, hf⟩ := bd hf
  have hz := nO_at h00
  obtain ⟨hn0, hnb, hb5⟩ := nA_at h0
  obtain ⟨hx, hb, -, hown, -, hG, hbs, -⟩ := C
  obtain ⟨hT, hK, -⟩ := hG.here hbs
  have hr1 := hs.2.2.2.1
  have hr2 := hs.2.2.2.2
  have h7 : kd < 7 := by omega
  have hcb : componentBytes (newarray.typeOf atype) ≤ 8 := by rw [hty]; rcases (show kd = 0 ∨ kd = 1 by omega) with rfl | rfl <;> decide
  have hbytes : n.toNatClampNeg * componentBytes (newarray.typeOf atype) ≤ 536870912 := Nat.le_trans (Nat.mul_le_mul (Nat.le_trans hnb hb5) hcb) (by decide)
  refine va_newaK hx hb (hT.use hl rfl) rfl hdg rfl hn0 rfl hbytes (by omega) (by omega) hs.2.1 fun H1 cA e1 z1 o1 hAr hNm => ?_
  have hcA : cA = G.2.1 kd := by
    have h9 := (hK.2 kd _ (tyl_at h7)).2
    rw [hty] at hNm
    rcases (show kd = 0 ∨ kd = 1 by omega) with rfl | rfl
    · exact Option.some.inj (hNm.symm.trans h9)
    · exact Option.some.inj (hNm.symm.trans h9)
  subst hcA
  refine kk H1 _ hf (hs.new hnb hz (by rw [z1, hs.2.1]) (fun q hq => o1 q (by rw [← hs.2.1]; exact hq)) ⟨h7, ?_⟩)
  show H1[z.1]? = some (vp_cell _ (_, .inl _))
  rw [e1, vp_cell_i, hty]
  rcases (show kd = 0 ∨ kd = 1 by omega) with rfl | rfl <;> rfl
theorem r_newl (C : CX G p l s m meth c cc nL own) (hs : ST G R s h z H locs cells slots) {atype : ArrayType} (hty : newarray.typeOf atype = .long) (hl : Cond.arrayClass (newarray.typeOf atype) ∈ lw_tbl) {n : Int32} {NB : Nat} (hdg : decode cc pc = .ok (.newarray atype, 2)) {β : Type} {K : Unit → Option β} {r : β} (hf : ((nA n NB).bind fun _ => (nO z NB).bind K) = some r)
    (kk : ∀ (H1 : Heap) (slots1 : Nat), K () = some r → ST G R s (va_up h z.1 (some (.inr (2, n.toNatClampNeg, .inr (.inl (fun _ => 0)))))) (nZ z NB) H1 locs (cells + 1) slots1 → W p l e R s m args below meth c H1 locs (cells + 1) slots1 Q (F0 m (pc + 2) ls (.ref z.1 :: rest))) : W p l e R s m args below meth c H locs cells slots Q (F0 m pc ls (.int n :: rest)) := by
  obtain ⟨u, h0, hf⟩ := bd hf
  obtain ⟨u2, h00, hf⟩ := bd hf
  have hz := nO_at h00
  obtain ⟨hn0, hnb, hb5⟩ := nA_at h0
  obtain ⟨hx, hb, -, hown, -, hG, hbs, -⟩ := C
  obtain ⟨hT, hK, -⟩ := hG.here hbs
  have hr1 := hs.2.2.2.1
  have hr2 := hs.2.2.2.2
  have hcb : componentBytes (newarray.typeOf atype) ≤ 8 := by rw [hty]; decide
  have hbytes : n.toNatClampNeg * componentBytes (newarray.typeOf atype) ≤ 536870912 := Nat.le_trans (Nat.mul_le_mul (Nat.le_trans hnb hb5) hcb) (by decide)
  refine va_newaK hx hb (hT.use hl rfl) rfl hdg rfl hn0 rfl hbytes (by omega) (by omega) hs.2.1 fun H1 cA e1 z1 o1 hAr hNm => ?_
  have hcA : cA = G.2.1 2 := by
    have h9 : va_RA s (G.2.1 2) .long := (hK.2 2 _ (tyl_at (by decide))).2
    rw [hty] at hNm
    exact Option.some.inj (hNm.symm.trans h9)
  subst hcA
  refine kk H1 _ hf (hs.new hnb hz (by rw [z1, hs.2.1]) (fun q hq => o1 q (by rw [← hs.2.1]; exact hq)) ⟨by decide, ?_⟩)
  have hd : ∀ j : Nat, defaultValue .long = Value.long ((fun _ : Nat => (0 : Int64)) j) := fun j => by simp only [defaultValue]
  rw [hty, funext hd] at e1
  show H1[z.1]? = some (vp_cell _ (_, .inr (.inl _)))
  rw [vp_cell_l]
  exact e1
theorem r_anew (C : CX G p l s m meth c cc nL own) (hs : ST G R s h z H locs cells slots) {kd index : Nat} {E : String} (hE : tyk kd = .object E) (h7 : kd < 7) (hl : Cond.classLink own index E ∈ lw_tbl) (hl2 : Cond.arrayOver (.object E) ∈ lw_tbl) {n : Int32} {NB : Nat} (hdg : decode cc pc = .ok (.anewarray index, 3)) {β : Type} {K : Unit → Option β} {r : β} (hf : ((nA n NB).bind fun _ => (nO z NB).bind K) = some r)
    (kk : ∀ (H1 : Heap) (slots1 : Nat), K () = some r → ST G R s (va_up h z.1 (some (.inr (kd, n.toNatClampNeg, .inr (.inr (fun _ => none)))))) (nZ z NB) H1 locs (cells + 1) slots1 → W p l e R s m args below meth c H1 locs (cells + 1) slots1 Q (F0 m (pc + 3) ls (.ref z.1 :: rest))) : W p l e R s m args below meth c H locs cells slots Q (F0 m pc ls (.int n :: rest)) := by
  obtain ⟨u, h0, hf⟩ := bd hf
  obtain ⟨u2, h00, hf⟩ := bd hf
  have hz := nO_at h00
  obtain ⟨hn0, hnb, hb5⟩ := nA_at h0
  obtain ⟨hx, hb, -, hown, -, hG, hbs, -⟩ := C
  obtain ⟨hT, hK, -⟩ := hG.here hbs
  have hr1 := hs.2.2.2.1
  have hr2 := hs.2.2.2.2
  refine W.anew hx hb hown (hT.use hl rfl) (hT.use hl2 rfl) rfl hdg rfl hn0 (Nat.le_trans (Nat.mul_le_mul (Nat.le_trans hnb hb5) (Nat.le_refl 4)) (by decide)) (by omega) (by omega) fun cA kA comp f1 f2 f3 f4 => ?_
  generalize hH1 : H.push ({ cls := cA, slots := Array.replicate n.toNatClampNeg .null, vm := .none } : Cell) = H1
  have z1 : H1.size = H.size + 1 := by rw [← hH1, Array.size_push]
  have e1 : H1[H.size]? = some (arrV cA n.toNatClampNeg (fun _ => .null)) := by rw [← hH1, Array.getElem?_push_size, ← arrV_new]
  have o1 : ∀ q : Nat, q < H.size → H1[q]? = H[q]? := fun q hq => by rw [← hH1, Array.getElem?_push, if_neg (Nat.ne_of_lt hq)]
  have hcA : cA = G.2.1 kd := by
    have ht := tyl_at (G := G) h7
    rw [hE] at ht
    obtain ⟨kA', comp', -, -, -, g4⟩ := (hK.2 kd _ ht).2
    exact Option.some.inj (f1.symm.trans g4)
  subst hcA
  rw [hs.2.1] at e1 ⊢
  refine kk H1 _ hf (hs.new hnb hz z1 o1 ⟨h7, ?_⟩)
  show H1[z.1]? = some (vp_cell _ (_, .inr (.inr (.inr (.inr _)))))
  rw [vp_cell_q]
  exact e1
end RW3
end
section
/-! A method's contract: from the heap h of size z it comes to 'res': what it answers or throws, the heap behind it. -/
abbrev RS : Type := (Option Value ⊕ String) × HH × Z3
def PQ (G : EN) (res : RS) (st : State) (o : Outcome) (t : State) : Prop := match res with
  | (.inl v, h1, z1) => o = .returned v ∧ HP G h1 t.heap ∧ t.heap.size = z1.1
  | (.inr E, h1, z1) => ∃ (q : Addr) (ce : Cell), o = .threw q ∧ HP G h1 t.heap ∧ z1.1 ≤ t.heap.size ∧ t.heap[q]? = some ce ∧ ce.vm = .none ∧ st.vm.findClass E = some ce.cls
def FE (st t : State) (L : List Loc) (k n : Nat) : Prop := st.WarmedH t.vm ∧ st.sameButNew ({ t with vm := st.vm } : State) L k n
def PRE (G : EN) (h : HH) (z : Z3) (U : State) : Prop := HP G h U.heap ∧ U.heap.size = z.1 ∧ GW G U ∧ G.2.2.1 ≤ U.heap.size
def PX (G : EN) (res : RS) (mc ms : Nat) (st : State) (o : Outcome) (t : State) : Prop := PQ G res st o t ∧ va_F (AG G) st t ∧ res.2.2.2.1 ≤ mc ∧ res.2.2.2.2 ≤ ms ∧ ∃ L, FE st t L (mc - res.2.2.2.1) (ms - res.2.2.2.2) ∧ ∀ q ∈ L, G.2.2.1 ≤ q.base
abbrev RM (fr lo : Nat) (z : Z3) : Room := { frames := fr, cells := z.2.1, slots := z.2.2, locals := lo }
def CM (G : EN) (l : Launch) (y : MethodName) (cd : Cond) (fr lo : Nat) (As : List Value) (h : HH) (z : Z3) (res : RS) : Prop :=
  MetFree l y (headSpec [cd] (RM fr lo z)) (fun a U => a = As.toArray ∧ PRE G h z U) (fun _ _ _ _ _ => True) (fun _ st o t => PX G res z.2.1 z.2.2 st o t)
def MX (G : EN) (below : List Frame) (s : State) (res : RS) (mc ms : Nat) : State → Prop := fun t => ∃ o, t.status = .running ∧ Ended t below o ∧ PX G res mc ms s o t
theorem CM.ofW {G : EN} {l : Launch} {y : MethodName} {cc : ByteArray} {maxL : Nat} {ret : Option FieldType} {fr lo : Nat} {As : List Value} {h : HH} {z : Z3} {res : RS} (hl : l.stackTraces = false) (hy : plainName y.cls = true)
    (body : ∀ (p : Program) (e : Env) (s : State) (m : MethodId) (below : List Frame) (meth : Method) (c : Code), CX G p l s m meth c cc maxL y.cls → meth.sig.returnType = ret → c.exceptionTable.toList = [] → meth.name = y.name → ST G (RM fr lo z) s h z s.heap [] 0 0 →
      W p l e (RM fr lo z) s m As.toArray below meth c s.heap [] 0 0 (MX G below s res z.2.1 z.2.2) (entryFrame m As.toArray maxL)) : CM G l y (.code y cc maxL ret) fr lo As h z res := by
  refine MetFree.of_bodyS (code := cc) (maxLocals := maxL) (ret := ret) hy ?_ ?_
  · intro args s m h hn
    obtain ⟨meth, c, h1, h2, h3, h4, h5, h6, -, -⟩ := Cond.code_spec hn (atoms_spec (ws := [.code y cc maxL ret]) h _ List.mem_cons_self)
    exact ⟨meth, c, h1, h2, h3, h4, h5, h6⟩
  · intro p e s m args below meth c s₁ B hml hP _
    obtain ⟨rfl, hh, hz, hG, hbs⟩ := hP
    have hcd : (Cond.code y cc maxL ret).before As.toArray s = true := atoms_spec (ws := [.code y cc maxL ret]) B.pre _ List.mem_cons_self
    have hh0 : s₁.heap = s.heap := by rw [B.state]; rfl
    have hml' : c.maxLocals = maxL := B.maxLocals_eq hcd
    have hex : c.exceptionTable.toList = [] := by
      have h1 := B.noHandlers hcd
      have h2 : c.exceptionTable = #[] := by simpa using h1
      rw [h2]
    have hown : s.vm.findClass y.cls = some m.cls := findClass_of_methodNamed B.named
    obtain ⟨t, a1, o, b1, b2, b3⟩ := body p e s m below meth c ⟨B.exec, B.bytes, hml', hown, B.notSynchronized, hG, hbs, hl⟩ B.returns hex (name_of_methodNamed B.named B.method).1 ⟨hh, hz, va_S.rf, by show 0 + z.2.1 ≤ z.2.1; omega, by show 0 + z.2.2 ≤ z.2.2; omega⟩ s₁ hh0 (Stand.of_body B)
    exact ⟨t, o, a1, b1, b2, b3⟩
section KO
variable {G : EN} {p : Program} {l : Launch} {e : Env} {R : Room} {s : State} {m : MethodId} {args : Array Value} {below : List Frame} {meth : Method} {c : Code} {U : State} {locs : List Loc} {cells slots : Nat}
/-- where a called method has come -/
def Out (G : EN) (p : Program) (l : Launch) (e : Env) (R : Room) (s : State) (m : MethodId) (args : Array Value) (below : List Frame) (meth : Method) (c : Code) (H : Heap) (locs : List Loc) (cells slots : Nat) (z : Z3) (res : RS) (T : State) (g : JFrame) (len : Nat) (rest : List Value) : Prop :=
  (∃ (v : Option Value) (h1 : HH) (z1 : Z3) (V : State) (L : List Loc), res = (.inl v, h1, z1) ∧ Stand p l e R s m args below meth c V (locs ++ L) (cells + (z.2.1 - z1.2.1)) (slots + (z.2.2 - z1.2.2)) ∧ z1.2.1 ≤ z.2.1 ∧ z1.2.2 ≤ z.2.2 ∧ (∀ q ∈ L, G.2.2.1 ≤ q.base) ∧ HP G h1 V.heap ∧ V.heap.size = z1.1 ∧ (H.size ≤ V.heap.size ∧ ∀ q : Nat, q < H.size → ¬ AG G q → V.heap[q]? = H[q]?) ∧
    ∀ tg, Steps p.tables e below (V.setTop { g with pc := g.pc + len, stack := v.toList ++ rest }) tg → Steps p.tables e below (T.setTop g) tg) ∨
  (∃ (E : String) (h1 : HH) (z1 : Z3) (V : State) (L : List Loc) (q : Addr) (ce : Cell), res = (.inr E, h1, z1) ∧ Stand p l e R s m args below meth c V (locs ++ L) (cells + (z.2.1 - z1.2.1)) (slots + (z.2.2 - z1.2.2)) ∧ z1.2.1 ≤ z.2.1 ∧ z1.2.2 ≤ z.2.2 ∧ (∀ q ∈ L, G.2.2.1 ≤ q.base) ∧ HP G h1 V.heap ∧ z1.1 ≤ V.heap.size ∧ (H.size ≤ V.heap.size ∧ ∀ q : Nat, q < H.size → ¬ AG G q → V.heap[q]? = H[q]?) ∧
    V.heap[q]? = some ce ∧ ce.vm = .none ∧ s.vm.findClass E = some ce.cls ∧ Steps p.tables e below (T.setTop g) ((V.setTop { g with stack := rest }).pushFrame (.throwing q)))
theorem ko_out {y : MethodName} {cd : Cond} {fr lo : Nat} {As : List Value} {h : HH} {z : Z3} {res : RS} (hM : CM G l y cd fr lo As h z res) (X : Stand p l e R s m args below meth c U locs cells slots) {g : JFrame} (hg : g.method = m) (hsize : g.locals.size = c.maxLocals) {ig : Instr} {len : Nat} (hdg : decode c.code g.pc = .ok (ig, len))
    (hW : 2 * g.monitorRoom + (g.stack.map fun v => v.category).sum ≤ 8) {mk : MethodId} (hn : U.methodNamed? y = some mk) {maxL : Nat} (hcd : cd.before As.toArray U = true) (hY : ∃ methY cY, U.vm.method? mk = some methY ∧ methY.code = some cY ∧ cY.maxLocals = maxL) (hini : (Cond.initialized y.cls).before As.toArray U = true)
    (hframes : fr + 1 ≤ R.frames) (hlocals : 8 + (maxL + 11) + lo ≤ R.locals) (hcells : cells + z.2.1 ≤ R.cells) (hslots : slots + z.2.2 ≤ R.slots) (hP : PRE G h z U) :
    (∃ (v : Option Value) (h1 : HH) (z1 : Z3) (V : State) (L : List Loc), res = (.inl v, h1, z1) ∧ Stand p l e R s m args below meth c V (locs ++ L) (cells + (z.2.1 - z1.2.1)) (slots + (z.2.2 - z1.2.2)) ∧ z1.2.1 ≤ z.2.1 ∧ z1.2.2 ≤ z.2.2 ∧ (∀ q ∈ L, G.2.2.1 ≤ q.base) ∧ HP G h1 V.heap ∧ V.heap.size = z1.1 ∧ va_F (AG G) U V ∧
      Steps p.tables e below (doInvoke e (U.setTop g) [] mk As.toArray).1 (V.setTop { g with pc := g.pc + len, stack := v.toList ++ g.stack })) ∨
    (∃ (E : String) (h1 : HH) (z1 : Z3) (V : State) (L : List Loc) (q : Addr) (ce : Cell), res = (.inr E, h1, z1) ∧ Stand p l e R s m args below meth c V (locs ++ L) (cells + (z.2.1 - z1.2.1)) (slots + (z.2.2 - z1.2.2)) ∧ z1.2.1 ≤ z.2.1 ∧ z1.2.2 ≤ z.2.2 ∧ (∀ q ∈ L, G.2.2.1 ≤ q.base) ∧ HP G h1 V.heap ∧ z1.1 ≤ V.heap.size ∧ va_F (AG G) U V ∧
      V.heap[q]? = some ce ∧ ce.vm = .none ∧ U.vm.findClass E = some ce.cls ∧ Steps p.tables e below (doInvoke e (U.setTop g) [] mk As.toArray).1 ((V.setTop g).pushFrame (.throwing q))) := by
  obtain ⟨methY, cY, hmY, hcY, hlY⟩ := hY
  obtain ⟨kY, hkY, -⟩ := className_of_methodNamed hn
  have hinitY : kY.init = .initialized := Cond.initialized_spec (findClass_of_methodNamed hn) hkY hini
  have hat : At U g.method c below := by rw [hg]; exact X.here
  have hpre : (headSpec [cd] (RM fr lo z)).pre.before As.toArray U = true := atoms_intro fun w hw => by
    rw [List.mem_singleton.mp hw]
    exact hcd
  have happ : (headSpec [cd] (RM fr lo z)).appliesLoose y e.platform (U.calling g mk As.toArray) = true :=
    Spec.appliesLoose_calling (g := g) hat hdg hn hkY hinitY
      (X.room_calling (g := g) (R' := (headSpec [cd] (RM fr lo z)).room) hsize hmY hcY hframes (by rw [hlY]; have : (headSpec [cd] (RM fr lo z)).room.locals = lo := rfl; omega) hcells hslots) hpre
  obtain ⟨mid, hmid⟩ := hat.above
  have hfr : (U.setTop g).frames = (.java g :: mid) ++ below := by rw [State.frames_setTop' g hat.top, hmid]; rfl
  have hPc : As.toArray = As.toArray ∧ PRE G h z (U.calling g mk As.toArray) := by
    refine ⟨rfl, hP.1, hP.2.1, fun V hV => hP.2.2.1 V ⟨hV.1, hV.2.1, hV.2.2⟩, hP.2.2.2⟩
  obtain ⟨o, t, hsteps, -, hend, hq⟩ := Steps.callFree hM p X.admits X.cas X.clock (acts := []) hfr happ hPc trivial
  have hq' : PX G res z.2.1 z.2.2 (U.calling g mk As.toArray) o t := hq
  obtain ⟨hq1, hF, hk1, hk2, L, ⟨hWt, hsm⟩, hL⟩ := hq'
  rw [State.frames_setTop' g hat.top] at hend
  obtain ⟨g₀, hg0⟩ := Option.isSome_iff_exists.mp hat.top
  obtain ⟨rr, hr⟩ := State.topJava?_eq_some.mp hg0
  have hr' : (({ U with heap := t.heap, slotsUsed := t.slotsUsed } : State).setVm t.vm).frames = .java g₀ :: rr := hr
  have hWU : U.WarmedH t.vm := hWt
  obtain ⟨e2, q2, q3, q4, q5, q6⟩ := id hsm
  have e3 : t = ({ (U.calling g mk As.toArray).setFrames t.frames with heap := t.heap, slotsUsed := t.slotsUsed } : State).setVm t.vm := by
    have : t = ({ t with vm := (U.calling g mk As.toArray).vm } : State).setVm t.vm := rfl
    rw [e2] at this
    exact this
  have hsame : U.sameButNew ({ U with heap := t.heap, slotsUsed := t.slotsUsed } : State) L (z.2.1 - res.2.2.2.1) (z.2.2 - res.2.2.2.2) := by
    refine ⟨?_, q2, q3, q4, q5, q6⟩
    obtain ⟨t0, ht0, -⟩ := State.frames_cons hr
    show ({ U with heap := t.heap, slotsUsed := t.slotsUsed } : State) = { U.setFrames U.frames with heap := t.heap, slotsUsed := t.slotsUsed }
    rw [State.setFrames_self ht0]
  have Y : Stand p l e R s m args below meth c (({ U with heap := t.heap, slotsUsed := t.slotsUsed } : State).setVm t.vm) (locs ++ L) (cells + (z.2.1 - res.2.2.2.1)) (slots + (z.2.2 - res.2.2.2.2)) :=
    ⟨X.admits, X.cas, X.clock, X.frames, X.room, X.hears, X.method, X.code, (X.here.setHeapUsed t.heap t.slotsUsed).setVm hWU.alike, X.tail, State.WarmedH.trans X.warmed hWU, X.limits, X.bytes, X.same.trans (hsame.setVm s.vm)⟩
  subst hg
  rcases res with ⟨v | E, h1, z1⟩
  · obtain ⟨rfl, hh1, hz1⟩ := hq1
    obtain ⟨c₂, i₂, len₂, hc₂, hd₂, hf₂⟩ := hend
    have hcc : c₂ = c := by
      have h1 : t.code? g.method = U.code? g.method := by
        rw [State.code?_eq, State.code?_eq, hWU.alike.method?]
      exact Option.some.inj (hc₂.symm.trans (h1.trans hat.code))
    subst hcc
    have hlen : len₂ = len := by rw [hdg] at hd₂; cases hd₂; rfl
    subst hlen
    refine Or.inl ⟨v, h1, z1, _, L, rfl, Y, hk1, hk2, hL, hh1, hz1, hF, ?_⟩
    have hs₂ : t = (({ U with heap := t.heap, slotsUsed := t.slotsUsed } : State).setVm t.vm).setTop { g with pc := g.pc + len₂, stack := v.toList ++ g.stack } := by
      refine e3.trans ?_
      rw [hf₂, State.calling_eq hat.top, State.setFrames_setFrames, State.setTop_of_frames _ hr', hr]
      rfl
    rw [← hs₂]
    exact hsteps
  · obtain ⟨q, ce, rfl, hh1, hz1, hce, hcv, hcl⟩ := hq1
    have hf₂ : t.frames = .throwing q :: .java g :: U.frames.tail := hend
    refine Or.inr ⟨E, h1, z1, _, L, q, ce, rfl, Y, hk1, hk2, hL, hh1, hz1, hF, hce, hcv, hcl, ?_⟩
    have hs₂ : t = ((({ U with heap := t.heap, slotsUsed := t.slotsUsed } : State).setVm t.vm).setTop g).pushFrame (.throwing q) := by
      refine e3.trans ?_
      rw [hf₂, State.calling_eq hat.top, State.setFrames_setFrames, State.pushFrame, State.frames_setTop _ hr', State.setTop_of_frames _ hr', State.setFrames_setFrames, hr]
      rfl
    rw [← hs₂]
    exact hsteps
end KO
end
section
/-! what a call asks of the tables -/
def CB (y : MethodName) (cc : ByteArray) (maxL : Nat) (ret : Option FieldType) (n : Nat) : Prop := Cond.initialized y.cls ∈ lw_tbl ∧ Cond.code y cc maxL ret ∈ lw_tbl ∧ (y.cls ≠ "java/lang/invoke/MethodHandle" ∧ y.cls ≠ "java/lang/invoke/VarHandle") ∧ (parseMethodDescriptor y.desc).map (fun d => d.parameters.length) = some n
def CV (own : String) (index : Nat) (y : MethodName) (cc : ByteArray) (maxL : Nat) (ret : Option FieldType) (n : Nat) : Prop := CB y cc maxL ret n ∧ Cond.methodLink own index y ∈ lw_tbl ∧ Cond.instanceMethod y ∈ lw_tbl ∧ Cond.selects y.cls y y ∈ lw_tbl
def CS (own : String) (index : Nat) (y : MethodName) (cc : ByteArray) (maxL : Nat) (ret : Option FieldType) (n : Nat) : Prop := CB y cc maxL ret n ∧ (Cond.methodLink own index y ∈ lw_tbl ∨ ∃ host, Cond.methodLinkNest own index y host ∈ lw_tbl) ∧ Cond.static y ∈ lw_tbl
def CI (own : String) (index : Nat) (y : MethodName) (cc : ByteArray) (maxL : Nat) (n : Nat) : Prop := CB y cc maxL none n ∧ Cond.methodLink own index y ∈ lw_tbl ∧ Cond.instanceMethod y ∈ lw_tbl ∧ y.name = "<init>"
theorem cb_len {y : MethodName} {n : Nat} (h : (parseMethodDescriptor y.desc).map (fun d => d.parameters.length) = some n) : ∀ sig, parseMethodDescriptor y.desc = some sig → n = sig.parameters.length := by
  intro sig h1
  rw [h1] at h
  exact (Option.some.inj h).symm
section KC
variable {G : EN} {p : Program} {l : Launch} {e : Env} {R : Room} {s : State} {m : MethodId} {args : Array Value} {below : List Frame} {meth : Method} {c : Code} {H : Heap} {locs : List Loc} {cells slots : Nat}
variable {cc bc : ByteArray} {pc nL : Nat} {own : String} {ls : Array Slot} {rest st0 : List Value} {h : HH} {z : Z3} {b : Nat} {y : MethodName} {fr lo : Nat} {As : List Value} {res : RS} {maxL n index : Nat} {ret : Option FieldType}
/-- the precondition at the call -/
theorem pre_at {T : State} {vm₁ : Vm} (C : CX G p l s m meth c cc nL own) (hs : ST G R s h z H locs cells slots) (hT : T.heap = H) (hW : s.WarmedH vm₁) : PRE G h z (T.setVm vm₁) := by
  obtain ⟨-, -, -, -, -, hG, hbs, -⟩ := C
  have hb2 : G.2.2.1 ≤ (T.setVm vm₁).heap.size := by
    show G.2.2.1 ≤ T.heap.size
    rw [hT]
    exact Nat.le_trans hbs hs.2.2.1.1
  refine ⟨by show HP G h T.heap; rw [hT]; exact hs.1, by show T.heap.size = z.1; rw [hT]; exact hs.2.1, hG.move ⟨hW, hb2, fun q hq => ?_⟩, hb2⟩
  show T.heap[q]? = _
  rw [hT]
  exact hs.2.2.1.2.1 q (Nat.lt_of_lt_of_le hq hbs) (fun h9 => absurd (show G.2.2.1 ≤ q from h9) (by omega))
theorem out_of {T : State} {vm₁ : Vm} {g : JFrame} {ig : Instr} {mk : MethodId} (C : CX G p l s m meth c cc nL own) (hs : ST G R s h z H locs cells slots) (hT : T.heap = H) (X₁ : Stand p l e R s m args below meth c (T.setVm vm₁) locs cells slots) (hM : CM G l y (.code y bc maxL ret) fr lo As h z res) (hB : CB y bc maxL ret n) (hg : g.method = m) (hsize : g.locals.size = nL) (hdg : decode c.code g.pc = .ok (ig, 3))
    (hW : 2 * g.monitorRoom + (rest.map fun v => v.category).sum ≤ 8) (hn : (T.setVm vm₁).methodNamed? y = some mk) (hR : fr + 1 ≤ R.frames ∧ 8 + (maxL + 11) + lo ≤ R.locals)
    (st : ∀ tg, Steps p.tables e below (doInvoke e ((T.setVm vm₁).setTop { g with stack := rest }) [] mk As.toArray).1 tg → Steps p.tables e below (T.setTop g) tg) : Out G p l e R s m args below meth c H locs cells slots z res T g 3 rest := by
  have hp := pre_at (vm₁ := vm₁) C hs hT X₁.warmed
  have hTW : TW (T.setVm vm₁) := (hp.2.2.1.here hp.2.2.2).1
  have hcd : (Cond.code y bc maxL ret).before As.toArray (T.setVm vm₁) = true := hTW.use hB.2.1 rfl
  obtain ⟨methY, cY, hmY, hcY, -, hlY, -, -, -, -⟩ := Cond.code_spec hn hcd
  have hml : c.maxLocals = nL := C.2.2.1
  rcases ko_out (g := { g with stack := rest }) hM X₁ hg (hsize.trans hml.symm) hdg hW hn hcd ⟨methY, cY, hmY, hcY, hlY⟩ (hTW.use hB.1 rfl) hR.1 hR.2 hs.2.2.2.1 hs.2.2.2.2 hp with ⟨v, h1, z1, V, L, e1, Y, hk1, hk2, hL, hh, hz, hF, hst⟩ | ⟨E, h1, z1, V, L, q, ce, e1, Y, hk1, hk2, hL, hh, hz, hF, hce, hcv, hcl, hst⟩
  · refine Or.inl ⟨v, h1, z1, V, L, e1, Y, hk1, hk2, hL, hh, hz, ?_, fun tg ht => st tg (hst.trans ht)⟩
    obtain ⟨f1, f2⟩ := hF
    exact ⟨by rw [← hT]; exact f1, fun q h1 h2 => by rw [← hT]; exact f2 q (by show q < T.heap.size; rw [hT]; exact h1) h2⟩
  · refine Or.inr ⟨E, h1, z1, V, L, q, ce, e1, Y, hk1, hk2, hL, hh, hz, ?_, hce, hcv, ?_, st _ hst⟩
    · obtain ⟨f1, f2⟩ := hF
      exact ⟨by rw [← hT]; exact f1, fun q h1 h2 => by rw [← hT]; exact f2 q (by show q < T.heap.size; rw [hT]; exact h1) h2⟩
    · have h9 : vm₁.findClass E = some ce.cls := hcl
      rw [← h9]
      exact (X₁.warmed.alike.findClass E _).symm
theorem iv_V (C : CX G p l s m meth c cc nL own) (hs : ST G R s h z H locs cells slots) (hV : CV own index y bc maxL ret n) (hM : CM G l y (.code y bc maxL ret) fr lo (.ref b :: As) h z res) {ci : Nat} {q : vw_C} (hcl : ccl[ci]? = some q) (hq : q.1 = y.cls) (ho : oK h b ci = some ()) (hn : As.length = n) (hsize : ls.size = nL) (hstack : st0 = As.reverse ++ .ref b :: rest) (hW : (rest.map fun v => v.category).sum ≤ 8) (hdg : decode cc pc = .ok (.invokevirtual index, 3)) (hR : fr + 1 ≤ R.frames ∧ 8 + (maxL + 11) + lo ≤ R.locals) :
    ∀ T : State, T.heap = H → Stand p l e R s m args below meth c T locs cells slots → Out G p l e R s m args below meth c H locs cells slots z res T (F0 m pc ls st0) 3 rest := by
  intro T hT X
  obtain ⟨hB, hl, hin, hse⟩ := id hV
  obtain ⟨hx, hb, hml, hown, -, hG, hbs, -⟩ := id C
  obtain ⟨hTW, hK, -⟩ := hG.here hbs
  obtain ⟨mk, methM, hnamed, hmethM, hstM, habM⟩ := Cond.instanceMethod_spec (hTW.use (args := args) hin rfl)
  obtain ⟨methM', cM, hmethM', -, -, -, -, -, -, hsigM⟩ := Cond.code_spec hnamed (hTW.use (args := args) hB.2.1 rfl)
  cases hmethM.symm.trans hmethM'
  obtain ⟨fs, ha⟩ := oK_at ho
  obtain ⟨cellB, hcB, hoB, hclB⟩ := va_recv (q0 := 0) (fs := fs.map hv_v) hK (vP1 (D := G.1) (cl := ccl) (a := b) (x := .inr (ci, fs.map hv_v)) (H := H) (hs.1 b _ ha)) hcl rfl
  rw [hq] at hclB
  obtain ⟨c2, r2, m2, q1, q2, q3, q4, kP, hkP, hkPi⟩ := Cond.selects_spec (hTW.use (args := args) hse rfl)
  cases hclB.symm.trans q1
  cases (State.methodFound?_of_named hnamed hB.2.2.1).symm.trans q2
  cases hnamed.symm.trans q3
  have hselP : selectMethod e.platform s.vm cellB.cls mk = .method mk := by rw [Launch.admits_selectMethod X.admits]; exact q4
  obtain ⟨vm₁, X₁, hstep₁⟩ := X.invokevirtual hx hown (hTW.use (args := args) hl rfl) hnamed hmethM hstM hkP hkPi hB.2.2.1 (a := b) (cell := cellB) (by rw [hT]; exact hcB)
    (fun z h => by rw [h] at hoB; cases hoB) hselP hmethM habM hkP hkPi (g := F0 m pc ls st0) rfl (argsL := As) (rest := rest) (hn.trans (cb_len hB.2.2.2 _ hsigM)) hstack (by rw [hb]; exact hdg)
  exact out_of C hs hT X₁ hM hB rfl hsize (by rw [hb]; exact hdg) (lv_room (ls := ls) (rest := st0) (m := m) (pc := pc) hW) (X₁.named hnamed) hR (fun tg ht => hstep₁ _ fun acts => by rw [doInvoke_state]; exact ht)
theorem iv_S (C : CX G p l s m meth c cc nL own) (hs : ST G R s h z H locs cells slots) (hV : CS own index y bc maxL ret n) (hM : CM G l y (.code y bc maxL ret) fr lo As h z res) (hn : As.length = n) (hsize : ls.size = nL) (hstack : st0 = As.reverse ++ rest) (hW : (rest.map fun v => v.category).sum ≤ 8) (hdg : decode cc pc = .ok (.invokestatic index, 3)) (hR : fr + 1 ≤ R.frames ∧ 8 + (maxL + 11) + lo ≤ R.locals) :
    ∀ T : State, T.heap = H → Stand p l e R s m args below meth c T locs cells slots → Out G p l e R s m args below meth c H locs cells slots z res T (F0 m pc ls st0) 3 rest := by
  intro T hT X
  obtain ⟨hB, hl, hstt⟩ := id hV
  obtain ⟨hx, hb, hml, hown, -, hG, hbs, -⟩ := id C
  obtain ⟨hTW, hK, -⟩ := hG.here hbs
  obtain ⟨mk, hnamed⟩ := Cond.code_named (hTW.use (args := args) hB.2.1 rfl)
  obtain ⟨methM, cM, hmethM, -, -, -, -, -, -, hsigM⟩ := Cond.code_spec hnamed (hTW.use (args := args) hB.2.1 rfl)
  have hstatic : methM.isStatic = true := Cond.static_spec hnamed hmethM (hTW.use (args := args) hstt rfl)
  obtain ⟨kP, hkP, -⟩ := className_of_methodNamed hnamed
  have hinitP : kP.init = .initialized := Cond.initialized_spec (findClass_of_methodNamed hnamed) hkP (hTW.use (args := args) hB.1 rfl)
  rcases hl with hl | ⟨host, hl⟩
  · obtain ⟨vm₁, X₁, hstep₁⟩ := X.invokestatic hx hown (hTW.use (args := args) hl rfl) hnamed hmethM hstatic hkP hinitP hB.2.2.1 (g := F0 m pc ls st0) rfl (argsL := As) (rest := rest) (hn.trans (cb_len hB.2.2.2 _ hsigM)) hstack (by rw [hb]; exact hdg)
    exact out_of C hs hT X₁ hM hB rfl hsize (by rw [hb]; exact hdg) (lv_room (ls := ls) (rest := st0) (m := m) (pc := pc) hW) (X₁.named hnamed) hR (fun tg ht => hstep₁ _ fun acts => by rw [doInvoke_state]; exact ht)
  · obtain ⟨vm₁, X₁, hstep₁⟩ := X.invokestaticNest hx hown (hTW.use (args := args) hl rfl) hnamed hmethM hstatic hkP hinitP hB.2.2.1 (g := F0 m pc ls st0) rfl (argsL := As) (rest := rest) (hn.trans (cb_len hB.2.2.2 _ hsigM)) hstack (by rw [hb]; exact hdg)
    exact out_of C hs hT X₁ hM hB rfl hsize (by rw [hb]; exact hdg) (lv_room (ls := ls) (rest := st0) (m := m) (pc := pc) hW) (X₁.named hnamed) hR (fun tg ht => hstep₁ _ fun acts => by rw [doInvoke_state]; exact ht)
theorem iv_I (C : CX G p l s m meth c cc nL own) (hs : ST G R s h z H locs cells slots) (hV : CI own index y bc maxL n) (hM : CM G l y (.code y bc maxL none) fr lo (.ref b :: As) h z res) (hn : As.length = n) (hsize : ls.size = nL) (hstack : st0 = As.reverse ++ .ref b :: rest) (hW : (rest.map fun v => v.category).sum ≤ 8) (hdg : decode cc pc = .ok (.invokespecial index, 3)) (hR : fr + 1 ≤ R.frames ∧ 8 + (maxL + 11) + lo ≤ R.locals) :
    ∀ T : State, T.heap = H → Stand p l e R s m args below meth c T locs cells slots → Out G p l e R s m args below meth c H locs cells slots z res T (F0 m pc ls st0) 3 rest := by
  intro T hT X
  obtain ⟨hB, hl, hin, hy1⟩ := id hV
  obtain ⟨hx, hb, hml, hown, -, hG, hbs, -⟩ := id C
  obtain ⟨hTW, hK, -⟩ := hG.here hbs
  have hpl : e.platform.magicAccessors = ({} : Platform).magicAccessors := by rw [X.admits.platform]
  obtain ⟨mk, methM, cM, kP, vm₁, hnamed, hmethM, hcodeM, -, hlocalsM, -, hkP, -, hW₁, hstep₁⟩ := Steps.initColdArgs (e := e) (f := F0 m pc ls st0) (argsL := As) (rest := rest) (a := b) X.here hx X.warmed hpl hown hy1 hB.2.2.1 (hTW.use (args := args) hl rfl) (hTW.use (args := args) hin rfl) (hTW.use (args := args) hB.2.1 rfl) rfl (fun sig h9 => hn.trans (cb_len hB.2.2.2 _ h9)) hstack (by rw [hb]; exact hdg)
  have X₁ := X.noted hW₁
  exact out_of C hs hT X₁ hM hB rfl hsize (by rw [hb]; exact hdg) (lv_room (ls := ls) (rest := st0) (m := m) (pc := pc) hW) (X₁.named hnamed) hR (fun tg ht => hstep₁ _ fun acts => by rw [doInvoke_state]; exact ht)
/-- behind a call, in a method that catches nothing -/
theorem k_fin (C : CX G p l s m meth c cc nL own) (hs : ST G R s h z H locs cells slots) (hex : c.exceptionTable.toList = []) {r : RS}
    (hO : ∀ T : State, T.heap = H → Stand p l e R s m args below meth c T locs cells slots → Out G p l e R s m args below meth c H locs cells slots z res T (F0 m pc ls st0) 3 rest)
    (kk : ∀ (v : Option Value) (h1 : HH) (z1 : Z3), res = (.inl v, h1, z1) → ∀ (H1 : Heap) (locs1 : List Loc) (cells1 slots1 : Nat), ST G R s h1 z1 H1 locs1 cells1 slots1 → W p l e R s m args below meth c H1 locs1 cells1 slots1 (MX G below s r R.cells R.slots) (F0 m (pc + 3) ls (v.toList ++ rest)))
    (kx : ∀ (E : String) (h1 : HH) (z1 : Z3), res = (.inr E, h1, z1) → r = (.inr E, h1, z1)) :
    W p l e R s m args below meth c H locs cells slots (MX G below s r R.cells R.slots) (F0 m pc ls st0) := by
  intro T hT X
  obtain ⟨-, -, hS, hr1, hr2⟩ := hs
  rcases hO T hT X with ⟨v, h1, z1, V, L, e1, Y, hk1, hk2, hL, hh, hz, ⟨f1, f2⟩, st⟩ | ⟨E, h1, z1, V, L, q, ce, e1, Y, hk1, hk2, hL, hh, hz, ⟨f1, f2⟩, hce, hcv, hcl, st⟩
  · have hS1 : va_S (AG G) s.heap V.heap (locs ++ L) := ⟨Nat.le_trans hS.1 f1, fun q g1 g2 => (f2 q (Nat.lt_of_lt_of_le g1 hS.1) g2).trans (hS.2.1 q g1 g2), fun q hq => (List.mem_append.mp hq).elim (hS.2.2 q) (hL q)⟩
    obtain ⟨t, a1, b1⟩ := kk v h1 z1 e1 V.heap (locs ++ L) _ _ ⟨hh, hz, hS1, by omega, by omega⟩ V rfl Y
    exact ⟨t, st t a1, b1⟩
  · have hS1 : va_S (AG G) s.heap V.heap (locs ++ L) := ⟨Nat.le_trans hS.1 f1, fun q g1 g2 => (f2 q (Nat.lt_of_lt_of_le g1 hS.1) g2).trans (hS.2.1 q g1 g2), fun q hq => (List.mem_append.mp hq).elim (hS.2.2 q) (hL q)⟩
    have hlocks : meth.locks = false := C.2.2.2.2.1
    obtain ⟨hwalk, hrun, hend, hWt, hsame⟩ := Y.leaveThrown q (g := F0 m pc ls rest) rfl rfl rfl (fun x hx => by rw [hex] at hx; cases hx) hlocks
    rw [kx E h1 z1 e1]
    refine ⟨V.setFrames (.throwing q :: below), st.trans hwalk, .threw q, hrun, hend, ⟨q, ce, rfl, hh, hz, hce, hcv, hcl⟩, hS1.F rfl, by show z1.2.1 ≤ _; omega, by show z1.2.2 ≤ _; omega, locs ++ L, ⟨hWt, hsame.mono (by show _ ≤ R.cells - z1.2.1; omega) (by show _ ≤ R.slots - z1.2.2; omega)⟩, hS1.2.2⟩
end KC
end
section
/-! what comes behind a call: an int, a reference, nothing; an exception goes on -/
def cI (x : Option RS) (K : Int32 → HH → Z3 → Option RS) : Option RS := match x with
  | some (.inl (some (.int v)), h, z) => K v h z
  | some (.inr E, h, z) => some (.inr E, h, z)
  | _ => none
def cR (x : Option RS) (K : Nat → HH → Z3 → Option RS) : Option RS := match x with
  | some (.inl (some (.ref v)), h, z) => K v h z
  | some (.inr E, h, z) => some (.inr E, h, z)
  | _ => none
def cV (x : Option RS) (K : HH → Z3 → Option RS) : Option RS := match x with
  | some (.inl none, h, z) => K h z
  | some (.inr E, h, z) => some (.inr E, h, z)
  | _ => none
theorem cI_at {x : Option RS} {K : Int32 → HH → Z3 → Option RS} {r : RS} (hf : cI x K = some r) : ∃ res, x = some res ∧ (∀ v h1 z1, res = (.inl v, h1, z1) → ∃ i : Int32, v = some (.int i) ∧ K i h1 z1 = some r) ∧ ∀ E h1 z1, res = (.inr E, h1, z1) → r = (.inr E, h1, z1) := by
  unfold cI at hf
  split at hf
  · rename_i v h z
    exact ⟨_, rfl, fun v1 h1 z1 e => by cases e; exact ⟨v, rfl, hf⟩, fun E h1 z1 e => by cases e⟩
  · rename_i E h z
    exact ⟨_, rfl, fun v1 h1 z1 e => (by cases e), fun E1 h1 z1 e => by cases e; exact (Option.some.inj hf).symm⟩
  · cases hf
theorem cR_at {x : Option RS} {K : Nat → HH → Z3 → Option RS} {r : RS} (hf : cR x K = some r) : ∃ res, x = some res ∧ (∀ v h1 z1, res = (.inl v, h1, z1) → ∃ i : Nat, v = some (.ref i) ∧ K i h1 z1 = some r) ∧ ∀ E h1 z1, res = (.inr E, h1, z1) → r = (.inr E, h1, z1) := by
  unfold cR at hf
  split at hf
  · rename_i v h z
    exact ⟨_, rfl, fun v1 h1 z1 e => by cases e; exact ⟨v, rfl, hf⟩, fun E h1 z1 e => by cases e⟩
  · rename_i E h z
    exact ⟨_, rfl, fun v1 h1 z1 e => (by cases e), fun E1 h1 z1 e => by cases e; exact (Option.some.inj hf).symm⟩
  · cases hf
theorem cV_at {x : Option RS} {K : HH → Z3 → Option RS} {r : RS} (hf : cV x K = some r) : ∃ res, x = some res ∧ (∀ v h1 z1, res = (.inl v, h1, z1) → v = none ∧ K h1 z1 = some r) ∧ ∀ E h1 z1, res = (.inr E, h1, z1) → r = (.inr E, h1, z1) := by
  unfold cV at hf
  split at hf
  · rename_i h z
    exact ⟨_, rfl, fun v1 h1 z1 e => by cases e; exact ⟨rfl, hf⟩, fun E h1 z1 e => by cases e⟩
  · rename_i E h z
    exact ⟨_, rfl, fun v1 h1 z1 e => (by cases e), fun E1 h1 z1 e => by cases e; exact (Option.some.inj hf).symm⟩
  · cases hf
def bz (v : Int32) : Option Unit := if v = 0 ∨ v = 1 then some () else none
theorem bz_at {v : Int32} {u : Unit} (h : bz v = some u) : narrow .boolean (.int v) = .int v := by
  unfold bz at h
  split at h
  · rename_i hc
    rcases hc with rfl | rfl <;> rfl
  · cases h
/-- what an invocation gives -/
abbrev IV (G : EN) (p : Program) (l : Launch) (e : Env) (R : Room) (s : State) (m : MethodId) (args : Array Value) (below : List Frame) (meth : Method) (c : Code) (H : Heap) (locs : List Loc) (cells slots : Nat) (z : Z3) (x : Option RS) (pc : Nat) (ls : Array Slot) (st0 rest : List Value) : Prop :=
  ∀ res, x = some res → ∀ T : State, T.heap = H → Stand p l e R s m args below meth c T locs cells slots → Out G p l e R s m args below meth c H locs cells slots z res T (F0 m pc ls st0) 3 rest
section KE
variable {G : EN} {p : Program} {l : Launch} {e : Env} {R : Room} {s : State} {m : MethodId} {args : Array Value} {below : List Frame} {meth : Method} {c : Code} {H : Heap} {locs : List Loc} {cells slots : Nat}
variable {cc : ByteArray} {pc nL : Nat} {own : String} {ls : Array Slot} {rest st0 : List Value} {h : HH} {z : Z3} {x : Option RS} {r : RS}
theorem k_I (C : CX G p l s m meth c cc nL own) (hs : ST G R s h z H locs cells slots) (hex : c.exceptionTable.toList = []) {K : Int32 → HH → Z3 → Option RS} (hf : cI x K = some r) (hO : IV G p l e R s m args below meth c H locs cells slots z x pc ls st0 rest)
    (kk : ∀ (v : Int32) (h1 : HH) (z1 : Z3) (H1 : Heap) (locs1 : List Loc) (cells1 slots1 : Nat), K v h1 z1 = some r → ST G R s h1 z1 H1 locs1 cells1 slots1 → W p l e R s m args below meth c H1 locs1 cells1 slots1 (MX G below s r R.cells R.slots) (F0 m (pc + 3) ls (.int v :: rest))) : W p l e R s m args below meth c H locs cells slots (MX G below s r R.cells R.slots) (F0 m pc ls st0) := by
  obtain ⟨res, e1, h1, h2⟩ := cI_at hf
  refine k_fin C hs hex (hO res e1) (fun v h3 z3 e3 H1 locs1 cells1 slots1 hs1 => ?_) h2
  obtain ⟨i, rfl, h4⟩ := h1 v h3 z3 e3
  exact kk i h3 z3 H1 locs1 cells1 slots1 h4 hs1
theorem k_R (C : CX G p l s m meth c cc nL own) (hs : ST G R s h z H locs cells slots) (hex : c.exceptionTable.toList = []) {K : Nat → HH → Z3 → Option RS} (hf : cR x K = some r) (hO : IV G p l e R s m args below meth c H locs cells slots z x pc ls st0 rest)
    (kk : ∀ (v : Nat) (h1 : HH) (z1 : Z3) (H1 : Heap) (locs1 : List Loc) (cells1 slots1 : Nat), K v h1 z1 = some r → ST G R s h1 z1 H1 locs1 cells1 slots1 → W p l e R s m args below meth c H1 locs1 cells1 slots1 (MX G below s r R.cells R.slots) (F0 m (pc + 3) ls (.ref v :: rest))) : W p l e R s m args below meth c H locs cells slots (MX G below s r R.cells R.slots) (F0 m pc ls st0) := by
  obtain ⟨res, e1, h1, h2⟩ := cR_at hf
  refine k_fin C hs hex (hO res e1) (fun v h3 z3 e3 H1 locs1 cells1 slots1 hs1 => ?_) h2
  obtain ⟨i, rfl, h4⟩ := h1 v h3 z3 e3
  exact kk i h3 z3 H1 locs1 cells1 slots1 h4 hs1
theorem k_V (C : CX G p l s m meth c cc nL own) (hs : ST G R s h z H locs cells slots) (hex : c.exceptionTable.toList = []) {K : HH → Z3 → Option RS} (hf : cV x K = some r) (hO : IV G p l e R s m args below meth c H locs cells slots z x pc ls st0 rest)
    (kk : ∀ (h1 : HH) (z1 : Z3) (H1 : Heap) (locs1 : List Loc) (cells1 slots1 : Nat), K h1 z1 = some r → ST G R s h1 z1 H1 locs1 cells1 slots1 → W p l e R s m args below meth c H1 locs1 cells1 slots1 (MX G below s r R.cells R.slots) (F0 m (pc + 3) ls rest)) : W p l e R s m args below meth c H locs cells slots (MX G below s r R.cells R.slots) (F0 m pc ls st0) := by
  obtain ⟨res, e1, h1, h2⟩ := cV_at hf
  refine k_fin C hs hex (hO res e1) (fun v h3 z3 e3 H1 locs1 cells1 slots1 hs1 => ?_) h2
  obtain ⟨rfl, h4⟩ := h1 v h3 z3 e3
  exact kk h3 z3 H1 locs1 cells1 slots1 h4 hs1
/-- ends -/
theorem x_end {v : Option Value} {g : JFrame} (hs : ST G R s h z H locs cells slots) (hf : some ((.inl v, h, z) : RS) = some r)
    (k : W p l e R s m args below meth c H locs cells slots (MQ below (fun _ st o t => PQ G (.inl v, h, z) st o t ∧ va_F (AG G) st t) args s cells slots (AG G)) g) : W p l e R s m args below meth c H locs cells slots (MX G below s r R.cells R.slots) g := by
  intro T hT X
  obtain ⟨t, a1, o, b1, b2, ⟨b3, b4⟩, L, ⟨b5, b6, b7⟩, b8⟩ := k T hT X
  cases hf
  obtain ⟨-, -, -, hr1, hr2⟩ := hs
  exact ⟨t, a1, o, b1, b2, b3, b4, by show z.2.1 ≤ _; omega, by show z.2.2 ≤ _; omega, L, ⟨b6, b7.mono (by show cells ≤ R.cells - z.2.1; omega) (by show slots ≤ R.slots - z.2.2; omega)⟩, b8⟩
theorem r_ireturn (C : CX G p l s m meth c cc nL own) (hs : ST G R s h z H locs cells slots) (hr : meth.sig.returnType = some .int) {v : Int32} (hdg : decode cc pc = .ok (.ireturn, 1)) (hf : some ((.inl (some (.int v)), h, z) : RS) = some r) : W p l e R s m args below meth c H locs cells slots (MX G below s r R.cells R.slots) (F0 m pc ls [.int v]) :=
  x_end hs hf (W.iret C.1 C.2.1 hr (fun t ht hW => ⟨⟨rfl, by rw [ht]; exact hs.1, by rw [ht]; exact hs.2.1⟩, hs.2.2.1.F ht⟩) hs.2.2.1.2.2 hdg C.2.2.2.2.1)
theorem r_zreturn (C : CX G p l s m meth c cc nL own) (hs : ST G R s h z H locs cells slots) (hr : meth.sig.returnType = some .boolean) {v : Int32} (hdg : decode cc pc = .ok (.ireturn, 1)) (hf : ((bz v).bind fun _ => some ((.inl (some (.int v)), h, z) : RS)) = some r) : W p l e R s m args below meth c H locs cells slots (MX G below s r R.cells R.slots) (F0 m pc ls [.int v]) := by
  obtain ⟨u, h1, hf⟩ := bd hf
  exact x_end hs hf (W.zret C.1 C.2.1 hr (bz_at h1) (fun t ht hW => ⟨⟨rfl, by rw [ht]; exact hs.1, by rw [ht]; exact hs.2.1⟩, hs.2.2.1.F ht⟩) hs.2.2.1.2.2 hdg C.2.2.2.2.1)
theorem r_areturn (C : CX G p l s m meth c cc nL own) (hs : ST G R s h z H locs cells slots) {rt : FieldType} (hr : meth.sig.returnType = some rt) (hrt : (∃ n, rt = .object n) ∨ ∃ t, rt = .array t) {v : Nat} (hdg : decode cc pc = .ok (.areturn, 1)) (hf : some ((.inl (some (.ref v)), h, z) : RS) = some r) : W p l e R s m args below meth c H locs cells slots (MX G below s r R.cells R.slots) (F0 m pc ls [.ref v]) :=
  x_end hs hf (W.aret C.1 C.2.1 hr hrt (Or.inr ⟨v, rfl⟩) (fun t ht hW => ⟨⟨rfl, by rw [ht]; exact hs.1, by rw [ht]; exact hs.2.1⟩, hs.2.2.1.F ht⟩) hs.2.2.1.2.2 hdg C.2.2.2.2.1)
theorem r_vreturn (C : CX G p l s m meth c cc nL own) (hs : ST G R s h z H locs cells slots) (hr : meth.sig.returnType = none) (hdg : decode cc pc = .ok (.return_, 1)) (hf : some ((.inl none, h, z) : RS) = some r) : W p l e R s m args below meth c H locs cells slots (MX G below s r R.cells R.slots) (F0 m pc ls []) :=
  x_end hs hf (W.vret C.1 C.2.1 hr (fun t ht hW => ⟨⟨rfl, by rw [ht]; exact hs.1, by rw [ht]; exact hs.2.1⟩, hs.2.2.1.F ht⟩) hs.2.2.1.2.2 hdg C.2.2.2.2.1)
/-- the start: the locals -/
theorem x_entry {As : List Value} {Q : State → Prop} {n : Nat} (hn : (lg_sl As).length ≤ n) (k : ∀ ls : Array Slot, lv_has ls n (lv_args 0 As) → W p l e R s m args below meth c H locs cells slots Q (F0 m 0 ls [])) : W p l e R s m args below meth c H locs cells slots Q (entryFrame m As.toArray n) := by
  have hl := lv_entry As (n := n) hn
  rw [lg_entry_eq]
  exact k _ hl
theorem r_objInit (C : CX G p l s m meth c cc nL own) {Q : State → Prop} {index a : Nat} (hsize : ls.size = nL) (hl : Cond.methodLink own index objectInit ∈ lw_tbl) (h2 : Cond.instanceMethod objectInit ∈ lw_tbl) (h3 : Cond.code objectInit ⟨#[0xb1]⟩ 1 none ∈ lw_tbl) (hdg : decode cc pc = .ok (.invokespecial index, 3)) (hR : 1 ≤ R.frames ∧ (rest.map fun v => v.category).sum + 12 ≤ R.locals)
    (kk : W p l e R s m args below meth c H locs cells slots Q (F0 m (pc + 3) ls rest)) : W p l e R s m args below meth c H locs cells slots Q (F0 m pc ls (.ref a :: rest)) := by
  obtain ⟨hx, hb, hml, hown, -, hG, hbs, -⟩ := C
  obtain ⟨hTW, -⟩ := hG.here hbs
  exact W.objInit hx hb hown (hTW.use hl rfl) (hTW.use h2 rfl) (hTW.use h3 rfl) rfl (by rw [hml]; exact hsize) rfl hdg hR.1 (by have := hR.2; simp [JFrame.monitorRoom]; omega) kk
end KE
end
section
def FU : Nat := 1000
theorem tm {w : Cond} {i : Nat} (h : tables_1[i]? = some w) : w ∈ lw_tbl := List.mem_append_right _ (List.mem_of_getElem? h)
theorem i32_of_toInt {x : Int32} {n : Int} (h : x.toInt = n) : x = Int32.ofInt n := by
  rw [← h, Int32.ofInt_toInt]
theorem tab_out4 {x : Int32} (h0 : ¬ x = 0) (h1 : ¬ x = 1) (h2 : ¬ x = 2) (h3 : ¬ x = 3) : x.toInt < 0 ∨ 3 < x.toInt := by
  by_cases h : x.toInt < 0
  · exact Or.inl h
  by_cases h' : 3 < x.toInt
  · exact Or.inr h'
  exfalso
  rcases (show x.toInt = 0 ∨ x.toInt = 1 ∨ x.toInt = 2 ∨ x.toInt = 3 by omega) with e | e | e | e
  · exact h0 (i32_of_toInt e)
  · exact h1 (i32_of_toInt e)
  · exact h2 (i32_of_toInt e)
  · exact h3 (i32_of_toInt e)
section RM9
variable {G : EN} {p : Program} {l : Launch} {e : Env} {R : Room} {s : State} {m : MethodId} {args : Array Value} {below : List Frame} {meth : Method} {c : Code} {H : Heap} {locs : List Loc} {cells slots : Nat} {Q : State → Prop}
variable {cc : ByteArray} {pc nL : Nat} {own : String} {ls : Array Slot} {rest : List Value} {h : HH} {z : Z3} {a : Nat}
theorem r_cast (C : CX G p l s m meth c cc nL own) (hs : ST G R s h z H locs cells slots) {index ci : Nat} {Cn : String} {T : u_T} {N : Nat} (hc : ccl[ci]? = some (Cn, T, N)) (hl : Cond.classLink own index Cn ∈ lw_tbl) (hl2 : Cond.castable Cn Cn ∈ lw_tbl) (hdg : decode cc pc = .ok (.checkcast index, 3)) {β : Type} {K : Unit → Option β} {r : β} (hf : (oK h a ci).bind K = some r)
    (kk : K () = some r → W p l e R s m args below meth c H locs cells slots Q (F0 m (pc + 3) ls (.ref a :: rest))) : W p l e R s m args below meth c H locs cells slots Q (F0 m pc ls (.ref a :: rest)) := by
  obtain ⟨u, h1, hf⟩ := bd hf
  obtain ⟨fs, ha⟩ := oK_at h1
  obtain ⟨hx, hb, -, hown, -, hG, hbs, -⟩ := C
  obtain ⟨hT, hK, -⟩ := hG.here hbs
  have hr := va_recv (q0 := 0) (fs := fs.map hv_v) hK (vP1 (D := G.1) (cl := ccl) (a := a) (x := .inr (ci, fs.map hv_v)) (H := H) (hs.1 a _ ha)) hc rfl
  exact va_castY (C := Cn) (nm := Cn) hx hb hown (hT.use hl rfl) (va_Nw.of rfl (hT.use (args := args) hl2 rfl)) hr hdg (kk hf)
theorem r_gets (C : CX G p l s m meth c cc nL own) (hs : ST G R s h z H locs cells slots) {index : Nat} (hl : Cond.fieldLink own index "java/util/ArrayList" "DEFAULTCAPACITY_EMPTY_ELEMENTDATA" "[Ljava/lang/Object;" ∈ lw_tbl) (hdg : decode cc pc = .ok (.getstatic index, 3))
    (kk : W p l e R s m args below meth c H locs cells slots Q (F0 m (pc + 3) ls (.ref G.2.2.2 :: rest))) : W p l e R s m args below meth c H locs cells slots Q (F0 m pc ls rest) := by
  obtain ⟨hx, hb, -, hown, -, hG, hbs, -⟩ := C
  obtain ⟨hT, hK, hZ, -⟩ := hG.here hbs
  exact va_gets hx hb hZ hs.2.2.1 hown (hT.use hl rfl) (fun _ h9 => h9) hdg kk
end RM9
end
section
def y_M_ctor : MethodName := ⟨"FencedBrokerModel", "<init>", "()V"⟩
abbrev b_M_ctor : ByteArray := prog_7_method_1_code
theorem cb_M_ctor : CB y_M_ctor b_M_ctor 2 none 0 := ⟨tm (i := 9) (by decide +kernel), tm (i := 815) (by decide +kernel), ⟨by decide +kernel, by decide +kernel⟩, by decide +kernel⟩
theorem fl_M_7 : FL "FencedBrokerModel" 7 6 1 := ⟨_, _, _, rfl, by decide, Or.inl (tm (i := 818) (by decide +kernel))⟩
theorem flf_M_7 : FLF "FencedBrokerModel" 7 6 1 (.array .int) := fun Cn T N h => by
  have e : (Cn, T, N) = ("FencedBrokerModel", q_Model, 24) := Option.some.inj (h.symm.trans (rfl : ccl[6]? = some ("FencedBrokerModel", q_Model, 24)))
  cases e
  exact ⟨by decide, rfl, rfl, by decide +kernel, tm (i := 818) (by decide +kernel)⟩
theorem fl_M_13 : FL "FencedBrokerModel" 13 6 2 := ⟨_, _, _, rfl, by decide, Or.inl (tm (i := 819) (by decide +kernel))⟩
theorem flf_M_13 : FLF "FencedBrokerModel" 13 6 2 (.array .int) := fun Cn T N h => by
  have e : (Cn, T, N) = ("FencedBrokerModel", q_Model, 24) := Option.some.inj (h.symm.trans (rfl : ccl[6]? = some ("FencedBrokerModel", q_Model, 24)))
  cases e
  exact ⟨by decide, rfl, rfl, by decide +kernel, tm (i := 819) (by decide +kernel)⟩
theorem fl_M_16 : FL "FencedBrokerModel" 16 6 3 := ⟨_, _, _, rfl, by decide, Or.inl (tm (i := 820) (by decide +kernel))⟩
theorem flf_M_16 : FLF "FencedBrokerModel" 16 6 3 (.array .int) := fun Cn T N h => by
  have e : (Cn, T, N) = ("FencedBrokerModel", q_Model, 24) := Option.some.inj (h.symm.trans (rfl : ccl[6]? = some ("FencedBrokerModel", q_Model, 24)))
  cases e
  exact ⟨by decide, rfl, rfl, by decide +kernel, tm (i := 820) (by decide +kernel)⟩
theorem fl_M_19 : FL "FencedBrokerModel" 19 6 4 := ⟨_, _, _, rfl, by decide, Or.inl (tm (i := 821) (by decide +kernel))⟩
theorem flf_M_19 : FLF "FencedBrokerModel" 19 6 4 (.array .int) := fun Cn T N h => by
  have e : (Cn, T, N) = ("FencedBrokerModel", q_Model, 24) := Option.some.inj (h.symm.trans (rfl : ccl[6]? = some ("FencedBrokerModel", q_Model, 24)))
  cases e
  exact ⟨by decide, rfl, rfl, by decide +kernel, tm (i := 821) (by decide +kernel)⟩
theorem fl_M_22 : FL "FencedBrokerModel" 22 6 5 := ⟨_, _, _, rfl, by decide, Or.inl (tm (i := 822) (by decide +kernel))⟩
theorem flf_M_22 : FLF "FencedBrokerModel" 22 6 5 (.array .int) := fun Cn T N h => by
  have e : (Cn, T, N) = ("FencedBrokerModel", q_Model, 24) := Option.some.inj (h.symm.trans (rfl : ccl[6]? = some ("FencedBrokerModel", q_Model, 24)))
  cases e
  exact ⟨by decide, rfl, rfl, by decide +kernel, tm (i := 822) (by decide +kernel)⟩
theorem fl_M_25 : FL "FencedBrokerModel" 25 6 6 := ⟨_, _, _, rfl, by decide, Or.inl (tm (i := 823) (by decide +kernel))⟩
theorem flf_M_25 : FLF "FencedBrokerModel" 25 6 6 (.array .int) := fun Cn T N h => by
  have e : (Cn, T, N) = ("FencedBrokerModel", q_Model, 24) := Option.some.inj (h.symm.trans (rfl : ccl[6]? = some ("FencedBrokerModel", q_Model, 24)))
  cases e
  exact ⟨by decide, rfl, rfl, by decide +kernel, tm (i := 823) (by decide +kernel)⟩
theorem fl_M_28 : FL "FencedBrokerModel" 28 6 7 := ⟨_, _, _, rfl, by decide, Or.inl (tm (i := 824) (by decide +kernel))⟩
theorem flf_M_28 : FLF "FencedBrokerModel" 28 6 7 (.array .int) := fun Cn T N h => by
  have e : (Cn, T, N) = ("FencedBrokerModel", q_Model, 24) := Option.some.inj (h.symm.trans (rfl : ccl[6]? = some ("FencedBrokerModel", q_Model, 24)))
  cases e
  exact ⟨by decide, rfl, rfl, by decide +kernel, tm (i := 824) (by decide +kernel)⟩
theorem fl_M_31 : FL "FencedBrokerModel" 31 6 8 := ⟨_, _, _, rfl, by decide, Or.inl (tm (i := 825) (by decide +kernel))⟩
theorem flf_M_31 : FLF "FencedBrokerModel" 31 6 8 (.array .int) := fun Cn T N h => by
  have e : (Cn, T, N) = ("FencedBrokerModel", q_Model, 24) := Option.some.inj (h.symm.trans (rfl : ccl[6]? = some ("FencedBrokerModel", q_Model, 24)))
  cases e
  exact ⟨by decide, rfl, rfl, by decide +kernel, tm (i := 825) (by decide +kernel)⟩
theorem fl_M_34 : FL "FencedBrokerModel" 34 6 9 := ⟨_, _, _, rfl, by decide, Or.inl (tm (i := 826) (by decide +kernel))⟩
theorem flf_M_34 : FLF "FencedBrokerModel" 34 6 9 (.array .int) := fun Cn T N h => by
  have e : (Cn, T, N) = ("FencedBrokerModel", q_Model, 24) := Option.some.inj (h.symm.trans (rfl : ccl[6]? = some ("FencedBrokerModel", q_Model, 24)))
  cases e
  exact ⟨by decide, rfl, rfl, by decide +kernel, tm (i := 826) (by decide +kernel)⟩
theorem fl_M_37 : FL "FencedBrokerModel" 37 6 10 := ⟨_, _, _, rfl, by decide, Or.inl (tm (i := 827) (by decide +kernel))⟩
theorem flf_M_37 : FLF "FencedBrokerModel" 37 6 10 (.array .int) := fun Cn T N h => by
  have e : (Cn, T, N) = ("FencedBrokerModel", q_Model, 24) := Option.some.inj (h.symm.trans (rfl : ccl[6]? = some ("FencedBrokerModel", q_Model, 24)))
  cases e
  exact ⟨by decide, rfl, rfl, by decide +kernel, tm (i := 827) (by decide +kernel)⟩
theorem fl_M_40 : FL "FencedBrokerModel" 40 6 11 := ⟨_, _, _, rfl, by decide, Or.inl (tm (i := 828) (by decide +kernel))⟩
theorem flf_M_40 : FLF "FencedBrokerModel" 40 6 11 (.array .int) := fun Cn T N h => by
  have e : (Cn, T, N) = ("FencedBrokerModel", q_Model, 24) := Option.some.inj (h.symm.trans (rfl : ccl[6]? = some ("FencedBrokerModel", q_Model, 24)))
  cases e
  exact ⟨by decide, rfl, rfl, by decide +kernel, tm (i := 828) (by decide +kernel)⟩
theorem fl_M_43 : FL "FencedBrokerModel" 43 6 12 := ⟨_, _, _, rfl, by decide, Or.inl (tm (i := 829) (by decide +kernel))⟩
theorem flf_M_43 : FLF "FencedBrokerModel" 43 6 12 (.array .int) := fun Cn T N h => by
  have e : (Cn, T, N) = ("FencedBrokerModel", q_Model, 24) := Option.some.inj (h.symm.trans (rfl : ccl[6]? = some ("FencedBrokerModel", q_Model, 24)))
  cases e
  exact ⟨by decide, rfl, rfl, by decide +kernel, tm (i := 829) (by decide +kernel)⟩
theorem fl_M_46 : FL "FencedBrokerModel" 46 6 13 := ⟨_, _, _, rfl, by decide, Or.inl (tm (i := 830) (by decide +kernel))⟩
theorem flf_M_46 : FLF "FencedBrokerModel" 46 6 13 (.array .int) := fun Cn T N h => by
  have e : (Cn, T, N) = ("FencedBrokerModel", q_Model, 24) := Option.some.inj (h.symm.trans (rfl : ccl[6]? = some ("FencedBrokerModel", q_Model, 24)))
  cases e
  exact ⟨by decide, rfl, rfl, by decide +kernel, tm (i := 830) (by decide +kernel)⟩
theorem fl_M_49 : FL "FencedBrokerModel" 49 6 14 := ⟨_, _, _, rfl, by decide, Or.inl (tm (i := 831) (by decide +kernel))⟩
theorem flf_M_49 : FLF "FencedBrokerModel" 49 6 14 (.array .int) := fun Cn T N h => by
  have e : (Cn, T, N) = ("FencedBrokerModel", q_Model, 24) := Option.some.inj (h.symm.trans (rfl : ccl[6]? = some ("FencedBrokerModel", q_Model, 24)))
  cases e
  exact ⟨by decide, rfl, rfl, by decide +kernel, tm (i := 831) (by decide +kernel)⟩
theorem fl_M_52 : FL "FencedBrokerModel" 52 6 15 := ⟨_, _, _, rfl, by decide, Or.inl (tm (i := 832) (by decide +kernel))⟩
theorem flf_M_52 : FLF "FencedBrokerModel" 52 6 15 (.array .int) := fun Cn T N h => by
  have e : (Cn, T, N) = ("FencedBrokerModel", q_Model, 24) := Option.some.inj (h.symm.trans (rfl : ccl[6]? = some ("FencedBrokerModel", q_Model, 24)))
  cases e
  exact ⟨by decide, rfl, rfl, by decide +kernel, tm (i := 832) (by decide +kernel)⟩
theorem fl_M_55 : FL "FencedBrokerModel" 55 6 17 := ⟨_, _, _, rfl, by decide, Or.inl (tm (i := 834) (by decide +kernel))⟩
theorem flf_M_55 : FLF "FencedBrokerModel" 55 6 17 (.array .int) := fun Cn T N h => by
  have e : (Cn, T, N) = ("FencedBrokerModel", q_Model, 24) := Option.some.inj (h.symm.trans (rfl : ccl[6]? = some ("FencedBrokerModel", q_Model, 24)))
  cases e
  exact ⟨by decide, rfl, rfl, by decide +kernel, tm (i := 834) (by decide +kernel)⟩
theorem fl_M_58 : FL "FencedBrokerModel" 58 6 18 := ⟨_, _, _, rfl, by decide, Or.inl (tm (i := 835) (by decide +kernel))⟩
theorem flf_M_58 : FLF "FencedBrokerModel" 58 6 18 (.array .boolean) := fun Cn T N h => by
  have e : (Cn, T, N) = ("FencedBrokerModel", q_Model, 24) := Option.some.inj (h.symm.trans (rfl : ccl[6]? = some ("FencedBrokerModel", q_Model, 24)))
  cases e
  exact ⟨by decide, rfl, rfl, by decide +kernel, tm (i := 835) (by decide +kernel)⟩
theorem fl_M_62 : FL "FencedBrokerModel" 62 6 19 := ⟨_, _, _, rfl, by decide, Or.inl (tm (i := 836) (by decide +kernel))⟩
theorem flf_M_62 : FLF "FencedBrokerModel" 62 6 19 (.array .int) := fun Cn T N h => by
  have e : (Cn, T, N) = ("FencedBrokerModel", q_Model, 24) := Option.some.inj (h.symm.trans (rfl : ccl[6]? = some ("FencedBrokerModel", q_Model, 24)))
  cases e
  exact ⟨by decide, rfl, rfl, by decide +kernel, tm (i := 836) (by decide +kernel)⟩
theorem fl_M_65 : FL "FencedBrokerModel" 65 6 20 := ⟨_, _, _, rfl, by decide, Or.inl (tm (i := 837) (by decide +kernel))⟩
theorem flf_M_65 : FLF "FencedBrokerModel" 65 6 20 (.array .int) := fun Cn T N h => by
  have e : (Cn, T, N) = ("FencedBrokerModel", q_Model, 24) := Option.some.inj (h.symm.trans (rfl : ccl[6]? = some ("FencedBrokerModel", q_Model, 24)))
  cases e
  exact ⟨by decide, rfl, rfl, by decide +kernel, tm (i := 837) (by decide +kernel)⟩
theorem fl_M_68 : FL "FencedBrokerModel" 68 6 21 := ⟨_, _, _, rfl, by decide, Or.inl (tm (i := 838) (by decide +kernel))⟩
theorem flf_M_68 : FLF "FencedBrokerModel" 68 6 21 (.array .int) := fun Cn T N h => by
  have e : (Cn, T, N) = ("FencedBrokerModel", q_Model, 24) := Option.some.inj (h.symm.trans (rfl : ccl[6]? = some ("FencedBrokerModel", q_Model, 24)))
  cases e
  exact ⟨by decide, rfl, rfl, by decide +kernel, tm (i := 838) (by decide +kernel)⟩
def y_M_thrown : MethodName := ⟨"FencedBrokerModel", "thrown", "()I"⟩
abbrev b_M_thrown : ByteArray := prog_7_method_2_code
theorem cb_M_thrown : CB y_M_thrown b_M_thrown 1 (some .int) 0 := ⟨tm (i := 9) (by decide +kernel), tm (i := 893) (by decide +kernel), ⟨by decide +kernel, by decide +kernel⟩, by decide +kernel⟩
theorem fl_M_71 : FL "FencedBrokerModel" 71 6 0 := ⟨_, _, _, rfl, by decide, Or.inl (tm (i := 817) (by decide +kernel))⟩
def y_M_out : MethodName := ⟨"FencedBrokerModel", "out", "(II)Z"⟩
abbrev b_M_out : ByteArray := prog_7_method_4_code
theorem cb_M_out : CB y_M_out b_M_out 3 (some .boolean) 2 := ⟨tm (i := 9) (by decide +kernel), tm (i := 901) (by decide +kernel), ⟨by decide +kernel, by decide +kernel⟩, by decide +kernel⟩
def y_M_fail : MethodName := ⟨"FencedBrokerModel", "fail", "(I)I"⟩
abbrev b_M_fail : ByteArray := prog_7_method_3_code
theorem cb_M_fail : CB y_M_fail b_M_fail 2 (some .int) 1 := ⟨tm (i := 9) (by decide +kernel), tm (i := 905) (by decide +kernel), ⟨by decide +kernel, by decide +kernel⟩, by decide +kernel⟩
theorem flp_M_71 : FLP "FencedBrokerModel" 71 6 0 .int := ⟨fl_M_71, fun Cn T N h => by
  have e : (Cn, T, N) = ("FencedBrokerModel", q_Model, 24) := Option.some.inj (h.symm.trans (rfl : ccl[6]? = some ("FencedBrokerModel", q_Model, 24)))
  cases e
  exact ⟨rfl, by decide +kernel⟩⟩
def y_M_abort : MethodName := ⟨"FencedBrokerModel", "abort", "(I)V"⟩
abbrev b_M_abort : ByteArray := prog_7_method_12_code
theorem cb_M_abort : CB y_M_abort b_M_abort 2 none 1 := ⟨tm (i := 9) (by decide +kernel), tm (i := 909) (by decide +kernel), ⟨by decide +kernel, by decide +kernel⟩, by decide +kernel⟩
def y_M_init : MethodName := ⟨"FencedBrokerModel", "init", "(I)I"⟩
abbrev b_M_init : ByteArray := prog_7_method_13_code
theorem cb_M_init : CB y_M_init b_M_init 2 (some .int) 1 := ⟨tm (i := 9) (by decide +kernel), tm (i := 897) (by decide +kernel), ⟨by decide +kernel, by decide +kernel⟩, by decide +kernel⟩
theorem cv_M_83 : CV "FencedBrokerModel" 83 y_M_out b_M_out 3 (some .boolean) 2 := ⟨cb_M_out, tm (i := 898) (by decide +kernel), tm (i := 900) (by decide +kernel), List.mem_append_left _ (List.mem_of_getElem? (i := 20) (by decide +kernel))⟩
theorem cv_M_86 : CV "FencedBrokerModel" 86 y_M_fail b_M_fail 2 (some .int) 1 := ⟨cb_M_fail, tm (i := 902) (by decide +kernel), tm (i := 904) (by decide +kernel), List.mem_append_left _ (List.mem_of_getElem? (i := 21) (by decide +kernel))⟩
theorem cv_M_90 : CV "FencedBrokerModel" 90 y_M_abort b_M_abort 2 none 1 := ⟨cb_M_abort, tm (i := 906) (by decide +kernel), tm (i := 908) (by decide +kernel), List.mem_append_left _ (List.mem_of_getElem? (i := 22) (by decide +kernel))⟩
def y_M_check : MethodName := ⟨"FencedBrokerModel", "check", "(III)I"⟩
abbrev b_M_check : ByteArray := prog_7_method_14_code
theorem cb_M_check : CB y_M_check b_M_check 4 (some .int) 3 := ⟨tm (i := 9) (by decide +kernel), tm (i := 917) (by decide +kernel), ⟨by decide +kernel, by decide +kernel⟩, by decide +kernel⟩
def y_M_begin : MethodName := ⟨"FencedBrokerModel", "begin", "(II)I"⟩
abbrev b_M_begin : ByteArray := prog_7_method_15_code
theorem cb_M_begin : CB y_M_begin b_M_begin 4 (some .int) 2 := ⟨tm (i := 9) (by decide +kernel), tm (i := 913) (by decide +kernel), ⟨by decide +kernel, by decide +kernel⟩, by decide +kernel⟩
theorem cv_M_94 : CV "FencedBrokerModel" 94 y_M_check b_M_check 4 (some .int) 3 := ⟨cb_M_check, tm (i := 914) (by decide +kernel), tm (i := 916) (by decide +kernel), List.mem_append_left _ (List.mem_of_getElem? (i := 23) (by decide +kernel))⟩
theorem fl_M_98 : FL "FencedBrokerModel" 98 6 16 := ⟨_, _, _, rfl, by decide, Or.inl (tm (i := 833) (by decide +kernel))⟩
theorem flp_M_98 : FLP "FencedBrokerModel" 98 6 16 .int := ⟨fl_M_98, fun Cn T N h => by
  have e : (Cn, T, N) = ("FencedBrokerModel", q_Model, 24) := Option.some.inj (h.symm.trans (rfl : ccl[6]? = some ("FencedBrokerModel", q_Model, 24)))
  cases e
  exact ⟨rfl, by decide +kernel⟩⟩
theorem fl_M_101 : FL "FencedBrokerModel" 101 6 22 := ⟨_, _, _, rfl, by decide, Or.inl (tm (i := 839) (by decide +kernel))⟩
def y_M_ofProducer : MethodName := ⟨"FencedBrokerModel", "ofProducer", "(II)Z"⟩
abbrev b_M_ofProducer : ByteArray := prog_7_method_7_code
theorem cb_M_ofProducer : CB y_M_ofProducer b_M_ofProducer 3 (some .boolean) 2 := ⟨tm (i := 9) (by decide +kernel), tm (i := 929) (by decide +kernel), ⟨by decide +kernel, by decide +kernel⟩, by decide +kernel⟩
def y_M_recent : MethodName := ⟨"FencedBrokerModel", "recent", "(III)I"⟩
abbrev b_M_recent : ByteArray := prog_7_method_9_code
theorem cb_M_recent : CB y_M_recent b_M_recent 6 (some .int) 3 := ⟨tm (i := 9) (by decide +kernel), tm (i := 925) (by decide +kernel), ⟨by decide +kernel, by decide +kernel⟩, by decide +kernel⟩
theorem cv_M_75 : CV "FencedBrokerModel" 75 y_M_ofProducer b_M_ofProducer 3 (some .boolean) 2 := ⟨cb_M_ofProducer, tm (i := 926) (by decide +kernel), tm (i := 928) (by decide +kernel), List.mem_append_left _ (List.mem_of_getElem? (i := 25) (by decide +kernel))⟩
def y_M_next : MethodName := ⟨"FencedBrokerModel", "next", "(II)I"⟩
abbrev b_M_next : ByteArray := prog_7_method_8_code
theorem cb_M_next : CB y_M_next b_M_next 5 (some .int) 2 := ⟨tm (i := 9) (by decide +kernel), tm (i := 933) (by decide +kernel), ⟨by decide +kernel, by decide +kernel⟩, by decide +kernel⟩
def y_M_full : MethodName := ⟨"FencedBrokerModel", "full", "(I)Z"⟩
abbrev b_M_full : ByteArray := prog_7_method_6_code
theorem cb_M_full : CB y_M_full b_M_full 2 (some .boolean) 1 := ⟨tm (i := 9) (by decide +kernel), tm (i := 937) (by decide +kernel), ⟨by decide +kernel, by decide +kernel⟩, by decide +kernel⟩
def y_M_put : MethodName := ⟨"FencedBrokerModel", "put", "(IIIII)I"⟩
abbrev b_M_put : ByteArray := prog_7_method_5_code
theorem cb_M_put : CB y_M_put b_M_put 7 (some .int) 5 := ⟨tm (i := 9) (by decide +kernel), tm (i := 941) (by decide +kernel), ⟨by decide +kernel, by decide +kernel⟩, by decide +kernel⟩
def y_M_send : MethodName := ⟨"FencedBrokerModel", "send", "(IIIII)I"⟩
abbrev b_M_send : ByteArray := prog_7_method_16_code
theorem cb_M_send : CB y_M_send b_M_send 7 (some .int) 5 := ⟨tm (i := 9) (by decide +kernel), tm (i := 921) (by decide +kernel), ⟨by decide +kernel, by decide +kernel⟩, by decide +kernel⟩
theorem cv_M_104 : CV "FencedBrokerModel" 104 y_M_recent b_M_recent 6 (some .int) 3 := ⟨cb_M_recent, tm (i := 922) (by decide +kernel), tm (i := 924) (by decide +kernel), List.mem_append_left _ (List.mem_of_getElem? (i := 24) (by decide +kernel))⟩
theorem cv_M_115 : CV "FencedBrokerModel" 115 y_M_put b_M_put 7 (some .int) 5 := ⟨cb_M_put, tm (i := 938) (by decide +kernel), tm (i := 940) (by decide +kernel), List.mem_append_left _ (List.mem_of_getElem? (i := 28) (by decide +kernel))⟩
theorem cv_M_111 : CV "FencedBrokerModel" 111 y_M_full b_M_full 2 (some .boolean) 1 := ⟨cb_M_full, tm (i := 934) (by decide +kernel), tm (i := 936) (by decide +kernel), List.mem_append_left _ (List.mem_of_getElem? (i := 27) (by decide +kernel))⟩
theorem cv_M_107 : CV "FencedBrokerModel" 107 y_M_next b_M_next 5 (some .int) 2 := ⟨cb_M_next, tm (i := 930) (by decide +kernel), tm (i := 932) (by decide +kernel), List.mem_append_left _ (List.mem_of_getElem? (i := 26) (by decide +kernel))⟩
def y_M_pend : MethodName := ⟨"FencedBrokerModel", "pend", "(IIIII)I"⟩
abbrev b_M_pend : ByteArray := prog_7_method_17_code
theorem cb_M_pend : CB y_M_pend b_M_pend 8 (some .int) 5 := ⟨tm (i := 9) (by decide +kernel), tm (i := 945) (by decide +kernel), ⟨by decide +kernel, by decide +kernel⟩, by decide +kernel⟩
def y_M_ones : MethodName := ⟨"FencedBrokerModel", "ones", "(I)I"⟩
abbrev b_M_ones : ByteArray := prog_7_method_18_code
theorem cb_M_ones : CB y_M_ones b_M_ones 4 (some .int) 1 := ⟨tm (i := 9) (by decide +kernel), tm (i := 953) (by decide +kernel), ⟨by decide +kernel, by decide +kernel⟩, by decide +kernel⟩
def y_M_finish : MethodName := ⟨"FencedBrokerModel", "finish", "(IIZ)I"⟩
abbrev b_M_finish : ByteArray := prog_7_method_19_code
theorem cb_M_finish : CB y_M_finish b_M_finish 7 (some .int) 3 := ⟨tm (i := 9) (by decide +kernel), tm (i := 949) (by decide +kernel), ⟨by decide +kernel, by decide +kernel⟩, by decide +kernel⟩
theorem cv_M_119 : CV "FencedBrokerModel" 119 y_M_ones b_M_ones 4 (some .int) 1 := ⟨cb_M_ones, tm (i := 950) (by decide +kernel), tm (i := 952) (by decide +kernel), List.mem_append_left _ (List.mem_of_getElem? (i := 29) (by decide +kernel))⟩
def y_M_marked : MethodName := ⟨"FencedBrokerModel", "marked", "(IIIZ)Z"⟩
abbrev b_M_marked : ByteArray := prog_7_method_10_code
theorem cb_M_marked : CB y_M_marked b_M_marked 6 (some .boolean) 4 := ⟨tm (i := 9) (by decide +kernel), tm (i := 965) (by decide +kernel), ⟨by decide +kernel, by decide +kernel⟩, by decide +kernel⟩
def y_M_stepOf : MethodName := ⟨"FencedBrokerModel", "stepOf", "(I)I"⟩
abbrev b_M_stepOf : ByteArray := prog_7_method_20_code
theorem cb_M_stepOf : CB y_M_stepOf b_M_stepOf 3 (some .int) 1 := ⟨tm (i := 9) (by decide +kernel), tm (i := 961) (by decide +kernel), ⟨by decide +kernel, by decide +kernel⟩, by decide +kernel⟩
theorem cv_M_79 : CV "FencedBrokerModel" 79 y_M_marked b_M_marked 6 (some .boolean) 4 := ⟨cb_M_marked, tm (i := 962) (by decide +kernel), tm (i := 964) (by decide +kernel), List.mem_append_left _ (List.mem_of_getElem? (i := 31) (by decide +kernel))⟩
def y_M_step : MethodName := ⟨"FencedBrokerModel", "step", "()I"⟩
abbrev b_M_step : ByteArray := prog_7_method_21_code
theorem cb_M_step : CB y_M_step b_M_step 3 (some .int) 0 := ⟨tm (i := 9) (by decide +kernel), tm (i := 957) (by decide +kernel), ⟨by decide +kernel, by decide +kernel⟩, by decide +kernel⟩
theorem cv_M_122 : CV "FencedBrokerModel" 122 y_M_stepOf b_M_stepOf 3 (some .int) 1 := ⟨cb_M_stepOf, tm (i := 958) (by decide +kernel), tm (i := 960) (by decide +kernel), List.mem_append_left _ (List.mem_of_getElem? (i := 30) (by decide +kernel))⟩
def y_M_plain : MethodName := ⟨"FencedBrokerModel", "plain", "(II)I"⟩
abbrev b_M_plain : ByteArray := prog_7_method_22_code
theorem cb_M_plain : CB y_M_plain b_M_plain 3 (some .int) 2 := ⟨tm (i := 9) (by decide +kernel), tm (i := 969) (by decide +kernel), ⟨by decide +kernel, by decide +kernel⟩, by decide +kernel⟩
def y_M_copy : MethodName := ⟨"FencedBrokerModel", "copy", "(II)I"⟩
abbrev b_M_copy : ByteArray := prog_7_method_23_code
theorem cb_M_copy : CB y_M_copy b_M_copy 3 (some .int) 2 := ⟨tm (i := 9) (by decide +kernel), tm (i := 973) (by decide +kernel), ⟨by decide +kernel, by decide +kernel⟩, by decide +kernel⟩
def y_M_lose : MethodName := ⟨"FencedBrokerModel", "lose", "(I)I"⟩
abbrev b_M_lose : ByteArray := prog_7_method_24_code
theorem cb_M_lose : CB y_M_lose b_M_lose 3 (some .int) 1 := ⟨tm (i := 9) (by decide +kernel), tm (i := 977) (by decide +kernel), ⟨by decide +kernel, by decide +kernel⟩, by decide +kernel⟩
def y_M_stable : MethodName := ⟨"FencedBrokerModel", "stable", "(I)I"⟩
abbrev b_M_stable : ByteArray := prog_7_method_11_code
theorem cb_M_stable : CB y_M_stable b_M_stable 4 (some .int) 1 := ⟨tm (i := 9) (by decide +kernel), tm (i := 985) (by decide +kernel), ⟨by decide +kernel, by decide +kernel⟩, by decide +kernel⟩
def y_M_fetch : MethodName := ⟨"FencedBrokerModel", "fetch", "(IIZ)I"⟩
abbrev b_M_fetch : ByteArray := prog_7_method_25_code
theorem cb_M_fetch : CB y_M_fetch b_M_fetch 7 (some .int) 3 := ⟨tm (i := 9) (by decide +kernel), tm (i := 981) (by decide +kernel), ⟨by decide +kernel, by decide +kernel⟩, by decide +kernel⟩
theorem fl_M_128 : FL "FencedBrokerModel" 128 6 23 := ⟨_, _, _, rfl, by decide, Or.inl (tm (i := 840) (by decide +kernel))⟩
theorem flp_M_128 : FLP "FencedBrokerModel" 128 6 23 .int := ⟨fl_M_128, fun Cn T N h => by
  have e : (Cn, T, N) = ("FencedBrokerModel", q_Model, 24) := Option.some.inj (h.symm.trans (rfl : ccl[6]? = some ("FencedBrokerModel", q_Model, 24)))
  cases e
  exact ⟨rfl, by decide +kernel⟩⟩
theorem cv_M_125 : CV "FencedBrokerModel" 125 y_M_stable b_M_stable 4 (some .int) 1 := ⟨cb_M_stable, tm (i := 982) (by decide +kernel), tm (i := 984) (by decide +kernel), List.mem_append_left _ (List.mem_of_getElem? (i := 32) (by decide +kernel))⟩
def y_M_last : MethodName := ⟨"FencedBrokerModel", "last", "()I"⟩
abbrev b_M_last : ByteArray := prog_7_method_26_code
theorem cb_M_last : CB y_M_last b_M_last 1 (some .int) 0 := ⟨tm (i := 9) (by decide +kernel), tm (i := 989) (by decide +kernel), ⟨by decide +kernel, by decide +kernel⟩, by decide +kernel⟩
def y_M_trim : MethodName := ⟨"FencedBrokerModel", "trim", "(II)I"⟩
abbrev b_M_trim : ByteArray := prog_7_method_27_code
theorem cb_M_trim : CB y_M_trim b_M_trim 4 (some .int) 2 := ⟨tm (i := 9) (by decide +kernel), tm (i := 993) (by decide +kernel), ⟨by decide +kernel, by decide +kernel⟩, by decide +kernel⟩
def y_M_has : MethodName := ⟨"FencedBrokerModel", "has", "(II)I"⟩
abbrev b_M_has : ByteArray := prog_7_method_28_code
theorem cb_M_has : CB y_M_has b_M_has 5 (some .int) 2 := ⟨tm (i := 9) (by decide +kernel), tm (i := 1005) (by decide +kernel), ⟨by decide +kernel, by decide +kernel⟩, by decide +kernel⟩
def y_M_fewest : MethodName := ⟨"FencedBrokerModel", "fewest", "(I)I"⟩
abbrev b_M_fewest : ByteArray := prog_7_method_30_code
theorem cb_M_fewest : CB y_M_fewest b_M_fewest 4 (some .int) 1 := ⟨tm (i := 9) (by decide +kernel), tm (i := 1009) (by decide +kernel), ⟨by decide +kernel, by decide +kernel⟩, by decide +kernel⟩
theorem cv_M_131 : CV "FencedBrokerModel" 131 y_M_has b_M_has 5 (some .int) 2 := ⟨cb_M_has, tm (i := 1002) (by decide +kernel), tm (i := 1004) (by decide +kernel), List.mem_append_left _ (List.mem_of_getElem? (i := 34) (by decide +kernel))⟩
def y_M_share : MethodName := ⟨"FencedBrokerModel", "share", "(I)V"⟩
abbrev b_M_share : ByteArray := prog_7_method_29_code
theorem cb_M_share : CB y_M_share b_M_share 9 none 1 := ⟨tm (i := 9) (by decide +kernel), tm (i := 1001) (by decide +kernel), ⟨by decide +kernel, by decide +kernel⟩, by decide +kernel⟩
theorem cv_M_134 : CV "FencedBrokerModel" 134 y_M_fewest b_M_fewest 4 (some .int) 1 := ⟨cb_M_fewest, tm (i := 1006) (by decide +kernel), tm (i := 1008) (by decide +kernel), List.mem_append_left _ (List.mem_of_getElem? (i := 35) (by decide +kernel))⟩
def y_M_join : MethodName := ⟨"FencedBrokerModel", "join", "(II)I"⟩
abbrev b_M_join : ByteArray := prog_7_method_31_code
theorem cb_M_join : CB y_M_join b_M_join 3 (some .int) 2 := ⟨tm (i := 9) (by decide +kernel), tm (i := 997) (by decide +kernel), ⟨by decide +kernel, by decide +kernel⟩, by decide +kernel⟩
theorem cv_M_137 : CV "FencedBrokerModel" 137 y_M_share b_M_share 9 none 1 := ⟨cb_M_share, tm (i := 998) (by decide +kernel), tm (i := 1000) (by decide +kernel), List.mem_append_left _ (List.mem_of_getElem? (i := 33) (by decide +kernel))⟩
def y_M_leave : MethodName := ⟨"FencedBrokerModel", "leave", "(II)I"⟩
abbrev b_M_leave : ByteArray := prog_7_method_32_code
theorem cb_M_leave : CB y_M_leave b_M_leave 3 (some .int) 2 := ⟨tm (i := 9) (by decide +kernel), tm (i := 1013) (by decide +kernel), ⟨by decide +kernel, by decide +kernel⟩, by decide +kernel⟩
def y_M_beat : MethodName := ⟨"FencedBrokerModel", "beat", "(III)I"⟩
abbrev b_M_beat : ByteArray := prog_7_method_33_code
theorem cb_M_beat : CB y_M_beat b_M_beat 6 (some .int) 3 := ⟨tm (i := 9) (by decide +kernel), tm (i := 1017) (by decide +kernel), ⟨by decide +kernel, by decide +kernel⟩, by decide +kernel⟩
def y_M_mark : MethodName := ⟨"FencedBrokerModel", "mark", "(IIIII)I"⟩
abbrev b_M_mark : ByteArray := prog_7_method_34_code
theorem cb_M_mark : CB y_M_mark b_M_mark 7 (some .int) 5 := ⟨tm (i := 9) (by decide +kernel), tm (i := 1021) (by decide +kernel), ⟨by decide +kernel, by decide +kernel⟩, by decide +kernel⟩
def y_M_tick : MethodName := ⟨"FencedBrokerModel", "tick", "(I)I"⟩
abbrev b_M_tick : ByteArray := prog_7_method_35_code
theorem cb_M_tick : CB y_M_tick b_M_tick 6 (some .int) 1 := ⟨tm (i := 9) (by decide +kernel), tm (i := 1025) (by decide +kernel), ⟨by decide +kernel, by decide +kernel⟩, by decide +kernel⟩
theorem flp_M_101 : FLP "FencedBrokerModel" 101 6 22 .int := ⟨fl_M_101, fun Cn T N h => by
  have e : (Cn, T, N) = ("FencedBrokerModel", q_Model, 24) := Option.some.inj (h.symm.trans (rfl : ccl[6]? = some ("FencedBrokerModel", q_Model, 24)))
  cases e
  exact ⟨rfl, by decide +kernel⟩⟩
def y_M_edge : MethodName := ⟨"FencedBrokerModel", "edge", "(II)I"⟩
abbrev b_M_edge : ByteArray := prog_7_method_36_code
theorem cb_M_edge : CB y_M_edge b_M_edge 3 (some .int) 2 := ⟨tm (i := 9) (by decide +kernel), tm (i := 1029) (by decide +kernel), ⟨by decide +kernel, by decide +kernel⟩, by decide +kernel⟩
def y_M_fact : MethodName := ⟨"FencedBrokerModel", "fact", "(II)I"⟩
abbrev b_M_fact : ByteArray := prog_7_method_37_code
theorem cb_M_fact : CB y_M_fact b_M_fact 3 (some .int) 2 := ⟨tm (i := 9) (by decide +kernel), tm (i := 1033) (by decide +kernel), ⟨by decide +kernel, by decide +kernel⟩, by decide +kernel⟩
theorem d_M_ctor_0 : decode b_M_ctor 0 = .ok (.aload_n 0, 1) := by decide +kernel
theorem d_M_ctor_1 : decode b_M_ctor 1 = .ok (.invokespecial 1, 3) := by decide +kernel
theorem d_M_ctor_4 : decode b_M_ctor 4 = .ok (.aload_n 0, 1) := by decide +kernel
theorem d_M_ctor_5 : decode b_M_ctor 5 = .ok (.sipush 2080, 3) := by decide +kernel
theorem d_M_ctor_8 : decode b_M_ctor 8 = .ok (.newarray .int, 2) := by decide +kernel
theorem d_M_ctor_10 : decode b_M_ctor 10 = .ok (.putfield 7, 3) := by decide +kernel
theorem d_M_ctor_13 : decode b_M_ctor 13 = .ok (.aload_n 0, 1) := by decide +kernel
theorem d_M_ctor_14 : decode b_M_ctor 14 = .ok (.sipush 2080, 3) := by decide +kernel
theorem d_M_ctor_17 : decode b_M_ctor 17 = .ok (.newarray .int, 2) := by decide +kernel
theorem d_M_ctor_19 : decode b_M_ctor 19 = .ok (.putfield 13, 3) := by decide +kernel
theorem d_M_ctor_22 : decode b_M_ctor 22 = .ok (.aload_n 0, 1) := by decide +kernel
theorem d_M_ctor_23 : decode b_M_ctor 23 = .ok (.sipush 2080, 3) := by decide +kernel
theorem d_M_ctor_26 : decode b_M_ctor 26 = .ok (.newarray .int, 2) := by decide +kernel
theorem d_M_ctor_28 : decode b_M_ctor 28 = .ok (.putfield 16, 3) := by decide +kernel
theorem d_M_ctor_31 : decode b_M_ctor 31 = .ok (.aload_n 0, 1) := by decide +kernel
theorem d_M_ctor_32 : decode b_M_ctor 32 = .ok (.sipush 2080, 3) := by decide +kernel
theorem d_M_ctor_35 : decode b_M_ctor 35 = .ok (.newarray .int, 2) := by decide +kernel
theorem d_M_ctor_37 : decode b_M_ctor 37 = .ok (.putfield 19, 3) := by decide +kernel
theorem d_M_ctor_40 : decode b_M_ctor 40 = .ok (.aload_n 0, 1) := by decide +kernel
theorem d_M_ctor_41 : decode b_M_ctor 41 = .ok (.sipush 2080, 3) := by decide +kernel
theorem d_M_ctor_44 : decode b_M_ctor 44 = .ok (.newarray .int, 2) := by decide +kernel
theorem d_M_ctor_46 : decode b_M_ctor 46 = .ok (.putfield 22, 3) := by decide +kernel
theorem d_M_ctor_49 : decode b_M_ctor 49 = .ok (.aload_n 0, 1) := by decide +kernel
theorem d_M_ctor_50 : decode b_M_ctor 50 = .ok (.sipush 2080, 3) := by decide +kernel
theorem d_M_ctor_53 : decode b_M_ctor 53 = .ok (.newarray .int, 2) := by decide +kernel
theorem d_M_ctor_55 : decode b_M_ctor 55 = .ok (.putfield 25, 3) := by decide +kernel
theorem d_M_ctor_58 : decode b_M_ctor 58 = .ok (.aload_n 0, 1) := by decide +kernel
theorem d_M_ctor_59 : decode b_M_ctor 59 = .ok (.iconst 4, 1) := by decide +kernel
theorem d_M_ctor_60 : decode b_M_ctor 60 = .ok (.newarray .int, 2) := by decide +kernel
theorem d_M_ctor_62 : decode b_M_ctor 62 = .ok (.putfield 28, 3) := by decide +kernel
theorem d_M_ctor_65 : decode b_M_ctor 65 = .ok (.aload_n 0, 1) := by decide +kernel
theorem d_M_ctor_66 : decode b_M_ctor 66 = .ok (.iconst 4, 1) := by decide +kernel
theorem d_M_ctor_67 : decode b_M_ctor 67 = .ok (.newarray .int, 2) := by decide +kernel
theorem d_M_ctor_69 : decode b_M_ctor 69 = .ok (.putfield 31, 3) := by decide +kernel
theorem d_M_ctor_72 : decode b_M_ctor 72 = .ok (.aload_n 0, 1) := by decide +kernel
theorem d_M_ctor_73 : decode b_M_ctor 73 = .ok (.iconst 4, 1) := by decide +kernel
theorem d_M_ctor_74 : decode b_M_ctor 74 = .ok (.newarray .int, 2) := by decide +kernel
theorem d_M_ctor_76 : decode b_M_ctor 76 = .ok (.putfield 34, 3) := by decide +kernel
theorem d_M_ctor_79 : decode b_M_ctor 79 = .ok (.aload_n 0, 1) := by decide +kernel
theorem d_M_ctor_80 : decode b_M_ctor 80 = .ok (.iconst 4, 1) := by decide +kernel
theorem d_M_ctor_81 : decode b_M_ctor 81 = .ok (.newarray .int, 2) := by decide +kernel
theorem d_M_ctor_83 : decode b_M_ctor 83 = .ok (.putfield 37, 3) := by decide +kernel
theorem d_M_ctor_86 : decode b_M_ctor 86 = .ok (.aload_n 0, 1) := by decide +kernel
theorem d_M_ctor_87 : decode b_M_ctor 87 = .ok (.iconst 4, 1) := by decide +kernel
theorem d_M_ctor_88 : decode b_M_ctor 88 = .ok (.newarray .int, 2) := by decide +kernel
theorem d_M_ctor_90 : decode b_M_ctor 90 = .ok (.putfield 40, 3) := by decide +kernel
theorem d_M_ctor_93 : decode b_M_ctor 93 = .ok (.aload_n 0, 1) := by decide +kernel
theorem d_M_ctor_94 : decode b_M_ctor 94 = .ok (.iconst 4, 1) := by decide +kernel
theorem d_M_ctor_95 : decode b_M_ctor 95 = .ok (.newarray .int, 2) := by decide +kernel
theorem d_M_ctor_97 : decode b_M_ctor 97 = .ok (.putfield 43, 3) := by decide +kernel
theorem d_M_ctor_100 : decode b_M_ctor 100 = .ok (.aload_n 0, 1) := by decide +kernel
theorem d_M_ctor_101 : decode b_M_ctor 101 = .ok (.iconst 4, 1) := by decide +kernel
theorem d_M_ctor_102 : decode b_M_ctor 102 = .ok (.newarray .int, 2) := by decide +kernel
theorem d_M_ctor_104 : decode b_M_ctor 104 = .ok (.putfield 46, 3) := by decide +kernel
theorem d_M_ctor_107 : decode b_M_ctor 107 = .ok (.aload_n 0, 1) := by decide +kernel
theorem d_M_ctor_108 : decode b_M_ctor 108 = .ok (.iconst 4, 1) := by decide +kernel
theorem d_M_ctor_109 : decode b_M_ctor 109 = .ok (.newarray .int, 2) := by decide +kernel
theorem d_M_ctor_111 : decode b_M_ctor 111 = .ok (.putfield 49, 3) := by decide +kernel
theorem d_M_ctor_114 : decode b_M_ctor 114 = .ok (.aload_n 0, 1) := by decide +kernel
theorem d_M_ctor_115 : decode b_M_ctor 115 = .ok (.bipush 32, 2) := by decide +kernel
theorem d_M_ctor_117 : decode b_M_ctor 117 = .ok (.newarray .int, 2) := by decide +kernel
theorem d_M_ctor_119 : decode b_M_ctor 119 = .ok (.putfield 52, 3) := by decide +kernel
theorem d_M_ctor_122 : decode b_M_ctor 122 = .ok (.aload_n 0, 1) := by decide +kernel
theorem d_M_ctor_123 : decode b_M_ctor 123 = .ok (.iconst 2, 1) := by decide +kernel
theorem d_M_ctor_124 : decode b_M_ctor 124 = .ok (.newarray .int, 2) := by decide +kernel
theorem d_M_ctor_126 : decode b_M_ctor 126 = .ok (.putfield 55, 3) := by decide +kernel
theorem d_M_ctor_129 : decode b_M_ctor 129 = .ok (.aload_n 0, 1) := by decide +kernel
theorem d_M_ctor_130 : decode b_M_ctor 130 = .ok (.bipush 8, 2) := by decide +kernel
theorem d_M_ctor_132 : decode b_M_ctor 132 = .ok (.newarray .boolean, 2) := by decide +kernel
theorem d_M_ctor_134 : decode b_M_ctor 134 = .ok (.putfield 58, 3) := by decide +kernel
theorem d_M_ctor_137 : decode b_M_ctor 137 = .ok (.aload_n 0, 1) := by decide +kernel
theorem d_M_ctor_138 : decode b_M_ctor 138 = .ok (.bipush 8, 2) := by decide +kernel
theorem d_M_ctor_140 : decode b_M_ctor 140 = .ok (.newarray .int, 2) := by decide +kernel
theorem d_M_ctor_142 : decode b_M_ctor 142 = .ok (.putfield 62, 3) := by decide +kernel
theorem d_M_ctor_145 : decode b_M_ctor 145 = .ok (.aload_n 0, 1) := by decide +kernel
theorem d_M_ctor_146 : decode b_M_ctor 146 = .ok (.bipush 8, 2) := by decide +kernel
theorem d_M_ctor_148 : decode b_M_ctor 148 = .ok (.newarray .int, 2) := by decide +kernel
theorem d_M_ctor_150 : decode b_M_ctor 150 = .ok (.putfield 65, 3) := by decide +kernel
theorem d_M_ctor_153 : decode b_M_ctor 153 = .ok (.aload_n 0, 1) := by decide +kernel
theorem d_M_ctor_154 : decode b_M_ctor 154 = .ok (.bipush 8, 2) := by decide +kernel
theorem d_M_ctor_156 : decode b_M_ctor 156 = .ok (.newarray .int, 2) := by decide +kernel
theorem d_M_ctor_158 : decode b_M_ctor 158 = .ok (.putfield 68, 3) := by decide +kernel
theorem d_M_ctor_161 : decode b_M_ctor 161 = .ok (.iconst 0, 1) := by decide +kernel
theorem d_M_ctor_162 : decode b_M_ctor 162 = .ok (.istore_n 1, 1) := by decide +kernel
theorem d_M_ctor_163 : decode b_M_ctor 163 = .ok (.iload_n 1, 1) := by decide +kernel
theorem d_M_ctor_164 : decode b_M_ctor 164 = .ok (.iconst 4, 1) := by decide +kernel
theorem d_M_ctor_165 : decode b_M_ctor 165 = .ok (.if_icmp .ge 16, 3) := by decide +kernel
theorem d_M_ctor_168 : decode b_M_ctor 168 = .ok (.aload_n 0, 1) := by decide +kernel
theorem d_M_ctor_169 : decode b_M_ctor 169 = .ok (.getfield 37, 3) := by decide +kernel
theorem d_M_ctor_172 : decode b_M_ctor 172 = .ok (.iload_n 1, 1) := by decide +kernel
theorem d_M_ctor_173 : decode b_M_ctor 173 = .ok (.iconst (-1), 1) := by decide +kernel
theorem d_M_ctor_174 : decode b_M_ctor 174 = .ok (.iastore, 1) := by decide +kernel
theorem d_M_ctor_175 : decode b_M_ctor 175 = .ok (.iinc 1 1, 3) := by decide +kernel
theorem d_M_ctor_178 : decode b_M_ctor 178 = .ok (.goto (-15), 3) := by decide +kernel
theorem d_M_ctor_181 : decode b_M_ctor 181 = .ok (.iconst 0, 1) := by decide +kernel
theorem d_M_ctor_182 : decode b_M_ctor 182 = .ok (.istore_n 1, 1) := by decide +kernel
theorem d_M_ctor_183 : decode b_M_ctor 183 = .ok (.iload_n 1, 1) := by decide +kernel
theorem d_M_ctor_184 : decode b_M_ctor 184 = .ok (.bipush 8, 2) := by decide +kernel
theorem d_M_ctor_186 : decode b_M_ctor 186 = .ok (.if_icmp .ge 23, 3) := by decide +kernel
theorem d_M_ctor_189 : decode b_M_ctor 189 = .ok (.aload_n 0, 1) := by decide +kernel
theorem d_M_ctor_190 : decode b_M_ctor 190 = .ok (.getfield 65, 3) := by decide +kernel
theorem d_M_ctor_193 : decode b_M_ctor 193 = .ok (.iload_n 1, 1) := by decide +kernel
theorem d_M_ctor_194 : decode b_M_ctor 194 = .ok (.iconst (-1), 1) := by decide +kernel
theorem d_M_ctor_195 : decode b_M_ctor 195 = .ok (.iastore, 1) := by decide +kernel
theorem d_M_ctor_196 : decode b_M_ctor 196 = .ok (.aload_n 0, 1) := by decide +kernel
theorem d_M_ctor_197 : decode b_M_ctor 197 = .ok (.getfield 68, 3) := by decide +kernel
theorem d_M_ctor_200 : decode b_M_ctor 200 = .ok (.iload_n 1, 1) := by decide +kernel
theorem d_M_ctor_201 : decode b_M_ctor 201 = .ok (.iconst (-1), 1) := by decide +kernel
theorem d_M_ctor_202 : decode b_M_ctor 202 = .ok (.iastore, 1) := by decide +kernel
theorem d_M_ctor_203 : decode b_M_ctor 203 = .ok (.iinc 1 1, 3) := by decide +kernel
theorem d_M_ctor_206 : decode b_M_ctor 206 = .ok (.goto (-23), 3) := by decide +kernel
theorem d_M_ctor_209 : decode b_M_ctor 209 = .ok (.return_, 1) := by decide +kernel
theorem d_M_thrown_0 : decode b_M_thrown 0 = .ok (.aload_n 0, 1) := by decide +kernel
theorem d_M_thrown_1 : decode b_M_thrown 1 = .ok (.getfield 71, 3) := by decide +kernel
theorem d_M_thrown_4 : decode b_M_thrown 4 = .ok (.ireturn, 1) := by decide +kernel
theorem d_M_out_0 : decode b_M_out 0 = .ok (.iload_n 1, 1) := by decide +kernel
theorem d_M_out_1 : decode b_M_out 1 = .ok (.ifCond .lt 8, 3) := by decide +kernel
theorem d_M_out_4 : decode b_M_out 4 = .ok (.iload_n 1, 1) := by decide +kernel
theorem d_M_out_5 : decode b_M_out 5 = .ok (.iload_n 2, 1) := by decide +kernel
theorem d_M_out_6 : decode b_M_out 6 = .ok (.if_icmp .lt 7, 3) := by decide +kernel
theorem d_M_out_9 : decode b_M_out 9 = .ok (.iconst 1, 1) := by decide +kernel
theorem d_M_out_10 : decode b_M_out 10 = .ok (.goto 4, 3) := by decide +kernel
theorem d_M_out_13 : decode b_M_out 13 = .ok (.iconst 0, 1) := by decide +kernel
theorem d_M_out_14 : decode b_M_out 14 = .ok (.ireturn, 1) := by decide +kernel
theorem d_M_fail_0 : decode b_M_fail 0 = .ok (.aload_n 0, 1) := by decide +kernel
theorem d_M_fail_1 : decode b_M_fail 1 = .ok (.iload_n 1, 1) := by decide +kernel
theorem d_M_fail_2 : decode b_M_fail 2 = .ok (.putfield 71, 3) := by decide +kernel
theorem d_M_fail_5 : decode b_M_fail 5 = .ok (.iconst 0, 1) := by decide +kernel
theorem d_M_fail_6 : decode b_M_fail 6 = .ok (.ireturn, 1) := by decide +kernel
theorem d_M_abort_0 : decode b_M_abort 0 = .ok (.aload_n 0, 1) := by decide +kernel
theorem d_M_abort_1 : decode b_M_abort 1 = .ok (.getfield 40, 3) := by decide +kernel
theorem d_M_abort_4 : decode b_M_abort 4 = .ok (.iload_n 1, 1) := by decide +kernel
theorem d_M_abort_5 : decode b_M_abort 5 = .ok (.dup2, 1) := by decide +kernel
theorem d_M_abort_6 : decode b_M_abort 6 = .ok (.iaload, 1) := by decide +kernel
theorem d_M_abort_7 : decode b_M_abort 7 = .ok (.iconst 1, 1) := by decide +kernel
theorem d_M_abort_8 : decode b_M_abort 8 = .ok (.iadd, 1) := by decide +kernel
theorem d_M_abort_9 : decode b_M_abort 9 = .ok (.iastore, 1) := by decide +kernel
theorem d_M_abort_10 : decode b_M_abort 10 = .ok (.aload_n 0, 1) := by decide +kernel
theorem d_M_abort_11 : decode b_M_abort 11 = .ok (.getfield 37, 3) := by decide +kernel
theorem d_M_abort_14 : decode b_M_abort 14 = .ok (.iload_n 1, 1) := by decide +kernel
theorem d_M_abort_15 : decode b_M_abort 15 = .ok (.iconst 3, 1) := by decide +kernel
theorem d_M_abort_16 : decode b_M_abort 16 = .ok (.iastore, 1) := by decide +kernel
theorem d_M_abort_17 : decode b_M_abort 17 = .ok (.return_, 1) := by decide +kernel
theorem d_M_init_0 : decode b_M_init 0 = .ok (.aload_n 0, 1) := by decide +kernel
theorem d_M_init_1 : decode b_M_init 1 = .ok (.iconst 0, 1) := by decide +kernel
theorem d_M_init_2 : decode b_M_init 2 = .ok (.putfield 71, 3) := by decide +kernel
theorem d_M_init_5 : decode b_M_init 5 = .ok (.aload_n 0, 1) := by decide +kernel
theorem d_M_init_6 : decode b_M_init 6 = .ok (.iload_n 1, 1) := by decide +kernel
theorem d_M_init_7 : decode b_M_init 7 = .ok (.iconst 4, 1) := by decide +kernel
theorem d_M_init_8 : decode b_M_init 8 = .ok (.invokevirtual 83, 3) := by decide +kernel
theorem d_M_init_11 : decode b_M_init 11 = .ok (.ifCond .eq 9, 3) := by decide +kernel
theorem d_M_init_14 : decode b_M_init 14 = .ok (.aload_n 0, 1) := by decide +kernel
theorem d_M_init_15 : decode b_M_init 15 = .ok (.iconst 1, 1) := by decide +kernel
theorem d_M_init_16 : decode b_M_init 16 = .ok (.invokevirtual 86, 3) := by decide +kernel
theorem d_M_init_19 : decode b_M_init 19 = .ok (.ireturn, 1) := by decide +kernel
theorem d_M_init_20 : decode b_M_init 20 = .ok (.aload_n 0, 1) := by decide +kernel
theorem d_M_init_21 : decode b_M_init 21 = .ok (.getfield 37, 3) := by decide +kernel
theorem d_M_init_24 : decode b_M_init 24 = .ok (.iload_n 1, 1) := by decide +kernel
theorem d_M_init_25 : decode b_M_init 25 = .ok (.iaload, 1) := by decide +kernel
theorem d_M_init_26 : decode b_M_init 26 = .ok (.iconst 1, 1) := by decide +kernel
theorem d_M_init_27 : decode b_M_init 27 = .ok (.if_icmp .ne 11, 3) := by decide +kernel
theorem d_M_init_30 : decode b_M_init 30 = .ok (.aload_n 0, 1) := by decide +kernel
theorem d_M_init_31 : decode b_M_init 31 = .ok (.iload_n 1, 1) := by decide +kernel
theorem d_M_init_32 : decode b_M_init 32 = .ok (.invokevirtual 90, 3) := by decide +kernel
theorem d_M_init_35 : decode b_M_init 35 = .ok (.goto 54, 3) := by decide +kernel
theorem d_M_init_38 : decode b_M_init 38 = .ok (.aload_n 0, 1) := by decide +kernel
theorem d_M_init_39 : decode b_M_init 39 = .ok (.getfield 37, 3) := by decide +kernel
theorem d_M_init_42 : decode b_M_init 42 = .ok (.iload_n 1, 1) := by decide +kernel
theorem d_M_init_43 : decode b_M_init 43 = .ok (.iaload, 1) := by decide +kernel
theorem d_M_init_44 : decode b_M_init 44 = .ok (.iconst 1, 1) := by decide +kernel
theorem d_M_init_45 : decode b_M_init 45 = .ok (.if_icmp .ge 44, 3) := by decide +kernel
theorem d_M_init_48 : decode b_M_init 48 = .ok (.aload_n 0, 1) := by decide +kernel
theorem d_M_init_49 : decode b_M_init 49 = .ok (.getfield 40, 3) := by decide +kernel
theorem d_M_init_52 : decode b_M_init 52 = .ok (.iload_n 1, 1) := by decide +kernel
theorem d_M_init_53 : decode b_M_init 53 = .ok (.aload_n 0, 1) := by decide +kernel
theorem d_M_init_54 : decode b_M_init 54 = .ok (.getfield 37, 3) := by decide +kernel
theorem d_M_init_57 : decode b_M_init 57 = .ok (.iload_n 1, 1) := by decide +kernel
theorem d_M_init_58 : decode b_M_init 58 = .ok (.iaload, 1) := by decide +kernel
theorem d_M_init_59 : decode b_M_init 59 = .ok (.ifCond .ge 7, 3) := by decide +kernel
theorem d_M_init_62 : decode b_M_init 62 = .ok (.iconst 0, 1) := by decide +kernel
theorem d_M_init_63 : decode b_M_init 63 = .ok (.goto 11, 3) := by decide +kernel
theorem d_M_init_66 : decode b_M_init 66 = .ok (.aload_n 0, 1) := by decide +kernel
theorem d_M_init_67 : decode b_M_init 67 = .ok (.getfield 40, 3) := by decide +kernel
theorem d_M_init_70 : decode b_M_init 70 = .ok (.iload_n 1, 1) := by decide +kernel
theorem d_M_init_71 : decode b_M_init 71 = .ok (.iaload, 1) := by decide +kernel
theorem d_M_init_72 : decode b_M_init 72 = .ok (.iconst 1, 1) := by decide +kernel
theorem d_M_init_73 : decode b_M_init 73 = .ok (.iadd, 1) := by decide +kernel
theorem d_M_init_74 : decode b_M_init 74 = .ok (.iastore, 1) := by decide +kernel
theorem d_M_init_75 : decode b_M_init 75 = .ok (.aload_n 0, 1) := by decide +kernel
theorem d_M_init_76 : decode b_M_init 76 = .ok (.getfield 37, 3) := by decide +kernel
theorem d_M_init_79 : decode b_M_init 79 = .ok (.iload_n 1, 1) := by decide +kernel
theorem d_M_init_80 : decode b_M_init 80 = .ok (.iconst 0, 1) := by decide +kernel
theorem d_M_init_81 : decode b_M_init 81 = .ok (.iastore, 1) := by decide +kernel
theorem d_M_init_82 : decode b_M_init 82 = .ok (.aload_n 0, 1) := by decide +kernel
theorem d_M_init_83 : decode b_M_init 83 = .ok (.getfield 40, 3) := by decide +kernel
theorem d_M_init_86 : decode b_M_init 86 = .ok (.iload_n 1, 1) := by decide +kernel
theorem d_M_init_87 : decode b_M_init 87 = .ok (.iaload, 1) := by decide +kernel
theorem d_M_init_88 : decode b_M_init 88 = .ok (.ireturn, 1) := by decide +kernel
theorem d_M_init_89 : decode b_M_init 89 = .ok (.aload_n 0, 1) := by decide +kernel
theorem d_M_init_90 : decode b_M_init 90 = .ok (.iconst 2, 1) := by decide +kernel
theorem d_M_init_91 : decode b_M_init 91 = .ok (.invokevirtual 86, 3) := by decide +kernel
theorem d_M_init_94 : decode b_M_init 94 = .ok (.ireturn, 1) := by decide +kernel
theorem d_M_check_0 : decode b_M_check 0 = .ok (.aload_n 0, 1) := by decide +kernel
theorem d_M_check_1 : decode b_M_check 1 = .ok (.getfield 37, 3) := by decide +kernel
theorem d_M_check_4 : decode b_M_check 4 = .ok (.iload_n 1, 1) := by decide +kernel
theorem d_M_check_5 : decode b_M_check 5 = .ok (.iaload, 1) := by decide +kernel
theorem d_M_check_6 : decode b_M_check 6 = .ok (.ifCond .ge 5, 3) := by decide +kernel
theorem d_M_check_9 : decode b_M_check 9 = .ok (.iconst 2, 1) := by decide +kernel
theorem d_M_check_10 : decode b_M_check 10 = .ok (.ireturn, 1) := by decide +kernel
theorem d_M_check_11 : decode b_M_check 11 = .ok (.iload_n 2, 1) := by decide +kernel
theorem d_M_check_12 : decode b_M_check 12 = .ok (.aload_n 0, 1) := by decide +kernel
theorem d_M_check_13 : decode b_M_check 13 = .ok (.getfield 40, 3) := by decide +kernel
theorem d_M_check_16 : decode b_M_check 16 = .ok (.iload_n 1, 1) := by decide +kernel
theorem d_M_check_17 : decode b_M_check 17 = .ok (.iaload, 1) := by decide +kernel
theorem d_M_check_18 : decode b_M_check 18 = .ok (.if_icmp .ne 13, 3) := by decide +kernel
theorem d_M_check_21 : decode b_M_check 21 = .ok (.aload_n 0, 1) := by decide +kernel
theorem d_M_check_22 : decode b_M_check 22 = .ok (.getfield 37, 3) := by decide +kernel
theorem d_M_check_25 : decode b_M_check 25 = .ok (.iload_n 1, 1) := by decide +kernel
theorem d_M_check_26 : decode b_M_check 26 = .ok (.iaload, 1) := by decide +kernel
theorem d_M_check_27 : decode b_M_check 27 = .ok (.iload_n 3, 1) := by decide +kernel
theorem d_M_check_28 : decode b_M_check 28 = .ok (.if_icmp .eq 7, 3) := by decide +kernel
theorem d_M_check_31 : decode b_M_check 31 = .ok (.iconst 3, 1) := by decide +kernel
theorem d_M_check_32 : decode b_M_check 32 = .ok (.goto 4, 3) := by decide +kernel
theorem d_M_check_35 : decode b_M_check 35 = .ok (.iconst 0, 1) := by decide +kernel
theorem d_M_check_36 : decode b_M_check 36 = .ok (.ireturn, 1) := by decide +kernel
theorem d_M_begin_0 : decode b_M_begin 0 = .ok (.aload_n 0, 1) := by decide +kernel
theorem d_M_begin_1 : decode b_M_begin 1 = .ok (.aload_n 0, 1) := by decide +kernel
theorem d_M_begin_2 : decode b_M_begin 2 = .ok (.iload_n 1, 1) := by decide +kernel
theorem d_M_begin_3 : decode b_M_begin 3 = .ok (.iconst 4, 1) := by decide +kernel
theorem d_M_begin_4 : decode b_M_begin 4 = .ok (.invokevirtual 83, 3) := by decide +kernel
theorem d_M_begin_7 : decode b_M_begin 7 = .ok (.ifCond .eq 7, 3) := by decide +kernel
theorem d_M_begin_10 : decode b_M_begin 10 = .ok (.iconst 1, 1) := by decide +kernel
theorem d_M_begin_11 : decode b_M_begin 11 = .ok (.goto 10, 3) := by decide +kernel
theorem d_M_begin_14 : decode b_M_begin 14 = .ok (.aload_n 0, 1) := by decide +kernel
theorem d_M_begin_15 : decode b_M_begin 15 = .ok (.iload_n 1, 1) := by decide +kernel
theorem d_M_begin_16 : decode b_M_begin 16 = .ok (.iload_n 2, 1) := by decide +kernel
theorem d_M_begin_17 : decode b_M_begin 17 = .ok (.iconst 0, 1) := by decide +kernel
theorem d_M_begin_18 : decode b_M_begin 18 = .ok (.invokevirtual 94, 3) := by decide +kernel
theorem d_M_begin_21 : decode b_M_begin 21 = .ok (.putfield 71, 3) := by decide +kernel
theorem d_M_begin_24 : decode b_M_begin 24 = .ok (.aload_n 0, 1) := by decide +kernel
theorem d_M_begin_25 : decode b_M_begin 25 = .ok (.getfield 71, 3) := by decide +kernel
theorem d_M_begin_28 : decode b_M_begin 28 = .ok (.ifCond .le 5, 3) := by decide +kernel
theorem d_M_begin_31 : decode b_M_begin 31 = .ok (.iconst 0, 1) := by decide +kernel
theorem d_M_begin_32 : decode b_M_begin 32 = .ok (.ireturn, 1) := by decide +kernel
theorem d_M_begin_33 : decode b_M_begin 33 = .ok (.aload_n 0, 1) := by decide +kernel
theorem d_M_begin_34 : decode b_M_begin 34 = .ok (.getfield 98, 3) := by decide +kernel
theorem d_M_begin_37 : decode b_M_begin 37 = .ok (.bipush 40, 2) := by decide +kernel
theorem d_M_begin_39 : decode b_M_begin 39 = .ok (.if_icmp .ne 9, 3) := by decide +kernel
theorem d_M_begin_42 : decode b_M_begin 42 = .ok (.aload_n 0, 1) := by decide +kernel
theorem d_M_begin_43 : decode b_M_begin 43 = .ok (.iconst 3, 1) := by decide +kernel
theorem d_M_begin_44 : decode b_M_begin 44 = .ok (.invokevirtual 86, 3) := by decide +kernel
theorem d_M_begin_47 : decode b_M_begin 47 = .ok (.ireturn, 1) := by decide +kernel
theorem d_M_begin_48 : decode b_M_begin 48 = .ok (.aload_n 0, 1) := by decide +kernel
theorem d_M_begin_49 : decode b_M_begin 49 = .ok (.dup, 1) := by decide +kernel
theorem d_M_begin_50 : decode b_M_begin 50 = .ok (.getfield 98, 3) := by decide +kernel
theorem d_M_begin_53 : decode b_M_begin 53 = .ok (.iconst 1, 1) := by decide +kernel
theorem d_M_begin_54 : decode b_M_begin 54 = .ok (.iadd, 1) := by decide +kernel
theorem d_M_begin_55 : decode b_M_begin 55 = .ok (.putfield 98, 3) := by decide +kernel
theorem d_M_begin_58 : decode b_M_begin 58 = .ok (.aload_n 0, 1) := by decide +kernel
theorem d_M_begin_59 : decode b_M_begin 59 = .ok (.getfield 37, 3) := by decide +kernel
theorem d_M_begin_62 : decode b_M_begin 62 = .ok (.iload_n 1, 1) := by decide +kernel
theorem d_M_begin_63 : decode b_M_begin 63 = .ok (.iconst 1, 1) := by decide +kernel
theorem d_M_begin_64 : decode b_M_begin 64 = .ok (.iastore, 1) := by decide +kernel
theorem d_M_begin_65 : decode b_M_begin 65 = .ok (.aload_n 0, 1) := by decide +kernel
theorem d_M_begin_66 : decode b_M_begin 66 = .ok (.getfield 43, 3) := by decide +kernel
theorem d_M_begin_69 : decode b_M_begin 69 = .ok (.iload_n 1, 1) := by decide +kernel
theorem d_M_begin_70 : decode b_M_begin 70 = .ok (.aload_n 0, 1) := by decide +kernel
theorem d_M_begin_71 : decode b_M_begin 71 = .ok (.getfield 98, 3) := by decide +kernel
theorem d_M_begin_74 : decode b_M_begin 74 = .ok (.iastore, 1) := by decide +kernel
theorem d_M_begin_75 : decode b_M_begin 75 = .ok (.aload_n 0, 1) := by decide +kernel
theorem d_M_begin_76 : decode b_M_begin 76 = .ok (.getfield 46, 3) := by decide +kernel
theorem d_M_begin_79 : decode b_M_begin 79 = .ok (.iload_n 1, 1) := by decide +kernel
theorem d_M_begin_80 : decode b_M_begin 80 = .ok (.iconst 0, 1) := by decide +kernel
theorem d_M_begin_81 : decode b_M_begin 81 = .ok (.iastore, 1) := by decide +kernel
theorem d_M_begin_82 : decode b_M_begin 82 = .ok (.aload_n 0, 1) := by decide +kernel
theorem d_M_begin_83 : decode b_M_begin 83 = .ok (.getfield 49, 3) := by decide +kernel
theorem d_M_begin_86 : decode b_M_begin 86 = .ok (.iload_n 1, 1) := by decide +kernel
theorem d_M_begin_87 : decode b_M_begin 87 = .ok (.aload_n 0, 1) := by decide +kernel
theorem d_M_begin_88 : decode b_M_begin 88 = .ok (.getfield 101, 3) := by decide +kernel
theorem d_M_begin_91 : decode b_M_begin 91 = .ok (.iastore, 1) := by decide +kernel
theorem d_M_begin_92 : decode b_M_begin 92 = .ok (.iconst 0, 1) := by decide +kernel
theorem d_M_begin_93 : decode b_M_begin 93 = .ok (.istore_n 3, 1) := by decide +kernel
theorem d_M_begin_94 : decode b_M_begin 94 = .ok (.iload_n 3, 1) := by decide +kernel
theorem d_M_begin_95 : decode b_M_begin 95 = .ok (.bipush 8, 2) := by decide +kernel
theorem d_M_begin_97 : decode b_M_begin 97 = .ok (.if_icmp .ge 21, 3) := by decide +kernel
theorem d_M_begin_100 : decode b_M_begin 100 = .ok (.aload_n 0, 1) := by decide +kernel
theorem d_M_begin_101 : decode b_M_begin 101 = .ok (.getfield 52, 3) := by decide +kernel
theorem d_M_begin_104 : decode b_M_begin 104 = .ok (.bipush 8, 2) := by decide +kernel
theorem d_M_begin_106 : decode b_M_begin 106 = .ok (.iload_n 1, 1) := by decide +kernel
theorem d_M_begin_107 : decode b_M_begin 107 = .ok (.imul, 1) := by decide +kernel
theorem d_M_begin_108 : decode b_M_begin 108 = .ok (.iload_n 3, 1) := by decide +kernel
theorem d_M_begin_109 : decode b_M_begin 109 = .ok (.iadd, 1) := by decide +kernel
theorem d_M_begin_110 : decode b_M_begin 110 = .ok (.iconst (-1), 1) := by decide +kernel
theorem d_M_begin_111 : decode b_M_begin 111 = .ok (.iastore, 1) := by decide +kernel
theorem d_M_begin_112 : decode b_M_begin 112 = .ok (.iinc 3 1, 3) := by decide +kernel
theorem d_M_begin_115 : decode b_M_begin 115 = .ok (.goto (-21), 3) := by decide +kernel
theorem d_M_begin_118 : decode b_M_begin 118 = .ok (.aload_n 0, 1) := by decide +kernel
theorem d_M_begin_119 : decode b_M_begin 119 = .ok (.getfield 98, 3) := by decide +kernel
theorem d_M_begin_122 : decode b_M_begin 122 = .ok (.ireturn, 1) := by decide +kernel
theorem d_M_ofProducer_0 : decode b_M_ofProducer 0 = .ok (.aload_n 0, 1) := by decide +kernel
theorem d_M_ofProducer_1 : decode b_M_ofProducer 1 = .ok (.getfield 7, 3) := by decide +kernel
theorem d_M_ofProducer_4 : decode b_M_ofProducer 4 = .ok (.iload_n 1, 1) := by decide +kernel
theorem d_M_ofProducer_5 : decode b_M_ofProducer 5 = .ok (.iaload, 1) := by decide +kernel
theorem d_M_ofProducer_6 : decode b_M_ofProducer 6 = .ok (.iconst 1, 1) := by decide +kernel
theorem d_M_ofProducer_7 : decode b_M_ofProducer 7 = .ok (.if_icmp .ne 32, 3) := by decide +kernel
theorem d_M_ofProducer_10 : decode b_M_ofProducer 10 = .ok (.aload_n 0, 1) := by decide +kernel
theorem d_M_ofProducer_11 : decode b_M_ofProducer 11 = .ok (.getfield 16, 3) := by decide +kernel
theorem d_M_ofProducer_14 : decode b_M_ofProducer 14 = .ok (.iload_n 1, 1) := by decide +kernel
theorem d_M_ofProducer_15 : decode b_M_ofProducer 15 = .ok (.iaload, 1) := by decide +kernel
theorem d_M_ofProducer_16 : decode b_M_ofProducer 16 = .ok (.iload_n 2, 1) := by decide +kernel
theorem d_M_ofProducer_17 : decode b_M_ofProducer 17 = .ok (.if_icmp .ne 22, 3) := by decide +kernel
theorem d_M_ofProducer_20 : decode b_M_ofProducer 20 = .ok (.aload_n 0, 1) := by decide +kernel
theorem d_M_ofProducer_21 : decode b_M_ofProducer 21 = .ok (.getfield 19, 3) := by decide +kernel
theorem d_M_ofProducer_24 : decode b_M_ofProducer 24 = .ok (.iload_n 1, 1) := by decide +kernel
theorem d_M_ofProducer_25 : decode b_M_ofProducer 25 = .ok (.iaload, 1) := by decide +kernel
theorem d_M_ofProducer_26 : decode b_M_ofProducer 26 = .ok (.aload_n 0, 1) := by decide +kernel
theorem d_M_ofProducer_27 : decode b_M_ofProducer 27 = .ok (.getfield 40, 3) := by decide +kernel
theorem d_M_ofProducer_30 : decode b_M_ofProducer 30 = .ok (.iload_n 2, 1) := by decide +kernel
theorem d_M_ofProducer_31 : decode b_M_ofProducer 31 = .ok (.iaload, 1) := by decide +kernel
theorem d_M_ofProducer_32 : decode b_M_ofProducer 32 = .ok (.if_icmp .ne 7, 3) := by decide +kernel
theorem d_M_ofProducer_35 : decode b_M_ofProducer 35 = .ok (.iconst 1, 1) := by decide +kernel
theorem d_M_ofProducer_36 : decode b_M_ofProducer 36 = .ok (.goto 4, 3) := by decide +kernel
theorem d_M_ofProducer_39 : decode b_M_ofProducer 39 = .ok (.iconst 0, 1) := by decide +kernel
theorem d_M_ofProducer_40 : decode b_M_ofProducer 40 = .ok (.ireturn, 1) := by decide +kernel
theorem d_M_recent_0 : decode b_M_recent 0 = .ok (.iconst 0, 1) := by decide +kernel
theorem d_M_recent_1 : decode b_M_recent 1 = .ok (.istore 4, 2) := by decide +kernel
theorem d_M_recent_3 : decode b_M_recent 3 = .ok (.aload_n 0, 1) := by decide +kernel
theorem d_M_recent_4 : decode b_M_recent 4 = .ok (.getfield 28, 3) := by decide +kernel
theorem d_M_recent_7 : decode b_M_recent 7 = .ok (.iload_n 2, 1) := by decide +kernel
theorem d_M_recent_8 : decode b_M_recent 8 = .ok (.iaload, 1) := by decide +kernel
theorem d_M_recent_9 : decode b_M_recent 9 = .ok (.iconst 1, 1) := by decide +kernel
theorem d_M_recent_10 : decode b_M_recent 10 = .ok (.isub, 1) := by decide +kernel
theorem d_M_recent_11 : decode b_M_recent 11 = .ok (.istore 5, 2) := by decide +kernel
theorem d_M_recent_13 : decode b_M_recent 13 = .ok (.iload 5, 2) := by decide +kernel
theorem d_M_recent_15 : decode b_M_recent 15 = .ok (.ifCond .lt 57, 3) := by decide +kernel
theorem d_M_recent_18 : decode b_M_recent 18 = .ok (.iload 4, 2) := by decide +kernel
theorem d_M_recent_20 : decode b_M_recent 20 = .ok (.iconst 5, 1) := by decide +kernel
theorem d_M_recent_21 : decode b_M_recent 21 = .ok (.if_icmp .ge 51, 3) := by decide +kernel
theorem d_M_recent_24 : decode b_M_recent 24 = .ok (.aload_n 0, 1) := by decide +kernel
theorem d_M_recent_25 : decode b_M_recent 25 = .ok (.sipush 520, 3) := by decide +kernel
theorem d_M_recent_28 : decode b_M_recent 28 = .ok (.iload_n 2, 1) := by decide +kernel
theorem d_M_recent_29 : decode b_M_recent 29 = .ok (.imul, 1) := by decide +kernel
theorem d_M_recent_30 : decode b_M_recent 30 = .ok (.iload 5, 2) := by decide +kernel
theorem d_M_recent_32 : decode b_M_recent 32 = .ok (.iadd, 1) := by decide +kernel
theorem d_M_recent_33 : decode b_M_recent 33 = .ok (.iload_n 1, 1) := by decide +kernel
theorem d_M_recent_34 : decode b_M_recent 34 = .ok (.invokevirtual 75, 3) := by decide +kernel
theorem d_M_recent_37 : decode b_M_recent 37 = .ok (.ifCond .ne 6, 3) := by decide +kernel
theorem d_M_recent_40 : decode b_M_recent 40 = .ok (.goto 26, 3) := by decide +kernel
theorem d_M_recent_43 : decode b_M_recent 43 = .ok (.iinc 4 1, 3) := by decide +kernel
theorem d_M_recent_46 : decode b_M_recent 46 = .ok (.aload_n 0, 1) := by decide +kernel
theorem d_M_recent_47 : decode b_M_recent 47 = .ok (.getfield 22, 3) := by decide +kernel
theorem d_M_recent_50 : decode b_M_recent 50 = .ok (.sipush 520, 3) := by decide +kernel
theorem d_M_recent_53 : decode b_M_recent 53 = .ok (.iload_n 2, 1) := by decide +kernel
theorem d_M_recent_54 : decode b_M_recent 54 = .ok (.imul, 1) := by decide +kernel
theorem d_M_recent_55 : decode b_M_recent 55 = .ok (.iload 5, 2) := by decide +kernel
theorem d_M_recent_57 : decode b_M_recent 57 = .ok (.iadd, 1) := by decide +kernel
theorem d_M_recent_58 : decode b_M_recent 58 = .ok (.iaload, 1) := by decide +kernel
theorem d_M_recent_59 : decode b_M_recent 59 = .ok (.iload_n 3, 1) := by decide +kernel
theorem d_M_recent_60 : decode b_M_recent 60 = .ok (.if_icmp .ne 6, 3) := by decide +kernel
theorem d_M_recent_63 : decode b_M_recent 63 = .ok (.iload 5, 2) := by decide +kernel
theorem d_M_recent_65 : decode b_M_recent 65 = .ok (.ireturn, 1) := by decide +kernel
theorem d_M_recent_66 : decode b_M_recent 66 = .ok (.iinc 5 (-1), 3) := by decide +kernel
theorem d_M_recent_69 : decode b_M_recent 69 = .ok (.goto (-56), 3) := by decide +kernel
theorem d_M_recent_72 : decode b_M_recent 72 = .ok (.iconst (-1), 1) := by decide +kernel
theorem d_M_recent_73 : decode b_M_recent 73 = .ok (.ireturn, 1) := by decide +kernel
theorem d_M_next_0 : decode b_M_next 0 = .ok (.iconst 0, 1) := by decide +kernel
theorem d_M_next_1 : decode b_M_next 1 = .ok (.istore_n 3, 1) := by decide +kernel
theorem d_M_next_2 : decode b_M_next 2 = .ok (.sipush 520, 3) := by decide +kernel
theorem d_M_next_5 : decode b_M_next 5 = .ok (.iload_n 2, 1) := by decide +kernel
theorem d_M_next_6 : decode b_M_next 6 = .ok (.imul, 1) := by decide +kernel
theorem d_M_next_7 : decode b_M_next 7 = .ok (.istore 4, 2) := by decide +kernel
theorem d_M_next_9 : decode b_M_next 9 = .ok (.iload 4, 2) := by decide +kernel
theorem d_M_next_11 : decode b_M_next 11 = .ok (.sipush 520, 3) := by decide +kernel
theorem d_M_next_14 : decode b_M_next 14 = .ok (.iload_n 2, 1) := by decide +kernel
theorem d_M_next_15 : decode b_M_next 15 = .ok (.imul, 1) := by decide +kernel
theorem d_M_next_16 : decode b_M_next 16 = .ok (.aload_n 0, 1) := by decide +kernel
theorem d_M_next_17 : decode b_M_next 17 = .ok (.getfield 28, 3) := by decide +kernel
theorem d_M_next_20 : decode b_M_next 20 = .ok (.iload_n 2, 1) := by decide +kernel
theorem d_M_next_21 : decode b_M_next 21 = .ok (.iaload, 1) := by decide +kernel
theorem d_M_next_22 : decode b_M_next 22 = .ok (.iadd, 1) := by decide +kernel
theorem d_M_next_23 : decode b_M_next 23 = .ok (.if_icmp .ge 40, 3) := by decide +kernel
theorem d_M_next_26 : decode b_M_next 26 = .ok (.aload_n 0, 1) := by decide +kernel
theorem d_M_next_27 : decode b_M_next 27 = .ok (.iload 4, 2) := by decide +kernel
theorem d_M_next_29 : decode b_M_next 29 = .ok (.iload_n 1, 1) := by decide +kernel
theorem d_M_next_30 : decode b_M_next 30 = .ok (.invokevirtual 75, 3) := by decide +kernel
theorem d_M_next_33 : decode b_M_next 33 = .ok (.ifCond .eq 24, 3) := by decide +kernel
theorem d_M_next_36 : decode b_M_next 36 = .ok (.aload_n 0, 1) := by decide +kernel
theorem d_M_next_37 : decode b_M_next 37 = .ok (.getfield 22, 3) := by decide +kernel
theorem d_M_next_40 : decode b_M_next 40 = .ok (.iload 4, 2) := by decide +kernel
theorem d_M_next_42 : decode b_M_next 42 = .ok (.iaload, 1) := by decide +kernel
theorem d_M_next_43 : decode b_M_next 43 = .ok (.iload_n 3, 1) := by decide +kernel
theorem d_M_next_44 : decode b_M_next 44 = .ok (.if_icmp .lt 13, 3) := by decide +kernel
theorem d_M_next_47 : decode b_M_next 47 = .ok (.aload_n 0, 1) := by decide +kernel
theorem d_M_next_48 : decode b_M_next 48 = .ok (.getfield 22, 3) := by decide +kernel
theorem d_M_next_51 : decode b_M_next 51 = .ok (.iload 4, 2) := by decide +kernel
theorem d_M_next_53 : decode b_M_next 53 = .ok (.iaload, 1) := by decide +kernel
theorem d_M_next_54 : decode b_M_next 54 = .ok (.iconst 1, 1) := by decide +kernel
theorem d_M_next_55 : decode b_M_next 55 = .ok (.iadd, 1) := by decide +kernel
theorem d_M_next_56 : decode b_M_next 56 = .ok (.istore_n 3, 1) := by decide +kernel
theorem d_M_next_57 : decode b_M_next 57 = .ok (.iinc 4 1, 3) := by decide +kernel
theorem d_M_next_60 : decode b_M_next 60 = .ok (.goto (-51), 3) := by decide +kernel
theorem d_M_next_63 : decode b_M_next 63 = .ok (.iload_n 3, 1) := by decide +kernel
theorem d_M_next_64 : decode b_M_next 64 = .ok (.ireturn, 1) := by decide +kernel
theorem d_M_full_0 : decode b_M_full 0 = .ok (.aload_n 0, 1) := by decide +kernel
theorem d_M_full_1 : decode b_M_full 1 = .ok (.getfield 28, 3) := by decide +kernel
theorem d_M_full_4 : decode b_M_full 4 = .ok (.iload_n 1, 1) := by decide +kernel
theorem d_M_full_5 : decode b_M_full 5 = .ok (.iaload, 1) := by decide +kernel
theorem d_M_full_6 : decode b_M_full 6 = .ok (.aload_n 0, 1) := by decide +kernel
theorem d_M_full_7 : decode b_M_full 7 = .ok (.getfield 31, 3) := by decide +kernel
theorem d_M_full_10 : decode b_M_full 10 = .ok (.iload_n 1, 1) := by decide +kernel
theorem d_M_full_11 : decode b_M_full 11 = .ok (.iaload, 1) := by decide +kernel
theorem d_M_full_12 : decode b_M_full 12 = .ok (.isub, 1) := by decide +kernel
theorem d_M_full_13 : decode b_M_full 13 = .ok (.bipush 32, 2) := by decide +kernel
theorem d_M_full_15 : decode b_M_full 15 = .ok (.if_icmp .ge 15, 3) := by decide +kernel
theorem d_M_full_18 : decode b_M_full 18 = .ok (.aload_n 0, 1) := by decide +kernel
theorem d_M_full_19 : decode b_M_full 19 = .ok (.getfield 28, 3) := by decide +kernel
theorem d_M_full_22 : decode b_M_full 22 = .ok (.iload_n 1, 1) := by decide +kernel
theorem d_M_full_23 : decode b_M_full 23 = .ok (.iaload, 1) := by decide +kernel
theorem d_M_full_24 : decode b_M_full 24 = .ok (.sipush 400, 3) := by decide +kernel
theorem d_M_full_27 : decode b_M_full 27 = .ok (.if_icmp .lt 7, 3) := by decide +kernel
theorem d_M_full_30 : decode b_M_full 30 = .ok (.iconst 1, 1) := by decide +kernel
theorem d_M_full_31 : decode b_M_full 31 = .ok (.goto 4, 3) := by decide +kernel
theorem d_M_full_34 : decode b_M_full 34 = .ok (.iconst 0, 1) := by decide +kernel
theorem d_M_full_35 : decode b_M_full 35 = .ok (.ireturn, 1) := by decide +kernel
theorem d_M_put_0 : decode b_M_put 0 = .ok (.sipush 520, 3) := by decide +kernel
theorem d_M_put_3 : decode b_M_put 3 = .ok (.iload_n 1, 1) := by decide +kernel
theorem d_M_put_4 : decode b_M_put 4 = .ok (.imul, 1) := by decide +kernel
theorem d_M_put_5 : decode b_M_put 5 = .ok (.aload_n 0, 1) := by decide +kernel
theorem d_M_put_6 : decode b_M_put 6 = .ok (.getfield 28, 3) := by decide +kernel
theorem d_M_put_9 : decode b_M_put 9 = .ok (.iload_n 1, 1) := by decide +kernel
theorem d_M_put_10 : decode b_M_put 10 = .ok (.iaload, 1) := by decide +kernel
theorem d_M_put_11 : decode b_M_put 11 = .ok (.iadd, 1) := by decide +kernel
theorem d_M_put_12 : decode b_M_put 12 = .ok (.istore 6, 2) := by decide +kernel
theorem d_M_put_14 : decode b_M_put 14 = .ok (.aload_n 0, 1) := by decide +kernel
theorem d_M_put_15 : decode b_M_put 15 = .ok (.getfield 7, 3) := by decide +kernel
theorem d_M_put_18 : decode b_M_put 18 = .ok (.iload 6, 2) := by decide +kernel
theorem d_M_put_20 : decode b_M_put 20 = .ok (.iload_n 2, 1) := by decide +kernel
theorem d_M_put_21 : decode b_M_put 21 = .ok (.iastore, 1) := by decide +kernel
theorem d_M_put_22 : decode b_M_put 22 = .ok (.aload_n 0, 1) := by decide +kernel
theorem d_M_put_23 : decode b_M_put 23 = .ok (.getfield 13, 3) := by decide +kernel
theorem d_M_put_26 : decode b_M_put 26 = .ok (.iload 6, 2) := by decide +kernel
theorem d_M_put_28 : decode b_M_put 28 = .ok (.iload_n 3, 1) := by decide +kernel
theorem d_M_put_29 : decode b_M_put 29 = .ok (.iastore, 1) := by decide +kernel
theorem d_M_put_30 : decode b_M_put 30 = .ok (.aload_n 0, 1) := by decide +kernel
theorem d_M_put_31 : decode b_M_put 31 = .ok (.getfield 16, 3) := by decide +kernel
theorem d_M_put_34 : decode b_M_put 34 = .ok (.iload 6, 2) := by decide +kernel
theorem d_M_put_36 : decode b_M_put 36 = .ok (.iload 4, 2) := by decide +kernel
theorem d_M_put_38 : decode b_M_put 38 = .ok (.iastore, 1) := by decide +kernel
theorem d_M_put_39 : decode b_M_put 39 = .ok (.aload_n 0, 1) := by decide +kernel
theorem d_M_put_40 : decode b_M_put 40 = .ok (.getfield 19, 3) := by decide +kernel
theorem d_M_put_43 : decode b_M_put 43 = .ok (.iload 6, 2) := by decide +kernel
theorem d_M_put_45 : decode b_M_put 45 = .ok (.iload 4, 2) := by decide +kernel
theorem d_M_put_47 : decode b_M_put 47 = .ok (.ifCond .ge 7, 3) := by decide +kernel
theorem d_M_put_50 : decode b_M_put 50 = .ok (.iconst 0, 1) := by decide +kernel
theorem d_M_put_51 : decode b_M_put 51 = .ok (.goto 10, 3) := by decide +kernel
theorem d_M_put_54 : decode b_M_put 54 = .ok (.aload_n 0, 1) := by decide +kernel
theorem d_M_put_55 : decode b_M_put 55 = .ok (.getfield 40, 3) := by decide +kernel
theorem d_M_put_58 : decode b_M_put 58 = .ok (.iload 4, 2) := by decide +kernel
theorem d_M_put_60 : decode b_M_put 60 = .ok (.iaload, 1) := by decide +kernel
theorem d_M_put_61 : decode b_M_put 61 = .ok (.iastore, 1) := by decide +kernel
theorem d_M_put_62 : decode b_M_put 62 = .ok (.aload_n 0, 1) := by decide +kernel
theorem d_M_put_63 : decode b_M_put 63 = .ok (.getfield 22, 3) := by decide +kernel
theorem d_M_put_66 : decode b_M_put 66 = .ok (.iload 6, 2) := by decide +kernel
theorem d_M_put_68 : decode b_M_put 68 = .ok (.iload 5, 2) := by decide +kernel
theorem d_M_put_70 : decode b_M_put 70 = .ok (.iastore, 1) := by decide +kernel
theorem d_M_put_71 : decode b_M_put 71 = .ok (.aload_n 0, 1) := by decide +kernel
theorem d_M_put_72 : decode b_M_put 72 = .ok (.getfield 25, 3) := by decide +kernel
theorem d_M_put_75 : decode b_M_put 75 = .ok (.iload 6, 2) := by decide +kernel
theorem d_M_put_77 : decode b_M_put 77 = .ok (.iload 4, 2) := by decide +kernel
theorem d_M_put_79 : decode b_M_put 79 = .ok (.ifCond .ge 7, 3) := by decide +kernel
theorem d_M_put_82 : decode b_M_put 82 = .ok (.iconst 0, 1) := by decide +kernel
theorem d_M_put_83 : decode b_M_put 83 = .ok (.goto 10, 3) := by decide +kernel
theorem d_M_put_86 : decode b_M_put 86 = .ok (.aload_n 0, 1) := by decide +kernel
theorem d_M_put_87 : decode b_M_put 87 = .ok (.getfield 43, 3) := by decide +kernel
theorem d_M_put_90 : decode b_M_put 90 = .ok (.iload 4, 2) := by decide +kernel
theorem d_M_put_92 : decode b_M_put 92 = .ok (.iaload, 1) := by decide +kernel
theorem d_M_put_93 : decode b_M_put 93 = .ok (.iastore, 1) := by decide +kernel
theorem d_M_put_94 : decode b_M_put 94 = .ok (.aload_n 0, 1) := by decide +kernel
theorem d_M_put_95 : decode b_M_put 95 = .ok (.getfield 28, 3) := by decide +kernel
theorem d_M_put_98 : decode b_M_put 98 = .ok (.iload_n 1, 1) := by decide +kernel
theorem d_M_put_99 : decode b_M_put 99 = .ok (.dup2, 1) := by decide +kernel
theorem d_M_put_100 : decode b_M_put 100 = .ok (.iaload, 1) := by decide +kernel
theorem d_M_put_101 : decode b_M_put 101 = .ok (.iconst 1, 1) := by decide +kernel
theorem d_M_put_102 : decode b_M_put 102 = .ok (.iadd, 1) := by decide +kernel
theorem d_M_put_103 : decode b_M_put 103 = .ok (.iastore, 1) := by decide +kernel
theorem d_M_put_104 : decode b_M_put 104 = .ok (.aload_n 0, 1) := by decide +kernel
theorem d_M_put_105 : decode b_M_put 105 = .ok (.getfield 28, 3) := by decide +kernel
theorem d_M_put_108 : decode b_M_put 108 = .ok (.iload_n 1, 1) := by decide +kernel
theorem d_M_put_109 : decode b_M_put 109 = .ok (.iaload, 1) := by decide +kernel
theorem d_M_put_110 : decode b_M_put 110 = .ok (.iconst 1, 1) := by decide +kernel
theorem d_M_put_111 : decode b_M_put 111 = .ok (.isub, 1) := by decide +kernel
theorem d_M_put_112 : decode b_M_put 112 = .ok (.ireturn, 1) := by decide +kernel
theorem d_M_send_0 : decode b_M_send 0 = .ok (.aload_n 0, 1) := by decide +kernel
theorem d_M_send_1 : decode b_M_send 1 = .ok (.aload_n 0, 1) := by decide +kernel
theorem d_M_send_2 : decode b_M_send 2 = .ok (.iload_n 1, 1) := by decide +kernel
theorem d_M_send_3 : decode b_M_send 3 = .ok (.iconst 4, 1) := by decide +kernel
theorem d_M_send_4 : decode b_M_send 4 = .ok (.invokevirtual 83, 3) := by decide +kernel
theorem d_M_send_7 : decode b_M_send 7 = .ok (.ifCond .ne 24, 3) := by decide +kernel
theorem d_M_send_10 : decode b_M_send 10 = .ok (.aload_n 0, 1) := by decide +kernel
theorem d_M_send_11 : decode b_M_send 11 = .ok (.iload_n 3, 1) := by decide +kernel
theorem d_M_send_12 : decode b_M_send 12 = .ok (.iconst 4, 1) := by decide +kernel
theorem d_M_send_13 : decode b_M_send 13 = .ok (.invokevirtual 83, 3) := by decide +kernel
theorem d_M_send_16 : decode b_M_send 16 = .ok (.ifCond .ne 15, 3) := by decide +kernel
theorem d_M_send_19 : decode b_M_send 19 = .ok (.aload_n 0, 1) := by decide +kernel
theorem d_M_send_20 : decode b_M_send 20 = .ok (.iload 4, 2) := by decide +kernel
theorem d_M_send_22 : decode b_M_send 22 = .ok (.sipush 1001, 3) := by decide +kernel
theorem d_M_send_25 : decode b_M_send 25 = .ok (.invokevirtual 83, 3) := by decide +kernel
theorem d_M_send_28 : decode b_M_send 28 = .ok (.ifCond .eq 7, 3) := by decide +kernel
theorem d_M_send_31 : decode b_M_send 31 = .ok (.iconst 1, 1) := by decide +kernel
theorem d_M_send_32 : decode b_M_send 32 = .ok (.goto 10, 3) := by decide +kernel
theorem d_M_send_35 : decode b_M_send 35 = .ok (.aload_n 0, 1) := by decide +kernel
theorem d_M_send_36 : decode b_M_send 36 = .ok (.iload_n 1, 1) := by decide +kernel
theorem d_M_send_37 : decode b_M_send 37 = .ok (.iload_n 2, 1) := by decide +kernel
theorem d_M_send_38 : decode b_M_send 38 = .ok (.iconst 1, 1) := by decide +kernel
theorem d_M_send_39 : decode b_M_send 39 = .ok (.invokevirtual 94, 3) := by decide +kernel
theorem d_M_send_42 : decode b_M_send 42 = .ok (.putfield 71, 3) := by decide +kernel
theorem d_M_send_45 : decode b_M_send 45 = .ok (.aload_n 0, 1) := by decide +kernel
theorem d_M_send_46 : decode b_M_send 46 = .ok (.getfield 71, 3) := by decide +kernel
theorem d_M_send_49 : decode b_M_send 49 = .ok (.ifCond .le 5, 3) := by decide +kernel
theorem d_M_send_52 : decode b_M_send 52 = .ok (.iconst 0, 1) := by decide +kernel
theorem d_M_send_53 : decode b_M_send 53 = .ok (.ireturn, 1) := by decide +kernel
theorem d_M_send_54 : decode b_M_send 54 = .ok (.aload_n 0, 1) := by decide +kernel
theorem d_M_send_55 : decode b_M_send 55 = .ok (.iload_n 1, 1) := by decide +kernel
theorem d_M_send_56 : decode b_M_send 56 = .ok (.iload_n 3, 1) := by decide +kernel
theorem d_M_send_57 : decode b_M_send 57 = .ok (.iload 4, 2) := by decide +kernel
theorem d_M_send_59 : decode b_M_send 59 = .ok (.invokevirtual 104, 3) := by decide +kernel
theorem d_M_send_62 : decode b_M_send 62 = .ok (.istore 6, 2) := by decide +kernel
theorem d_M_send_64 : decode b_M_send 64 = .ok (.iload 6, 2) := by decide +kernel
theorem d_M_send_66 : decode b_M_send 66 = .ok (.ifCond .ge 20, 3) := by decide +kernel
theorem d_M_send_69 : decode b_M_send 69 = .ok (.iload 4, 2) := by decide +kernel
theorem d_M_send_71 : decode b_M_send 71 = .ok (.aload_n 0, 1) := by decide +kernel
theorem d_M_send_72 : decode b_M_send 72 = .ok (.iload_n 1, 1) := by decide +kernel
theorem d_M_send_73 : decode b_M_send 73 = .ok (.iload_n 3, 1) := by decide +kernel
theorem d_M_send_74 : decode b_M_send 74 = .ok (.invokevirtual 107, 3) := by decide +kernel
theorem d_M_send_77 : decode b_M_send 77 = .ok (.if_icmp .eq 9, 3) := by decide +kernel
theorem d_M_send_80 : decode b_M_send 80 = .ok (.aload_n 0, 1) := by decide +kernel
theorem d_M_send_81 : decode b_M_send 81 = .ok (.iconst 4, 1) := by decide +kernel
theorem d_M_send_82 : decode b_M_send 82 = .ok (.invokevirtual 86, 3) := by decide +kernel
theorem d_M_send_85 : decode b_M_send 85 = .ok (.ireturn, 1) := by decide +kernel
theorem d_M_send_86 : decode b_M_send 86 = .ok (.iload 6, 2) := by decide +kernel
theorem d_M_send_88 : decode b_M_send 88 = .ok (.ifCond .ge 17, 3) := by decide +kernel
theorem d_M_send_91 : decode b_M_send 91 = .ok (.aload_n 0, 1) := by decide +kernel
theorem d_M_send_92 : decode b_M_send 92 = .ok (.iload_n 3, 1) := by decide +kernel
theorem d_M_send_93 : decode b_M_send 93 = .ok (.invokevirtual 111, 3) := by decide +kernel
theorem d_M_send_96 : decode b_M_send 96 = .ok (.ifCond .eq 9, 3) := by decide +kernel
theorem d_M_send_99 : decode b_M_send 99 = .ok (.aload_n 0, 1) := by decide +kernel
theorem d_M_send_100 : decode b_M_send 100 = .ok (.iconst 3, 1) := by decide +kernel
theorem d_M_send_101 : decode b_M_send 101 = .ok (.invokevirtual 86, 3) := by decide +kernel
theorem d_M_send_104 : decode b_M_send 104 = .ok (.ireturn, 1) := by decide +kernel
theorem d_M_send_105 : decode b_M_send 105 = .ok (.aload_n 0, 1) := by decide +kernel
theorem d_M_send_106 : decode b_M_send 106 = .ok (.getfield 46, 3) := by decide +kernel
theorem d_M_send_109 : decode b_M_send 109 = .ok (.iload_n 1, 1) := by decide +kernel
theorem d_M_send_110 : decode b_M_send 110 = .ok (.dup2, 1) := by decide +kernel
theorem d_M_send_111 : decode b_M_send 111 = .ok (.iaload, 1) := by decide +kernel
theorem d_M_send_112 : decode b_M_send 112 = .ok (.iconst 1, 1) := by decide +kernel
theorem d_M_send_113 : decode b_M_send 113 = .ok (.iload_n 3, 1) := by decide +kernel
theorem d_M_send_114 : decode b_M_send 114 = .ok (.ishl, 1) := by decide +kernel
theorem d_M_send_115 : decode b_M_send 115 = .ok (.ior, 1) := by decide +kernel
theorem d_M_send_116 : decode b_M_send 116 = .ok (.iastore, 1) := by decide +kernel
theorem d_M_send_117 : decode b_M_send 117 = .ok (.iload 6, 2) := by decide +kernel
theorem d_M_send_119 : decode b_M_send 119 = .ok (.ifCond .lt 8, 3) := by decide +kernel
theorem d_M_send_122 : decode b_M_send 122 = .ok (.iload 6, 2) := by decide +kernel
theorem d_M_send_124 : decode b_M_send 124 = .ok (.goto 14, 3) := by decide +kernel
theorem d_M_send_127 : decode b_M_send 127 = .ok (.aload_n 0, 1) := by decide +kernel
theorem d_M_send_128 : decode b_M_send 128 = .ok (.iload_n 3, 1) := by decide +kernel
theorem d_M_send_129 : decode b_M_send 129 = .ok (.iconst 1, 1) := by decide +kernel
theorem d_M_send_130 : decode b_M_send 130 = .ok (.iload 5, 2) := by decide +kernel
theorem d_M_send_132 : decode b_M_send 132 = .ok (.iload_n 1, 1) := by decide +kernel
theorem d_M_send_133 : decode b_M_send 133 = .ok (.iload 4, 2) := by decide +kernel
theorem d_M_send_135 : decode b_M_send 135 = .ok (.invokevirtual 115, 3) := by decide +kernel
theorem d_M_send_138 : decode b_M_send 138 = .ok (.ireturn, 1) := by decide +kernel
theorem d_M_pend_0 : decode b_M_pend 0 = .ok (.aload_n 0, 1) := by decide +kernel
theorem d_M_pend_1 : decode b_M_pend 1 = .ok (.aload_n 0, 1) := by decide +kernel
theorem d_M_pend_2 : decode b_M_pend 2 = .ok (.iload_n 1, 1) := by decide +kernel
theorem d_M_pend_3 : decode b_M_pend 3 = .ok (.iconst 4, 1) := by decide +kernel
theorem d_M_pend_4 : decode b_M_pend 4 = .ok (.invokevirtual 83, 3) := by decide +kernel
theorem d_M_pend_7 : decode b_M_pend 7 = .ok (.ifCond .ne 34, 3) := by decide +kernel
theorem d_M_pend_10 : decode b_M_pend 10 = .ok (.aload_n 0, 1) := by decide +kernel
theorem d_M_pend_11 : decode b_M_pend 11 = .ok (.iload_n 3, 1) := by decide +kernel
theorem d_M_pend_12 : decode b_M_pend 12 = .ok (.iconst 2, 1) := by decide +kernel
theorem d_M_pend_13 : decode b_M_pend 13 = .ok (.invokevirtual 83, 3) := by decide +kernel
theorem d_M_pend_16 : decode b_M_pend 16 = .ok (.ifCond .ne 25, 3) := by decide +kernel
theorem d_M_pend_19 : decode b_M_pend 19 = .ok (.aload_n 0, 1) := by decide +kernel
theorem d_M_pend_20 : decode b_M_pend 20 = .ok (.iload 4, 2) := by decide +kernel
theorem d_M_pend_22 : decode b_M_pend 22 = .ok (.iconst 4, 1) := by decide +kernel
theorem d_M_pend_23 : decode b_M_pend 23 = .ok (.invokevirtual 83, 3) := by decide +kernel
theorem d_M_pend_26 : decode b_M_pend 26 = .ok (.ifCond .ne 15, 3) := by decide +kernel
theorem d_M_pend_29 : decode b_M_pend 29 = .ok (.aload_n 0, 1) := by decide +kernel
theorem d_M_pend_30 : decode b_M_pend 30 = .ok (.iload 5, 2) := by decide +kernel
theorem d_M_pend_32 : decode b_M_pend 32 = .ok (.sipush 601, 3) := by decide +kernel
theorem d_M_pend_35 : decode b_M_pend 35 = .ok (.invokevirtual 83, 3) := by decide +kernel
theorem d_M_pend_38 : decode b_M_pend 38 = .ok (.ifCond .eq 7, 3) := by decide +kernel
theorem d_M_pend_41 : decode b_M_pend 41 = .ok (.iconst 1, 1) := by decide +kernel
theorem d_M_pend_42 : decode b_M_pend 42 = .ok (.goto 10, 3) := by decide +kernel
theorem d_M_pend_45 : decode b_M_pend 45 = .ok (.aload_n 0, 1) := by decide +kernel
theorem d_M_pend_46 : decode b_M_pend 46 = .ok (.iload_n 1, 1) := by decide +kernel
theorem d_M_pend_47 : decode b_M_pend 47 = .ok (.iload_n 2, 1) := by decide +kernel
theorem d_M_pend_48 : decode b_M_pend 48 = .ok (.iconst 1, 1) := by decide +kernel
theorem d_M_pend_49 : decode b_M_pend 49 = .ok (.invokevirtual 94, 3) := by decide +kernel
theorem d_M_pend_52 : decode b_M_pend 52 = .ok (.putfield 71, 3) := by decide +kernel
theorem d_M_pend_55 : decode b_M_pend 55 = .ok (.aload_n 0, 1) := by decide +kernel
theorem d_M_pend_56 : decode b_M_pend 56 = .ok (.getfield 71, 3) := by decide +kernel
theorem d_M_pend_59 : decode b_M_pend 59 = .ok (.ifCond .le 5, 3) := by decide +kernel
theorem d_M_pend_62 : decode b_M_pend 62 = .ok (.iconst 0, 1) := by decide +kernel
theorem d_M_pend_63 : decode b_M_pend 63 = .ok (.ireturn, 1) := by decide +kernel
theorem d_M_pend_64 : decode b_M_pend 64 = .ok (.aload_n 0, 1) := by decide +kernel
theorem d_M_pend_65 : decode b_M_pend 65 = .ok (.getfield 52, 3) := by decide +kernel
theorem d_M_pend_68 : decode b_M_pend 68 = .ok (.bipush 8, 2) := by decide +kernel
theorem d_M_pend_70 : decode b_M_pend 70 = .ok (.iload_n 1, 1) := by decide +kernel
theorem d_M_pend_71 : decode b_M_pend 71 = .ok (.imul, 1) := by decide +kernel
theorem d_M_pend_72 : decode b_M_pend 72 = .ok (.iconst 4, 1) := by decide +kernel
theorem d_M_pend_73 : decode b_M_pend 73 = .ok (.iload_n 3, 1) := by decide +kernel
theorem d_M_pend_74 : decode b_M_pend 74 = .ok (.imul, 1) := by decide +kernel
theorem d_M_pend_75 : decode b_M_pend 75 = .ok (.iadd, 1) := by decide +kernel
theorem d_M_pend_76 : decode b_M_pend 76 = .ok (.iload 4, 2) := by decide +kernel
theorem d_M_pend_78 : decode b_M_pend 78 = .ok (.iadd, 1) := by decide +kernel
theorem d_M_pend_79 : decode b_M_pend 79 = .ok (.iload 5, 2) := by decide +kernel
theorem d_M_pend_81 : decode b_M_pend 81 = .ok (.iastore, 1) := by decide +kernel
theorem d_M_pend_82 : decode b_M_pend 82 = .ok (.iconst 0, 1) := by decide +kernel
theorem d_M_pend_83 : decode b_M_pend 83 = .ok (.istore 6, 2) := by decide +kernel
theorem d_M_pend_85 : decode b_M_pend 85 = .ok (.iconst 0, 1) := by decide +kernel
theorem d_M_pend_86 : decode b_M_pend 86 = .ok (.istore 7, 2) := by decide +kernel
theorem d_M_pend_88 : decode b_M_pend 88 = .ok (.iload 7, 2) := by decide +kernel
theorem d_M_pend_90 : decode b_M_pend 90 = .ok (.bipush 8, 2) := by decide +kernel
theorem d_M_pend_92 : decode b_M_pend 92 = .ok (.if_icmp .ge 34, 3) := by decide +kernel
theorem d_M_pend_95 : decode b_M_pend 95 = .ok (.iload 6, 2) := by decide +kernel
theorem d_M_pend_97 : decode b_M_pend 97 = .ok (.aload_n 0, 1) := by decide +kernel
theorem d_M_pend_98 : decode b_M_pend 98 = .ok (.getfield 52, 3) := by decide +kernel
theorem d_M_pend_101 : decode b_M_pend 101 = .ok (.bipush 8, 2) := by decide +kernel
theorem d_M_pend_103 : decode b_M_pend 103 = .ok (.iload_n 1, 1) := by decide +kernel
theorem d_M_pend_104 : decode b_M_pend 104 = .ok (.imul, 1) := by decide +kernel
theorem d_M_pend_105 : decode b_M_pend 105 = .ok (.iload 7, 2) := by decide +kernel
theorem d_M_pend_107 : decode b_M_pend 107 = .ok (.iadd, 1) := by decide +kernel
theorem d_M_pend_108 : decode b_M_pend 108 = .ok (.iaload, 1) := by decide +kernel
theorem d_M_pend_109 : decode b_M_pend 109 = .ok (.ifCond .lt 7, 3) := by decide +kernel
theorem d_M_pend_112 : decode b_M_pend 112 = .ok (.iconst 1, 1) := by decide +kernel
theorem d_M_pend_113 : decode b_M_pend 113 = .ok (.goto 4, 3) := by decide +kernel
theorem d_M_pend_116 : decode b_M_pend 116 = .ok (.iconst 0, 1) := by decide +kernel
theorem d_M_pend_117 : decode b_M_pend 117 = .ok (.iadd, 1) := by decide +kernel
theorem d_M_pend_118 : decode b_M_pend 118 = .ok (.istore 6, 2) := by decide +kernel
theorem d_M_pend_120 : decode b_M_pend 120 = .ok (.iinc 7 1, 3) := by decide +kernel
theorem d_M_pend_123 : decode b_M_pend 123 = .ok (.goto (-35), 3) := by decide +kernel
theorem d_M_pend_126 : decode b_M_pend 126 = .ok (.iload 6, 2) := by decide +kernel
theorem d_M_pend_128 : decode b_M_pend 128 = .ok (.ireturn, 1) := by decide +kernel
theorem d_M_ones_0 : decode b_M_ones 0 = .ok (.iconst 0, 1) := by decide +kernel
theorem d_M_ones_1 : decode b_M_ones 1 = .ok (.istore_n 2, 1) := by decide +kernel
theorem d_M_ones_2 : decode b_M_ones 2 = .ok (.iconst 0, 1) := by decide +kernel
theorem d_M_ones_3 : decode b_M_ones 3 = .ok (.istore_n 3, 1) := by decide +kernel
theorem d_M_ones_4 : decode b_M_ones 4 = .ok (.iload_n 3, 1) := by decide +kernel
theorem d_M_ones_5 : decode b_M_ones 5 = .ok (.iconst 4, 1) := by decide +kernel
theorem d_M_ones_6 : decode b_M_ones 6 = .ok (.if_icmp .ge 17, 3) := by decide +kernel
theorem d_M_ones_9 : decode b_M_ones 9 = .ok (.iload_n 2, 1) := by decide +kernel
theorem d_M_ones_10 : decode b_M_ones 10 = .ok (.iload_n 1, 1) := by decide +kernel
theorem d_M_ones_11 : decode b_M_ones 11 = .ok (.iload_n 3, 1) := by decide +kernel
theorem d_M_ones_12 : decode b_M_ones 12 = .ok (.ishr, 1) := by decide +kernel
theorem d_M_ones_13 : decode b_M_ones 13 = .ok (.iconst 1, 1) := by decide +kernel
theorem d_M_ones_14 : decode b_M_ones 14 = .ok (.iand, 1) := by decide +kernel
theorem d_M_ones_15 : decode b_M_ones 15 = .ok (.iadd, 1) := by decide +kernel
theorem d_M_ones_16 : decode b_M_ones 16 = .ok (.istore_n 2, 1) := by decide +kernel
theorem d_M_ones_17 : decode b_M_ones 17 = .ok (.iinc 3 1, 3) := by decide +kernel
theorem d_M_ones_20 : decode b_M_ones 20 = .ok (.goto (-16), 3) := by decide +kernel
theorem d_M_ones_23 : decode b_M_ones 23 = .ok (.iload_n 2, 1) := by decide +kernel
theorem d_M_ones_24 : decode b_M_ones 24 = .ok (.ireturn, 1) := by decide +kernel
theorem d_M_finish_0 : decode b_M_finish 0 = .ok (.aload_n 0, 1) := by decide +kernel
theorem d_M_finish_1 : decode b_M_finish 1 = .ok (.aload_n 0, 1) := by decide +kernel
theorem d_M_finish_2 : decode b_M_finish 2 = .ok (.iload_n 1, 1) := by decide +kernel
theorem d_M_finish_3 : decode b_M_finish 3 = .ok (.iconst 4, 1) := by decide +kernel
theorem d_M_finish_4 : decode b_M_finish 4 = .ok (.invokevirtual 83, 3) := by decide +kernel
theorem d_M_finish_7 : decode b_M_finish 7 = .ok (.ifCond .eq 7, 3) := by decide +kernel
theorem d_M_finish_10 : decode b_M_finish 10 = .ok (.iconst 1, 1) := by decide +kernel
theorem d_M_finish_11 : decode b_M_finish 11 = .ok (.goto 10, 3) := by decide +kernel
theorem d_M_finish_14 : decode b_M_finish 14 = .ok (.aload_n 0, 1) := by decide +kernel
theorem d_M_finish_15 : decode b_M_finish 15 = .ok (.iload_n 1, 1) := by decide +kernel
theorem d_M_finish_16 : decode b_M_finish 16 = .ok (.iload_n 2, 1) := by decide +kernel
theorem d_M_finish_17 : decode b_M_finish 17 = .ok (.iconst 1, 1) := by decide +kernel
theorem d_M_finish_18 : decode b_M_finish 18 = .ok (.invokevirtual 94, 3) := by decide +kernel
theorem d_M_finish_21 : decode b_M_finish 21 = .ok (.putfield 71, 3) := by decide +kernel
theorem d_M_finish_24 : decode b_M_finish 24 = .ok (.aload_n 0, 1) := by decide +kernel
theorem d_M_finish_25 : decode b_M_finish 25 = .ok (.getfield 71, 3) := by decide +kernel
theorem d_M_finish_28 : decode b_M_finish 28 = .ok (.ifCond .le 5, 3) := by decide +kernel
theorem d_M_finish_31 : decode b_M_finish 31 = .ok (.iconst 0, 1) := by decide +kernel
theorem d_M_finish_32 : decode b_M_finish 32 = .ok (.ireturn, 1) := by decide +kernel
theorem d_M_finish_33 : decode b_M_finish 33 = .ok (.iconst 0, 1) := by decide +kernel
theorem d_M_finish_34 : decode b_M_finish 34 = .ok (.istore 4, 2) := by decide +kernel
theorem d_M_finish_36 : decode b_M_finish 36 = .ok (.iload 4, 2) := by decide +kernel
theorem d_M_finish_38 : decode b_M_finish 38 = .ok (.iconst 4, 1) := by decide +kernel
theorem d_M_finish_39 : decode b_M_finish 39 = .ok (.if_icmp .ge 84, 3) := by decide +kernel
theorem d_M_finish_42 : decode b_M_finish 42 = .ok (.aload_n 0, 1) := by decide +kernel
theorem d_M_finish_43 : decode b_M_finish 43 = .ok (.getfield 34, 3) := by decide +kernel
theorem d_M_finish_46 : decode b_M_finish 46 = .ok (.iload 4, 2) := by decide +kernel
theorem d_M_finish_48 : decode b_M_finish 48 = .ok (.iaload, 1) := by decide +kernel
theorem d_M_finish_49 : decode b_M_finish 49 = .ok (.istore 5, 2) := by decide +kernel
theorem d_M_finish_51 : decode b_M_finish 51 = .ok (.iload_n 3, 1) := by decide +kernel
theorem d_M_finish_52 : decode b_M_finish 52 = .ok (.ifCond .eq 65, 3) := by decide +kernel
theorem d_M_finish_55 : decode b_M_finish 55 = .ok (.iload 5, 2) := by decide +kernel
theorem d_M_finish_57 : decode b_M_finish 57 = .ok (.aload_n 0, 1) := by decide +kernel
theorem d_M_finish_58 : decode b_M_finish 58 = .ok (.getfield 28, 3) := by decide +kernel
theorem d_M_finish_61 : decode b_M_finish 61 = .ok (.iload 4, 2) := by decide +kernel
theorem d_M_finish_63 : decode b_M_finish 63 = .ok (.iaload, 1) := by decide +kernel
theorem d_M_finish_64 : decode b_M_finish 64 = .ok (.if_icmp .ge 53, 3) := by decide +kernel
theorem d_M_finish_67 : decode b_M_finish 67 = .ok (.sipush 520, 3) := by decide +kernel
theorem d_M_finish_70 : decode b_M_finish 70 = .ok (.iload 4, 2) := by decide +kernel
theorem d_M_finish_72 : decode b_M_finish 72 = .ok (.imul, 1) := by decide +kernel
theorem d_M_finish_73 : decode b_M_finish 73 = .ok (.iload 5, 2) := by decide +kernel
theorem d_M_finish_75 : decode b_M_finish 75 = .ok (.iadd, 1) := by decide +kernel
theorem d_M_finish_76 : decode b_M_finish 76 = .ok (.istore 6, 2) := by decide +kernel
theorem d_M_finish_78 : decode b_M_finish 78 = .ok (.aload_n 0, 1) := by decide +kernel
theorem d_M_finish_79 : decode b_M_finish 79 = .ok (.getfield 7, 3) := by decide +kernel
theorem d_M_finish_82 : decode b_M_finish 82 = .ok (.iload 6, 2) := by decide +kernel
theorem d_M_finish_84 : decode b_M_finish 84 = .ok (.iaload, 1) := by decide +kernel
theorem d_M_finish_85 : decode b_M_finish 85 = .ok (.iconst 1, 1) := by decide +kernel
theorem d_M_finish_86 : decode b_M_finish 86 = .ok (.if_icmp .ne 25, 3) := by decide +kernel
theorem d_M_finish_89 : decode b_M_finish 89 = .ok (.aload_n 0, 1) := by decide +kernel
theorem d_M_finish_90 : decode b_M_finish 90 = .ok (.getfield 25, 3) := by decide +kernel
theorem d_M_finish_93 : decode b_M_finish 93 = .ok (.iload 6, 2) := by decide +kernel
theorem d_M_finish_95 : decode b_M_finish 95 = .ok (.iaload, 1) := by decide +kernel
theorem d_M_finish_96 : decode b_M_finish 96 = .ok (.aload_n 0, 1) := by decide +kernel
theorem d_M_finish_97 : decode b_M_finish 97 = .ok (.getfield 43, 3) := by decide +kernel
theorem d_M_finish_100 : decode b_M_finish 100 = .ok (.iload_n 1, 1) := by decide +kernel
theorem d_M_finish_101 : decode b_M_finish 101 = .ok (.iaload, 1) := by decide +kernel
theorem d_M_finish_102 : decode b_M_finish 102 = .ok (.if_icmp .ne 9, 3) := by decide +kernel
theorem d_M_finish_105 : decode b_M_finish 105 = .ok (.aload_n 0, 1) := by decide +kernel
theorem d_M_finish_106 : decode b_M_finish 106 = .ok (.iconst 4, 1) := by decide +kernel
theorem d_M_finish_107 : decode b_M_finish 107 = .ok (.invokevirtual 86, 3) := by decide +kernel
theorem d_M_finish_110 : decode b_M_finish 110 = .ok (.ireturn, 1) := by decide +kernel
theorem d_M_finish_111 : decode b_M_finish 111 = .ok (.iinc 5 1, 3) := by decide +kernel
theorem d_M_finish_114 : decode b_M_finish 114 = .ok (.goto (-63), 3) := by decide +kernel
theorem d_M_finish_117 : decode b_M_finish 117 = .ok (.iinc 4 1, 3) := by decide +kernel
theorem d_M_finish_120 : decode b_M_finish 120 = .ok (.goto (-84), 3) := by decide +kernel
theorem d_M_finish_123 : decode b_M_finish 123 = .ok (.aload_n 0, 1) := by decide +kernel
theorem d_M_finish_124 : decode b_M_finish 124 = .ok (.getfield 37, 3) := by decide +kernel
theorem d_M_finish_127 : decode b_M_finish 127 = .ok (.iload_n 1, 1) := by decide +kernel
theorem d_M_finish_128 : decode b_M_finish 128 = .ok (.iload_n 3, 1) := by decide +kernel
theorem d_M_finish_129 : decode b_M_finish 129 = .ok (.ifCond .eq 7, 3) := by decide +kernel
theorem d_M_finish_132 : decode b_M_finish 132 = .ok (.iconst 2, 1) := by decide +kernel
theorem d_M_finish_133 : decode b_M_finish 133 = .ok (.goto 4, 3) := by decide +kernel
theorem d_M_finish_136 : decode b_M_finish 136 = .ok (.iconst 3, 1) := by decide +kernel
theorem d_M_finish_137 : decode b_M_finish 137 = .ok (.iastore, 1) := by decide +kernel
theorem d_M_finish_138 : decode b_M_finish 138 = .ok (.aload_n 0, 1) := by decide +kernel
theorem d_M_finish_139 : decode b_M_finish 139 = .ok (.aload_n 0, 1) := by decide +kernel
theorem d_M_finish_140 : decode b_M_finish 140 = .ok (.getfield 46, 3) := by decide +kernel
theorem d_M_finish_143 : decode b_M_finish 143 = .ok (.iload_n 1, 1) := by decide +kernel
theorem d_M_finish_144 : decode b_M_finish 144 = .ok (.iaload, 1) := by decide +kernel
theorem d_M_finish_145 : decode b_M_finish 145 = .ok (.invokevirtual 119, 3) := by decide +kernel
theorem d_M_finish_148 : decode b_M_finish 148 = .ok (.ireturn, 1) := by decide +kernel
theorem d_M_marked_0 : decode b_M_marked 0 = .ok (.sipush 520, 3) := by decide +kernel
theorem d_M_marked_3 : decode b_M_marked 3 = .ok (.iload_n 1, 1) := by decide +kernel
theorem d_M_marked_4 : decode b_M_marked 4 = .ok (.imul, 1) := by decide +kernel
theorem d_M_marked_5 : decode b_M_marked 5 = .ok (.istore 5, 2) := by decide +kernel
theorem d_M_marked_7 : decode b_M_marked 7 = .ok (.iload 5, 2) := by decide +kernel
theorem d_M_marked_9 : decode b_M_marked 9 = .ok (.sipush 520, 3) := by decide +kernel
theorem d_M_marked_12 : decode b_M_marked 12 = .ok (.iload_n 1, 1) := by decide +kernel
theorem d_M_marked_13 : decode b_M_marked 13 = .ok (.imul, 1) := by decide +kernel
theorem d_M_marked_14 : decode b_M_marked 14 = .ok (.iload_n 3, 1) := by decide +kernel
theorem d_M_marked_15 : decode b_M_marked 15 = .ok (.iadd, 1) := by decide +kernel
theorem d_M_marked_16 : decode b_M_marked 16 = .ok (.if_icmp .ge 49, 3) := by decide +kernel
theorem d_M_marked_19 : decode b_M_marked 19 = .ok (.aload_n 0, 1) := by decide +kernel
theorem d_M_marked_20 : decode b_M_marked 20 = .ok (.getfield 7, 3) := by decide +kernel
theorem d_M_marked_23 : decode b_M_marked 23 = .ok (.iload 5, 2) := by decide +kernel
theorem d_M_marked_25 : decode b_M_marked 25 = .ok (.iaload, 1) := by decide +kernel
theorem d_M_marked_26 : decode b_M_marked 26 = .ok (.iconst 1, 1) := by decide +kernel
theorem d_M_marked_27 : decode b_M_marked 27 = .ok (.if_icmp .le 32, 3) := by decide +kernel
theorem d_M_marked_30 : decode b_M_marked 30 = .ok (.aload_n 0, 1) := by decide +kernel
theorem d_M_marked_31 : decode b_M_marked 31 = .ok (.getfield 25, 3) := by decide +kernel
theorem d_M_marked_34 : decode b_M_marked 34 = .ok (.iload 5, 2) := by decide +kernel
theorem d_M_marked_36 : decode b_M_marked 36 = .ok (.iaload, 1) := by decide +kernel
theorem d_M_marked_37 : decode b_M_marked 37 = .ok (.iload_n 2, 1) := by decide +kernel
theorem d_M_marked_38 : decode b_M_marked 38 = .ok (.if_icmp .ne 21, 3) := by decide +kernel
theorem d_M_marked_41 : decode b_M_marked 41 = .ok (.iload 4, 2) := by decide +kernel
theorem d_M_marked_43 : decode b_M_marked 43 = .ok (.ifCond .eq 14, 3) := by decide +kernel
theorem d_M_marked_46 : decode b_M_marked 46 = .ok (.aload_n 0, 1) := by decide +kernel
theorem d_M_marked_47 : decode b_M_marked 47 = .ok (.getfield 7, 3) := by decide +kernel
theorem d_M_marked_50 : decode b_M_marked 50 = .ok (.iload 5, 2) := by decide +kernel
theorem d_M_marked_52 : decode b_M_marked 52 = .ok (.iaload, 1) := by decide +kernel
theorem d_M_marked_53 : decode b_M_marked 53 = .ok (.iconst 3, 1) := by decide +kernel
theorem d_M_marked_54 : decode b_M_marked 54 = .ok (.if_icmp .ne 5, 3) := by decide +kernel
theorem d_M_marked_57 : decode b_M_marked 57 = .ok (.iconst 1, 1) := by decide +kernel
theorem d_M_marked_58 : decode b_M_marked 58 = .ok (.ireturn, 1) := by decide +kernel
theorem d_M_marked_59 : decode b_M_marked 59 = .ok (.iinc 5 1, 3) := by decide +kernel
theorem d_M_marked_62 : decode b_M_marked 62 = .ok (.goto (-55), 3) := by decide +kernel
theorem d_M_marked_65 : decode b_M_marked 65 = .ok (.iconst 0, 1) := by decide +kernel
theorem d_M_marked_66 : decode b_M_marked 66 = .ok (.ireturn, 1) := by decide +kernel
theorem d_M_stepOf_0 : decode b_M_stepOf 0 = .ok (.aload_n 0, 1) := by decide +kernel
theorem d_M_stepOf_1 : decode b_M_stepOf 1 = .ok (.getfield 46, 3) := by decide +kernel
theorem d_M_stepOf_4 : decode b_M_stepOf 4 = .ok (.iload_n 1, 1) := by decide +kernel
theorem d_M_stepOf_5 : decode b_M_stepOf 5 = .ok (.iaload, 1) := by decide +kernel
theorem d_M_stepOf_6 : decode b_M_stepOf 6 = .ok (.ifCond .ne 67, 3) := by decide +kernel
theorem d_M_stepOf_9 : decode b_M_stepOf 9 = .ok (.iconst 0, 1) := by decide +kernel
theorem d_M_stepOf_10 : decode b_M_stepOf 10 = .ok (.istore_n 2, 1) := by decide +kernel
theorem d_M_stepOf_11 : decode b_M_stepOf 11 = .ok (.iload_n 2, 1) := by decide +kernel
theorem d_M_stepOf_12 : decode b_M_stepOf 12 = .ok (.bipush 8, 2) := by decide +kernel
theorem d_M_stepOf_14 : decode b_M_stepOf 14 = .ok (.if_icmp .ge 50, 3) := by decide +kernel
theorem d_M_stepOf_17 : decode b_M_stepOf 17 = .ok (.aload_n 0, 1) := by decide +kernel
theorem d_M_stepOf_18 : decode b_M_stepOf 18 = .ok (.getfield 37, 3) := by decide +kernel
theorem d_M_stepOf_21 : decode b_M_stepOf 21 = .ok (.iload_n 1, 1) := by decide +kernel
theorem d_M_stepOf_22 : decode b_M_stepOf 22 = .ok (.iaload, 1) := by decide +kernel
theorem d_M_stepOf_23 : decode b_M_stepOf 23 = .ok (.iconst 2, 1) := by decide +kernel
theorem d_M_stepOf_24 : decode b_M_stepOf 24 = .ok (.if_icmp .ne 34, 3) := by decide +kernel
theorem d_M_stepOf_27 : decode b_M_stepOf 27 = .ok (.aload_n 0, 1) := by decide +kernel
theorem d_M_stepOf_28 : decode b_M_stepOf 28 = .ok (.getfield 52, 3) := by decide +kernel
theorem d_M_stepOf_31 : decode b_M_stepOf 31 = .ok (.bipush 8, 2) := by decide +kernel
theorem d_M_stepOf_33 : decode b_M_stepOf 33 = .ok (.iload_n 1, 1) := by decide +kernel
theorem d_M_stepOf_34 : decode b_M_stepOf 34 = .ok (.imul, 1) := by decide +kernel
theorem d_M_stepOf_35 : decode b_M_stepOf 35 = .ok (.iload_n 2, 1) := by decide +kernel
theorem d_M_stepOf_36 : decode b_M_stepOf 36 = .ok (.iadd, 1) := by decide +kernel
theorem d_M_stepOf_37 : decode b_M_stepOf 37 = .ok (.iaload, 1) := by decide +kernel
theorem d_M_stepOf_38 : decode b_M_stepOf 38 = .ok (.ifCond .lt 20, 3) := by decide +kernel
theorem d_M_stepOf_41 : decode b_M_stepOf 41 = .ok (.aload_n 0, 1) := by decide +kernel
theorem d_M_stepOf_42 : decode b_M_stepOf 42 = .ok (.getfield 68, 3) := by decide +kernel
theorem d_M_stepOf_45 : decode b_M_stepOf 45 = .ok (.iload_n 2, 1) := by decide +kernel
theorem d_M_stepOf_46 : decode b_M_stepOf 46 = .ok (.aload_n 0, 1) := by decide +kernel
theorem d_M_stepOf_47 : decode b_M_stepOf 47 = .ok (.getfield 52, 3) := by decide +kernel
theorem d_M_stepOf_50 : decode b_M_stepOf 50 = .ok (.bipush 8, 2) := by decide +kernel
theorem d_M_stepOf_52 : decode b_M_stepOf 52 = .ok (.iload_n 1, 1) := by decide +kernel
theorem d_M_stepOf_53 : decode b_M_stepOf 53 = .ok (.imul, 1) := by decide +kernel
theorem d_M_stepOf_54 : decode b_M_stepOf 54 = .ok (.iload_n 2, 1) := by decide +kernel
theorem d_M_stepOf_55 : decode b_M_stepOf 55 = .ok (.iadd, 1) := by decide +kernel
theorem d_M_stepOf_56 : decode b_M_stepOf 56 = .ok (.iaload, 1) := by decide +kernel
theorem d_M_stepOf_57 : decode b_M_stepOf 57 = .ok (.iastore, 1) := by decide +kernel
theorem d_M_stepOf_58 : decode b_M_stepOf 58 = .ok (.iinc 2 1, 3) := by decide +kernel
theorem d_M_stepOf_61 : decode b_M_stepOf 61 = .ok (.goto (-50), 3) := by decide +kernel
theorem d_M_stepOf_64 : decode b_M_stepOf 64 = .ok (.aload_n 0, 1) := by decide +kernel
theorem d_M_stepOf_65 : decode b_M_stepOf 65 = .ok (.getfield 37, 3) := by decide +kernel
theorem d_M_stepOf_68 : decode b_M_stepOf 68 = .ok (.iload_n 1, 1) := by decide +kernel
theorem d_M_stepOf_69 : decode b_M_stepOf 69 = .ok (.iconst 0, 1) := by decide +kernel
theorem d_M_stepOf_70 : decode b_M_stepOf 70 = .ok (.iastore, 1) := by decide +kernel
theorem d_M_stepOf_71 : decode b_M_stepOf 71 = .ok (.iconst 3, 1) := by decide +kernel
theorem d_M_stepOf_72 : decode b_M_stepOf 72 = .ok (.ireturn, 1) := by decide +kernel
theorem d_M_stepOf_73 : decode b_M_stepOf 73 = .ok (.iconst 0, 1) := by decide +kernel
theorem d_M_stepOf_74 : decode b_M_stepOf 74 = .ok (.istore_n 2, 1) := by decide +kernel
theorem d_M_stepOf_75 : decode b_M_stepOf 75 = .ok (.iload_n 2, 1) := by decide +kernel
theorem d_M_stepOf_76 : decode b_M_stepOf 76 = .ok (.iconst 4, 1) := by decide +kernel
theorem d_M_stepOf_77 : decode b_M_stepOf 77 = .ok (.if_icmp .ge 98, 3) := by decide +kernel
theorem d_M_stepOf_80 : decode b_M_stepOf 80 = .ok (.aload_n 0, 1) := by decide +kernel
theorem d_M_stepOf_81 : decode b_M_stepOf 81 = .ok (.getfield 46, 3) := by decide +kernel
theorem d_M_stepOf_84 : decode b_M_stepOf 84 = .ok (.iload_n 1, 1) := by decide +kernel
theorem d_M_stepOf_85 : decode b_M_stepOf 85 = .ok (.iaload, 1) := by decide +kernel
theorem d_M_stepOf_86 : decode b_M_stepOf 86 = .ok (.iload_n 2, 1) := by decide +kernel
theorem d_M_stepOf_87 : decode b_M_stepOf 87 = .ok (.ishr, 1) := by decide +kernel
theorem d_M_stepOf_88 : decode b_M_stepOf 88 = .ok (.iconst 1, 1) := by decide +kernel
theorem d_M_stepOf_89 : decode b_M_stepOf 89 = .ok (.iand, 1) := by decide +kernel
theorem d_M_stepOf_90 : decode b_M_stepOf 90 = .ok (.ifCond .ne 6, 3) := by decide +kernel
theorem d_M_stepOf_93 : decode b_M_stepOf 93 = .ok (.goto 76, 3) := by decide +kernel
theorem d_M_stepOf_96 : decode b_M_stepOf 96 = .ok (.aload_n 0, 1) := by decide +kernel
theorem d_M_stepOf_97 : decode b_M_stepOf 97 = .ok (.iload_n 2, 1) := by decide +kernel
theorem d_M_stepOf_98 : decode b_M_stepOf 98 = .ok (.aload_n 0, 1) := by decide +kernel
theorem d_M_stepOf_99 : decode b_M_stepOf 99 = .ok (.getfield 43, 3) := by decide +kernel
theorem d_M_stepOf_102 : decode b_M_stepOf 102 = .ok (.iload_n 1, 1) := by decide +kernel
theorem d_M_stepOf_103 : decode b_M_stepOf 103 = .ok (.iaload, 1) := by decide +kernel
theorem d_M_stepOf_104 : decode b_M_stepOf 104 = .ok (.aload_n 0, 1) := by decide +kernel
theorem d_M_stepOf_105 : decode b_M_stepOf 105 = .ok (.getfield 34, 3) := by decide +kernel
theorem d_M_stepOf_108 : decode b_M_stepOf 108 = .ok (.iload_n 2, 1) := by decide +kernel
theorem d_M_stepOf_109 : decode b_M_stepOf 109 = .ok (.iaload, 1) := by decide +kernel
theorem d_M_stepOf_110 : decode b_M_stepOf 110 = .ok (.iconst 0, 1) := by decide +kernel
theorem d_M_stepOf_111 : decode b_M_stepOf 111 = .ok (.invokevirtual 79, 3) := by decide +kernel
theorem d_M_stepOf_114 : decode b_M_stepOf 114 = .ok (.ifCond .eq 17, 3) := by decide +kernel
theorem d_M_stepOf_117 : decode b_M_stepOf 117 = .ok (.aload_n 0, 1) := by decide +kernel
theorem d_M_stepOf_118 : decode b_M_stepOf 118 = .ok (.getfield 46, 3) := by decide +kernel
theorem d_M_stepOf_121 : decode b_M_stepOf 121 = .ok (.iload_n 1, 1) := by decide +kernel
theorem d_M_stepOf_122 : decode b_M_stepOf 122 = .ok (.dup2, 1) := by decide +kernel
theorem d_M_stepOf_123 : decode b_M_stepOf 123 = .ok (.iaload, 1) := by decide +kernel
theorem d_M_stepOf_124 : decode b_M_stepOf 124 = .ok (.iconst 1, 1) := by decide +kernel
theorem d_M_stepOf_125 : decode b_M_stepOf 125 = .ok (.iload_n 2, 1) := by decide +kernel
theorem d_M_stepOf_126 : decode b_M_stepOf 126 = .ok (.ishl, 1) := by decide +kernel
theorem d_M_stepOf_127 : decode b_M_stepOf 127 = .ok (.isub, 1) := by decide +kernel
theorem d_M_stepOf_128 : decode b_M_stepOf 128 = .ok (.iastore, 1) := by decide +kernel
theorem d_M_stepOf_129 : decode b_M_stepOf 129 = .ok (.iconst 2, 1) := by decide +kernel
theorem d_M_stepOf_130 : decode b_M_stepOf 130 = .ok (.ireturn, 1) := by decide +kernel
theorem d_M_stepOf_131 : decode b_M_stepOf 131 = .ok (.aload_n 0, 1) := by decide +kernel
theorem d_M_stepOf_132 : decode b_M_stepOf 132 = .ok (.iload_n 2, 1) := by decide +kernel
theorem d_M_stepOf_133 : decode b_M_stepOf 133 = .ok (.aload_n 0, 1) := by decide +kernel
theorem d_M_stepOf_134 : decode b_M_stepOf 134 = .ok (.getfield 43, 3) := by decide +kernel
theorem d_M_stepOf_137 : decode b_M_stepOf 137 = .ok (.iload_n 1, 1) := by decide +kernel
theorem d_M_stepOf_138 : decode b_M_stepOf 138 = .ok (.iaload, 1) := by decide +kernel
theorem d_M_stepOf_139 : decode b_M_stepOf 139 = .ok (.aload_n 0, 1) := by decide +kernel
theorem d_M_stepOf_140 : decode b_M_stepOf 140 = .ok (.getfield 28, 3) := by decide +kernel
theorem d_M_stepOf_143 : decode b_M_stepOf 143 = .ok (.iload_n 2, 1) := by decide +kernel
theorem d_M_stepOf_144 : decode b_M_stepOf 144 = .ok (.iaload, 1) := by decide +kernel
theorem d_M_stepOf_145 : decode b_M_stepOf 145 = .ok (.iconst 0, 1) := by decide +kernel
theorem d_M_stepOf_146 : decode b_M_stepOf 146 = .ok (.invokevirtual 79, 3) := by decide +kernel
theorem d_M_stepOf_149 : decode b_M_stepOf 149 = .ok (.ifCond .ne 20, 3) := by decide +kernel
theorem d_M_stepOf_152 : decode b_M_stepOf 152 = .ok (.aload_n 0, 1) := by decide +kernel
theorem d_M_stepOf_153 : decode b_M_stepOf 153 = .ok (.iload_n 2, 1) := by decide +kernel
theorem d_M_stepOf_154 : decode b_M_stepOf 154 = .ok (.aload_n 0, 1) := by decide +kernel
theorem d_M_stepOf_155 : decode b_M_stepOf 155 = .ok (.getfield 37, 3) := by decide +kernel
theorem d_M_stepOf_158 : decode b_M_stepOf 158 = .ok (.iload_n 1, 1) := by decide +kernel
theorem d_M_stepOf_159 : decode b_M_stepOf 159 = .ok (.iaload, 1) := by decide +kernel
theorem d_M_stepOf_160 : decode b_M_stepOf 160 = .ok (.iconst 0, 1) := by decide +kernel
theorem d_M_stepOf_161 : decode b_M_stepOf 161 = .ok (.iload_n 1, 1) := by decide +kernel
theorem d_M_stepOf_162 : decode b_M_stepOf 162 = .ok (.iconst (-1), 1) := by decide +kernel
theorem d_M_stepOf_163 : decode b_M_stepOf 163 = .ok (.invokevirtual 115, 3) := by decide +kernel
theorem d_M_stepOf_166 : decode b_M_stepOf 166 = .ok (.pop, 1) := by decide +kernel
theorem d_M_stepOf_167 : decode b_M_stepOf 167 = .ok (.iconst 1, 1) := by decide +kernel
theorem d_M_stepOf_168 : decode b_M_stepOf 168 = .ok (.ireturn, 1) := by decide +kernel
theorem d_M_stepOf_169 : decode b_M_stepOf 169 = .ok (.iinc 2 1, 3) := by decide +kernel
theorem d_M_stepOf_172 : decode b_M_stepOf 172 = .ok (.goto (-97), 3) := by decide +kernel
theorem d_M_stepOf_175 : decode b_M_stepOf 175 = .ok (.iconst 0, 1) := by decide +kernel
theorem d_M_stepOf_176 : decode b_M_stepOf 176 = .ok (.ireturn, 1) := by decide +kernel
theorem d_M_step_0 : decode b_M_step 0 = .ok (.aload_n 0, 1) := by decide +kernel
theorem d_M_step_1 : decode b_M_step 1 = .ok (.iconst 0, 1) := by decide +kernel
theorem d_M_step_2 : decode b_M_step 2 = .ok (.putfield 71, 3) := by decide +kernel
theorem d_M_step_5 : decode b_M_step 5 = .ok (.iconst 0, 1) := by decide +kernel
theorem d_M_step_6 : decode b_M_step 6 = .ok (.istore_n 1, 1) := by decide +kernel
theorem d_M_step_7 : decode b_M_step 7 = .ok (.iload_n 1, 1) := by decide +kernel
theorem d_M_step_8 : decode b_M_step 8 = .ok (.iconst 4, 1) := by decide +kernel
theorem d_M_step_9 : decode b_M_step 9 = .ok (.if_icmp .ge 40, 3) := by decide +kernel
theorem d_M_step_12 : decode b_M_step 12 = .ok (.aload_n 0, 1) := by decide +kernel
theorem d_M_step_13 : decode b_M_step 13 = .ok (.getfield 37, 3) := by decide +kernel
theorem d_M_step_16 : decode b_M_step 16 = .ok (.iload_n 1, 1) := by decide +kernel
theorem d_M_step_17 : decode b_M_step 17 = .ok (.iaload, 1) := by decide +kernel
theorem d_M_step_18 : decode b_M_step 18 = .ok (.iconst 1, 1) := by decide +kernel
theorem d_M_step_19 : decode b_M_step 19 = .ok (.if_icmp .le 11, 3) := by decide +kernel
theorem d_M_step_22 : decode b_M_step 22 = .ok (.aload_n 0, 1) := by decide +kernel
theorem d_M_step_23 : decode b_M_step 23 = .ok (.iload_n 1, 1) := by decide +kernel
theorem d_M_step_24 : decode b_M_step 24 = .ok (.invokevirtual 122, 3) := by decide +kernel
theorem d_M_step_27 : decode b_M_step 27 = .ok (.goto 4, 3) := by decide +kernel
theorem d_M_step_30 : decode b_M_step 30 = .ok (.iconst 0, 1) := by decide +kernel
theorem d_M_step_31 : decode b_M_step 31 = .ok (.istore_n 2, 1) := by decide +kernel
theorem d_M_step_32 : decode b_M_step 32 = .ok (.iload_n 2, 1) := by decide +kernel
theorem d_M_step_33 : decode b_M_step 33 = .ok (.ifCond .le 10, 3) := by decide +kernel
theorem d_M_step_36 : decode b_M_step 36 = .ok (.bipush 10, 2) := by decide +kernel
theorem d_M_step_38 : decode b_M_step 38 = .ok (.iload_n 1, 1) := by decide +kernel
theorem d_M_step_39 : decode b_M_step 39 = .ok (.imul, 1) := by decide +kernel
theorem d_M_step_40 : decode b_M_step 40 = .ok (.iload_n 2, 1) := by decide +kernel
theorem d_M_step_41 : decode b_M_step 41 = .ok (.iadd, 1) := by decide +kernel
theorem d_M_step_42 : decode b_M_step 42 = .ok (.ireturn, 1) := by decide +kernel
theorem d_M_step_43 : decode b_M_step 43 = .ok (.iinc 1 1, 3) := by decide +kernel
theorem d_M_step_46 : decode b_M_step 46 = .ok (.goto (-39), 3) := by decide +kernel
theorem d_M_step_49 : decode b_M_step 49 = .ok (.iconst (-1), 1) := by decide +kernel
theorem d_M_step_50 : decode b_M_step 50 = .ok (.ireturn, 1) := by decide +kernel
theorem d_M_plain_0 : decode b_M_plain 0 = .ok (.aload_n 0, 1) := by decide +kernel
theorem d_M_plain_1 : decode b_M_plain 1 = .ok (.iconst 0, 1) := by decide +kernel
theorem d_M_plain_2 : decode b_M_plain 2 = .ok (.putfield 71, 3) := by decide +kernel
theorem d_M_plain_5 : decode b_M_plain 5 = .ok (.aload_n 0, 1) := by decide +kernel
theorem d_M_plain_6 : decode b_M_plain 6 = .ok (.iload_n 1, 1) := by decide +kernel
theorem d_M_plain_7 : decode b_M_plain 7 = .ok (.iconst 4, 1) := by decide +kernel
theorem d_M_plain_8 : decode b_M_plain 8 = .ok (.invokevirtual 83, 3) := by decide +kernel
theorem d_M_plain_11 : decode b_M_plain 11 = .ok (.ifCond .eq 9, 3) := by decide +kernel
theorem d_M_plain_14 : decode b_M_plain 14 = .ok (.aload_n 0, 1) := by decide +kernel
theorem d_M_plain_15 : decode b_M_plain 15 = .ok (.iconst 1, 1) := by decide +kernel
theorem d_M_plain_16 : decode b_M_plain 16 = .ok (.invokevirtual 86, 3) := by decide +kernel
theorem d_M_plain_19 : decode b_M_plain 19 = .ok (.ireturn, 1) := by decide +kernel
theorem d_M_plain_20 : decode b_M_plain 20 = .ok (.aload_n 0, 1) := by decide +kernel
theorem d_M_plain_21 : decode b_M_plain 21 = .ok (.iload_n 1, 1) := by decide +kernel
theorem d_M_plain_22 : decode b_M_plain 22 = .ok (.invokevirtual 111, 3) := by decide +kernel
theorem d_M_plain_25 : decode b_M_plain 25 = .ok (.ifCond .eq 11, 3) := by decide +kernel
theorem d_M_plain_28 : decode b_M_plain 28 = .ok (.aload_n 0, 1) := by decide +kernel
theorem d_M_plain_29 : decode b_M_plain 29 = .ok (.iconst 2, 1) := by decide +kernel
theorem d_M_plain_30 : decode b_M_plain 30 = .ok (.invokevirtual 86, 3) := by decide +kernel
theorem d_M_plain_33 : decode b_M_plain 33 = .ok (.goto 12, 3) := by decide +kernel
theorem d_M_plain_36 : decode b_M_plain 36 = .ok (.aload_n 0, 1) := by decide +kernel
theorem d_M_plain_37 : decode b_M_plain 37 = .ok (.iload_n 1, 1) := by decide +kernel
theorem d_M_plain_38 : decode b_M_plain 38 = .ok (.iconst 0, 1) := by decide +kernel
theorem d_M_plain_39 : decode b_M_plain 39 = .ok (.iload_n 2, 1) := by decide +kernel
theorem d_M_plain_40 : decode b_M_plain 40 = .ok (.iconst (-1), 1) := by decide +kernel
theorem d_M_plain_41 : decode b_M_plain 41 = .ok (.iconst (-1), 1) := by decide +kernel
theorem d_M_plain_42 : decode b_M_plain 42 = .ok (.invokevirtual 115, 3) := by decide +kernel
theorem d_M_plain_45 : decode b_M_plain 45 = .ok (.ireturn, 1) := by decide +kernel
theorem d_M_copy_0 : decode b_M_copy 0 = .ok (.aload_n 0, 1) := by decide +kernel
theorem d_M_copy_1 : decode b_M_copy 1 = .ok (.iconst 0, 1) := by decide +kernel
theorem d_M_copy_2 : decode b_M_copy 2 = .ok (.putfield 71, 3) := by decide +kernel
theorem d_M_copy_5 : decode b_M_copy 5 = .ok (.aload_n 0, 1) := by decide +kernel
theorem d_M_copy_6 : decode b_M_copy 6 = .ok (.iload_n 1, 1) := by decide +kernel
theorem d_M_copy_7 : decode b_M_copy 7 = .ok (.iconst 4, 1) := by decide +kernel
theorem d_M_copy_8 : decode b_M_copy 8 = .ok (.invokevirtual 83, 3) := by decide +kernel
theorem d_M_copy_11 : decode b_M_copy 11 = .ok (.ifCond .ne 14, 3) := by decide +kernel
theorem d_M_copy_14 : decode b_M_copy 14 = .ok (.iload_n 2, 1) := by decide +kernel
theorem d_M_copy_15 : decode b_M_copy 15 = .ok (.iconst 1, 1) := by decide +kernel
theorem d_M_copy_16 : decode b_M_copy 16 = .ok (.if_icmp .lt 9, 3) := by decide +kernel
theorem d_M_copy_19 : decode b_M_copy 19 = .ok (.iload_n 2, 1) := by decide +kernel
theorem d_M_copy_20 : decode b_M_copy 20 = .ok (.bipush 40, 2) := by decide +kernel
theorem d_M_copy_22 : decode b_M_copy 22 = .ok (.if_icmp .le 9, 3) := by decide +kernel
theorem d_M_copy_25 : decode b_M_copy 25 = .ok (.aload_n 0, 1) := by decide +kernel
theorem d_M_copy_26 : decode b_M_copy 26 = .ok (.iconst 1, 1) := by decide +kernel
theorem d_M_copy_27 : decode b_M_copy 27 = .ok (.invokevirtual 86, 3) := by decide +kernel
theorem d_M_copy_30 : decode b_M_copy 30 = .ok (.ireturn, 1) := by decide +kernel
theorem d_M_copy_31 : decode b_M_copy 31 = .ok (.aload_n 0, 1) := by decide +kernel
theorem d_M_copy_32 : decode b_M_copy 32 = .ok (.getfield 34, 3) := by decide +kernel
theorem d_M_copy_35 : decode b_M_copy 35 = .ok (.iload_n 1, 1) := by decide +kernel
theorem d_M_copy_36 : decode b_M_copy 36 = .ok (.aload_n 0, 1) := by decide +kernel
theorem d_M_copy_37 : decode b_M_copy 37 = .ok (.getfield 34, 3) := by decide +kernel
theorem d_M_copy_40 : decode b_M_copy 40 = .ok (.iload_n 1, 1) := by decide +kernel
theorem d_M_copy_41 : decode b_M_copy 41 = .ok (.iaload, 1) := by decide +kernel
theorem d_M_copy_42 : decode b_M_copy 42 = .ok (.iload_n 2, 1) := by decide +kernel
theorem d_M_copy_43 : decode b_M_copy 43 = .ok (.iadd, 1) := by decide +kernel
theorem d_M_copy_44 : decode b_M_copy 44 = .ok (.aload_n 0, 1) := by decide +kernel
theorem d_M_copy_45 : decode b_M_copy 45 = .ok (.getfield 28, 3) := by decide +kernel
theorem d_M_copy_48 : decode b_M_copy 48 = .ok (.iload_n 1, 1) := by decide +kernel
theorem d_M_copy_49 : decode b_M_copy 49 = .ok (.iaload, 1) := by decide +kernel
theorem d_M_copy_50 : decode b_M_copy 50 = .ok (.if_icmp .le 12, 3) := by decide +kernel
theorem d_M_copy_53 : decode b_M_copy 53 = .ok (.aload_n 0, 1) := by decide +kernel
theorem d_M_copy_54 : decode b_M_copy 54 = .ok (.getfield 28, 3) := by decide +kernel
theorem d_M_copy_57 : decode b_M_copy 57 = .ok (.iload_n 1, 1) := by decide +kernel
theorem d_M_copy_58 : decode b_M_copy 58 = .ok (.iaload, 1) := by decide +kernel
theorem d_M_copy_59 : decode b_M_copy 59 = .ok (.goto 11, 3) := by decide +kernel
theorem d_M_copy_62 : decode b_M_copy 62 = .ok (.aload_n 0, 1) := by decide +kernel
theorem d_M_copy_63 : decode b_M_copy 63 = .ok (.getfield 34, 3) := by decide +kernel
theorem d_M_copy_66 : decode b_M_copy 66 = .ok (.iload_n 1, 1) := by decide +kernel
theorem d_M_copy_67 : decode b_M_copy 67 = .ok (.iaload, 1) := by decide +kernel
theorem d_M_copy_68 : decode b_M_copy 68 = .ok (.iload_n 2, 1) := by decide +kernel
theorem d_M_copy_69 : decode b_M_copy 69 = .ok (.iadd, 1) := by decide +kernel
theorem d_M_copy_70 : decode b_M_copy 70 = .ok (.iastore, 1) := by decide +kernel
theorem d_M_copy_71 : decode b_M_copy 71 = .ok (.aload_n 0, 1) := by decide +kernel
theorem d_M_copy_72 : decode b_M_copy 72 = .ok (.getfield 34, 3) := by decide +kernel
theorem d_M_copy_75 : decode b_M_copy 75 = .ok (.iload_n 1, 1) := by decide +kernel
theorem d_M_copy_76 : decode b_M_copy 76 = .ok (.iaload, 1) := by decide +kernel
theorem d_M_copy_77 : decode b_M_copy 77 = .ok (.ireturn, 1) := by decide +kernel
theorem d_M_lose_0 : decode b_M_lose 0 = .ok (.aload_n 0, 1) := by decide +kernel
theorem d_M_lose_1 : decode b_M_lose 1 = .ok (.iconst 0, 1) := by decide +kernel
theorem d_M_lose_2 : decode b_M_lose 2 = .ok (.putfield 71, 3) := by decide +kernel
theorem d_M_lose_5 : decode b_M_lose 5 = .ok (.aload_n 0, 1) := by decide +kernel
theorem d_M_lose_6 : decode b_M_lose 6 = .ok (.iload_n 1, 1) := by decide +kernel
theorem d_M_lose_7 : decode b_M_lose 7 = .ok (.iconst 4, 1) := by decide +kernel
theorem d_M_lose_8 : decode b_M_lose 8 = .ok (.invokevirtual 83, 3) := by decide +kernel
theorem d_M_lose_11 : decode b_M_lose 11 = .ok (.ifCond .eq 9, 3) := by decide +kernel
theorem d_M_lose_14 : decode b_M_lose 14 = .ok (.aload_n 0, 1) := by decide +kernel
theorem d_M_lose_15 : decode b_M_lose 15 = .ok (.iconst 1, 1) := by decide +kernel
theorem d_M_lose_16 : decode b_M_lose 16 = .ok (.invokevirtual 86, 3) := by decide +kernel
theorem d_M_lose_19 : decode b_M_lose 19 = .ok (.ireturn, 1) := by decide +kernel
theorem d_M_lose_20 : decode b_M_lose 20 = .ok (.aload_n 0, 1) := by decide +kernel
theorem d_M_lose_21 : decode b_M_lose 21 = .ok (.getfield 28, 3) := by decide +kernel
theorem d_M_lose_24 : decode b_M_lose 24 = .ok (.iload_n 1, 1) := by decide +kernel
theorem d_M_lose_25 : decode b_M_lose 25 = .ok (.iaload, 1) := by decide +kernel
theorem d_M_lose_26 : decode b_M_lose 26 = .ok (.aload_n 0, 1) := by decide +kernel
theorem d_M_lose_27 : decode b_M_lose 27 = .ok (.getfield 34, 3) := by decide +kernel
theorem d_M_lose_30 : decode b_M_lose 30 = .ok (.iload_n 1, 1) := by decide +kernel
theorem d_M_lose_31 : decode b_M_lose 31 = .ok (.iaload, 1) := by decide +kernel
theorem d_M_lose_32 : decode b_M_lose 32 = .ok (.isub, 1) := by decide +kernel
theorem d_M_lose_33 : decode b_M_lose 33 = .ok (.istore_n 2, 1) := by decide +kernel
theorem d_M_lose_34 : decode b_M_lose 34 = .ok (.aload_n 0, 1) := by decide +kernel
theorem d_M_lose_35 : decode b_M_lose 35 = .ok (.getfield 28, 3) := by decide +kernel
theorem d_M_lose_38 : decode b_M_lose 38 = .ok (.iload_n 1, 1) := by decide +kernel
theorem d_M_lose_39 : decode b_M_lose 39 = .ok (.aload_n 0, 1) := by decide +kernel
theorem d_M_lose_40 : decode b_M_lose 40 = .ok (.getfield 34, 3) := by decide +kernel
theorem d_M_lose_43 : decode b_M_lose 43 = .ok (.iload_n 1, 1) := by decide +kernel
theorem d_M_lose_44 : decode b_M_lose 44 = .ok (.iaload, 1) := by decide +kernel
theorem d_M_lose_45 : decode b_M_lose 45 = .ok (.iastore, 1) := by decide +kernel
theorem d_M_lose_46 : decode b_M_lose 46 = .ok (.iload_n 2, 1) := by decide +kernel
theorem d_M_lose_47 : decode b_M_lose 47 = .ok (.ireturn, 1) := by decide +kernel
theorem d_M_stable_0 : decode b_M_stable 0 = .ok (.iconst 0, 1) := by decide +kernel
theorem d_M_stable_1 : decode b_M_stable 1 = .ok (.istore_n 2, 1) := by decide +kernel
theorem d_M_stable_2 : decode b_M_stable 2 = .ok (.iload_n 2, 1) := by decide +kernel
theorem d_M_stable_3 : decode b_M_stable 3 = .ok (.aload_n 0, 1) := by decide +kernel
theorem d_M_stable_4 : decode b_M_stable 4 = .ok (.getfield 34, 3) := by decide +kernel
theorem d_M_stable_7 : decode b_M_stable 7 = .ok (.iload_n 1, 1) := by decide +kernel
theorem d_M_stable_8 : decode b_M_stable 8 = .ok (.iaload, 1) := by decide +kernel
theorem d_M_stable_9 : decode b_M_stable 9 = .ok (.if_icmp .ge 50, 3) := by decide +kernel
theorem d_M_stable_12 : decode b_M_stable 12 = .ok (.sipush 520, 3) := by decide +kernel
theorem d_M_stable_15 : decode b_M_stable 15 = .ok (.iload_n 1, 1) := by decide +kernel
theorem d_M_stable_16 : decode b_M_stable 16 = .ok (.imul, 1) := by decide +kernel
theorem d_M_stable_17 : decode b_M_stable 17 = .ok (.iload_n 2, 1) := by decide +kernel
theorem d_M_stable_18 : decode b_M_stable 18 = .ok (.iadd, 1) := by decide +kernel
theorem d_M_stable_19 : decode b_M_stable 19 = .ok (.istore_n 3, 1) := by decide +kernel
theorem d_M_stable_20 : decode b_M_stable 20 = .ok (.aload_n 0, 1) := by decide +kernel
theorem d_M_stable_21 : decode b_M_stable 21 = .ok (.getfield 7, 3) := by decide +kernel
theorem d_M_stable_24 : decode b_M_stable 24 = .ok (.iload_n 3, 1) := by decide +kernel
theorem d_M_stable_25 : decode b_M_stable 25 = .ok (.iaload, 1) := by decide +kernel
theorem d_M_stable_26 : decode b_M_stable 26 = .ok (.iconst 1, 1) := by decide +kernel
theorem d_M_stable_27 : decode b_M_stable 27 = .ok (.if_icmp .ne 26, 3) := by decide +kernel
theorem d_M_stable_30 : decode b_M_stable 30 = .ok (.aload_n 0, 1) := by decide +kernel
theorem d_M_stable_31 : decode b_M_stable 31 = .ok (.iload_n 1, 1) := by decide +kernel
theorem d_M_stable_32 : decode b_M_stable 32 = .ok (.aload_n 0, 1) := by decide +kernel
theorem d_M_stable_33 : decode b_M_stable 33 = .ok (.getfield 25, 3) := by decide +kernel
theorem d_M_stable_36 : decode b_M_stable 36 = .ok (.iload_n 3, 1) := by decide +kernel
theorem d_M_stable_37 : decode b_M_stable 37 = .ok (.iaload, 1) := by decide +kernel
theorem d_M_stable_38 : decode b_M_stable 38 = .ok (.aload_n 0, 1) := by decide +kernel
theorem d_M_stable_39 : decode b_M_stable 39 = .ok (.getfield 34, 3) := by decide +kernel
theorem d_M_stable_42 : decode b_M_stable 42 = .ok (.iload_n 1, 1) := by decide +kernel
theorem d_M_stable_43 : decode b_M_stable 43 = .ok (.iaload, 1) := by decide +kernel
theorem d_M_stable_44 : decode b_M_stable 44 = .ok (.iconst 0, 1) := by decide +kernel
theorem d_M_stable_45 : decode b_M_stable 45 = .ok (.invokevirtual 79, 3) := by decide +kernel
theorem d_M_stable_48 : decode b_M_stable 48 = .ok (.ifCond .ne 5, 3) := by decide +kernel
theorem d_M_stable_51 : decode b_M_stable 51 = .ok (.iload_n 2, 1) := by decide +kernel
theorem d_M_stable_52 : decode b_M_stable 52 = .ok (.ireturn, 1) := by decide +kernel
theorem d_M_stable_53 : decode b_M_stable 53 = .ok (.iinc 2 1, 3) := by decide +kernel
theorem d_M_stable_56 : decode b_M_stable 56 = .ok (.goto (-54), 3) := by decide +kernel
theorem d_M_stable_59 : decode b_M_stable 59 = .ok (.aload_n 0, 1) := by decide +kernel
theorem d_M_stable_60 : decode b_M_stable 60 = .ok (.getfield 34, 3) := by decide +kernel
theorem d_M_stable_63 : decode b_M_stable 63 = .ok (.iload_n 1, 1) := by decide +kernel
theorem d_M_stable_64 : decode b_M_stable 64 = .ok (.iaload, 1) := by decide +kernel
theorem d_M_stable_65 : decode b_M_stable 65 = .ok (.ireturn, 1) := by decide +kernel
theorem d_M_fetch_0 : decode b_M_fetch 0 = .ok (.aload_n 0, 1) := by decide +kernel
theorem d_M_fetch_1 : decode b_M_fetch 1 = .ok (.iconst 0, 1) := by decide +kernel
theorem d_M_fetch_2 : decode b_M_fetch 2 = .ok (.putfield 71, 3) := by decide +kernel
theorem d_M_fetch_5 : decode b_M_fetch 5 = .ok (.aload_n 0, 1) := by decide +kernel
theorem d_M_fetch_6 : decode b_M_fetch 6 = .ok (.iload_n 1, 1) := by decide +kernel
theorem d_M_fetch_7 : decode b_M_fetch 7 = .ok (.iconst 4, 1) := by decide +kernel
theorem d_M_fetch_8 : decode b_M_fetch 8 = .ok (.invokevirtual 83, 3) := by decide +kernel
theorem d_M_fetch_11 : decode b_M_fetch 11 = .ok (.ifCond .ne 14, 3) := by decide +kernel
theorem d_M_fetch_14 : decode b_M_fetch 14 = .ok (.aload_n 0, 1) := by decide +kernel
theorem d_M_fetch_15 : decode b_M_fetch 15 = .ok (.iload_n 2, 1) := by decide +kernel
theorem d_M_fetch_16 : decode b_M_fetch 16 = .ok (.sipush 601, 3) := by decide +kernel
theorem d_M_fetch_19 : decode b_M_fetch 19 = .ok (.invokevirtual 83, 3) := by decide +kernel
theorem d_M_fetch_22 : decode b_M_fetch 22 = .ok (.ifCond .eq 9, 3) := by decide +kernel
theorem d_M_fetch_25 : decode b_M_fetch 25 = .ok (.aload_n 0, 1) := by decide +kernel
theorem d_M_fetch_26 : decode b_M_fetch 26 = .ok (.iconst 1, 1) := by decide +kernel
theorem d_M_fetch_27 : decode b_M_fetch 27 = .ok (.invokevirtual 86, 3) := by decide +kernel
theorem d_M_fetch_30 : decode b_M_fetch 30 = .ok (.ireturn, 1) := by decide +kernel
theorem d_M_fetch_31 : decode b_M_fetch 31 = .ok (.iload_n 2, 1) := by decide +kernel
theorem d_M_fetch_32 : decode b_M_fetch 32 = .ok (.aload_n 0, 1) := by decide +kernel
theorem d_M_fetch_33 : decode b_M_fetch 33 = .ok (.getfield 31, 3) := by decide +kernel
theorem d_M_fetch_36 : decode b_M_fetch 36 = .ok (.iload_n 1, 1) := by decide +kernel
theorem d_M_fetch_37 : decode b_M_fetch 37 = .ok (.iaload, 1) := by decide +kernel
theorem d_M_fetch_38 : decode b_M_fetch 38 = .ok (.if_icmp .ge 9, 3) := by decide +kernel
theorem d_M_fetch_41 : decode b_M_fetch 41 = .ok (.aload_n 0, 1) := by decide +kernel
theorem d_M_fetch_42 : decode b_M_fetch 42 = .ok (.iconst 2, 1) := by decide +kernel
theorem d_M_fetch_43 : decode b_M_fetch 43 = .ok (.invokevirtual 86, 3) := by decide +kernel
theorem d_M_fetch_46 : decode b_M_fetch 46 = .ok (.ireturn, 1) := by decide +kernel
theorem d_M_fetch_47 : decode b_M_fetch 47 = .ok (.iload_n 3, 1) := by decide +kernel
theorem d_M_fetch_48 : decode b_M_fetch 48 = .ok (.ifCond .eq 11, 3) := by decide +kernel
theorem d_M_fetch_51 : decode b_M_fetch 51 = .ok (.aload_n 0, 1) := by decide +kernel
theorem d_M_fetch_52 : decode b_M_fetch 52 = .ok (.iload_n 1, 1) := by decide +kernel
theorem d_M_fetch_53 : decode b_M_fetch 53 = .ok (.invokevirtual 125, 3) := by decide +kernel
theorem d_M_fetch_56 : decode b_M_fetch 56 = .ok (.goto 9, 3) := by decide +kernel
theorem d_M_fetch_59 : decode b_M_fetch 59 = .ok (.aload_n 0, 1) := by decide +kernel
theorem d_M_fetch_60 : decode b_M_fetch 60 = .ok (.getfield 34, 3) := by decide +kernel
theorem d_M_fetch_63 : decode b_M_fetch 63 = .ok (.iload_n 1, 1) := by decide +kernel
theorem d_M_fetch_64 : decode b_M_fetch 64 = .ok (.iaload, 1) := by decide +kernel
theorem d_M_fetch_65 : decode b_M_fetch 65 = .ok (.istore 4, 2) := by decide +kernel
theorem d_M_fetch_67 : decode b_M_fetch 67 = .ok (.iload_n 2, 1) := by decide +kernel
theorem d_M_fetch_68 : decode b_M_fetch 68 = .ok (.istore 5, 2) := by decide +kernel
theorem d_M_fetch_70 : decode b_M_fetch 70 = .ok (.iload 5, 2) := by decide +kernel
theorem d_M_fetch_72 : decode b_M_fetch 72 = .ok (.iload 4, 2) := by decide +kernel
theorem d_M_fetch_74 : decode b_M_fetch 74 = .ok (.if_icmp .ge 87, 3) := by decide +kernel
theorem d_M_fetch_77 : decode b_M_fetch 77 = .ok (.sipush 520, 3) := by decide +kernel
theorem d_M_fetch_80 : decode b_M_fetch 80 = .ok (.iload_n 1, 1) := by decide +kernel
theorem d_M_fetch_81 : decode b_M_fetch 81 = .ok (.imul, 1) := by decide +kernel
theorem d_M_fetch_82 : decode b_M_fetch 82 = .ok (.iload 5, 2) := by decide +kernel
theorem d_M_fetch_84 : decode b_M_fetch 84 = .ok (.iadd, 1) := by decide +kernel
theorem d_M_fetch_85 : decode b_M_fetch 85 = .ok (.istore 6, 2) := by decide +kernel
theorem d_M_fetch_87 : decode b_M_fetch 87 = .ok (.aload_n 0, 1) := by decide +kernel
theorem d_M_fetch_88 : decode b_M_fetch 88 = .ok (.getfield 7, 3) := by decide +kernel
theorem d_M_fetch_91 : decode b_M_fetch 91 = .ok (.iload 6, 2) := by decide +kernel
theorem d_M_fetch_93 : decode b_M_fetch 93 = .ok (.iaload, 1) := by decide +kernel
theorem d_M_fetch_94 : decode b_M_fetch 94 = .ok (.iconst 1, 1) := by decide +kernel
theorem d_M_fetch_95 : decode b_M_fetch 95 = .ok (.if_icmp .le 6, 3) := by decide +kernel
theorem d_M_fetch_98 : decode b_M_fetch 98 = .ok (.goto 57, 3) := by decide +kernel
theorem d_M_fetch_101 : decode b_M_fetch 101 = .ok (.iload_n 3, 1) := by decide +kernel
theorem d_M_fetch_102 : decode b_M_fetch 102 = .ok (.ifCond .eq 39, 3) := by decide +kernel
theorem d_M_fetch_105 : decode b_M_fetch 105 = .ok (.aload_n 0, 1) := by decide +kernel
theorem d_M_fetch_106 : decode b_M_fetch 106 = .ok (.getfield 7, 3) := by decide +kernel
theorem d_M_fetch_109 : decode b_M_fetch 109 = .ok (.iload 6, 2) := by decide +kernel
theorem d_M_fetch_111 : decode b_M_fetch 111 = .ok (.iaload, 1) := by decide +kernel
theorem d_M_fetch_112 : decode b_M_fetch 112 = .ok (.iconst 1, 1) := by decide +kernel
theorem d_M_fetch_113 : decode b_M_fetch 113 = .ok (.if_icmp .ne 28, 3) := by decide +kernel
theorem d_M_fetch_116 : decode b_M_fetch 116 = .ok (.aload_n 0, 1) := by decide +kernel
theorem d_M_fetch_117 : decode b_M_fetch 117 = .ok (.iload_n 1, 1) := by decide +kernel
theorem d_M_fetch_118 : decode b_M_fetch 118 = .ok (.aload_n 0, 1) := by decide +kernel
theorem d_M_fetch_119 : decode b_M_fetch 119 = .ok (.getfield 25, 3) := by decide +kernel
theorem d_M_fetch_122 : decode b_M_fetch 122 = .ok (.iload 6, 2) := by decide +kernel
theorem d_M_fetch_124 : decode b_M_fetch 124 = .ok (.iaload, 1) := by decide +kernel
theorem d_M_fetch_125 : decode b_M_fetch 125 = .ok (.aload_n 0, 1) := by decide +kernel
theorem d_M_fetch_126 : decode b_M_fetch 126 = .ok (.getfield 34, 3) := by decide +kernel
theorem d_M_fetch_129 : decode b_M_fetch 129 = .ok (.iload_n 1, 1) := by decide +kernel
theorem d_M_fetch_130 : decode b_M_fetch 130 = .ok (.iaload, 1) := by decide +kernel
theorem d_M_fetch_131 : decode b_M_fetch 131 = .ok (.iconst 1, 1) := by decide +kernel
theorem d_M_fetch_132 : decode b_M_fetch 132 = .ok (.invokevirtual 79, 3) := by decide +kernel
theorem d_M_fetch_135 : decode b_M_fetch 135 = .ok (.ifCond .eq 6, 3) := by decide +kernel
theorem d_M_fetch_138 : decode b_M_fetch 138 = .ok (.goto 17, 3) := by decide +kernel
theorem d_M_fetch_141 : decode b_M_fetch 141 = .ok (.aload_n 0, 1) := by decide +kernel
theorem d_M_fetch_142 : decode b_M_fetch 142 = .ok (.aload_n 0, 1) := by decide +kernel
theorem d_M_fetch_143 : decode b_M_fetch 143 = .ok (.getfield 13, 3) := by decide +kernel
theorem d_M_fetch_146 : decode b_M_fetch 146 = .ok (.iload 6, 2) := by decide +kernel
theorem d_M_fetch_148 : decode b_M_fetch 148 = .ok (.iaload, 1) := by decide +kernel
theorem d_M_fetch_149 : decode b_M_fetch 149 = .ok (.putfield 128, 3) := by decide +kernel
theorem d_M_fetch_152 : decode b_M_fetch 152 = .ok (.iload 5, 2) := by decide +kernel
theorem d_M_fetch_154 : decode b_M_fetch 154 = .ok (.ireturn, 1) := by decide +kernel
theorem d_M_fetch_155 : decode b_M_fetch 155 = .ok (.iinc 5 1, 3) := by decide +kernel
theorem d_M_fetch_158 : decode b_M_fetch 158 = .ok (.goto (-88), 3) := by decide +kernel
theorem d_M_fetch_161 : decode b_M_fetch 161 = .ok (.aload_n 0, 1) := by decide +kernel
theorem d_M_fetch_162 : decode b_M_fetch 162 = .ok (.iconst 3, 1) := by decide +kernel
theorem d_M_fetch_163 : decode b_M_fetch 163 = .ok (.invokevirtual 86, 3) := by decide +kernel
theorem d_M_fetch_166 : decode b_M_fetch 166 = .ok (.ireturn, 1) := by decide +kernel
theorem d_M_last_0 : decode b_M_last 0 = .ok (.aload_n 0, 1) := by decide +kernel
theorem d_M_last_1 : decode b_M_last 1 = .ok (.iconst 0, 1) := by decide +kernel
theorem d_M_last_2 : decode b_M_last 2 = .ok (.putfield 71, 3) := by decide +kernel
theorem d_M_last_5 : decode b_M_last 5 = .ok (.aload_n 0, 1) := by decide +kernel
theorem d_M_last_6 : decode b_M_last 6 = .ok (.getfield 128, 3) := by decide +kernel
theorem d_M_last_9 : decode b_M_last 9 = .ok (.ireturn, 1) := by decide +kernel
theorem d_M_trim_0 : decode b_M_trim 0 = .ok (.aload_n 0, 1) := by decide +kernel
theorem d_M_trim_1 : decode b_M_trim 1 = .ok (.iconst 0, 1) := by decide +kernel
theorem d_M_trim_2 : decode b_M_trim 2 = .ok (.putfield 71, 3) := by decide +kernel
theorem d_M_trim_5 : decode b_M_trim 5 = .ok (.aload_n 0, 1) := by decide +kernel
theorem d_M_trim_6 : decode b_M_trim 6 = .ok (.iload_n 1, 1) := by decide +kernel
theorem d_M_trim_7 : decode b_M_trim 7 = .ok (.iconst 4, 1) := by decide +kernel
theorem d_M_trim_8 : decode b_M_trim 8 = .ok (.invokevirtual 83, 3) := by decide +kernel
theorem d_M_trim_11 : decode b_M_trim 11 = .ok (.ifCond .ne 14, 3) := by decide +kernel
theorem d_M_trim_14 : decode b_M_trim 14 = .ok (.aload_n 0, 1) := by decide +kernel
theorem d_M_trim_15 : decode b_M_trim 15 = .ok (.iload_n 2, 1) := by decide +kernel
theorem d_M_trim_16 : decode b_M_trim 16 = .ok (.sipush 601, 3) := by decide +kernel
theorem d_M_trim_19 : decode b_M_trim 19 = .ok (.invokevirtual 83, 3) := by decide +kernel
theorem d_M_trim_22 : decode b_M_trim 22 = .ok (.ifCond .eq 9, 3) := by decide +kernel
theorem d_M_trim_25 : decode b_M_trim 25 = .ok (.aload_n 0, 1) := by decide +kernel
theorem d_M_trim_26 : decode b_M_trim 26 = .ok (.iconst 1, 1) := by decide +kernel
theorem d_M_trim_27 : decode b_M_trim 27 = .ok (.invokevirtual 86, 3) := by decide +kernel
theorem d_M_trim_30 : decode b_M_trim 30 = .ok (.ireturn, 1) := by decide +kernel
theorem d_M_trim_31 : decode b_M_trim 31 = .ok (.iload_n 2, 1) := by decide +kernel
theorem d_M_trim_32 : decode b_M_trim 32 = .ok (.aload_n 0, 1) := by decide +kernel
theorem d_M_trim_33 : decode b_M_trim 33 = .ok (.getfield 31, 3) := by decide +kernel
theorem d_M_trim_36 : decode b_M_trim 36 = .ok (.iload_n 1, 1) := by decide +kernel
theorem d_M_trim_37 : decode b_M_trim 37 = .ok (.iaload, 1) := by decide +kernel
theorem d_M_trim_38 : decode b_M_trim 38 = .ok (.if_icmp .lt 12, 3) := by decide +kernel
theorem d_M_trim_41 : decode b_M_trim 41 = .ok (.iload_n 2, 1) := by decide +kernel
theorem d_M_trim_42 : decode b_M_trim 42 = .ok (.aload_n 0, 1) := by decide +kernel
theorem d_M_trim_43 : decode b_M_trim 43 = .ok (.iload_n 1, 1) := by decide +kernel
theorem d_M_trim_44 : decode b_M_trim 44 = .ok (.invokevirtual 125, 3) := by decide +kernel
theorem d_M_trim_47 : decode b_M_trim 47 = .ok (.if_icmp .le 9, 3) := by decide +kernel
theorem d_M_trim_50 : decode b_M_trim 50 = .ok (.aload_n 0, 1) := by decide +kernel
theorem d_M_trim_51 : decode b_M_trim 51 = .ok (.iconst 2, 1) := by decide +kernel
theorem d_M_trim_52 : decode b_M_trim 52 = .ok (.invokevirtual 86, 3) := by decide +kernel
theorem d_M_trim_55 : decode b_M_trim 55 = .ok (.ireturn, 1) := by decide +kernel
theorem d_M_trim_56 : decode b_M_trim 56 = .ok (.iload_n 2, 1) := by decide +kernel
theorem d_M_trim_57 : decode b_M_trim 57 = .ok (.aload_n 0, 1) := by decide +kernel
theorem d_M_trim_58 : decode b_M_trim 58 = .ok (.getfield 31, 3) := by decide +kernel
theorem d_M_trim_61 : decode b_M_trim 61 = .ok (.iload_n 1, 1) := by decide +kernel
theorem d_M_trim_62 : decode b_M_trim 62 = .ok (.iaload, 1) := by decide +kernel
theorem d_M_trim_63 : decode b_M_trim 63 = .ok (.isub, 1) := by decide +kernel
theorem d_M_trim_64 : decode b_M_trim 64 = .ok (.istore_n 3, 1) := by decide +kernel
theorem d_M_trim_65 : decode b_M_trim 65 = .ok (.aload_n 0, 1) := by decide +kernel
theorem d_M_trim_66 : decode b_M_trim 66 = .ok (.getfield 31, 3) := by decide +kernel
theorem d_M_trim_69 : decode b_M_trim 69 = .ok (.iload_n 1, 1) := by decide +kernel
theorem d_M_trim_70 : decode b_M_trim 70 = .ok (.iload_n 2, 1) := by decide +kernel
theorem d_M_trim_71 : decode b_M_trim 71 = .ok (.iastore, 1) := by decide +kernel
theorem d_M_trim_72 : decode b_M_trim 72 = .ok (.iload_n 3, 1) := by decide +kernel
theorem d_M_trim_73 : decode b_M_trim 73 = .ok (.ireturn, 1) := by decide +kernel
theorem d_M_has_0 : decode b_M_has 0 = .ok (.iconst 0, 1) := by decide +kernel
theorem d_M_has_1 : decode b_M_has 1 = .ok (.istore_n 3, 1) := by decide +kernel
theorem d_M_has_2 : decode b_M_has 2 = .ok (.iconst 0, 1) := by decide +kernel
theorem d_M_has_3 : decode b_M_has 3 = .ok (.istore 4, 2) := by decide +kernel
theorem d_M_has_5 : decode b_M_has 5 = .ok (.iload 4, 2) := by decide +kernel
theorem d_M_has_7 : decode b_M_has 7 = .ok (.iconst 4, 1) := by decide +kernel
theorem d_M_has_8 : decode b_M_has 8 = .ok (.if_icmp .ge 32, 3) := by decide +kernel
theorem d_M_has_11 : decode b_M_has 11 = .ok (.iload_n 3, 1) := by decide +kernel
theorem d_M_has_12 : decode b_M_has 12 = .ok (.aload_n 0, 1) := by decide +kernel
theorem d_M_has_13 : decode b_M_has 13 = .ok (.getfield 65, 3) := by decide +kernel
theorem d_M_has_16 : decode b_M_has 16 = .ok (.iconst 4, 1) := by decide +kernel
theorem d_M_has_17 : decode b_M_has 17 = .ok (.iload_n 1, 1) := by decide +kernel
theorem d_M_has_18 : decode b_M_has 18 = .ok (.imul, 1) := by decide +kernel
theorem d_M_has_19 : decode b_M_has 19 = .ok (.iload 4, 2) := by decide +kernel
theorem d_M_has_21 : decode b_M_has 21 = .ok (.iadd, 1) := by decide +kernel
theorem d_M_has_22 : decode b_M_has 22 = .ok (.iaload, 1) := by decide +kernel
theorem d_M_has_23 : decode b_M_has 23 = .ok (.iload_n 2, 1) := by decide +kernel
theorem d_M_has_24 : decode b_M_has 24 = .ok (.if_icmp .ne 7, 3) := by decide +kernel
theorem d_M_has_27 : decode b_M_has 27 = .ok (.iconst 1, 1) := by decide +kernel
theorem d_M_has_28 : decode b_M_has 28 = .ok (.goto 4, 3) := by decide +kernel
theorem d_M_has_31 : decode b_M_has 31 = .ok (.iconst 0, 1) := by decide +kernel
theorem d_M_has_32 : decode b_M_has 32 = .ok (.iadd, 1) := by decide +kernel
theorem d_M_has_33 : decode b_M_has 33 = .ok (.istore_n 3, 1) := by decide +kernel
theorem d_M_has_34 : decode b_M_has 34 = .ok (.iinc 4 1, 3) := by decide +kernel
theorem d_M_has_37 : decode b_M_has 37 = .ok (.goto (-32), 3) := by decide +kernel
theorem d_M_has_40 : decode b_M_has 40 = .ok (.iload_n 3, 1) := by decide +kernel
theorem d_M_has_41 : decode b_M_has 41 = .ok (.ireturn, 1) := by decide +kernel
theorem d_M_fewest_0 : decode b_M_fewest 0 = .ok (.iconst (-1), 1) := by decide +kernel
theorem d_M_fewest_1 : decode b_M_fewest 1 = .ok (.istore_n 2, 1) := by decide +kernel
theorem d_M_fewest_2 : decode b_M_fewest 2 = .ok (.iconst 0, 1) := by decide +kernel
theorem d_M_fewest_3 : decode b_M_fewest 3 = .ok (.istore_n 3, 1) := by decide +kernel
theorem d_M_fewest_4 : decode b_M_fewest 4 = .ok (.iload_n 3, 1) := by decide +kernel
theorem d_M_fewest_5 : decode b_M_fewest 5 = .ok (.iconst 4, 1) := by decide +kernel
theorem d_M_fewest_6 : decode b_M_fewest 6 = .ok (.if_icmp .ge 43, 3) := by decide +kernel
theorem d_M_fewest_9 : decode b_M_fewest 9 = .ok (.aload_n 0, 1) := by decide +kernel
theorem d_M_fewest_10 : decode b_M_fewest 10 = .ok (.getfield 58, 3) := by decide +kernel
theorem d_M_fewest_13 : decode b_M_fewest 13 = .ok (.iconst 4, 1) := by decide +kernel
theorem d_M_fewest_14 : decode b_M_fewest 14 = .ok (.iload_n 1, 1) := by decide +kernel
theorem d_M_fewest_15 : decode b_M_fewest 15 = .ok (.imul, 1) := by decide +kernel
theorem d_M_fewest_16 : decode b_M_fewest 16 = .ok (.iload_n 3, 1) := by decide +kernel
theorem d_M_fewest_17 : decode b_M_fewest 17 = .ok (.iadd, 1) := by decide +kernel
theorem d_M_fewest_18 : decode b_M_fewest 18 = .ok (.baload, 1) := by decide +kernel
theorem d_M_fewest_19 : decode b_M_fewest 19 = .ok (.ifCond .eq 24, 3) := by decide +kernel
theorem d_M_fewest_22 : decode b_M_fewest 22 = .ok (.iload_n 2, 1) := by decide +kernel
theorem d_M_fewest_23 : decode b_M_fewest 23 = .ok (.ifCond .lt 18, 3) := by decide +kernel
theorem d_M_fewest_26 : decode b_M_fewest 26 = .ok (.aload_n 0, 1) := by decide +kernel
theorem d_M_fewest_27 : decode b_M_fewest 27 = .ok (.iload_n 1, 1) := by decide +kernel
theorem d_M_fewest_28 : decode b_M_fewest 28 = .ok (.iload_n 3, 1) := by decide +kernel
theorem d_M_fewest_29 : decode b_M_fewest 29 = .ok (.invokevirtual 131, 3) := by decide +kernel
theorem d_M_fewest_32 : decode b_M_fewest 32 = .ok (.aload_n 0, 1) := by decide +kernel
theorem d_M_fewest_33 : decode b_M_fewest 33 = .ok (.iload_n 1, 1) := by decide +kernel
theorem d_M_fewest_34 : decode b_M_fewest 34 = .ok (.iload_n 2, 1) := by decide +kernel
theorem d_M_fewest_35 : decode b_M_fewest 35 = .ok (.invokevirtual 131, 3) := by decide +kernel
theorem d_M_fewest_38 : decode b_M_fewest 38 = .ok (.if_icmp .ge 5, 3) := by decide +kernel
theorem d_M_fewest_41 : decode b_M_fewest 41 = .ok (.iload_n 3, 1) := by decide +kernel
theorem d_M_fewest_42 : decode b_M_fewest 42 = .ok (.istore_n 2, 1) := by decide +kernel
theorem d_M_fewest_43 : decode b_M_fewest 43 = .ok (.iinc 3 1, 3) := by decide +kernel
theorem d_M_fewest_46 : decode b_M_fewest 46 = .ok (.goto (-42), 3) := by decide +kernel
theorem d_M_fewest_49 : decode b_M_fewest 49 = .ok (.iload_n 2, 1) := by decide +kernel
theorem d_M_fewest_50 : decode b_M_fewest 50 = .ok (.ireturn, 1) := by decide +kernel
theorem d_M_share_0 : decode b_M_share 0 = .ok (.aload_n 0, 1) := by decide +kernel
theorem d_M_share_1 : decode b_M_share 1 = .ok (.getfield 55, 3) := by decide +kernel
theorem d_M_share_4 : decode b_M_share 4 = .ok (.iload_n 1, 1) := by decide +kernel
theorem d_M_share_5 : decode b_M_share 5 = .ok (.dup2, 1) := by decide +kernel
theorem d_M_share_6 : decode b_M_share 6 = .ok (.iaload, 1) := by decide +kernel
theorem d_M_share_7 : decode b_M_share 7 = .ok (.iconst 1, 1) := by decide +kernel
theorem d_M_share_8 : decode b_M_share 8 = .ok (.iadd, 1) := by decide +kernel
theorem d_M_share_9 : decode b_M_share 9 = .ok (.iastore, 1) := by decide +kernel
theorem d_M_share_10 : decode b_M_share 10 = .ok (.iconst 0, 1) := by decide +kernel
theorem d_M_share_11 : decode b_M_share 11 = .ok (.istore_n 2, 1) := by decide +kernel
theorem d_M_share_12 : decode b_M_share 12 = .ok (.iconst 0, 1) := by decide +kernel
theorem d_M_share_13 : decode b_M_share 13 = .ok (.istore_n 3, 1) := by decide +kernel
theorem d_M_share_14 : decode b_M_share 14 = .ok (.iload_n 3, 1) := by decide +kernel
theorem d_M_share_15 : decode b_M_share 15 = .ok (.iconst 4, 1) := by decide +kernel
theorem d_M_share_16 : decode b_M_share 16 = .ok (.if_icmp .ge 30, 3) := by decide +kernel
theorem d_M_share_19 : decode b_M_share 19 = .ok (.iload_n 2, 1) := by decide +kernel
theorem d_M_share_20 : decode b_M_share 20 = .ok (.aload_n 0, 1) := by decide +kernel
theorem d_M_share_21 : decode b_M_share 21 = .ok (.getfield 58, 3) := by decide +kernel
theorem d_M_share_24 : decode b_M_share 24 = .ok (.iconst 4, 1) := by decide +kernel
theorem d_M_share_25 : decode b_M_share 25 = .ok (.iload_n 1, 1) := by decide +kernel
theorem d_M_share_26 : decode b_M_share 26 = .ok (.imul, 1) := by decide +kernel
theorem d_M_share_27 : decode b_M_share 27 = .ok (.iload_n 3, 1) := by decide +kernel
theorem d_M_share_28 : decode b_M_share 28 = .ok (.iadd, 1) := by decide +kernel
theorem d_M_share_29 : decode b_M_share 29 = .ok (.baload, 1) := by decide +kernel
theorem d_M_share_30 : decode b_M_share 30 = .ok (.ifCond .eq 7, 3) := by decide +kernel
theorem d_M_share_33 : decode b_M_share 33 = .ok (.iconst 1, 1) := by decide +kernel
theorem d_M_share_34 : decode b_M_share 34 = .ok (.goto 4, 3) := by decide +kernel
theorem d_M_share_37 : decode b_M_share 37 = .ok (.iconst 0, 1) := by decide +kernel
theorem d_M_share_38 : decode b_M_share 38 = .ok (.iadd, 1) := by decide +kernel
theorem d_M_share_39 : decode b_M_share 39 = .ok (.istore_n 2, 1) := by decide +kernel
theorem d_M_share_40 : decode b_M_share 40 = .ok (.iinc 3 1, 3) := by decide +kernel
theorem d_M_share_43 : decode b_M_share 43 = .ok (.goto (-29), 3) := by decide +kernel
theorem d_M_share_46 : decode b_M_share 46 = .ok (.iconst 0, 1) := by decide +kernel
theorem d_M_share_47 : decode b_M_share 47 = .ok (.istore_n 3, 1) := by decide +kernel
theorem d_M_share_48 : decode b_M_share 48 = .ok (.iload_n 3, 1) := by decide +kernel
theorem d_M_share_49 : decode b_M_share 49 = .ok (.iconst 4, 1) := by decide +kernel
theorem d_M_share_50 : decode b_M_share 50 = .ok (.if_icmp .ge 55, 3) := by decide +kernel
theorem d_M_share_53 : decode b_M_share 53 = .ok (.aload_n 0, 1) := by decide +kernel
theorem d_M_share_54 : decode b_M_share 54 = .ok (.getfield 65, 3) := by decide +kernel
theorem d_M_share_57 : decode b_M_share 57 = .ok (.iconst 4, 1) := by decide +kernel
theorem d_M_share_58 : decode b_M_share 58 = .ok (.iload_n 1, 1) := by decide +kernel
theorem d_M_share_59 : decode b_M_share 59 = .ok (.imul, 1) := by decide +kernel
theorem d_M_share_60 : decode b_M_share 60 = .ok (.iload_n 3, 1) := by decide +kernel
theorem d_M_share_61 : decode b_M_share 61 = .ok (.iadd, 1) := by decide +kernel
theorem d_M_share_62 : decode b_M_share 62 = .ok (.iaload, 1) := by decide +kernel
theorem d_M_share_63 : decode b_M_share 63 = .ok (.ifCond .lt 36, 3) := by decide +kernel
theorem d_M_share_66 : decode b_M_share 66 = .ok (.aload_n 0, 1) := by decide +kernel
theorem d_M_share_67 : decode b_M_share 67 = .ok (.getfield 58, 3) := by decide +kernel
theorem d_M_share_70 : decode b_M_share 70 = .ok (.iconst 4, 1) := by decide +kernel
theorem d_M_share_71 : decode b_M_share 71 = .ok (.iload_n 1, 1) := by decide +kernel
theorem d_M_share_72 : decode b_M_share 72 = .ok (.imul, 1) := by decide +kernel
theorem d_M_share_73 : decode b_M_share 73 = .ok (.aload_n 0, 1) := by decide +kernel
theorem d_M_share_74 : decode b_M_share 74 = .ok (.getfield 65, 3) := by decide +kernel
theorem d_M_share_77 : decode b_M_share 77 = .ok (.iconst 4, 1) := by decide +kernel
theorem d_M_share_78 : decode b_M_share 78 = .ok (.iload_n 1, 1) := by decide +kernel
theorem d_M_share_79 : decode b_M_share 79 = .ok (.imul, 1) := by decide +kernel
theorem d_M_share_80 : decode b_M_share 80 = .ok (.iload_n 3, 1) := by decide +kernel
theorem d_M_share_81 : decode b_M_share 81 = .ok (.iadd, 1) := by decide +kernel
theorem d_M_share_82 : decode b_M_share 82 = .ok (.iaload, 1) := by decide +kernel
theorem d_M_share_83 : decode b_M_share 83 = .ok (.iadd, 1) := by decide +kernel
theorem d_M_share_84 : decode b_M_share 84 = .ok (.baload, 1) := by decide +kernel
theorem d_M_share_85 : decode b_M_share 85 = .ok (.ifCond .ne 14, 3) := by decide +kernel
theorem d_M_share_88 : decode b_M_share 88 = .ok (.aload_n 0, 1) := by decide +kernel
theorem d_M_share_89 : decode b_M_share 89 = .ok (.getfield 65, 3) := by decide +kernel
theorem d_M_share_92 : decode b_M_share 92 = .ok (.iconst 4, 1) := by decide +kernel
theorem d_M_share_93 : decode b_M_share 93 = .ok (.iload_n 1, 1) := by decide +kernel
theorem d_M_share_94 : decode b_M_share 94 = .ok (.imul, 1) := by decide +kernel
theorem d_M_share_95 : decode b_M_share 95 = .ok (.iload_n 3, 1) := by decide +kernel
theorem d_M_share_96 : decode b_M_share 96 = .ok (.iadd, 1) := by decide +kernel
theorem d_M_share_97 : decode b_M_share 97 = .ok (.iconst (-1), 1) := by decide +kernel
theorem d_M_share_98 : decode b_M_share 98 = .ok (.iastore, 1) := by decide +kernel
theorem d_M_share_99 : decode b_M_share 99 = .ok (.iinc 3 1, 3) := by decide +kernel
theorem d_M_share_102 : decode b_M_share 102 = .ok (.goto (-54), 3) := by decide +kernel
theorem d_M_share_105 : decode b_M_share 105 = .ok (.iload_n 2, 1) := by decide +kernel
theorem d_M_share_106 : decode b_M_share 106 = .ok (.ifCond .ne 4, 3) := by decide +kernel
theorem d_M_share_109 : decode b_M_share 109 = .ok (.return_, 1) := by decide +kernel
theorem d_M_share_110 : decode b_M_share 110 = .ok (.iconst 4, 1) := by decide +kernel
theorem d_M_share_111 : decode b_M_share 111 = .ok (.iload_n 2, 1) := by decide +kernel
theorem d_M_share_112 : decode b_M_share 112 = .ok (.idiv, 1) := by decide +kernel
theorem d_M_share_113 : decode b_M_share 113 = .ok (.istore_n 3, 1) := by decide +kernel
theorem d_M_share_114 : decode b_M_share 114 = .ok (.iconst 4, 1) := by decide +kernel
theorem d_M_share_115 : decode b_M_share 115 = .ok (.iload_n 2, 1) := by decide +kernel
theorem d_M_share_116 : decode b_M_share 116 = .ok (.irem, 1) := by decide +kernel
theorem d_M_share_117 : decode b_M_share 117 = .ok (.istore 4, 2) := by decide +kernel
theorem d_M_share_119 : decode b_M_share 119 = .ok (.iconst 0, 1) := by decide +kernel
theorem d_M_share_120 : decode b_M_share 120 = .ok (.istore 5, 2) := by decide +kernel
theorem d_M_share_122 : decode b_M_share 122 = .ok (.iload 5, 2) := by decide +kernel
theorem d_M_share_124 : decode b_M_share 124 = .ok (.iconst 4, 1) := by decide +kernel
theorem d_M_share_125 : decode b_M_share 125 = .ok (.if_icmp .ge 93, 3) := by decide +kernel
theorem d_M_share_128 : decode b_M_share 128 = .ok (.iload_n 3, 1) := by decide +kernel
theorem d_M_share_129 : decode b_M_share 129 = .ok (.istore 6, 2) := by decide +kernel
theorem d_M_share_131 : decode b_M_share 131 = .ok (.aload_n 0, 1) := by decide +kernel
theorem d_M_share_132 : decode b_M_share 132 = .ok (.iload_n 1, 1) := by decide +kernel
theorem d_M_share_133 : decode b_M_share 133 = .ok (.iload 5, 2) := by decide +kernel
theorem d_M_share_135 : decode b_M_share 135 = .ok (.invokevirtual 131, 3) := by decide +kernel
theorem d_M_share_138 : decode b_M_share 138 = .ok (.iload_n 3, 1) := by decide +kernel
theorem d_M_share_139 : decode b_M_share 139 = .ok (.if_icmp .le 14, 3) := by decide +kernel
theorem d_M_share_142 : decode b_M_share 142 = .ok (.iload 4, 2) := by decide +kernel
theorem d_M_share_144 : decode b_M_share 144 = .ok (.ifCond .le 9, 3) := by decide +kernel
theorem d_M_share_147 : decode b_M_share 147 = .ok (.iinc 6 1, 3) := by decide +kernel
theorem d_M_share_150 : decode b_M_share 150 = .ok (.iinc 4 (-1), 3) := by decide +kernel
theorem d_M_share_153 : decode b_M_share 153 = .ok (.iconst 0, 1) := by decide +kernel
theorem d_M_share_154 : decode b_M_share 154 = .ok (.istore 7, 2) := by decide +kernel
theorem d_M_share_156 : decode b_M_share 156 = .ok (.iconst 0, 1) := by decide +kernel
theorem d_M_share_157 : decode b_M_share 157 = .ok (.istore 8, 2) := by decide +kernel
theorem d_M_share_159 : decode b_M_share 159 = .ok (.iload 8, 2) := by decide +kernel
theorem d_M_share_161 : decode b_M_share 161 = .ok (.iconst 4, 1) := by decide +kernel
theorem d_M_share_162 : decode b_M_share 162 = .ok (.if_icmp .ge 50, 3) := by decide +kernel
theorem d_M_share_165 : decode b_M_share 165 = .ok (.aload_n 0, 1) := by decide +kernel
theorem d_M_share_166 : decode b_M_share 166 = .ok (.getfield 65, 3) := by decide +kernel
theorem d_M_share_169 : decode b_M_share 169 = .ok (.iconst 4, 1) := by decide +kernel
theorem d_M_share_170 : decode b_M_share 170 = .ok (.iload_n 1, 1) := by decide +kernel
theorem d_M_share_171 : decode b_M_share 171 = .ok (.imul, 1) := by decide +kernel
theorem d_M_share_172 : decode b_M_share 172 = .ok (.iload 8, 2) := by decide +kernel
theorem d_M_share_174 : decode b_M_share 174 = .ok (.iadd, 1) := by decide +kernel
theorem d_M_share_175 : decode b_M_share 175 = .ok (.iaload, 1) := by decide +kernel
theorem d_M_share_176 : decode b_M_share 176 = .ok (.iload 5, 2) := by decide +kernel
theorem d_M_share_178 : decode b_M_share 178 = .ok (.if_icmp .eq 6, 3) := by decide +kernel
theorem d_M_share_181 : decode b_M_share 181 = .ok (.goto 25, 3) := by decide +kernel
theorem d_M_share_184 : decode b_M_share 184 = .ok (.iinc 7 1, 3) := by decide +kernel
theorem d_M_share_187 : decode b_M_share 187 = .ok (.iload 7, 2) := by decide +kernel
theorem d_M_share_189 : decode b_M_share 189 = .ok (.iload 6, 2) := by decide +kernel
theorem d_M_share_191 : decode b_M_share 191 = .ok (.if_icmp .le 15, 3) := by decide +kernel
theorem d_M_share_194 : decode b_M_share 194 = .ok (.aload_n 0, 1) := by decide +kernel
theorem d_M_share_195 : decode b_M_share 195 = .ok (.getfield 65, 3) := by decide +kernel
theorem d_M_share_198 : decode b_M_share 198 = .ok (.iconst 4, 1) := by decide +kernel
theorem d_M_share_199 : decode b_M_share 199 = .ok (.iload_n 1, 1) := by decide +kernel
theorem d_M_share_200 : decode b_M_share 200 = .ok (.imul, 1) := by decide +kernel
theorem d_M_share_201 : decode b_M_share 201 = .ok (.iload 8, 2) := by decide +kernel
theorem d_M_share_203 : decode b_M_share 203 = .ok (.iadd, 1) := by decide +kernel
theorem d_M_share_204 : decode b_M_share 204 = .ok (.iconst (-1), 1) := by decide +kernel
theorem d_M_share_205 : decode b_M_share 205 = .ok (.iastore, 1) := by decide +kernel
theorem d_M_share_206 : decode b_M_share 206 = .ok (.iinc 8 1, 3) := by decide +kernel
theorem d_M_share_209 : decode b_M_share 209 = .ok (.goto (-50), 3) := by decide +kernel
theorem d_M_share_212 : decode b_M_share 212 = .ok (.iinc 5 1, 3) := by decide +kernel
theorem d_M_share_215 : decode b_M_share 215 = .ok (.goto (-93), 3) := by decide +kernel
theorem d_M_share_218 : decode b_M_share 218 = .ok (.iconst 0, 1) := by decide +kernel
theorem d_M_share_219 : decode b_M_share 219 = .ok (.istore 5, 2) := by decide +kernel
theorem d_M_share_221 : decode b_M_share 221 = .ok (.iload 5, 2) := by decide +kernel
theorem d_M_share_223 : decode b_M_share 223 = .ok (.iconst 4, 1) := by decide +kernel
theorem d_M_share_224 : decode b_M_share 224 = .ok (.if_icmp .ge 39, 3) := by decide +kernel
theorem d_M_share_227 : decode b_M_share 227 = .ok (.aload_n 0, 1) := by decide +kernel
theorem d_M_share_228 : decode b_M_share 228 = .ok (.getfield 65, 3) := by decide +kernel
theorem d_M_share_231 : decode b_M_share 231 = .ok (.iconst 4, 1) := by decide +kernel
theorem d_M_share_232 : decode b_M_share 232 = .ok (.iload_n 1, 1) := by decide +kernel
theorem d_M_share_233 : decode b_M_share 233 = .ok (.imul, 1) := by decide +kernel
theorem d_M_share_234 : decode b_M_share 234 = .ok (.iload 5, 2) := by decide +kernel
theorem d_M_share_236 : decode b_M_share 236 = .ok (.iadd, 1) := by decide +kernel
theorem d_M_share_237 : decode b_M_share 237 = .ok (.iaload, 1) := by decide +kernel
theorem d_M_share_238 : decode b_M_share 238 = .ok (.ifCond .ge 19, 3) := by decide +kernel
theorem d_M_share_241 : decode b_M_share 241 = .ok (.aload_n 0, 1) := by decide +kernel
theorem d_M_share_242 : decode b_M_share 242 = .ok (.getfield 65, 3) := by decide +kernel
theorem d_M_share_245 : decode b_M_share 245 = .ok (.iconst 4, 1) := by decide +kernel
theorem d_M_share_246 : decode b_M_share 246 = .ok (.iload_n 1, 1) := by decide +kernel
theorem d_M_share_247 : decode b_M_share 247 = .ok (.imul, 1) := by decide +kernel
theorem d_M_share_248 : decode b_M_share 248 = .ok (.iload 5, 2) := by decide +kernel
theorem d_M_share_250 : decode b_M_share 250 = .ok (.iadd, 1) := by decide +kernel
theorem d_M_share_251 : decode b_M_share 251 = .ok (.aload_n 0, 1) := by decide +kernel
theorem d_M_share_252 : decode b_M_share 252 = .ok (.iload_n 1, 1) := by decide +kernel
theorem d_M_share_253 : decode b_M_share 253 = .ok (.invokevirtual 134, 3) := by decide +kernel
theorem d_M_share_256 : decode b_M_share 256 = .ok (.iastore, 1) := by decide +kernel
theorem d_M_share_257 : decode b_M_share 257 = .ok (.iinc 5 1, 3) := by decide +kernel
theorem d_M_share_260 : decode b_M_share 260 = .ok (.goto (-39), 3) := by decide +kernel
theorem d_M_share_263 : decode b_M_share 263 = .ok (.return_, 1) := by decide +kernel
theorem d_M_join_0 : decode b_M_join 0 = .ok (.aload_n 0, 1) := by decide +kernel
theorem d_M_join_1 : decode b_M_join 1 = .ok (.iconst 0, 1) := by decide +kernel
theorem d_M_join_2 : decode b_M_join 2 = .ok (.putfield 71, 3) := by decide +kernel
theorem d_M_join_5 : decode b_M_join 5 = .ok (.aload_n 0, 1) := by decide +kernel
theorem d_M_join_6 : decode b_M_join 6 = .ok (.iload_n 1, 1) := by decide +kernel
theorem d_M_join_7 : decode b_M_join 7 = .ok (.iconst 2, 1) := by decide +kernel
theorem d_M_join_8 : decode b_M_join 8 = .ok (.invokevirtual 83, 3) := by decide +kernel
theorem d_M_join_11 : decode b_M_join 11 = .ok (.ifCond .ne 12, 3) := by decide +kernel
theorem d_M_join_14 : decode b_M_join 14 = .ok (.aload_n 0, 1) := by decide +kernel
theorem d_M_join_15 : decode b_M_join 15 = .ok (.iload_n 2, 1) := by decide +kernel
theorem d_M_join_16 : decode b_M_join 16 = .ok (.iconst 4, 1) := by decide +kernel
theorem d_M_join_17 : decode b_M_join 17 = .ok (.invokevirtual 83, 3) := by decide +kernel
theorem d_M_join_20 : decode b_M_join 20 = .ok (.ifCond .eq 9, 3) := by decide +kernel
theorem d_M_join_23 : decode b_M_join 23 = .ok (.aload_n 0, 1) := by decide +kernel
theorem d_M_join_24 : decode b_M_join 24 = .ok (.iconst 1, 1) := by decide +kernel
theorem d_M_join_25 : decode b_M_join 25 = .ok (.invokevirtual 86, 3) := by decide +kernel
theorem d_M_join_28 : decode b_M_join 28 = .ok (.ireturn, 1) := by decide +kernel
theorem d_M_join_29 : decode b_M_join 29 = .ok (.aload_n 0, 1) := by decide +kernel
theorem d_M_join_30 : decode b_M_join 30 = .ok (.getfield 58, 3) := by decide +kernel
theorem d_M_join_33 : decode b_M_join 33 = .ok (.iconst 4, 1) := by decide +kernel
theorem d_M_join_34 : decode b_M_join 34 = .ok (.iload_n 1, 1) := by decide +kernel
theorem d_M_join_35 : decode b_M_join 35 = .ok (.imul, 1) := by decide +kernel
theorem d_M_join_36 : decode b_M_join 36 = .ok (.iload_n 2, 1) := by decide +kernel
theorem d_M_join_37 : decode b_M_join 37 = .ok (.iadd, 1) := by decide +kernel
theorem d_M_join_38 : decode b_M_join 38 = .ok (.baload, 1) := by decide +kernel
theorem d_M_join_39 : decode b_M_join 39 = .ok (.ifCond .eq 9, 3) := by decide +kernel
theorem d_M_join_42 : decode b_M_join 42 = .ok (.aload_n 0, 1) := by decide +kernel
theorem d_M_join_43 : decode b_M_join 43 = .ok (.iconst 2, 1) := by decide +kernel
theorem d_M_join_44 : decode b_M_join 44 = .ok (.invokevirtual 86, 3) := by decide +kernel
theorem d_M_join_47 : decode b_M_join 47 = .ok (.ireturn, 1) := by decide +kernel
theorem d_M_join_48 : decode b_M_join 48 = .ok (.aload_n 0, 1) := by decide +kernel
theorem d_M_join_49 : decode b_M_join 49 = .ok (.getfield 58, 3) := by decide +kernel
theorem d_M_join_52 : decode b_M_join 52 = .ok (.iconst 4, 1) := by decide +kernel
theorem d_M_join_53 : decode b_M_join 53 = .ok (.iload_n 1, 1) := by decide +kernel
theorem d_M_join_54 : decode b_M_join 54 = .ok (.imul, 1) := by decide +kernel
theorem d_M_join_55 : decode b_M_join 55 = .ok (.iload_n 2, 1) := by decide +kernel
theorem d_M_join_56 : decode b_M_join 56 = .ok (.iadd, 1) := by decide +kernel
theorem d_M_join_57 : decode b_M_join 57 = .ok (.iconst 1, 1) := by decide +kernel
theorem d_M_join_58 : decode b_M_join 58 = .ok (.bastore, 1) := by decide +kernel
theorem d_M_join_59 : decode b_M_join 59 = .ok (.aload_n 0, 1) := by decide +kernel
theorem d_M_join_60 : decode b_M_join 60 = .ok (.getfield 62, 3) := by decide +kernel
theorem d_M_join_63 : decode b_M_join 63 = .ok (.iconst 4, 1) := by decide +kernel
theorem d_M_join_64 : decode b_M_join 64 = .ok (.iload_n 1, 1) := by decide +kernel
theorem d_M_join_65 : decode b_M_join 65 = .ok (.imul, 1) := by decide +kernel
theorem d_M_join_66 : decode b_M_join 66 = .ok (.iload_n 2, 1) := by decide +kernel
theorem d_M_join_67 : decode b_M_join 67 = .ok (.iadd, 1) := by decide +kernel
theorem d_M_join_68 : decode b_M_join 68 = .ok (.aload_n 0, 1) := by decide +kernel
theorem d_M_join_69 : decode b_M_join 69 = .ok (.getfield 101, 3) := by decide +kernel
theorem d_M_join_72 : decode b_M_join 72 = .ok (.iastore, 1) := by decide +kernel
theorem d_M_join_73 : decode b_M_join 73 = .ok (.aload_n 0, 1) := by decide +kernel
theorem d_M_join_74 : decode b_M_join 74 = .ok (.iload_n 1, 1) := by decide +kernel
theorem d_M_join_75 : decode b_M_join 75 = .ok (.invokevirtual 137, 3) := by decide +kernel
theorem d_M_join_78 : decode b_M_join 78 = .ok (.aload_n 0, 1) := by decide +kernel
theorem d_M_join_79 : decode b_M_join 79 = .ok (.getfield 55, 3) := by decide +kernel
theorem d_M_join_82 : decode b_M_join 82 = .ok (.iload_n 1, 1) := by decide +kernel
theorem d_M_join_83 : decode b_M_join 83 = .ok (.iaload, 1) := by decide +kernel
theorem d_M_join_84 : decode b_M_join 84 = .ok (.ireturn, 1) := by decide +kernel
theorem d_M_leave_0 : decode b_M_leave 0 = .ok (.aload_n 0, 1) := by decide +kernel
theorem d_M_leave_1 : decode b_M_leave 1 = .ok (.iconst 0, 1) := by decide +kernel
theorem d_M_leave_2 : decode b_M_leave 2 = .ok (.putfield 71, 3) := by decide +kernel
theorem d_M_leave_5 : decode b_M_leave 5 = .ok (.aload_n 0, 1) := by decide +kernel
theorem d_M_leave_6 : decode b_M_leave 6 = .ok (.iload_n 1, 1) := by decide +kernel
theorem d_M_leave_7 : decode b_M_leave 7 = .ok (.iconst 2, 1) := by decide +kernel
theorem d_M_leave_8 : decode b_M_leave 8 = .ok (.invokevirtual 83, 3) := by decide +kernel
theorem d_M_leave_11 : decode b_M_leave 11 = .ok (.ifCond .ne 12, 3) := by decide +kernel
theorem d_M_leave_14 : decode b_M_leave 14 = .ok (.aload_n 0, 1) := by decide +kernel
theorem d_M_leave_15 : decode b_M_leave 15 = .ok (.iload_n 2, 1) := by decide +kernel
theorem d_M_leave_16 : decode b_M_leave 16 = .ok (.iconst 4, 1) := by decide +kernel
theorem d_M_leave_17 : decode b_M_leave 17 = .ok (.invokevirtual 83, 3) := by decide +kernel
theorem d_M_leave_20 : decode b_M_leave 20 = .ok (.ifCond .eq 9, 3) := by decide +kernel
theorem d_M_leave_23 : decode b_M_leave 23 = .ok (.aload_n 0, 1) := by decide +kernel
theorem d_M_leave_24 : decode b_M_leave 24 = .ok (.iconst 1, 1) := by decide +kernel
theorem d_M_leave_25 : decode b_M_leave 25 = .ok (.invokevirtual 86, 3) := by decide +kernel
theorem d_M_leave_28 : decode b_M_leave 28 = .ok (.ireturn, 1) := by decide +kernel
theorem d_M_leave_29 : decode b_M_leave 29 = .ok (.aload_n 0, 1) := by decide +kernel
theorem d_M_leave_30 : decode b_M_leave 30 = .ok (.getfield 58, 3) := by decide +kernel
theorem d_M_leave_33 : decode b_M_leave 33 = .ok (.iconst 4, 1) := by decide +kernel
theorem d_M_leave_34 : decode b_M_leave 34 = .ok (.iload_n 1, 1) := by decide +kernel
theorem d_M_leave_35 : decode b_M_leave 35 = .ok (.imul, 1) := by decide +kernel
theorem d_M_leave_36 : decode b_M_leave 36 = .ok (.iload_n 2, 1) := by decide +kernel
theorem d_M_leave_37 : decode b_M_leave 37 = .ok (.iadd, 1) := by decide +kernel
theorem d_M_leave_38 : decode b_M_leave 38 = .ok (.baload, 1) := by decide +kernel
theorem d_M_leave_39 : decode b_M_leave 39 = .ok (.ifCond .ne 9, 3) := by decide +kernel
theorem d_M_leave_42 : decode b_M_leave 42 = .ok (.aload_n 0, 1) := by decide +kernel
theorem d_M_leave_43 : decode b_M_leave 43 = .ok (.iconst 2, 1) := by decide +kernel
theorem d_M_leave_44 : decode b_M_leave 44 = .ok (.invokevirtual 86, 3) := by decide +kernel
theorem d_M_leave_47 : decode b_M_leave 47 = .ok (.ireturn, 1) := by decide +kernel
theorem d_M_leave_48 : decode b_M_leave 48 = .ok (.aload_n 0, 1) := by decide +kernel
theorem d_M_leave_49 : decode b_M_leave 49 = .ok (.getfield 58, 3) := by decide +kernel
theorem d_M_leave_52 : decode b_M_leave 52 = .ok (.iconst 4, 1) := by decide +kernel
theorem d_M_leave_53 : decode b_M_leave 53 = .ok (.iload_n 1, 1) := by decide +kernel
theorem d_M_leave_54 : decode b_M_leave 54 = .ok (.imul, 1) := by decide +kernel
theorem d_M_leave_55 : decode b_M_leave 55 = .ok (.iload_n 2, 1) := by decide +kernel
theorem d_M_leave_56 : decode b_M_leave 56 = .ok (.iadd, 1) := by decide +kernel
theorem d_M_leave_57 : decode b_M_leave 57 = .ok (.iconst 0, 1) := by decide +kernel
theorem d_M_leave_58 : decode b_M_leave 58 = .ok (.bastore, 1) := by decide +kernel
theorem d_M_leave_59 : decode b_M_leave 59 = .ok (.aload_n 0, 1) := by decide +kernel
theorem d_M_leave_60 : decode b_M_leave 60 = .ok (.iload_n 1, 1) := by decide +kernel
theorem d_M_leave_61 : decode b_M_leave 61 = .ok (.invokevirtual 137, 3) := by decide +kernel
theorem d_M_leave_64 : decode b_M_leave 64 = .ok (.aload_n 0, 1) := by decide +kernel
theorem d_M_leave_65 : decode b_M_leave 65 = .ok (.getfield 55, 3) := by decide +kernel
theorem d_M_leave_68 : decode b_M_leave 68 = .ok (.iload_n 1, 1) := by decide +kernel
theorem d_M_leave_69 : decode b_M_leave 69 = .ok (.iaload, 1) := by decide +kernel
theorem d_M_leave_70 : decode b_M_leave 70 = .ok (.ireturn, 1) := by decide +kernel
theorem d_M_beat_0 : decode b_M_beat 0 = .ok (.aload_n 0, 1) := by decide +kernel
theorem d_M_beat_1 : decode b_M_beat 1 = .ok (.iconst 0, 1) := by decide +kernel
theorem d_M_beat_2 : decode b_M_beat 2 = .ok (.putfield 71, 3) := by decide +kernel
theorem d_M_beat_5 : decode b_M_beat 5 = .ok (.aload_n 0, 1) := by decide +kernel
theorem d_M_beat_6 : decode b_M_beat 6 = .ok (.iload_n 1, 1) := by decide +kernel
theorem d_M_beat_7 : decode b_M_beat 7 = .ok (.iconst 2, 1) := by decide +kernel
theorem d_M_beat_8 : decode b_M_beat 8 = .ok (.invokevirtual 83, 3) := by decide +kernel
theorem d_M_beat_11 : decode b_M_beat 11 = .ok (.ifCond .ne 12, 3) := by decide +kernel
theorem d_M_beat_14 : decode b_M_beat 14 = .ok (.aload_n 0, 1) := by decide +kernel
theorem d_M_beat_15 : decode b_M_beat 15 = .ok (.iload_n 2, 1) := by decide +kernel
theorem d_M_beat_16 : decode b_M_beat 16 = .ok (.iconst 4, 1) := by decide +kernel
theorem d_M_beat_17 : decode b_M_beat 17 = .ok (.invokevirtual 83, 3) := by decide +kernel
theorem d_M_beat_20 : decode b_M_beat 20 = .ok (.ifCond .eq 9, 3) := by decide +kernel
theorem d_M_beat_23 : decode b_M_beat 23 = .ok (.aload_n 0, 1) := by decide +kernel
theorem d_M_beat_24 : decode b_M_beat 24 = .ok (.iconst 1, 1) := by decide +kernel
theorem d_M_beat_25 : decode b_M_beat 25 = .ok (.invokevirtual 86, 3) := by decide +kernel
theorem d_M_beat_28 : decode b_M_beat 28 = .ok (.ireturn, 1) := by decide +kernel
theorem d_M_beat_29 : decode b_M_beat 29 = .ok (.aload_n 0, 1) := by decide +kernel
theorem d_M_beat_30 : decode b_M_beat 30 = .ok (.getfield 58, 3) := by decide +kernel
theorem d_M_beat_33 : decode b_M_beat 33 = .ok (.iconst 4, 1) := by decide +kernel
theorem d_M_beat_34 : decode b_M_beat 34 = .ok (.iload_n 1, 1) := by decide +kernel
theorem d_M_beat_35 : decode b_M_beat 35 = .ok (.imul, 1) := by decide +kernel
theorem d_M_beat_36 : decode b_M_beat 36 = .ok (.iload_n 2, 1) := by decide +kernel
theorem d_M_beat_37 : decode b_M_beat 37 = .ok (.iadd, 1) := by decide +kernel
theorem d_M_beat_38 : decode b_M_beat 38 = .ok (.baload, 1) := by decide +kernel
theorem d_M_beat_39 : decode b_M_beat 39 = .ok (.ifCond .ne 9, 3) := by decide +kernel
theorem d_M_beat_42 : decode b_M_beat 42 = .ok (.aload_n 0, 1) := by decide +kernel
theorem d_M_beat_43 : decode b_M_beat 43 = .ok (.iconst 2, 1) := by decide +kernel
theorem d_M_beat_44 : decode b_M_beat 44 = .ok (.invokevirtual 86, 3) := by decide +kernel
theorem d_M_beat_47 : decode b_M_beat 47 = .ok (.ireturn, 1) := by decide +kernel
theorem d_M_beat_48 : decode b_M_beat 48 = .ok (.iload_n 3, 1) := by decide +kernel
theorem d_M_beat_49 : decode b_M_beat 49 = .ok (.aload_n 0, 1) := by decide +kernel
theorem d_M_beat_50 : decode b_M_beat 50 = .ok (.getfield 55, 3) := by decide +kernel
theorem d_M_beat_53 : decode b_M_beat 53 = .ok (.iload_n 1, 1) := by decide +kernel
theorem d_M_beat_54 : decode b_M_beat 54 = .ok (.iaload, 1) := by decide +kernel
theorem d_M_beat_55 : decode b_M_beat 55 = .ok (.if_icmp .eq 9, 3) := by decide +kernel
theorem d_M_beat_58 : decode b_M_beat 58 = .ok (.aload_n 0, 1) := by decide +kernel
theorem d_M_beat_59 : decode b_M_beat 59 = .ok (.iconst 3, 1) := by decide +kernel
theorem d_M_beat_60 : decode b_M_beat 60 = .ok (.invokevirtual 86, 3) := by decide +kernel
theorem d_M_beat_63 : decode b_M_beat 63 = .ok (.ireturn, 1) := by decide +kernel
theorem d_M_beat_64 : decode b_M_beat 64 = .ok (.aload_n 0, 1) := by decide +kernel
theorem d_M_beat_65 : decode b_M_beat 65 = .ok (.getfield 62, 3) := by decide +kernel
theorem d_M_beat_68 : decode b_M_beat 68 = .ok (.iconst 4, 1) := by decide +kernel
theorem d_M_beat_69 : decode b_M_beat 69 = .ok (.iload_n 1, 1) := by decide +kernel
theorem d_M_beat_70 : decode b_M_beat 70 = .ok (.imul, 1) := by decide +kernel
theorem d_M_beat_71 : decode b_M_beat 71 = .ok (.iload_n 2, 1) := by decide +kernel
theorem d_M_beat_72 : decode b_M_beat 72 = .ok (.iadd, 1) := by decide +kernel
theorem d_M_beat_73 : decode b_M_beat 73 = .ok (.aload_n 0, 1) := by decide +kernel
theorem d_M_beat_74 : decode b_M_beat 74 = .ok (.getfield 101, 3) := by decide +kernel
theorem d_M_beat_77 : decode b_M_beat 77 = .ok (.iastore, 1) := by decide +kernel
theorem d_M_beat_78 : decode b_M_beat 78 = .ok (.iconst 0, 1) := by decide +kernel
theorem d_M_beat_79 : decode b_M_beat 79 = .ok (.istore 4, 2) := by decide +kernel
theorem d_M_beat_81 : decode b_M_beat 81 = .ok (.iconst 0, 1) := by decide +kernel
theorem d_M_beat_82 : decode b_M_beat 82 = .ok (.istore 5, 2) := by decide +kernel
theorem d_M_beat_84 : decode b_M_beat 84 = .ok (.iload 5, 2) := by decide +kernel
theorem d_M_beat_86 : decode b_M_beat 86 = .ok (.iconst 4, 1) := by decide +kernel
theorem d_M_beat_87 : decode b_M_beat 87 = .ok (.if_icmp .ge 37, 3) := by decide +kernel
theorem d_M_beat_90 : decode b_M_beat 90 = .ok (.iload 4, 2) := by decide +kernel
theorem d_M_beat_92 : decode b_M_beat 92 = .ok (.aload_n 0, 1) := by decide +kernel
theorem d_M_beat_93 : decode b_M_beat 93 = .ok (.getfield 65, 3) := by decide +kernel
theorem d_M_beat_96 : decode b_M_beat 96 = .ok (.iconst 4, 1) := by decide +kernel
theorem d_M_beat_97 : decode b_M_beat 97 = .ok (.iload_n 1, 1) := by decide +kernel
theorem d_M_beat_98 : decode b_M_beat 98 = .ok (.imul, 1) := by decide +kernel
theorem d_M_beat_99 : decode b_M_beat 99 = .ok (.iload 5, 2) := by decide +kernel
theorem d_M_beat_101 : decode b_M_beat 101 = .ok (.iadd, 1) := by decide +kernel
theorem d_M_beat_102 : decode b_M_beat 102 = .ok (.iaload, 1) := by decide +kernel
theorem d_M_beat_103 : decode b_M_beat 103 = .ok (.iload_n 2, 1) := by decide +kernel
theorem d_M_beat_104 : decode b_M_beat 104 = .ok (.if_icmp .ne 10, 3) := by decide +kernel
theorem d_M_beat_107 : decode b_M_beat 107 = .ok (.iconst 1, 1) := by decide +kernel
theorem d_M_beat_108 : decode b_M_beat 108 = .ok (.iload 5, 2) := by decide +kernel
theorem d_M_beat_110 : decode b_M_beat 110 = .ok (.ishl, 1) := by decide +kernel
theorem d_M_beat_111 : decode b_M_beat 111 = .ok (.goto 4, 3) := by decide +kernel
theorem d_M_beat_114 : decode b_M_beat 114 = .ok (.iconst 0, 1) := by decide +kernel
theorem d_M_beat_115 : decode b_M_beat 115 = .ok (.ior, 1) := by decide +kernel
theorem d_M_beat_116 : decode b_M_beat 116 = .ok (.istore 4, 2) := by decide +kernel
theorem d_M_beat_118 : decode b_M_beat 118 = .ok (.iinc 5 1, 3) := by decide +kernel
theorem d_M_beat_121 : decode b_M_beat 121 = .ok (.goto (-37), 3) := by decide +kernel
theorem d_M_beat_124 : decode b_M_beat 124 = .ok (.iload 4, 2) := by decide +kernel
theorem d_M_beat_126 : decode b_M_beat 126 = .ok (.ireturn, 1) := by decide +kernel
theorem d_M_mark_0 : decode b_M_mark 0 = .ok (.aload_n 0, 1) := by decide +kernel
theorem d_M_mark_1 : decode b_M_mark 1 = .ok (.iconst 0, 1) := by decide +kernel
theorem d_M_mark_2 : decode b_M_mark 2 = .ok (.putfield 71, 3) := by decide +kernel
theorem d_M_mark_5 : decode b_M_mark 5 = .ok (.aload_n 0, 1) := by decide +kernel
theorem d_M_mark_6 : decode b_M_mark 6 = .ok (.iload_n 1, 1) := by decide +kernel
theorem d_M_mark_7 : decode b_M_mark 7 = .ok (.iconst 2, 1) := by decide +kernel
theorem d_M_mark_8 : decode b_M_mark 8 = .ok (.invokevirtual 83, 3) := by decide +kernel
theorem d_M_mark_11 : decode b_M_mark 11 = .ok (.ifCond .ne 34, 3) := by decide +kernel
theorem d_M_mark_14 : decode b_M_mark 14 = .ok (.aload_n 0, 1) := by decide +kernel
theorem d_M_mark_15 : decode b_M_mark 15 = .ok (.iload_n 2, 1) := by decide +kernel
theorem d_M_mark_16 : decode b_M_mark 16 = .ok (.iconst 4, 1) := by decide +kernel
theorem d_M_mark_17 : decode b_M_mark 17 = .ok (.invokevirtual 83, 3) := by decide +kernel
theorem d_M_mark_20 : decode b_M_mark 20 = .ok (.ifCond .ne 25, 3) := by decide +kernel
theorem d_M_mark_23 : decode b_M_mark 23 = .ok (.aload_n 0, 1) := by decide +kernel
theorem d_M_mark_24 : decode b_M_mark 24 = .ok (.iload 4, 2) := by decide +kernel
theorem d_M_mark_26 : decode b_M_mark 26 = .ok (.iconst 4, 1) := by decide +kernel
theorem d_M_mark_27 : decode b_M_mark 27 = .ok (.invokevirtual 83, 3) := by decide +kernel
theorem d_M_mark_30 : decode b_M_mark 30 = .ok (.ifCond .ne 15, 3) := by decide +kernel
theorem d_M_mark_33 : decode b_M_mark 33 = .ok (.aload_n 0, 1) := by decide +kernel
theorem d_M_mark_34 : decode b_M_mark 34 = .ok (.iload 5, 2) := by decide +kernel
theorem d_M_mark_36 : decode b_M_mark 36 = .ok (.sipush 601, 3) := by decide +kernel
theorem d_M_mark_39 : decode b_M_mark 39 = .ok (.invokevirtual 83, 3) := by decide +kernel
theorem d_M_mark_42 : decode b_M_mark 42 = .ok (.ifCond .eq 9, 3) := by decide +kernel
theorem d_M_mark_45 : decode b_M_mark 45 = .ok (.aload_n 0, 1) := by decide +kernel
theorem d_M_mark_46 : decode b_M_mark 46 = .ok (.iconst 1, 1) := by decide +kernel
theorem d_M_mark_47 : decode b_M_mark 47 = .ok (.invokevirtual 86, 3) := by decide +kernel
theorem d_M_mark_50 : decode b_M_mark 50 = .ok (.ireturn, 1) := by decide +kernel
theorem d_M_mark_51 : decode b_M_mark 51 = .ok (.aload_n 0, 1) := by decide +kernel
theorem d_M_mark_52 : decode b_M_mark 52 = .ok (.getfield 58, 3) := by decide +kernel
theorem d_M_mark_55 : decode b_M_mark 55 = .ok (.iconst 4, 1) := by decide +kernel
theorem d_M_mark_56 : decode b_M_mark 56 = .ok (.iload_n 1, 1) := by decide +kernel
theorem d_M_mark_57 : decode b_M_mark 57 = .ok (.imul, 1) := by decide +kernel
theorem d_M_mark_58 : decode b_M_mark 58 = .ok (.iload_n 2, 1) := by decide +kernel
theorem d_M_mark_59 : decode b_M_mark 59 = .ok (.iadd, 1) := by decide +kernel
theorem d_M_mark_60 : decode b_M_mark 60 = .ok (.baload, 1) := by decide +kernel
theorem d_M_mark_61 : decode b_M_mark 61 = .ok (.ifCond .ne 9, 3) := by decide +kernel
theorem d_M_mark_64 : decode b_M_mark 64 = .ok (.aload_n 0, 1) := by decide +kernel
theorem d_M_mark_65 : decode b_M_mark 65 = .ok (.iconst 2, 1) := by decide +kernel
theorem d_M_mark_66 : decode b_M_mark 66 = .ok (.invokevirtual 86, 3) := by decide +kernel
theorem d_M_mark_69 : decode b_M_mark 69 = .ok (.ireturn, 1) := by decide +kernel
theorem d_M_mark_70 : decode b_M_mark 70 = .ok (.iload_n 3, 1) := by decide +kernel
theorem d_M_mark_71 : decode b_M_mark 71 = .ok (.aload_n 0, 1) := by decide +kernel
theorem d_M_mark_72 : decode b_M_mark 72 = .ok (.getfield 55, 3) := by decide +kernel
theorem d_M_mark_75 : decode b_M_mark 75 = .ok (.iload_n 1, 1) := by decide +kernel
theorem d_M_mark_76 : decode b_M_mark 76 = .ok (.iaload, 1) := by decide +kernel
theorem d_M_mark_77 : decode b_M_mark 77 = .ok (.if_icmp .eq 9, 3) := by decide +kernel
theorem d_M_mark_80 : decode b_M_mark 80 = .ok (.aload_n 0, 1) := by decide +kernel
theorem d_M_mark_81 : decode b_M_mark 81 = .ok (.iconst 3, 1) := by decide +kernel
theorem d_M_mark_82 : decode b_M_mark 82 = .ok (.invokevirtual 86, 3) := by decide +kernel
theorem d_M_mark_85 : decode b_M_mark 85 = .ok (.ireturn, 1) := by decide +kernel
theorem d_M_mark_86 : decode b_M_mark 86 = .ok (.aload_n 0, 1) := by decide +kernel
theorem d_M_mark_87 : decode b_M_mark 87 = .ok (.getfield 65, 3) := by decide +kernel
theorem d_M_mark_90 : decode b_M_mark 90 = .ok (.iconst 4, 1) := by decide +kernel
theorem d_M_mark_91 : decode b_M_mark 91 = .ok (.iload_n 1, 1) := by decide +kernel
theorem d_M_mark_92 : decode b_M_mark 92 = .ok (.imul, 1) := by decide +kernel
theorem d_M_mark_93 : decode b_M_mark 93 = .ok (.iload 4, 2) := by decide +kernel
theorem d_M_mark_95 : decode b_M_mark 95 = .ok (.iadd, 1) := by decide +kernel
theorem d_M_mark_96 : decode b_M_mark 96 = .ok (.iaload, 1) := by decide +kernel
theorem d_M_mark_97 : decode b_M_mark 97 = .ok (.iload_n 2, 1) := by decide +kernel
theorem d_M_mark_98 : decode b_M_mark 98 = .ok (.if_icmp .eq 9, 3) := by decide +kernel
theorem d_M_mark_101 : decode b_M_mark 101 = .ok (.aload_n 0, 1) := by decide +kernel
theorem d_M_mark_102 : decode b_M_mark 102 = .ok (.iconst 4, 1) := by decide +kernel
theorem d_M_mark_103 : decode b_M_mark 103 = .ok (.invokevirtual 86, 3) := by decide +kernel
theorem d_M_mark_106 : decode b_M_mark 106 = .ok (.ireturn, 1) := by decide +kernel
theorem d_M_mark_107 : decode b_M_mark 107 = .ok (.aload_n 0, 1) := by decide +kernel
theorem d_M_mark_108 : decode b_M_mark 108 = .ok (.getfield 68, 3) := by decide +kernel
theorem d_M_mark_111 : decode b_M_mark 111 = .ok (.iconst 4, 1) := by decide +kernel
theorem d_M_mark_112 : decode b_M_mark 112 = .ok (.iload_n 1, 1) := by decide +kernel
theorem d_M_mark_113 : decode b_M_mark 113 = .ok (.imul, 1) := by decide +kernel
theorem d_M_mark_114 : decode b_M_mark 114 = .ok (.iload 4, 2) := by decide +kernel
theorem d_M_mark_116 : decode b_M_mark 116 = .ok (.iadd, 1) := by decide +kernel
theorem d_M_mark_117 : decode b_M_mark 117 = .ok (.iaload, 1) := by decide +kernel
theorem d_M_mark_118 : decode b_M_mark 118 = .ok (.istore 6, 2) := by decide +kernel
theorem d_M_mark_120 : decode b_M_mark 120 = .ok (.aload_n 0, 1) := by decide +kernel
theorem d_M_mark_121 : decode b_M_mark 121 = .ok (.getfield 68, 3) := by decide +kernel
theorem d_M_mark_124 : decode b_M_mark 124 = .ok (.iconst 4, 1) := by decide +kernel
theorem d_M_mark_125 : decode b_M_mark 125 = .ok (.iload_n 1, 1) := by decide +kernel
theorem d_M_mark_126 : decode b_M_mark 126 = .ok (.imul, 1) := by decide +kernel
theorem d_M_mark_127 : decode b_M_mark 127 = .ok (.iload 4, 2) := by decide +kernel
theorem d_M_mark_129 : decode b_M_mark 129 = .ok (.iadd, 1) := by decide +kernel
theorem d_M_mark_130 : decode b_M_mark 130 = .ok (.iload 5, 2) := by decide +kernel
theorem d_M_mark_132 : decode b_M_mark 132 = .ok (.iastore, 1) := by decide +kernel
theorem d_M_mark_133 : decode b_M_mark 133 = .ok (.iload 6, 2) := by decide +kernel
theorem d_M_mark_135 : decode b_M_mark 135 = .ok (.ireturn, 1) := by decide +kernel
theorem d_M_tick_0 : decode b_M_tick 0 = .ok (.aload_n 0, 1) := by decide +kernel
theorem d_M_tick_1 : decode b_M_tick 1 = .ok (.iconst 0, 1) := by decide +kernel
theorem d_M_tick_2 : decode b_M_tick 2 = .ok (.putfield 71, 3) := by decide +kernel
theorem d_M_tick_5 : decode b_M_tick 5 = .ok (.aload_n 0, 1) := by decide +kernel
theorem d_M_tick_6 : decode b_M_tick 6 = .ok (.iload_n 1, 1) := by decide +kernel
theorem d_M_tick_7 : decode b_M_tick 7 = .ok (.bipush 31, 2) := by decide +kernel
theorem d_M_tick_9 : decode b_M_tick 9 = .ok (.invokevirtual 83, 3) := by decide +kernel
theorem d_M_tick_12 : decode b_M_tick 12 = .ok (.ifCond .eq 9, 3) := by decide +kernel
theorem d_M_tick_15 : decode b_M_tick 15 = .ok (.aload_n 0, 1) := by decide +kernel
theorem d_M_tick_16 : decode b_M_tick 16 = .ok (.iconst 1, 1) := by decide +kernel
theorem d_M_tick_17 : decode b_M_tick 17 = .ok (.invokevirtual 86, 3) := by decide +kernel
theorem d_M_tick_20 : decode b_M_tick 20 = .ok (.ireturn, 1) := by decide +kernel
theorem d_M_tick_21 : decode b_M_tick 21 = .ok (.aload_n 0, 1) := by decide +kernel
theorem d_M_tick_22 : decode b_M_tick 22 = .ok (.dup, 1) := by decide +kernel
theorem d_M_tick_23 : decode b_M_tick 23 = .ok (.getfield 101, 3) := by decide +kernel
theorem d_M_tick_26 : decode b_M_tick 26 = .ok (.iload_n 1, 1) := by decide +kernel
theorem d_M_tick_27 : decode b_M_tick 27 = .ok (.iadd, 1) := by decide +kernel
theorem d_M_tick_28 : decode b_M_tick 28 = .ok (.putfield 101, 3) := by decide +kernel
theorem d_M_tick_31 : decode b_M_tick 31 = .ok (.iconst 0, 1) := by decide +kernel
theorem d_M_tick_32 : decode b_M_tick 32 = .ok (.istore_n 2, 1) := by decide +kernel
theorem d_M_tick_33 : decode b_M_tick 33 = .ok (.iconst 0, 1) := by decide +kernel
theorem d_M_tick_34 : decode b_M_tick 34 = .ok (.istore_n 3, 1) := by decide +kernel
theorem d_M_tick_35 : decode b_M_tick 35 = .ok (.iload_n 3, 1) := by decide +kernel
theorem d_M_tick_36 : decode b_M_tick 36 = .ok (.iconst 4, 1) := by decide +kernel
theorem d_M_tick_37 : decode b_M_tick 37 = .ok (.if_icmp .ge 43, 3) := by decide +kernel
theorem d_M_tick_40 : decode b_M_tick 40 = .ok (.aload_n 0, 1) := by decide +kernel
theorem d_M_tick_41 : decode b_M_tick 41 = .ok (.getfield 37, 3) := by decide +kernel
theorem d_M_tick_44 : decode b_M_tick 44 = .ok (.iload_n 3, 1) := by decide +kernel
theorem d_M_tick_45 : decode b_M_tick 45 = .ok (.iaload, 1) := by decide +kernel
theorem d_M_tick_46 : decode b_M_tick 46 = .ok (.iconst 1, 1) := by decide +kernel
theorem d_M_tick_47 : decode b_M_tick 47 = .ok (.if_icmp .ne 27, 3) := by decide +kernel
theorem d_M_tick_50 : decode b_M_tick 50 = .ok (.aload_n 0, 1) := by decide +kernel
theorem d_M_tick_51 : decode b_M_tick 51 = .ok (.getfield 49, 3) := by decide +kernel
theorem d_M_tick_54 : decode b_M_tick 54 = .ok (.iload_n 3, 1) := by decide +kernel
theorem d_M_tick_55 : decode b_M_tick 55 = .ok (.iaload, 1) := by decide +kernel
theorem d_M_tick_56 : decode b_M_tick 56 = .ok (.bipush 30, 2) := by decide +kernel
theorem d_M_tick_58 : decode b_M_tick 58 = .ok (.iadd, 1) := by decide +kernel
theorem d_M_tick_59 : decode b_M_tick 59 = .ok (.aload_n 0, 1) := by decide +kernel
theorem d_M_tick_60 : decode b_M_tick 60 = .ok (.getfield 101, 3) := by decide +kernel
theorem d_M_tick_63 : decode b_M_tick 63 = .ok (.if_icmp .gt 11, 3) := by decide +kernel
theorem d_M_tick_66 : decode b_M_tick 66 = .ok (.aload_n 0, 1) := by decide +kernel
theorem d_M_tick_67 : decode b_M_tick 67 = .ok (.iload_n 3, 1) := by decide +kernel
theorem d_M_tick_68 : decode b_M_tick 68 = .ok (.invokevirtual 90, 3) := by decide +kernel
theorem d_M_tick_71 : decode b_M_tick 71 = .ok (.iinc 2 1, 3) := by decide +kernel
theorem d_M_tick_74 : decode b_M_tick 74 = .ok (.iinc 3 1, 3) := by decide +kernel
theorem d_M_tick_77 : decode b_M_tick 77 = .ok (.goto (-42), 3) := by decide +kernel
theorem d_M_tick_80 : decode b_M_tick 80 = .ok (.iconst 0, 1) := by decide +kernel
theorem d_M_tick_81 : decode b_M_tick 81 = .ok (.istore_n 3, 1) := by decide +kernel
theorem d_M_tick_82 : decode b_M_tick 82 = .ok (.iload_n 3, 1) := by decide +kernel
theorem d_M_tick_83 : decode b_M_tick 83 = .ok (.iconst 2, 1) := by decide +kernel
theorem d_M_tick_84 : decode b_M_tick 84 = .ok (.if_icmp .ge 86, 3) := by decide +kernel
theorem d_M_tick_87 : decode b_M_tick 87 = .ok (.iconst 0, 1) := by decide +kernel
theorem d_M_tick_88 : decode b_M_tick 88 = .ok (.istore 4, 2) := by decide +kernel
theorem d_M_tick_90 : decode b_M_tick 90 = .ok (.iconst 4, 1) := by decide +kernel
theorem d_M_tick_91 : decode b_M_tick 91 = .ok (.iload_n 3, 1) := by decide +kernel
theorem d_M_tick_92 : decode b_M_tick 92 = .ok (.imul, 1) := by decide +kernel
theorem d_M_tick_93 : decode b_M_tick 93 = .ok (.istore 5, 2) := by decide +kernel
theorem d_M_tick_95 : decode b_M_tick 95 = .ok (.iload 5, 2) := by decide +kernel
theorem d_M_tick_97 : decode b_M_tick 97 = .ok (.iconst 4, 1) := by decide +kernel
theorem d_M_tick_98 : decode b_M_tick 98 = .ok (.iload_n 3, 1) := by decide +kernel
theorem d_M_tick_99 : decode b_M_tick 99 = .ok (.imul, 1) := by decide +kernel
theorem d_M_tick_100 : decode b_M_tick 100 = .ok (.iconst 4, 1) := by decide +kernel
theorem d_M_tick_101 : decode b_M_tick 101 = .ok (.iadd, 1) := by decide +kernel
theorem d_M_tick_102 : decode b_M_tick 102 = .ok (.if_icmp .ge 47, 3) := by decide +kernel
theorem d_M_tick_105 : decode b_M_tick 105 = .ok (.aload_n 0, 1) := by decide +kernel
theorem d_M_tick_106 : decode b_M_tick 106 = .ok (.getfield 58, 3) := by decide +kernel
theorem d_M_tick_109 : decode b_M_tick 109 = .ok (.iload 5, 2) := by decide +kernel
theorem d_M_tick_111 : decode b_M_tick 111 = .ok (.baload, 1) := by decide +kernel
theorem d_M_tick_112 : decode b_M_tick 112 = .ok (.ifCond .eq 31, 3) := by decide +kernel
theorem d_M_tick_115 : decode b_M_tick 115 = .ok (.aload_n 0, 1) := by decide +kernel
theorem d_M_tick_116 : decode b_M_tick 116 = .ok (.getfield 62, 3) := by decide +kernel
theorem d_M_tick_119 : decode b_M_tick 119 = .ok (.iload 5, 2) := by decide +kernel
theorem d_M_tick_121 : decode b_M_tick 121 = .ok (.iaload, 1) := by decide +kernel
theorem d_M_tick_122 : decode b_M_tick 122 = .ok (.bipush 20, 2) := by decide +kernel
theorem d_M_tick_124 : decode b_M_tick 124 = .ok (.iadd, 1) := by decide +kernel
theorem d_M_tick_125 : decode b_M_tick 125 = .ok (.aload_n 0, 1) := by decide +kernel
theorem d_M_tick_126 : decode b_M_tick 126 = .ok (.getfield 101, 3) := by decide +kernel
theorem d_M_tick_129 : decode b_M_tick 129 = .ok (.if_icmp .gt 14, 3) := by decide +kernel
theorem d_M_tick_132 : decode b_M_tick 132 = .ok (.aload_n 0, 1) := by decide +kernel
theorem d_M_tick_133 : decode b_M_tick 133 = .ok (.getfield 58, 3) := by decide +kernel
theorem d_M_tick_136 : decode b_M_tick 136 = .ok (.iload 5, 2) := by decide +kernel
theorem d_M_tick_138 : decode b_M_tick 138 = .ok (.iconst 0, 1) := by decide +kernel
theorem d_M_tick_139 : decode b_M_tick 139 = .ok (.bastore, 1) := by decide +kernel
theorem d_M_tick_140 : decode b_M_tick 140 = .ok (.iinc 4 1, 3) := by decide +kernel
theorem d_M_tick_143 : decode b_M_tick 143 = .ok (.iinc 5 1, 3) := by decide +kernel
theorem d_M_tick_146 : decode b_M_tick 146 = .ok (.goto (-51), 3) := by decide +kernel
theorem d_M_tick_149 : decode b_M_tick 149 = .ok (.iload 4, 2) := by decide +kernel
theorem d_M_tick_151 : decode b_M_tick 151 = .ok (.ifCond .le 8, 3) := by decide +kernel
theorem d_M_tick_154 : decode b_M_tick 154 = .ok (.aload_n 0, 1) := by decide +kernel
theorem d_M_tick_155 : decode b_M_tick 155 = .ok (.iload_n 3, 1) := by decide +kernel
theorem d_M_tick_156 : decode b_M_tick 156 = .ok (.invokevirtual 137, 3) := by decide +kernel
theorem d_M_tick_159 : decode b_M_tick 159 = .ok (.iload_n 2, 1) := by decide +kernel
theorem d_M_tick_160 : decode b_M_tick 160 = .ok (.iload 4, 2) := by decide +kernel
theorem d_M_tick_162 : decode b_M_tick 162 = .ok (.iadd, 1) := by decide +kernel
theorem d_M_tick_163 : decode b_M_tick 163 = .ok (.istore_n 2, 1) := by decide +kernel
theorem d_M_tick_164 : decode b_M_tick 164 = .ok (.iinc 3 1, 3) := by decide +kernel
theorem d_M_tick_167 : decode b_M_tick 167 = .ok (.goto (-85), 3) := by decide +kernel
theorem d_M_tick_170 : decode b_M_tick 170 = .ok (.iload_n 2, 1) := by decide +kernel
theorem d_M_tick_171 : decode b_M_tick 171 = .ok (.ireturn, 1) := by decide +kernel
theorem d_M_edge_0 : decode b_M_edge 0 = .ok (.aload_n 0, 1) := by decide +kernel
theorem d_M_edge_1 : decode b_M_edge 1 = .ok (.iconst 0, 1) := by decide +kernel
theorem d_M_edge_2 : decode b_M_edge 2 = .ok (.putfield 71, 3) := by decide +kernel
theorem d_M_edge_5 : decode b_M_edge 5 = .ok (.aload_n 0, 1) := by decide +kernel
theorem d_M_edge_6 : decode b_M_edge 6 = .ok (.iload_n 1, 1) := by decide +kernel
theorem d_M_edge_7 : decode b_M_edge 7 = .ok (.iconst 4, 1) := by decide +kernel
theorem d_M_edge_8 : decode b_M_edge 8 = .ok (.invokevirtual 83, 3) := by decide +kernel
theorem d_M_edge_11 : decode b_M_edge 11 = .ok (.ifCond .ne 13, 3) := by decide +kernel
theorem d_M_edge_14 : decode b_M_edge 14 = .ok (.aload_n 0, 1) := by decide +kernel
theorem d_M_edge_15 : decode b_M_edge 15 = .ok (.iload_n 2, 1) := by decide +kernel
theorem d_M_edge_16 : decode b_M_edge 16 = .ok (.bipush 6, 2) := by decide +kernel
theorem d_M_edge_18 : decode b_M_edge 18 = .ok (.invokevirtual 83, 3) := by decide +kernel
theorem d_M_edge_21 : decode b_M_edge 21 = .ok (.ifCond .eq 9, 3) := by decide +kernel
theorem d_M_edge_24 : decode b_M_edge 24 = .ok (.aload_n 0, 1) := by decide +kernel
theorem d_M_edge_25 : decode b_M_edge 25 = .ok (.iconst 1, 1) := by decide +kernel
theorem d_M_edge_26 : decode b_M_edge 26 = .ok (.invokevirtual 86, 3) := by decide +kernel
theorem d_M_edge_29 : decode b_M_edge 29 = .ok (.ireturn, 1) := by decide +kernel
theorem d_M_edge_30 : decode b_M_edge 30 = .ok (.iload_n 2, 1) := by decide +kernel
theorem d_M_edge_31 : decode b_M_edge 31 = .ok (.tableswitch 56 0 3 #[29, 36, 42, 49], 29) := by decide +kernel
theorem d_M_edge_60 : decode b_M_edge 60 = .ok (.aload_n 0, 1) := by decide +kernel
theorem d_M_edge_61 : decode b_M_edge 61 = .ok (.getfield 31, 3) := by decide +kernel
theorem d_M_edge_64 : decode b_M_edge 64 = .ok (.iload_n 1, 1) := by decide +kernel
theorem d_M_edge_65 : decode b_M_edge 65 = .ok (.iaload, 1) := by decide +kernel
theorem d_M_edge_66 : decode b_M_edge 66 = .ok (.ireturn, 1) := by decide +kernel
theorem d_M_edge_67 : decode b_M_edge 67 = .ok (.aload_n 0, 1) := by decide +kernel
theorem d_M_edge_68 : decode b_M_edge 68 = .ok (.iload_n 1, 1) := by decide +kernel
theorem d_M_edge_69 : decode b_M_edge 69 = .ok (.invokevirtual 125, 3) := by decide +kernel
theorem d_M_edge_72 : decode b_M_edge 72 = .ok (.ireturn, 1) := by decide +kernel
theorem d_M_edge_73 : decode b_M_edge 73 = .ok (.aload_n 0, 1) := by decide +kernel
theorem d_M_edge_74 : decode b_M_edge 74 = .ok (.getfield 34, 3) := by decide +kernel
theorem d_M_edge_77 : decode b_M_edge 77 = .ok (.iload_n 1, 1) := by decide +kernel
theorem d_M_edge_78 : decode b_M_edge 78 = .ok (.iaload, 1) := by decide +kernel
theorem d_M_edge_79 : decode b_M_edge 79 = .ok (.ireturn, 1) := by decide +kernel
theorem d_M_edge_80 : decode b_M_edge 80 = .ok (.aload_n 0, 1) := by decide +kernel
theorem d_M_edge_81 : decode b_M_edge 81 = .ok (.getfield 28, 3) := by decide +kernel
theorem d_M_edge_84 : decode b_M_edge 84 = .ok (.iload_n 1, 1) := by decide +kernel
theorem d_M_edge_85 : decode b_M_edge 85 = .ok (.iaload, 1) := by decide +kernel
theorem d_M_edge_86 : decode b_M_edge 86 = .ok (.ireturn, 1) := by decide +kernel
theorem d_M_edge_87 : decode b_M_edge 87 = .ok (.aload_n 0, 1) := by decide +kernel
theorem d_M_edge_88 : decode b_M_edge 88 = .ok (.getfield 68, 3) := by decide +kernel
theorem d_M_edge_91 : decode b_M_edge 91 = .ok (.iconst 4, 1) := by decide +kernel
theorem d_M_edge_92 : decode b_M_edge 92 = .ok (.iload_n 2, 1) := by decide +kernel
theorem d_M_edge_93 : decode b_M_edge 93 = .ok (.iconst 4, 1) := by decide +kernel
theorem d_M_edge_94 : decode b_M_edge 94 = .ok (.isub, 1) := by decide +kernel
theorem d_M_edge_95 : decode b_M_edge 95 = .ok (.imul, 1) := by decide +kernel
theorem d_M_edge_96 : decode b_M_edge 96 = .ok (.iload_n 1, 1) := by decide +kernel
theorem d_M_edge_97 : decode b_M_edge 97 = .ok (.iadd, 1) := by decide +kernel
theorem d_M_edge_98 : decode b_M_edge 98 = .ok (.iaload, 1) := by decide +kernel
theorem d_M_edge_99 : decode b_M_edge 99 = .ok (.ireturn, 1) := by decide +kernel
theorem d_M_fact_0 : decode b_M_fact 0 = .ok (.aload_n 0, 1) := by decide +kernel
theorem d_M_fact_1 : decode b_M_fact 1 = .ok (.iconst 0, 1) := by decide +kernel
theorem d_M_fact_2 : decode b_M_fact 2 = .ok (.putfield 71, 3) := by decide +kernel
theorem d_M_fact_5 : decode b_M_fact 5 = .ok (.aload_n 0, 1) := by decide +kernel
theorem d_M_fact_6 : decode b_M_fact 6 = .ok (.iload_n 1, 1) := by decide +kernel
theorem d_M_fact_7 : decode b_M_fact 7 = .ok (.iconst 4, 1) := by decide +kernel
theorem d_M_fact_8 : decode b_M_fact 8 = .ok (.invokevirtual 83, 3) := by decide +kernel
theorem d_M_fact_11 : decode b_M_fact 11 = .ok (.ifCond .ne 13, 3) := by decide +kernel
theorem d_M_fact_14 : decode b_M_fact 14 = .ok (.aload_n 0, 1) := by decide +kernel
theorem d_M_fact_15 : decode b_M_fact 15 = .ok (.iload_n 2, 1) := by decide +kernel
theorem d_M_fact_16 : decode b_M_fact 16 = .ok (.bipush 8, 2) := by decide +kernel
theorem d_M_fact_18 : decode b_M_fact 18 = .ok (.invokevirtual 83, 3) := by decide +kernel
theorem d_M_fact_21 : decode b_M_fact 21 = .ok (.ifCond .eq 9, 3) := by decide +kernel
theorem d_M_fact_24 : decode b_M_fact 24 = .ok (.aload_n 0, 1) := by decide +kernel
theorem d_M_fact_25 : decode b_M_fact 25 = .ok (.iconst 1, 1) := by decide +kernel
theorem d_M_fact_26 : decode b_M_fact 26 = .ok (.invokevirtual 86, 3) := by decide +kernel
theorem d_M_fact_29 : decode b_M_fact 29 = .ok (.ireturn, 1) := by decide +kernel
theorem d_M_fact_30 : decode b_M_fact 30 = .ok (.iload_n 2, 1) := by decide +kernel
theorem d_M_fact_31 : decode b_M_fact 31 = .ok (.ifCond .eq 12, 3) := by decide +kernel
theorem d_M_fact_34 : decode b_M_fact 34 = .ok (.aload_n 0, 1) := by decide +kernel
theorem d_M_fact_35 : decode b_M_fact 35 = .ok (.getfield 37, 3) := by decide +kernel
theorem d_M_fact_38 : decode b_M_fact 38 = .ok (.iload_n 1, 1) := by decide +kernel
theorem d_M_fact_39 : decode b_M_fact 39 = .ok (.iaload, 1) := by decide +kernel
theorem d_M_fact_40 : decode b_M_fact 40 = .ok (.ifCond .ge 18, 3) := by decide +kernel
theorem d_M_fact_43 : decode b_M_fact 43 = .ok (.iload_n 2, 1) := by decide +kernel
theorem d_M_fact_44 : decode b_M_fact 44 = .ok (.ifCond .ne 12, 3) := by decide +kernel
theorem d_M_fact_47 : decode b_M_fact 47 = .ok (.aload_n 0, 1) := by decide +kernel
theorem d_M_fact_48 : decode b_M_fact 48 = .ok (.getfield 37, 3) := by decide +kernel
theorem d_M_fact_51 : decode b_M_fact 51 = .ok (.iload_n 1, 1) := by decide +kernel
theorem d_M_fact_52 : decode b_M_fact 52 = .ok (.iaload, 1) := by decide +kernel
theorem d_M_fact_53 : decode b_M_fact 53 = .ok (.goto 4, 3) := by decide +kernel
theorem d_M_fact_56 : decode b_M_fact 56 = .ok (.iconst (-1), 1) := by decide +kernel
theorem d_M_fact_57 : decode b_M_fact 57 = .ok (.ireturn, 1) := by decide +kernel
theorem d_M_fact_58 : decode b_M_fact 58 = .ok (.iload_n 2, 1) := by decide +kernel
theorem d_M_fact_59 : decode b_M_fact 59 = .ok (.iconst 1, 1) := by decide +kernel
theorem d_M_fact_60 : decode b_M_fact 60 = .ok (.if_icmp .ne 10, 3) := by decide +kernel
theorem d_M_fact_63 : decode b_M_fact 63 = .ok (.aload_n 0, 1) := by decide +kernel
theorem d_M_fact_64 : decode b_M_fact 64 = .ok (.getfield 40, 3) := by decide +kernel
theorem d_M_fact_67 : decode b_M_fact 67 = .ok (.iload_n 1, 1) := by decide +kernel
theorem d_M_fact_68 : decode b_M_fact 68 = .ok (.iaload, 1) := by decide +kernel
theorem d_M_fact_69 : decode b_M_fact 69 = .ok (.ireturn, 1) := by decide +kernel
theorem d_M_fact_70 : decode b_M_fact 70 = .ok (.iload_n 2, 1) := by decide +kernel
theorem d_M_fact_71 : decode b_M_fact 71 = .ok (.iconst 4, 1) := by decide +kernel
theorem d_M_fact_72 : decode b_M_fact 72 = .ok (.if_icmp .ge 37, 3) := by decide +kernel
theorem d_M_fact_75 : decode b_M_fact 75 = .ok (.aload_n 0, 1) := by decide +kernel
theorem d_M_fact_76 : decode b_M_fact 76 = .ok (.getfield 37, 3) := by decide +kernel
theorem d_M_fact_79 : decode b_M_fact 79 = .ok (.iload_n 1, 1) := by decide +kernel
theorem d_M_fact_80 : decode b_M_fact 80 = .ok (.iaload, 1) := by decide +kernel
theorem d_M_fact_81 : decode b_M_fact 81 = .ok (.ifCond .ne 7, 3) := by decide +kernel
theorem d_M_fact_84 : decode b_M_fact 84 = .ok (.iconst 0, 1) := by decide +kernel
theorem d_M_fact_85 : decode b_M_fact 85 = .ok (.goto 23, 3) := by decide +kernel
theorem d_M_fact_88 : decode b_M_fact 88 = .ok (.iload_n 2, 1) := by decide +kernel
theorem d_M_fact_89 : decode b_M_fact 89 = .ok (.iconst 2, 1) := by decide +kernel
theorem d_M_fact_90 : decode b_M_fact 90 = .ok (.if_icmp .ne 12, 3) := by decide +kernel
theorem d_M_fact_93 : decode b_M_fact 93 = .ok (.aload_n 0, 1) := by decide +kernel
theorem d_M_fact_94 : decode b_M_fact 94 = .ok (.getfield 43, 3) := by decide +kernel
theorem d_M_fact_97 : decode b_M_fact 97 = .ok (.iload_n 1, 1) := by decide +kernel
theorem d_M_fact_98 : decode b_M_fact 98 = .ok (.iaload, 1) := by decide +kernel
theorem d_M_fact_99 : decode b_M_fact 99 = .ok (.goto 9, 3) := by decide +kernel
theorem d_M_fact_102 : decode b_M_fact 102 = .ok (.aload_n 0, 1) := by decide +kernel
theorem d_M_fact_103 : decode b_M_fact 103 = .ok (.getfield 46, 3) := by decide +kernel
theorem d_M_fact_106 : decode b_M_fact 106 = .ok (.iload_n 1, 1) := by decide +kernel
theorem d_M_fact_107 : decode b_M_fact 107 = .ok (.iaload, 1) := by decide +kernel
theorem d_M_fact_108 : decode b_M_fact 108 = .ok (.ireturn, 1) := by decide +kernel
theorem d_M_fact_109 : decode b_M_fact 109 = .ok (.aload_n 0, 1) := by decide +kernel
theorem d_M_fact_110 : decode b_M_fact 110 = .ok (.iload_n 1, 1) := by decide +kernel
theorem d_M_fact_111 : decode b_M_fact 111 = .ok (.iload_n 2, 1) := by decide +kernel
theorem d_M_fact_112 : decode b_M_fact 112 = .ok (.iconst 4, 1) := by decide +kernel
theorem d_M_fact_113 : decode b_M_fact 113 = .ok (.isub, 1) := by decide +kernel
theorem d_M_fact_114 : decode b_M_fact 114 = .ok (.invokevirtual 107, 3) := by decide +kernel
theorem d_M_fact_117 : decode b_M_fact 117 = .ok (.ireturn, 1) := by decide +kernel
end
section
def fb_M_ctor_L183 (bs sE : Nat) (REC : HH → Z3 → Nat → Int32 → Option RS) (h : HH) (z : Z3) (x0 : Nat) (x1 : Int32) : Option RS :=
  if 8 ≤ x1 then
    (some (.inl none, h, z))
  else
    ((gR h x0 6 20).bind fun v63 =>
    (aIs bs h v63 0 x1 (-1)).bind fun h64 =>
    (gR h64 x0 6 21).bind fun v65 =>
    (aIs bs h64 v65 0 x1 (-1)).bind fun h66 =>
    REC h66 z x0 (x1 + 1))
def f_M_ctor_L183 (bs sE : Nat) : Nat → HH → Z3 → Nat → Int32 → Option RS
  | 0 => fun _ _ _ _ => none
  | n + 1 => fb_M_ctor_L183 bs sE (f_M_ctor_L183 bs sE n)
set_option maxHeartbeats 4000000 in
set_option maxRecDepth 100000 in
theorem t_M_ctor_L183 {G : EN} {p : Program} {l : Launch} {e : Env} {s : State} {m : MethodId} {args : Array Value} {below : List Frame} {meth : Method} {c : Code} {z0 : Z3} (hl0 : l.stackTraces = false) (C : CX G p l s m meth c b_M_ctor 2 y_M_ctor.cls) (hr : meth.sig.returnType = none) (hex : c.exceptionTable.toList = []) {r : RS} :
    ∀ (n : Nat) (h : HH) (z : Z3) (x0 : Nat) (x1 : Int32), f_M_ctor_L183 G.2.2.1 G.2.2.2 n h z x0 x1 = some r → ∀ (H : Heap) (locs : List Loc) (cells slots : Nat) (ls : Array Slot), ST G (RM 1 20 z0) s h z H locs cells slots → lv_has ls 2 [(0, .ref x0), (1, .int x1)] → W p l e (RM 1 20 z0) s m args below meth c H locs cells slots (MX G below s r (RM 1 20 z0).cells (RM 1 20 z0).slots) (F0 m 183 ls []) := by
  have hx := C.1
  have hb := C.2.1
  intro n
  induction n with
  | zero => intro h z x0 x1 hf; exact nomatch (show (none : Option RS) = some r from hf)
  | succ n ih =>
    intro h z x0 x1 hf H locs cells slots ls hs hl
    have hf : fb_M_ctor_L183 G.2.2.1 G.2.2.2 (f_M_ctor_L183 G.2.2.1 G.2.2.2 n) h z x0 x1 = some r := hf
    unfold fb_M_ctor_L183 at hf
    refine lv_iload_n hx hb d_M_ctor_183 rfl (lv_at hl 1 rfl) ?_
    refine lv_bipush (v := 8) hx hb d_M_ctor_184 (by decide) ?_
    refine lv_icmp_ge (tgt := 209) hx hb d_M_ctor_186 (by decide) (fun q62 => ?_) (fun q62 => ?_)
    · have hf := ifp q62 hf
      exact r_vreturn C hs hr d_M_ctor_209 hf
    · have hf := ifn q62 hf
      refine lv_aload_n hx hb d_M_ctor_189 rfl (lv_at hl 0 rfl) ?_
      refine r_getR C hs fl_M_65 d_M_ctor_190 hf (fun v63 hf => ?_)
      refine lv_iload_n hx hb d_M_ctor_193 rfl (lv_at hl 1 rfl) ?_
      refine lv_iconst (v := (-1)) hx hb d_M_ctor_194 (by decide) ?_
      refine r_iast C hs d_M_ctor_195 hf (fun h64 H locs hf hs => ?_)
      refine lv_aload_n hx hb d_M_ctor_196 rfl (lv_at hl 0 rfl) ?_
      refine r_getR C hs fl_M_68 d_M_ctor_197 hf (fun v65 hf => ?_)
      refine lv_iload_n hx hb d_M_ctor_200 rfl (lv_at hl 1 rfl) ?_
      refine lv_iconst (v := (-1)) hx hb d_M_ctor_201 (by decide) ?_
      refine r_iast C hs d_M_ctor_202 hf (fun h66 H locs hf hs => ?_)
      refine lv_iinc (v := x1 + 1) (lv' := [(1, .int (x1 + 1)), (0, .ref x0)]) hx hb d_M_ctor_203 hl (k := 1) rfl rfl (by decide) rfl (fun ls hl => ?_)
      refine lv_goto (tgt := 183) hx hb d_M_ctor_206 (by decide) ?_
      exact ih _ _ _ _ hf _ _ _ _ _ hs (lv_sub hl [1, 0] rfl)
def fb_M_ctor_L163 (bs sE : Nat) (REC : HH → Z3 → Nat → Int32 → Option RS) (h : HH) (z : Z3) (x0 : Nat) (x1 : Int32) : Option RS :=
  if 4 ≤ x1 then
    (f_M_ctor_L183 bs sE FU h z x0 0)
  else
    ((gR h x0 6 10).bind fun v67 =>
    (aIs bs h v67 0 x1 (-1)).bind fun h68 =>
    REC h68 z x0 (x1 + 1))
def f_M_ctor_L163 (bs sE : Nat) : Nat → HH → Z3 → Nat → Int32 → Option RS
  | 0 => fun _ _ _ _ => none
  | n + 1 => fb_M_ctor_L163 bs sE (f_M_ctor_L163 bs sE n)
set_option maxHeartbeats 4000000 in
set_option maxRecDepth 100000 in
theorem t_M_ctor_L163 {G : EN} {p : Program} {l : Launch} {e : Env} {s : State} {m : MethodId} {args : Array Value} {below : List Frame} {meth : Method} {c : Code} {z0 : Z3} (hl0 : l.stackTraces = false) (C : CX G p l s m meth c b_M_ctor 2 y_M_ctor.cls) (hr : meth.sig.returnType = none) (hex : c.exceptionTable.toList = []) {r : RS} :
    ∀ (n : Nat) (h : HH) (z : Z3) (x0 : Nat) (x1 : Int32), f_M_ctor_L163 G.2.2.1 G.2.2.2 n h z x0 x1 = some r → ∀ (H : Heap) (locs : List Loc) (cells slots : Nat) (ls : Array Slot), ST G (RM 1 20 z0) s h z H locs cells slots → lv_has ls 2 [(0, .ref x0), (1, .int x1)] → W p l e (RM 1 20 z0) s m args below meth c H locs cells slots (MX G below s r (RM 1 20 z0).cells (RM 1 20 z0).slots) (F0 m 163 ls []) := by
  have hx := C.1
  have hb := C.2.1
  intro n
  induction n with
  | zero => intro h z x0 x1 hf; exact nomatch (show (none : Option RS) = some r from hf)
  | succ n ih =>
    intro h z x0 x1 hf H locs cells slots ls hs hl
    have hf : fb_M_ctor_L163 G.2.2.1 G.2.2.2 (f_M_ctor_L163 G.2.2.1 G.2.2.2 n) h z x0 x1 = some r := hf
    unfold fb_M_ctor_L163 at hf
    refine lv_iload_n hx hb d_M_ctor_163 rfl (lv_at hl 1 rfl) ?_
    refine lv_iconst (v := 4) hx hb d_M_ctor_164 (by decide) ?_
    refine lv_icmp_ge (tgt := 181) hx hb d_M_ctor_165 (by decide) (fun q61 => ?_) (fun q61 => ?_)
    · have hf := ifp q61 hf
      refine lv_iconst (v := 0) hx hb d_M_ctor_181 (by decide) ?_
      refine lv_istore_n (lv' := [(1, .int 0), (0, .ref x0)]) hx hb d_M_ctor_182 rfl hl (by decide) rfl (fun ls hl => ?_)
      exact t_M_ctor_L183 hl0 C hr hex FU _ _ _ _ hf _ _ _ _ _ hs (lv_sub hl [1, 0] rfl)
    · have hf := ifn q61 hf
      refine lv_aload_n hx hb d_M_ctor_168 rfl (lv_at hl 0 rfl) ?_
      refine r_getR C hs fl_M_37 d_M_ctor_169 hf (fun v67 hf => ?_)
      refine lv_iload_n hx hb d_M_ctor_172 rfl (lv_at hl 1 rfl) ?_
      refine lv_iconst (v := (-1)) hx hb d_M_ctor_173 (by decide) ?_
      refine r_iast C hs d_M_ctor_174 hf (fun h68 H locs hf hs => ?_)
      refine lv_iinc (v := x1 + 1) (lv' := [(1, .int (x1 + 1)), (0, .ref x0)]) hx hb d_M_ctor_175 hl (k := 1) rfl rfl (by decide) rfl (fun ls hl => ?_)
      refine lv_goto (tgt := 163) hx hb d_M_ctor_178 (by decide) ?_
      exact ih _ _ _ _ hf _ _ _ _ _ hs (lv_sub hl [1, 0] rfl)
def f_M_ctor (bs sE : Nat) (h : HH) (z : Z3) (x0 : Nat) : Option RS :=
  (nA 2080 2080).bind fun _ =>
  (nO z 2080).bind fun _ =>
  (some (va_up h z.1 (some (.inr (0, (2080 : Int32).toNatClampNeg, .inl (fun _ => 0)))))).bind fun h1 =>
  (some (nZ z 2080)).bind fun z2 =>
  (pV bs h1 x0 6 1 (.inr (some z.1))).bind fun h3 =>
  (nA 2080 2080).bind fun _ =>
  (nO z2 2080).bind fun _ =>
  (some (va_up h3 z2.1 (some (.inr (0, (2080 : Int32).toNatClampNeg, .inl (fun _ => 0)))))).bind fun h4 =>
  (some (nZ z2 2080)).bind fun z5 =>
  (pV bs h4 x0 6 2 (.inr (some z2.1))).bind fun h6 =>
  (nA 2080 2080).bind fun _ =>
  (nO z5 2080).bind fun _ =>
  (some (va_up h6 z5.1 (some (.inr (0, (2080 : Int32).toNatClampNeg, .inl (fun _ => 0)))))).bind fun h7 =>
  (some (nZ z5 2080)).bind fun z8 =>
  (pV bs h7 x0 6 3 (.inr (some z5.1))).bind fun h9 =>
  (nA 2080 2080).bind fun _ =>
  (nO z8 2080).bind fun _ =>
  (some (va_up h9 z8.1 (some (.inr (0, (2080 : Int32).toNatClampNeg, .inl (fun _ => 0)))))).bind fun h10 =>
  (some (nZ z8 2080)).bind fun z11 =>
  (pV bs h10 x0 6 4 (.inr (some z8.1))).bind fun h12 =>
  (nA 2080 2080).bind fun _ =>
  (nO z11 2080).bind fun _ =>
  (some (va_up h12 z11.1 (some (.inr (0, (2080 : Int32).toNatClampNeg, .inl (fun _ => 0)))))).bind fun h13 =>
  (some (nZ z11 2080)).bind fun z14 =>
  (pV bs h13 x0 6 5 (.inr (some z11.1))).bind fun h15 =>
  (nA 2080 2080).bind fun _ =>
  (nO z14 2080).bind fun _ =>
  (some (va_up h15 z14.1 (some (.inr (0, (2080 : Int32).toNatClampNeg, .inl (fun _ => 0)))))).bind fun h16 =>
  (some (nZ z14 2080)).bind fun z17 =>
  (pV bs h16 x0 6 6 (.inr (some z14.1))).bind fun h18 =>
  (nA 4 4).bind fun _ =>
  (nO z17 4).bind fun _ =>
  (some (va_up h18 z17.1 (some (.inr (0, (4 : Int32).toNatClampNeg, .inl (fun _ => 0)))))).bind fun h19 =>
  (some (nZ z17 4)).bind fun z20 =>
  (pV bs h19 x0 6 7 (.inr (some z17.1))).bind fun h21 =>
  (nA 4 4).bind fun _ =>
  (nO z20 4).bind fun _ =>
  (some (va_up h21 z20.1 (some (.inr (0, (4 : Int32).toNatClampNeg, .inl (fun _ => 0)))))).bind fun h22 =>
  (some (nZ z20 4)).bind fun z23 =>
  (pV bs h22 x0 6 8 (.inr (some z20.1))).bind fun h24 =>
  (nA 4 4).bind fun _ =>
  (nO z23 4).bind fun _ =>
  (some (va_up h24 z23.1 (some (.inr (0, (4 : Int32).toNatClampNeg, .inl (fun _ => 0)))))).bind fun h25 =>
  (some (nZ z23 4)).bind fun z26 =>
  (pV bs h25 x0 6 9 (.inr (some z23.1))).bind fun h27 =>
  (nA 4 4).bind fun _ =>
  (nO z26 4).bind fun _ =>
  (some (va_up h27 z26.1 (some (.inr (0, (4 : Int32).toNatClampNeg, .inl (fun _ => 0)))))).bind fun h28 =>
  (some (nZ z26 4)).bind fun z29 =>
  (pV bs h28 x0 6 10 (.inr (some z26.1))).bind fun h30 =>
  (nA 4 4).bind fun _ =>
  (nO z29 4).bind fun _ =>
  (some (va_up h30 z29.1 (some (.inr (0, (4 : Int32).toNatClampNeg, .inl (fun _ => 0)))))).bind fun h31 =>
  (some (nZ z29 4)).bind fun z32 =>
  (pV bs h31 x0 6 11 (.inr (some z29.1))).bind fun h33 =>
  (nA 4 4).bind fun _ =>
  (nO z32 4).bind fun _ =>
  (some (va_up h33 z32.1 (some (.inr (0, (4 : Int32).toNatClampNeg, .inl (fun _ => 0)))))).bind fun h34 =>
  (some (nZ z32 4)).bind fun z35 =>
  (pV bs h34 x0 6 12 (.inr (some z32.1))).bind fun h36 =>
  (nA 4 4).bind fun _ =>
  (nO z35 4).bind fun _ =>
  (some (va_up h36 z35.1 (some (.inr (0, (4 : Int32).toNatClampNeg, .inl (fun _ => 0)))))).bind fun h37 =>
  (some (nZ z35 4)).bind fun z38 =>
  (pV bs h37 x0 6 13 (.inr (some z35.1))).bind fun h39 =>
  (nA 4 4).bind fun _ =>
  (nO z38 4).bind fun _ =>
  (some (va_up h39 z38.1 (some (.inr (0, (4 : Int32).toNatClampNeg, .inl (fun _ => 0)))))).bind fun h40 =>
  (some (nZ z38 4)).bind fun z41 =>
  (pV bs h40 x0 6 14 (.inr (some z38.1))).bind fun h42 =>
  (nA 32 32).bind fun _ =>
  (nO z41 32).bind fun _ =>
  (some (va_up h42 z41.1 (some (.inr (0, (32 : Int32).toNatClampNeg, .inl (fun _ => 0)))))).bind fun h43 =>
  (some (nZ z41 32)).bind fun z44 =>
  (pV bs h43 x0 6 15 (.inr (some z41.1))).bind fun h45 =>
  (nA 2 2).bind fun _ =>
  (nO z44 2).bind fun _ =>
  (some (va_up h45 z44.1 (some (.inr (0, (2 : Int32).toNatClampNeg, .inl (fun _ => 0)))))).bind fun h46 =>
  (some (nZ z44 2)).bind fun z47 =>
  (pV bs h46 x0 6 17 (.inr (some z44.1))).bind fun h48 =>
  (nA 8 8).bind fun _ =>
  (nO z47 8).bind fun _ =>
  (some (va_up h48 z47.1 (some (.inr (1, (8 : Int32).toNatClampNeg, .inl (fun _ => 0)))))).bind fun h49 =>
  (some (nZ z47 8)).bind fun z50 =>
  (pV bs h49 x0 6 18 (.inr (some z47.1))).bind fun h51 =>
  (nA 8 8).bind fun _ =>
  (nO z50 8).bind fun _ =>
  (some (va_up h51 z50.1 (some (.inr (0, (8 : Int32).toNatClampNeg, .inl (fun _ => 0)))))).bind fun h52 =>
  (some (nZ z50 8)).bind fun z53 =>
  (pV bs h52 x0 6 19 (.inr (some z50.1))).bind fun h54 =>
  (nA 8 8).bind fun _ =>
  (nO z53 8).bind fun _ =>
  (some (va_up h54 z53.1 (some (.inr (0, (8 : Int32).toNatClampNeg, .inl (fun _ => 0)))))).bind fun h55 =>
  (some (nZ z53 8)).bind fun z56 =>
  (pV bs h55 x0 6 20 (.inr (some z53.1))).bind fun h57 =>
  (nA 8 8).bind fun _ =>
  (nO z56 8).bind fun _ =>
  (some (va_up h57 z56.1 (some (.inr (0, (8 : Int32).toNatClampNeg, .inl (fun _ => 0)))))).bind fun h58 =>
  (some (nZ z56 8)).bind fun z59 =>
  (pV bs h58 x0 6 21 (.inr (some z56.1))).bind fun h60 =>
  f_M_ctor_L163 bs sE FU h60 z59 x0 0
set_option maxHeartbeats 4000000 in
set_option maxRecDepth 100000 in
theorem c_M_ctor {G : EN} {l : Launch} (hl0 : l.stackTraces = false) {h : HH} {z : Z3} {x0 : Nat} {r : RS} (hf : f_M_ctor G.2.2.1 G.2.2.2 h z x0 = some r) : CM G l y_M_ctor (.code y_M_ctor b_M_ctor 2 none) 1 20 [.ref x0] h z r := by
  refine CM.ofW hl0 rfl ?_
  intro p e s m below meth c C hr hex hin hs
  have hin : meth.name = "<init>" := hin
  have hx := C.1
  have hb := C.2.1
  refine x_entry (n := 2) (Nat.le_of_ble_eq_true rfl) (fun ls hl => ?_)
  have hl : lv_has ls 2 [(0, .ref x0)] := hl
  unfold f_M_ctor at hf
  refine lv_aload_n hx hb d_M_ctor_0 rfl (lv_at hl 0 rfl) ?_
  refine r_objInit C hl.1 (tm (i := 816) (by decide +kernel)) (tm (i := 31) (by decide +kernel)) (tm (i := 32) (by decide +kernel)) d_M_ctor_1 ⟨Nat.le_of_ble_eq_true rfl, Nat.le_of_ble_eq_true rfl⟩ ?_
  refine lv_aload_n hx hb d_M_ctor_4 rfl (lv_at hl 0 rfl) ?_
  refine lv_sipush (v := 2080) hx hb d_M_ctor_5 (by decide) ?_
  refine r_newa (kd := 0) (NB := 2080) C hs (by decide) rfl (tm (i := 88) (by decide +kernel)) d_M_ctor_8 hf (fun H slots hf hs => ?_)
  obtain ⟨h1, eh1, hf⟩ := bd hf
  obtain ⟨z2, ez2, hf⟩ := bd hf
  rw [Option.some.inj eh1, Option.some.inj ez2] at hs
  refine r_putF (v := (.inr (some z.1))) C hs hin flf_M_7 rfl rfl d_M_ctor_10 hf (fun h3 H locs hf hs => ?_)
  refine lv_aload_n hx hb d_M_ctor_13 rfl (lv_at hl 0 rfl) ?_
  refine lv_sipush (v := 2080) hx hb d_M_ctor_14 (by decide) ?_
  refine r_newa (kd := 0) (NB := 2080) C hs (by decide) rfl (tm (i := 88) (by decide +kernel)) d_M_ctor_17 hf (fun H slots hf hs => ?_)
  obtain ⟨h4, eh4, hf⟩ := bd hf
  obtain ⟨z5, ez5, hf⟩ := bd hf
  rw [Option.some.inj eh4, Option.some.inj ez5] at hs
  refine r_putF (v := (.inr (some z2.1))) C hs hin flf_M_13 rfl rfl d_M_ctor_19 hf (fun h6 H locs hf hs => ?_)
  refine lv_aload_n hx hb d_M_ctor_22 rfl (lv_at hl 0 rfl) ?_
  refine lv_sipush (v := 2080) hx hb d_M_ctor_23 (by decide) ?_
  refine r_newa (kd := 0) (NB := 2080) C hs (by decide) rfl (tm (i := 88) (by decide +kernel)) d_M_ctor_26 hf (fun H slots hf hs => ?_)
  obtain ⟨h7, eh7, hf⟩ := bd hf
  obtain ⟨z8, ez8, hf⟩ := bd hf
  rw [Option.some.inj eh7, Option.some.inj ez8] at hs
  refine r_putF (v := (.inr (some z5.1))) C hs hin flf_M_16 rfl rfl d_M_ctor_28 hf (fun h9 H locs hf hs => ?_)
  refine lv_aload_n hx hb d_M_ctor_31 rfl (lv_at hl 0 rfl) ?_
  refine lv_sipush (v := 2080) hx hb d_M_ctor_32 (by decide) ?_
  refine r_newa (kd := 0) (NB := 2080) C hs (by decide) rfl (tm (i := 88) (by decide +kernel)) d_M_ctor_35 hf (fun H slots hf hs => ?_)
  obtain ⟨h10, eh10, hf⟩ := bd hf
  obtain ⟨z11, ez11, hf⟩ := bd hf
  rw [Option.some.inj eh10, Option.some.inj ez11] at hs
  refine r_putF (v := (.inr (some z8.1))) C hs hin flf_M_19 rfl rfl d_M_ctor_37 hf (fun h12 H locs hf hs => ?_)
  refine lv_aload_n hx hb d_M_ctor_40 rfl (lv_at hl 0 rfl) ?_
  refine lv_sipush (v := 2080) hx hb d_M_ctor_41 (by decide) ?_
  refine r_newa (kd := 0) (NB := 2080) C hs (by decide) rfl (tm (i := 88) (by decide +kernel)) d_M_ctor_44 hf (fun H slots hf hs => ?_)
  obtain ⟨h13, eh13, hf⟩ := bd hf
  obtain ⟨z14, ez14, hf⟩ := bd hf
  rw [Option.some.inj eh13, Option.some.inj ez14] at hs
  refine r_putF (v := (.inr (some z11.1))) C hs hin flf_M_22 rfl rfl d_M_ctor_46 hf (fun h15 H locs hf hs => ?_)
  refine lv_aload_n hx hb d_M_ctor_49 rfl (lv_at hl 0 rfl) ?_
  refine lv_sipush (v := 2080) hx hb d_M_ctor_50 (by decide) ?_
  refine r_newa (kd := 0) (NB := 2080) C hs (by decide) rfl (tm (i := 88) (by decide +kernel)) d_M_ctor_53 hf (fun H slots hf hs => ?_)
  obtain ⟨h16, eh16, hf⟩ := bd hf
  obtain ⟨z17, ez17, hf⟩ := bd hf
  rw [Option.some.inj eh16, Option.some.inj ez17] at hs
  refine r_putF (v := (.inr (some z14.1))) C hs hin flf_M_25 rfl rfl d_M_ctor_55 hf (fun h18 H locs hf hs => ?_)
  refine lv_aload_n hx hb d_M_ctor_58 rfl (lv_at hl 0 rfl) ?_
  refine lv_iconst (v := 4) hx hb d_M_ctor_59 (by decide) ?_
  refine r_newa (kd := 0) (NB := 4) C hs (by decide) rfl (tm (i := 88) (by decide +kernel)) d_M_ctor_60 hf (fun H slots hf hs => ?_)
  obtain ⟨h19, eh19, hf⟩ := bd hf
  obtain ⟨z20, ez20, hf⟩ := bd hf
  rw [Option.some.inj eh19, Option.some.inj ez20] at hs
  refine r_putF (v := (.inr (some z17.1))) C hs hin flf_M_28 rfl rfl d_M_ctor_62 hf (fun h21 H locs hf hs => ?_)
  refine lv_aload_n hx hb d_M_ctor_65 rfl (lv_at hl 0 rfl) ?_
  refine lv_iconst (v := 4) hx hb d_M_ctor_66 (by decide) ?_
  refine r_newa (kd := 0) (NB := 4) C hs (by decide) rfl (tm (i := 88) (by decide +kernel)) d_M_ctor_67 hf (fun H slots hf hs => ?_)
  obtain ⟨h22, eh22, hf⟩ := bd hf
  obtain ⟨z23, ez23, hf⟩ := bd hf
  rw [Option.some.inj eh22, Option.some.inj ez23] at hs
  refine r_putF (v := (.inr (some z20.1))) C hs hin flf_M_31 rfl rfl d_M_ctor_69 hf (fun h24 H locs hf hs => ?_)
  refine lv_aload_n hx hb d_M_ctor_72 rfl (lv_at hl 0 rfl) ?_
  refine lv_iconst (v := 4) hx hb d_M_ctor_73 (by decide) ?_
  refine r_newa (kd := 0) (NB := 4) C hs (by decide) rfl (tm (i := 88) (by decide +kernel)) d_M_ctor_74 hf (fun H slots hf hs => ?_)
  obtain ⟨h25, eh25, hf⟩ := bd hf
  obtain ⟨z26, ez26, hf⟩ := bd hf
  rw [Option.some.inj eh25, Option.some.inj ez26] at hs
  refine r_putF (v := (.inr (some z23.1))) C hs hin flf_M_34 rfl rfl d_M_ctor_76 hf (fun h27 H locs hf hs => ?_)
  refine lv_aload_n hx hb d_M_ctor_79 rfl (lv_at hl 0 rfl) ?_
  refine lv_iconst (v := 4) hx hb d_M_ctor_80 (by decide) ?_
  refine r_newa (kd := 0) (NB := 4) C hs (by decide) rfl (tm (i := 88) (by decide +kernel)) d_M_ctor_81 hf (fun H slots hf hs => ?_)
  obtain ⟨h28, eh28, hf⟩ := bd hf
  obtain ⟨z29, ez29, hf⟩ := bd hf
  rw [Option.some.inj eh28, Option.some.inj ez29] at hs
  refine r_putF (v := (.inr (some z26.1))) C hs hin flf_M_37 rfl rfl d_M_ctor_83 hf (fun h30 H locs hf hs => ?_)
  refine lv_aload_n hx hb d_M_ctor_86 rfl (lv_at hl 0 rfl) ?_
  refine lv_iconst (v := 4) hx hb d_M_ctor_87 (by decide) ?_
  refine r_newa (kd := 0) (NB := 4) C hs (by decide) rfl (tm (i := 88) (by decide +kernel)) d_M_ctor_88 hf (fun H slots hf hs => ?_)
  obtain ⟨h31, eh31, hf⟩ := bd hf
  obtain ⟨z32, ez32, hf⟩ := bd hf
  rw [Option.some.inj eh31, Option.some.inj ez32] at hs
  refine r_putF (v := (.inr (some z29.1))) C hs hin flf_M_40 rfl rfl d_M_ctor_90 hf (fun h33 H locs hf hs => ?_)
  refine lv_aload_n hx hb d_M_ctor_93 rfl (lv_at hl 0 rfl) ?_
  refine lv_iconst (v := 4) hx hb d_M_ctor_94 (by decide) ?_
  refine r_newa (kd := 0) (NB := 4) C hs (by decide) rfl (tm (i := 88) (by decide +kernel)) d_M_ctor_95 hf (fun H slots hf hs => ?_)
  obtain ⟨h34, eh34, hf⟩ := bd hf
  obtain ⟨z35, ez35, hf⟩ := bd hf
  rw [Option.some.inj eh34, Option.some.inj ez35] at hs
  refine r_putF (v := (.inr (some z32.1))) C hs hin flf_M_43 rfl rfl d_M_ctor_97 hf (fun h36 H locs hf hs => ?_)
  refine lv_aload_n hx hb d_M_ctor_100 rfl (lv_at hl 0 rfl) ?_
  refine lv_iconst (v := 4) hx hb d_M_ctor_101 (by decide) ?_
  refine r_newa (kd := 0) (NB := 4) C hs (by decide) rfl (tm (i := 88) (by decide +kernel)) d_M_ctor_102 hf (fun H slots hf hs => ?_)
  obtain ⟨h37, eh37, hf⟩ := bd hf
  obtain ⟨z38, ez38, hf⟩ := bd hf
  rw [Option.some.inj eh37, Option.some.inj ez38] at hs
  refine r_putF (v := (.inr (some z35.1))) C hs hin flf_M_46 rfl rfl d_M_ctor_104 hf (fun h39 H locs hf hs => ?_)
  refine lv_aload_n hx hb d_M_ctor_107 rfl (lv_at hl 0 rfl) ?_
  refine lv_iconst (v := 4) hx hb d_M_ctor_108 (by decide) ?_
  refine r_newa (kd := 0) (NB := 4) C hs (by decide) rfl (tm (i := 88) (by decide +kernel)) d_M_ctor_109 hf (fun H slots hf hs => ?_)
  obtain ⟨h40, eh40, hf⟩ := bd hf
  obtain ⟨z41, ez41, hf⟩ := bd hf
  rw [Option.some.inj eh40, Option.some.inj ez41] at hs
  refine r_putF (v := (.inr (some z38.1))) C hs hin flf_M_49 rfl rfl d_M_ctor_111 hf (fun h42 H locs hf hs => ?_)
  refine lv_aload_n hx hb d_M_ctor_114 rfl (lv_at hl 0 rfl) ?_
  refine lv_bipush (v := 32) hx hb d_M_ctor_115 (by decide) ?_
  refine r_newa (kd := 0) (NB := 32) C hs (by decide) rfl (tm (i := 88) (by decide +kernel)) d_M_ctor_117 hf (fun H slots hf hs => ?_)
  obtain ⟨h43, eh43, hf⟩ := bd hf
  obtain ⟨z44, ez44, hf⟩ := bd hf
  rw [Option.some.inj eh43, Option.some.inj ez44] at hs
  refine r_putF (v := (.inr (some z41.1))) C hs hin flf_M_52 rfl rfl d_M_ctor_119 hf (fun h45 H locs hf hs => ?_)
  refine lv_aload_n hx hb d_M_ctor_122 rfl (lv_at hl 0 rfl) ?_
  refine lv_iconst (v := 2) hx hb d_M_ctor_123 (by decide) ?_
  refine r_newa (kd := 0) (NB := 2) C hs (by decide) rfl (tm (i := 88) (by decide +kernel)) d_M_ctor_124 hf (fun H slots hf hs => ?_)
  obtain ⟨h46, eh46, hf⟩ := bd hf
  obtain ⟨z47, ez47, hf⟩ := bd hf
  rw [Option.some.inj eh46, Option.some.inj ez47] at hs
  refine r_putF (v := (.inr (some z44.1))) C hs hin flf_M_55 rfl rfl d_M_ctor_126 hf (fun h48 H locs hf hs => ?_)
  refine lv_aload_n hx hb d_M_ctor_129 rfl (lv_at hl 0 rfl) ?_
  refine lv_bipush (v := 8) hx hb d_M_ctor_130 (by decide) ?_
  refine r_newa (kd := 1) (NB := 8) C hs (by decide) rfl (tm (i := 151) (by decide +kernel)) d_M_ctor_132 hf (fun H slots hf hs => ?_)
  obtain ⟨h49, eh49, hf⟩ := bd hf
  obtain ⟨z50, ez50, hf⟩ := bd hf
  rw [Option.some.inj eh49, Option.some.inj ez50] at hs
  refine r_putF (v := (.inr (some z47.1))) C hs hin flf_M_58 rfl rfl d_M_ctor_134 hf (fun h51 H locs hf hs => ?_)
  refine lv_aload_n hx hb d_M_ctor_137 rfl (lv_at hl 0 rfl) ?_
  refine lv_bipush (v := 8) hx hb d_M_ctor_138 (by decide) ?_
  refine r_newa (kd := 0) (NB := 8) C hs (by decide) rfl (tm (i := 88) (by decide +kernel)) d_M_ctor_140 hf (fun H slots hf hs => ?_)
  obtain ⟨h52, eh52, hf⟩ := bd hf
  obtain ⟨z53, ez53, hf⟩ := bd hf
  rw [Option.some.inj eh52, Option.some.inj ez53] at hs
  refine r_putF (v := (.inr (some z50.1))) C hs hin flf_M_62 rfl rfl d_M_ctor_142 hf (fun h54 H locs hf hs => ?_)
  refine lv_aload_n hx hb d_M_ctor_145 rfl (lv_at hl 0 rfl) ?_
  refine lv_bipush (v := 8) hx hb d_M_ctor_146 (by decide) ?_
  refine r_newa (kd := 0) (NB := 8) C hs (by decide) rfl (tm (i := 88) (by decide +kernel)) d_M_ctor_148 hf (fun H slots hf hs => ?_)
  obtain ⟨h55, eh55, hf⟩ := bd hf
  obtain ⟨z56, ez56, hf⟩ := bd hf
  rw [Option.some.inj eh55, Option.some.inj ez56] at hs
  refine r_putF (v := (.inr (some z53.1))) C hs hin flf_M_65 rfl rfl d_M_ctor_150 hf (fun h57 H locs hf hs => ?_)
  refine lv_aload_n hx hb d_M_ctor_153 rfl (lv_at hl 0 rfl) ?_
  refine lv_bipush (v := 8) hx hb d_M_ctor_154 (by decide) ?_
  refine r_newa (kd := 0) (NB := 8) C hs (by decide) rfl (tm (i := 88) (by decide +kernel)) d_M_ctor_156 hf (fun H slots hf hs => ?_)
  obtain ⟨h58, eh58, hf⟩ := bd hf
  obtain ⟨z59, ez59, hf⟩ := bd hf
  rw [Option.some.inj eh58, Option.some.inj ez59] at hs
  refine r_putF (v := (.inr (some z56.1))) C hs hin flf_M_68 rfl rfl d_M_ctor_158 hf (fun h60 H locs hf hs => ?_)
  refine lv_iconst (v := 0) hx hb d_M_ctor_161 (by decide) ?_
  refine lv_istore_n (lv' := [(1, .int 0), (0, .ref x0)]) hx hb d_M_ctor_162 rfl hl (by decide) rfl (fun ls hl => ?_)
  exact t_M_ctor_L163 hl0 C hr hex FU _ _ _ _ hf _ _ _ _ _ hs (lv_sub hl [1, 0] rfl)
def f_M_thrown (bs sE : Nat) (h : HH) (z : Z3) (x0 : Nat) : Option RS :=
  (gI h x0 6 0).bind fun v1 =>
  some (.inl (some (.int v1)), h, z)
set_option maxHeartbeats 4000000 in
set_option maxRecDepth 100000 in
theorem c_M_thrown {G : EN} {l : Launch} (hl0 : l.stackTraces = false) {h : HH} {z : Z3} {x0 : Nat} {r : RS} (hf : f_M_thrown G.2.2.1 G.2.2.2 h z x0 = some r) : CM G l y_M_thrown (.code y_M_thrown b_M_thrown 1 (some .int)) 0 0 [.ref x0] h z r := by
  refine CM.ofW hl0 rfl ?_
  intro p e s m below meth c C hr hex hin hs
  have hx := C.1
  have hb := C.2.1
  refine x_entry (n := 1) (Nat.le_of_ble_eq_true rfl) (fun ls hl => ?_)
  have hl : lv_has ls 1 [(0, .ref x0)] := hl
  unfold f_M_thrown at hf
  refine lv_aload_n hx hb d_M_thrown_0 rfl (lv_at hl 0 rfl) ?_
  refine r_getI C hs fl_M_71 d_M_thrown_1 hf (fun v1 hf => ?_)
  exact r_ireturn C hs hr d_M_thrown_4 hf
def f_M_out (bs sE : Nat) (h : HH) (z : Z3) (x0 : Nat) (x1 : Int32) (x2 : Int32) : Option RS :=
  if x1 < 0 then
    ((bz 1).bind fun _ =>
    some (.inl (some (.int 1)), h, z))
  else
    (if x1 < x2 then
      ((bz 0).bind fun _ =>
      some (.inl (some (.int 0)), h, z))
    else
      ((bz 1).bind fun _ =>
      some (.inl (some (.int 1)), h, z)))
set_option maxHeartbeats 4000000 in
set_option maxRecDepth 100000 in
theorem c_M_out {G : EN} {l : Launch} (hl0 : l.stackTraces = false) {h : HH} {z : Z3} {x0 : Nat} {x1 : Int32} {x2 : Int32} {r : RS} (hf : f_M_out G.2.2.1 G.2.2.2 h z x0 x1 x2 = some r) : CM G l y_M_out (.code y_M_out b_M_out 3 (some .boolean)) 0 0 [.ref x0, .int x1, .int x2] h z r := by
  refine CM.ofW hl0 rfl ?_
  intro p e s m below meth c C hr hex hin hs
  have hx := C.1
  have hb := C.2.1
  refine x_entry (n := 3) (Nat.le_of_ble_eq_true rfl) (fun ls hl => ?_)
  have hl : lv_has ls 3 [(0, .ref x0), (1, .int x1), (2, .int x2)] := hl
  unfold f_M_out at hf
  refine lv_iload_n hx hb d_M_out_0 rfl (lv_at hl 1 rfl) ?_
  refine lv_if_lt (tgt := 9) hx hb d_M_out_1 (by decide) (fun q1 => ?_) (fun q1 => ?_)
  · have hf := ifp q1 hf
    refine lv_iconst (v := 1) hx hb d_M_out_9 (by decide) ?_
    refine lv_goto (tgt := 14) hx hb d_M_out_10 (by decide) ?_
    exact r_zreturn C hs hr d_M_out_14 hf
  · have hf := ifn q1 hf
    refine lv_iload_n hx hb d_M_out_4 rfl (lv_at hl 1 rfl) ?_
    refine lv_iload_n hx hb d_M_out_5 rfl (lv_at hl 2 rfl) ?_
    refine lv_icmp_lt (tgt := 13) hx hb d_M_out_6 (by decide) (fun q2 => ?_) (fun q2 => ?_)
    · have hf := ifp q2 hf
      refine lv_iconst (v := 0) hx hb d_M_out_13 (by decide) ?_
      exact r_zreturn C hs hr d_M_out_14 hf
    · have hf := ifn q2 hf
      refine lv_iconst (v := 1) hx hb d_M_out_9 (by decide) ?_
      refine lv_goto (tgt := 14) hx hb d_M_out_10 (by decide) ?_
      exact r_zreturn C hs hr d_M_out_14 hf
def f_M_fail (bs sE : Nat) (h : HH) (z : Z3) (x0 : Nat) (x1 : Int32) : Option RS :=
  (pV bs h x0 6 0 (.inl x1)).bind fun h1 =>
  some (.inl (some (.int 0)), h1, z)
set_option maxHeartbeats 4000000 in
set_option maxRecDepth 100000 in
theorem c_M_fail {G : EN} {l : Launch} (hl0 : l.stackTraces = false) {h : HH} {z : Z3} {x0 : Nat} {x1 : Int32} {r : RS} (hf : f_M_fail G.2.2.1 G.2.2.2 h z x0 x1 = some r) : CM G l y_M_fail (.code y_M_fail b_M_fail 2 (some .int)) 0 0 [.ref x0, .int x1] h z r := by
  refine CM.ofW hl0 rfl ?_
  intro p e s m below meth c C hr hex hin hs
  have hx := C.1
  have hb := C.2.1
  refine x_entry (n := 2) (Nat.le_of_ble_eq_true rfl) (fun ls hl => ?_)
  have hl : lv_has ls 2 [(0, .ref x0), (1, .int x1)] := hl
  unfold f_M_fail at hf
  refine lv_aload_n hx hb d_M_fail_0 rfl (lv_at hl 0 rfl) ?_
  refine lv_iload_n hx hb d_M_fail_1 rfl (lv_at hl 1 rfl) ?_
  refine r_putV (v := (.inl x1)) C hs flp_M_71 rfl rfl d_M_fail_2 hf (fun h1 H locs hf hs => ?_)
  refine lv_iconst (v := 0) hx hb d_M_fail_5 (by decide) ?_
  exact r_ireturn C hs hr d_M_fail_6 hf
def f_M_abort (bs sE : Nat) (h : HH) (z : Z3) (x0 : Nat) (x1 : Int32) : Option RS :=
  (gR h x0 6 11).bind fun v1 =>
  (aI h v1 0 x1).bind fun v2 =>
  (aIs bs h v1 0 x1 (v2 + 1)).bind fun h3 =>
  (gR h3 x0 6 10).bind fun v4 =>
  (aIs bs h3 v4 0 x1 3).bind fun h5 =>
  some (.inl none, h5, z)
set_option maxHeartbeats 4000000 in
set_option maxRecDepth 100000 in
theorem c_M_abort {G : EN} {l : Launch} (hl0 : l.stackTraces = false) {h : HH} {z : Z3} {x0 : Nat} {x1 : Int32} {r : RS} (hf : f_M_abort G.2.2.1 G.2.2.2 h z x0 x1 = some r) : CM G l y_M_abort (.code y_M_abort b_M_abort 2 none) 0 0 [.ref x0, .int x1] h z r := by
  refine CM.ofW hl0 rfl ?_
  intro p e s m below meth c C hr hex hin hs
  have hx := C.1
  have hb := C.2.1
  refine x_entry (n := 2) (Nat.le_of_ble_eq_true rfl) (fun ls hl => ?_)
  have hl : lv_has ls 2 [(0, .ref x0), (1, .int x1)] := hl
  unfold f_M_abort at hf
  refine lv_aload_n hx hb d_M_abort_0 rfl (lv_at hl 0 rfl) ?_
  refine r_getR C hs fl_M_40 d_M_abort_1 hf (fun v1 hf => ?_)
  refine lv_iload_n hx hb d_M_abort_4 rfl (lv_at hl 1 rfl) ?_
  refine lv_dup2_11 hx hb d_M_abort_5 rfl rfl ?_
  refine r_iald C hs d_M_abort_6 hf (fun v2 hf => ?_)
  refine lv_iconst (v := 1) hx hb d_M_abort_7 (by decide) ?_
  refine lv_iadd hx hb d_M_abort_8 ?_
  refine r_iast C hs d_M_abort_9 hf (fun h3 H locs hf hs => ?_)
  refine lv_aload_n hx hb d_M_abort_10 rfl (lv_at hl 0 rfl) ?_
  refine r_getR C hs fl_M_37 d_M_abort_11 hf (fun v4 hf => ?_)
  refine lv_iload_n hx hb d_M_abort_14 rfl (lv_at hl 1 rfl) ?_
  refine lv_iconst (v := 3) hx hb d_M_abort_15 (by decide) ?_
  refine r_iast C hs d_M_abort_16 hf (fun h5 H locs hf hs => ?_)
  exact r_vreturn C hs hr d_M_abort_17 hf
def f_M_init_B74 (bs sE : Nat) (h : HH) (z : Z3) (x0 : Nat) (x1 : Int32) (w0 : Int32) (w1 : Int32) (w2 : Nat) : Option RS :=
  (aIs bs h w2 0 w1 w0).bind fun h21 =>
  (gR h21 x0 6 10).bind fun v22 =>
  (aIs bs h21 v22 0 x1 0).bind fun h23 =>
  (gR h23 x0 6 11).bind fun v24 =>
  (aI h23 v24 0 x1).bind fun v25 =>
  some (.inl (some (.int v25)), h23, z)
set_option maxHeartbeats 4000000 in
set_option maxRecDepth 100000 in
theorem t_M_init_B74 {G : EN} {p : Program} {l : Launch} {e : Env} {s : State} {m : MethodId} {args : Array Value} {below : List Frame} {meth : Method} {c : Code} {z0 : Z3} (hl0 : l.stackTraces = false) (C : CX G p l s m meth c b_M_init 2 y_M_init.cls) (hr : meth.sig.returnType = (some .int)) (hex : c.exceptionTable.toList = []) {r : RS} :
    ∀ (h : HH) (z : Z3) (x0 : Nat) (x1 : Int32) (w0 : Int32) (w1 : Int32) (w2 : Nat), f_M_init_B74 G.2.2.1 G.2.2.2 h z x0 x1 w0 w1 w2 = some r → ∀ (H : Heap) (locs : List Loc) (cells slots : Nat) (ls : Array Slot), ST G (RM 1 22 z0) s h z H locs cells slots → lv_has ls 2 [(0, .ref x0), (1, .int x1)] → W p l e (RM 1 22 z0) s m args below meth c H locs cells slots (MX G below s r (RM 1 22 z0).cells (RM 1 22 z0).slots) (F0 m 74 ls [.int w0, .int w1, .ref w2]) := by
  have hx := C.1
  have hb := C.2.1
  intro h z x0 x1 w0 w1 w2 hf H locs cells slots ls hs hl
  unfold f_M_init_B74 at hf
  refine r_iast C hs d_M_init_74 hf (fun h21 H locs hf hs => ?_)
  refine lv_aload_n hx hb d_M_init_75 rfl (lv_at hl 0 rfl) ?_
  refine r_getR C hs fl_M_37 d_M_init_76 hf (fun v22 hf => ?_)
  refine lv_iload_n hx hb d_M_init_79 rfl (lv_at hl 1 rfl) ?_
  refine lv_iconst (v := 0) hx hb d_M_init_80 (by decide) ?_
  refine r_iast C hs d_M_init_81 hf (fun h23 H locs hf hs => ?_)
  refine lv_aload_n hx hb d_M_init_82 rfl (lv_at hl 0 rfl) ?_
  refine r_getR C hs fl_M_40 d_M_init_83 hf (fun v24 hf => ?_)
  refine lv_iload_n hx hb d_M_init_86 rfl (lv_at hl 1 rfl) ?_
  refine r_iald C hs d_M_init_87 hf (fun v25 hf => ?_)
  exact r_ireturn C hs hr d_M_init_88 hf
def f_M_init (bs sE : Nat) (h : HH) (z : Z3) (x0 : Nat) (x1 : Int32) : Option RS :=
  (pV bs h x0 6 0 (.inl 0)).bind fun h1 =>
  (oK h1 x0 6).bind fun _ =>
  cI (f_M_out bs sE h1 z x0 x1 4) fun v4 h2 z3 =>
  if v4 = 0 then
    ((gR h2 x0 6 10).bind fun v6 =>
    (aI h2 v6 0 x1).bind fun v7 =>
    if v7 = 1 then
      ((oK h2 x0 6).bind fun _ =>
      cV (f_M_abort bs sE h2 z3 x0 x1) fun h26 z27 =>
      (oK h26 x0 6).bind fun _ =>
      cI (f_M_fail bs sE h26 z27 x0 2) fun v31 h29 z30 =>
      some (.inl (some (.int v31)), h29, z30))
    else
      ((gR h2 x0 6 10).bind fun v9 =>
      (aI h2 v9 0 x1).bind fun v10 =>
      if 1 ≤ v10 then
        ((oK h2 x0 6).bind fun _ =>
        cI (f_M_fail bs sE h2 z3 x0 2) fun v14 h12 z13 =>
        some (.inl (some (.int v14)), h12, z13))
      else
        ((gR h2 x0 6 11).bind fun v15 =>
        (gR h2 x0 6 10).bind fun v16 =>
        (aI h2 v16 0 x1).bind fun v17 =>
        if 0 ≤ v17 then
          ((gR h2 x0 6 11).bind fun v19 =>
          (aI h2 v19 0 x1).bind fun v20 =>
          f_M_init_B74 bs sE h2 z3 x0 x1 (v20 + 1) x1 v15)
        else
          (f_M_init_B74 bs sE h2 z3 x0 x1 0 x1 v15))))
  else
    ((oK h2 x0 6).bind fun _ =>
    cI (f_M_fail bs sE h2 z3 x0 1) fun v34 h32 z33 =>
    some (.inl (some (.int v34)), h32, z33))
set_option maxHeartbeats 4000000 in
set_option maxRecDepth 100000 in
theorem c_M_init {G : EN} {l : Launch} (hl0 : l.stackTraces = false) {h : HH} {z : Z3} {x0 : Nat} {x1 : Int32} {r : RS} (hf : f_M_init G.2.2.1 G.2.2.2 h z x0 x1 = some r) : CM G l y_M_init (.code y_M_init b_M_init 2 (some .int)) 1 22 [.ref x0, .int x1] h z r := by
  refine CM.ofW hl0 rfl ?_
  intro p e s m below meth c C hr hex hin hs
  have hx := C.1
  have hb := C.2.1
  refine x_entry (n := 2) (Nat.le_of_ble_eq_true rfl) (fun ls hl => ?_)
  have hl : lv_has ls 2 [(0, .ref x0), (1, .int x1)] := hl
  unfold f_M_init at hf
  refine lv_aload_n hx hb d_M_init_0 rfl (lv_at hl 0 rfl) ?_
  refine lv_iconst (v := 0) hx hb d_M_init_1 (by decide) ?_
  refine r_putV (v := (.inl 0)) C hs flp_M_71 rfl rfl d_M_init_2 hf (fun h1 H locs hf hs => ?_)
  refine lv_aload_n hx hb d_M_init_5 rfl (lv_at hl 0 rfl) ?_
  refine lv_iload_n hx hb d_M_init_6 rfl (lv_at hl 1 rfl) ?_
  refine lv_iconst (v := 4) hx hb d_M_init_7 (by decide) ?_
  obtain ⟨_, ho, hf⟩ := bd hf
  refine k_I C hs hex hf (fun res e1 => iv_V (b := x0) (As := [.int x1, .int 4]) (rest := []) C hs cv_M_83 (c_M_out hl0 e1) (ci := 6) rfl rfl ho rfl hl.1 rfl (Nat.le_of_ble_eq_true rfl) d_M_init_8 ⟨Nat.le_of_ble_eq_true rfl, Nat.le_of_ble_eq_true rfl⟩) (fun v4 h2 z3 H locs cells slots hf hs => ?_)
  refine lv_if_eq (tgt := 20) hx hb d_M_init_11 (by decide) (fun q5 => ?_) (fun q5 => ?_)
  · have hf := ifp q5 hf
    refine lv_aload_n hx hb d_M_init_20 rfl (lv_at hl 0 rfl) ?_
    refine r_getR C hs fl_M_37 d_M_init_21 hf (fun v6 hf => ?_)
    refine lv_iload_n hx hb d_M_init_24 rfl (lv_at hl 1 rfl) ?_
    refine r_iald C hs d_M_init_25 hf (fun v7 hf => ?_)
    refine lv_iconst (v := 1) hx hb d_M_init_26 (by decide) ?_
    refine lv_icmp_ne (tgt := 38) hx hb d_M_init_27 (by decide) (fun q8 => ?_) (fun q8 => ?_)
    · have hf := ifn q8 hf
      refine lv_aload_n hx hb d_M_init_38 rfl (lv_at hl 0 rfl) ?_
      refine r_getR C hs fl_M_37 d_M_init_39 hf (fun v9 hf => ?_)
      refine lv_iload_n hx hb d_M_init_42 rfl (lv_at hl 1 rfl) ?_
      refine r_iald C hs d_M_init_43 hf (fun v10 hf => ?_)
      refine lv_iconst (v := 1) hx hb d_M_init_44 (by decide) ?_
      refine lv_icmp_ge (tgt := 89) hx hb d_M_init_45 (by decide) (fun q11 => ?_) (fun q11 => ?_)
      · have hf := ifp q11 hf
        refine lv_aload_n hx hb d_M_init_89 rfl (lv_at hl 0 rfl) ?_
        refine lv_iconst (v := 2) hx hb d_M_init_90 (by decide) ?_
        obtain ⟨_, ho, hf⟩ := bd hf
        refine k_I C hs hex hf (fun res e1 => iv_V (b := x0) (As := [.int 2]) (rest := []) C hs cv_M_86 (c_M_fail hl0 e1) (ci := 6) rfl rfl ho rfl hl.1 rfl (Nat.le_of_ble_eq_true rfl) d_M_init_91 ⟨Nat.le_of_ble_eq_true rfl, Nat.le_of_ble_eq_true rfl⟩) (fun v14 h12 z13 H locs cells slots hf hs => ?_)
        exact r_ireturn C hs hr d_M_init_94 hf
      · have hf := ifn q11 hf
        refine lv_aload_n hx hb d_M_init_48 rfl (lv_at hl 0 rfl) ?_
        refine r_getR C hs fl_M_40 d_M_init_49 hf (fun v15 hf => ?_)
        refine lv_iload_n hx hb d_M_init_52 rfl (lv_at hl 1 rfl) ?_
        refine lv_aload_n hx hb d_M_init_53 rfl (lv_at hl 0 rfl) ?_
        refine r_getR C hs fl_M_37 d_M_init_54 hf (fun v16 hf => ?_)
        refine lv_iload_n hx hb d_M_init_57 rfl (lv_at hl 1 rfl) ?_
        refine r_iald C hs d_M_init_58 hf (fun v17 hf => ?_)
        refine lv_if_ge (tgt := 66) hx hb d_M_init_59 (by decide) (fun q18 => ?_) (fun q18 => ?_)
        · have hf := ifp q18 hf
          refine lv_aload_n hx hb d_M_init_66 rfl (lv_at hl 0 rfl) ?_
          refine r_getR C hs fl_M_40 d_M_init_67 hf (fun v19 hf => ?_)
          refine lv_iload_n hx hb d_M_init_70 rfl (lv_at hl 1 rfl) ?_
          refine r_iald C hs d_M_init_71 hf (fun v20 hf => ?_)
          refine lv_iconst (v := 1) hx hb d_M_init_72 (by decide) ?_
          refine lv_iadd hx hb d_M_init_73 ?_
          exact t_M_init_B74 hl0 C hr hex _ _ _ _ _ _ _ hf _ _ _ _ _ hs (lv_sub hl [0, 1] rfl)
        · have hf := ifn q18 hf
          refine lv_iconst (v := 0) hx hb d_M_init_62 (by decide) ?_
          refine lv_goto (tgt := 74) hx hb d_M_init_63 (by decide) ?_
          exact t_M_init_B74 hl0 C hr hex _ _ _ _ _ _ _ hf _ _ _ _ _ hs (lv_sub hl [0, 1] rfl)
    · have hf := ifp q8 hf
      refine lv_aload_n hx hb d_M_init_30 rfl (lv_at hl 0 rfl) ?_
      refine lv_iload_n hx hb d_M_init_31 rfl (lv_at hl 1 rfl) ?_
      obtain ⟨_, ho, hf⟩ := bd hf
      refine k_V C hs hex hf (fun res e1 => iv_V (b := x0) (As := [.int x1]) (rest := []) C hs cv_M_90 (c_M_abort hl0 e1) (ci := 6) rfl rfl ho rfl hl.1 rfl (Nat.le_of_ble_eq_true rfl) d_M_init_32 ⟨Nat.le_of_ble_eq_true rfl, Nat.le_of_ble_eq_true rfl⟩) (fun h26 z27 H locs cells slots hf hs => ?_)
      refine lv_goto (tgt := 89) hx hb d_M_init_35 (by decide) ?_
      refine lv_aload_n hx hb d_M_init_89 rfl (lv_at hl 0 rfl) ?_
      refine lv_iconst (v := 2) hx hb d_M_init_90 (by decide) ?_
      obtain ⟨_, ho, hf⟩ := bd hf
      refine k_I C hs hex hf (fun res e1 => iv_V (b := x0) (As := [.int 2]) (rest := []) C hs cv_M_86 (c_M_fail hl0 e1) (ci := 6) rfl rfl ho rfl hl.1 rfl (Nat.le_of_ble_eq_true rfl) d_M_init_91 ⟨Nat.le_of_ble_eq_true rfl, Nat.le_of_ble_eq_true rfl⟩) (fun v31 h29 z30 H locs cells slots hf hs => ?_)
      exact r_ireturn C hs hr d_M_init_94 hf
  · have hf := ifn q5 hf
    refine lv_aload_n hx hb d_M_init_14 rfl (lv_at hl 0 rfl) ?_
    refine lv_iconst (v := 1) hx hb d_M_init_15 (by decide) ?_
    obtain ⟨_, ho, hf⟩ := bd hf
    refine k_I C hs hex hf (fun res e1 => iv_V (b := x0) (As := [.int 1]) (rest := []) C hs cv_M_86 (c_M_fail hl0 e1) (ci := 6) rfl rfl ho rfl hl.1 rfl (Nat.le_of_ble_eq_true rfl) d_M_init_16 ⟨Nat.le_of_ble_eq_true rfl, Nat.le_of_ble_eq_true rfl⟩) (fun v34 h32 z33 H locs cells slots hf hs => ?_)
    exact r_ireturn C hs hr d_M_init_19 hf
def f_M_check (bs sE : Nat) (h : HH) (z : Z3) (x0 : Nat) (x1 : Int32) (x2 : Int32) (x3 : Int32) : Option RS :=
  (gR h x0 6 10).bind fun v1 =>
  (aI h v1 0 x1).bind fun v2 =>
  if 0 ≤ v2 then
    ((gR h x0 6 11).bind fun v4 =>
    (aI h v4 0 x1).bind fun v5 =>
    if x2 = v5 then
      ((gR h x0 6 10).bind fun v7 =>
      (aI h v7 0 x1).bind fun v8 =>
      if v8 = x3 then
        (some (.inl (some (.int 0)), h, z))
      else
        (some (.inl (some (.int 3)), h, z)))
    else
      (some (.inl (some (.int 3)), h, z)))
  else
    (some (.inl (some (.int 2)), h, z))
set_option maxHeartbeats 4000000 in
set_option maxRecDepth 100000 in
theorem c_M_check {G : EN} {l : Launch} (hl0 : l.stackTraces = false) {h : HH} {z : Z3} {x0 : Nat} {x1 : Int32} {x2 : Int32} {x3 : Int32} {r : RS} (hf : f_M_check G.2.2.1 G.2.2.2 h z x0 x1 x2 x3 = some r) : CM G l y_M_check (.code y_M_check b_M_check 4 (some .int)) 0 0 [.ref x0, .int x1, .int x2, .int x3] h z r := by
  refine CM.ofW hl0 rfl ?_
  intro p e s m below meth c C hr hex hin hs
  have hx := C.1
  have hb := C.2.1
  refine x_entry (n := 4) (Nat.le_of_ble_eq_true rfl) (fun ls hl => ?_)
  have hl : lv_has ls 4 [(0, .ref x0), (1, .int x1), (2, .int x2), (3, .int x3)] := hl
  unfold f_M_check at hf
  refine lv_aload_n hx hb d_M_check_0 rfl (lv_at hl 0 rfl) ?_
  refine r_getR C hs fl_M_37 d_M_check_1 hf (fun v1 hf => ?_)
  refine lv_iload_n hx hb d_M_check_4 rfl (lv_at hl 1 rfl) ?_
  refine r_iald C hs d_M_check_5 hf (fun v2 hf => ?_)
  refine lv_if_ge (tgt := 11) hx hb d_M_check_6 (by decide) (fun q3 => ?_) (fun q3 => ?_)
  · have hf := ifp q3 hf
    refine lv_iload_n hx hb d_M_check_11 rfl (lv_at hl 2 rfl) ?_
    refine lv_aload_n hx hb d_M_check_12 rfl (lv_at hl 0 rfl) ?_
    refine r_getR C hs fl_M_40 d_M_check_13 hf (fun v4 hf => ?_)
    refine lv_iload_n hx hb d_M_check_16 rfl (lv_at hl 1 rfl) ?_
    refine r_iald C hs d_M_check_17 hf (fun v5 hf => ?_)
    refine lv_icmp_ne (tgt := 31) hx hb d_M_check_18 (by decide) (fun q6 => ?_) (fun q6 => ?_)
    · have hf := ifn q6 hf
      refine lv_iconst (v := 3) hx hb d_M_check_31 (by decide) ?_
      refine lv_goto (tgt := 36) hx hb d_M_check_32 (by decide) ?_
      exact r_ireturn C hs hr d_M_check_36 hf
    · have hf := ifp q6 hf
      refine lv_aload_n hx hb d_M_check_21 rfl (lv_at hl 0 rfl) ?_
      refine r_getR C hs fl_M_37 d_M_check_22 hf (fun v7 hf => ?_)
      refine lv_iload_n hx hb d_M_check_25 rfl (lv_at hl 1 rfl) ?_
      refine r_iald C hs d_M_check_26 hf (fun v8 hf => ?_)
      refine lv_iload_n hx hb d_M_check_27 rfl (lv_at hl 3 rfl) ?_
      refine lv_icmp_eq (tgt := 35) hx hb d_M_check_28 (by decide) (fun q9 => ?_) (fun q9 => ?_)
      · have hf := ifp q9 hf
        refine lv_iconst (v := 0) hx hb d_M_check_35 (by decide) ?_
        exact r_ireturn C hs hr d_M_check_36 hf
      · have hf := ifn q9 hf
        refine lv_iconst (v := 3) hx hb d_M_check_31 (by decide) ?_
        refine lv_goto (tgt := 36) hx hb d_M_check_32 (by decide) ?_
        exact r_ireturn C hs hr d_M_check_36 hf
  · have hf := ifn q3 hf
    refine lv_iconst (v := 2) hx hb d_M_check_9 (by decide) ?_
    exact r_ireturn C hs hr d_M_check_10 hf
def fb_M_begin_L94 (bs sE : Nat) (REC : HH → Z3 → Nat → Int32 → Int32 → Option RS) (h : HH) (z : Z3) (x0 : Nat) (x1 : Int32) (x3 : Int32) : Option RS :=
  if 8 ≤ x3 then
    ((gI h x0 6 16).bind fun v26 =>
    some (.inl (some (.int v26)), h, z))
  else
    ((gR h x0 6 15).bind fun v27 =>
    (aIs bs h v27 0 ((8 * x1) + x3) (-1)).bind fun h28 =>
    REC h28 z x0 x1 (x3 + 1))
def f_M_begin_L94 (bs sE : Nat) : Nat → HH → Z3 → Nat → Int32 → Int32 → Option RS
  | 0 => fun _ _ _ _ _ => none
  | n + 1 => fb_M_begin_L94 bs sE (f_M_begin_L94 bs sE n)
set_option maxHeartbeats 4000000 in
set_option maxRecDepth 100000 in
theorem t_M_begin_L94 {G : EN} {p : Program} {l : Launch} {e : Env} {s : State} {m : MethodId} {args : Array Value} {below : List Frame} {meth : Method} {c : Code} {z0 : Z3} (hl0 : l.stackTraces = false) (C : CX G p l s m meth c b_M_begin 4 y_M_begin.cls) (hr : meth.sig.returnType = (some .int)) (hex : c.exceptionTable.toList = []) {r : RS} :
    ∀ (n : Nat) (h : HH) (z : Z3) (x0 : Nat) (x1 : Int32) (x3 : Int32), f_M_begin_L94 G.2.2.1 G.2.2.2 n h z x0 x1 x3 = some r → ∀ (H : Heap) (locs : List Loc) (cells slots : Nat) (ls : Array Slot), ST G (RM 1 23 z0) s h z H locs cells slots → lv_has ls 4 [(0, .ref x0), (1, .int x1), (3, .int x3)] → W p l e (RM 1 23 z0) s m args below meth c H locs cells slots (MX G below s r (RM 1 23 z0).cells (RM 1 23 z0).slots) (F0 m 94 ls []) := by
  have hx := C.1
  have hb := C.2.1
  intro n
  induction n with
  | zero => intro h z x0 x1 x3 hf; exact nomatch (show (none : Option RS) = some r from hf)
  | succ n ih =>
    intro h z x0 x1 x3 hf H locs cells slots ls hs hl
    have hf : fb_M_begin_L94 G.2.2.1 G.2.2.2 (f_M_begin_L94 G.2.2.1 G.2.2.2 n) h z x0 x1 x3 = some r := hf
    unfold fb_M_begin_L94 at hf
    refine lv_iload_n hx hb d_M_begin_94 rfl (lv_at hl 2 rfl) ?_
    refine lv_bipush (v := 8) hx hb d_M_begin_95 (by decide) ?_
    refine lv_icmp_ge (tgt := 118) hx hb d_M_begin_97 (by decide) (fun q25 => ?_) (fun q25 => ?_)
    · have hf := ifp q25 hf
      refine lv_aload_n hx hb d_M_begin_118 rfl (lv_at hl 0 rfl) ?_
      refine r_getI C hs fl_M_98 d_M_begin_119 hf (fun v26 hf => ?_)
      exact r_ireturn C hs hr d_M_begin_122 hf
    · have hf := ifn q25 hf
      refine lv_aload_n hx hb d_M_begin_100 rfl (lv_at hl 0 rfl) ?_
      refine r_getR C hs fl_M_52 d_M_begin_101 hf (fun v27 hf => ?_)
      refine lv_bipush (v := 8) hx hb d_M_begin_104 (by decide) ?_
      refine lv_iload_n hx hb d_M_begin_106 rfl (lv_at hl 1 rfl) ?_
      refine lv_imul hx hb d_M_begin_107 ?_
      refine lv_iload_n hx hb d_M_begin_108 rfl (lv_at hl 2 rfl) ?_
      refine lv_iadd hx hb d_M_begin_109 ?_
      refine lv_iconst (v := (-1)) hx hb d_M_begin_110 (by decide) ?_
      refine r_iast C hs d_M_begin_111 hf (fun h28 H locs hf hs => ?_)
      refine lv_iinc (v := x3 + 1) (lv' := [(3, .int (x3 + 1)), (0, .ref x0), (1, .int x1)]) hx hb d_M_begin_112 hl (k := 2) rfl rfl (by decide) rfl (fun ls hl => ?_)
      refine lv_goto (tgt := 94) hx hb d_M_begin_115 (by decide) ?_
      exact ih _ _ _ _ _ hf _ _ _ _ _ hs (lv_sub hl [1, 2, 0] rfl)
def f_M_begin_B21 (bs sE : Nat) (h : HH) (z : Z3) (x0 : Nat) (x1 : Int32) (w0 : Int32) (w1 : Nat) : Option RS :=
  (pV bs h w1 6 0 (.inl w0)).bind fun h8 =>
  (gI h8 x0 6 0).bind fun v9 =>
  if v9 ≤ 0 then
    ((gI h8 x0 6 16).bind fun v11 =>
    if v11 = 40 then
      ((oK h8 x0 6).bind fun _ =>
      cI (f_M_fail bs sE h8 z x0 3) fun v31 h29 z30 =>
      some (.inl (some (.int v31)), h29, z30))
    else
      ((gI h8 x0 6 16).bind fun v13 =>
      (pV bs h8 x0 6 16 (.inl (v13 + 1))).bind fun h14 =>
      (gR h14 x0 6 10).bind fun v15 =>
      (aIs bs h14 v15 0 x1 1).bind fun h16 =>
      (gR h16 x0 6 12).bind fun v17 =>
      (gI h16 x0 6 16).bind fun v18 =>
      (aIs bs h16 v17 0 x1 v18).bind fun h19 =>
      (gR h19 x0 6 13).bind fun v20 =>
      (aIs bs h19 v20 0 x1 0).bind fun h21 =>
      (gR h21 x0 6 14).bind fun v22 =>
      (gI h21 x0 6 22).bind fun v23 =>
      (aIs bs h21 v22 0 x1 v23).bind fun h24 =>
      f_M_begin_L94 bs sE FU h24 z x0 x1 0))
  else
    (some (.inl (some (.int 0)), h8, z))
set_option maxHeartbeats 4000000 in
set_option maxRecDepth 100000 in
theorem t_M_begin_B21 {G : EN} {p : Program} {l : Launch} {e : Env} {s : State} {m : MethodId} {args : Array Value} {below : List Frame} {meth : Method} {c : Code} {z0 : Z3} (hl0 : l.stackTraces = false) (C : CX G p l s m meth c b_M_begin 4 y_M_begin.cls) (hr : meth.sig.returnType = (some .int)) (hex : c.exceptionTable.toList = []) {r : RS} :
    ∀ (h : HH) (z : Z3) (x0 : Nat) (x1 : Int32) (w0 : Int32) (w1 : Nat), f_M_begin_B21 G.2.2.1 G.2.2.2 h z x0 x1 w0 w1 = some r → ∀ (H : Heap) (locs : List Loc) (cells slots : Nat) (ls : Array Slot), ST G (RM 1 23 z0) s h z H locs cells slots → lv_has ls 4 [(0, .ref x0), (1, .int x1)] → W p l e (RM 1 23 z0) s m args below meth c H locs cells slots (MX G below s r (RM 1 23 z0).cells (RM 1 23 z0).slots) (F0 m 21 ls [.int w0, .ref w1]) := by
  have hx := C.1
  have hb := C.2.1
  intro h z x0 x1 w0 w1 hf H locs cells slots ls hs hl
  unfold f_M_begin_B21 at hf
  refine r_putV (v := (.inl w0)) C hs flp_M_71 rfl rfl d_M_begin_21 hf (fun h8 H locs hf hs => ?_)
  refine lv_aload_n hx hb d_M_begin_24 rfl (lv_at hl 0 rfl) ?_
  refine r_getI C hs fl_M_71 d_M_begin_25 hf (fun v9 hf => ?_)
  refine lv_if_le (tgt := 33) hx hb d_M_begin_28 (by decide) (fun q10 => ?_) (fun q10 => ?_)
  · have hf := ifp q10 hf
    refine lv_aload_n hx hb d_M_begin_33 rfl (lv_at hl 0 rfl) ?_
    refine r_getI C hs fl_M_98 d_M_begin_34 hf (fun v11 hf => ?_)
    refine lv_bipush (v := 40) hx hb d_M_begin_37 (by decide) ?_
    refine lv_icmp_ne (tgt := 48) hx hb d_M_begin_39 (by decide) (fun q12 => ?_) (fun q12 => ?_)
    · have hf := ifn q12 hf
      refine lv_aload_n hx hb d_M_begin_48 rfl (lv_at hl 0 rfl) ?_
      refine lv_dup hx hb d_M_begin_49 rfl ?_
      refine r_getI C hs fl_M_98 d_M_begin_50 hf (fun v13 hf => ?_)
      refine lv_iconst (v := 1) hx hb d_M_begin_53 (by decide) ?_
      refine lv_iadd hx hb d_M_begin_54 ?_
      refine r_putV (v := (.inl (v13 + 1))) C hs flp_M_98 rfl rfl d_M_begin_55 hf (fun h14 H locs hf hs => ?_)
      refine lv_aload_n hx hb d_M_begin_58 rfl (lv_at hl 0 rfl) ?_
      refine r_getR C hs fl_M_37 d_M_begin_59 hf (fun v15 hf => ?_)
      refine lv_iload_n hx hb d_M_begin_62 rfl (lv_at hl 1 rfl) ?_
      refine lv_iconst (v := 1) hx hb d_M_begin_63 (by decide) ?_
      refine r_iast C hs d_M_begin_64 hf (fun h16 H locs hf hs => ?_)
      refine lv_aload_n hx hb d_M_begin_65 rfl (lv_at hl 0 rfl) ?_
      refine r_getR C hs fl_M_43 d_M_begin_66 hf (fun v17 hf => ?_)
      refine lv_iload_n hx hb d_M_begin_69 rfl (lv_at hl 1 rfl) ?_
      refine lv_aload_n hx hb d_M_begin_70 rfl (lv_at hl 0 rfl) ?_
      refine r_getI C hs fl_M_98 d_M_begin_71 hf (fun v18 hf => ?_)
      refine r_iast C hs d_M_begin_74 hf (fun h19 H locs hf hs => ?_)
      refine lv_aload_n hx hb d_M_begin_75 rfl (lv_at hl 0 rfl) ?_
      refine r_getR C hs fl_M_46 d_M_begin_76 hf (fun v20 hf => ?_)
      refine lv_iload_n hx hb d_M_begin_79 rfl (lv_at hl 1 rfl) ?_
      refine lv_iconst (v := 0) hx hb d_M_begin_80 (by decide) ?_
      refine r_iast C hs d_M_begin_81 hf (fun h21 H locs hf hs => ?_)
      refine lv_aload_n hx hb d_M_begin_82 rfl (lv_at hl 0 rfl) ?_
      refine r_getR C hs fl_M_49 d_M_begin_83 hf (fun v22 hf => ?_)
      refine lv_iload_n hx hb d_M_begin_86 rfl (lv_at hl 1 rfl) ?_
      refine lv_aload_n hx hb d_M_begin_87 rfl (lv_at hl 0 rfl) ?_
      refine r_getI C hs fl_M_101 d_M_begin_88 hf (fun v23 hf => ?_)
      refine r_iast C hs d_M_begin_91 hf (fun h24 H locs hf hs => ?_)
      refine lv_iconst (v := 0) hx hb d_M_begin_92 (by decide) ?_
      refine lv_istore_n (lv' := [(3, .int 0), (0, .ref x0), (1, .int x1)]) hx hb d_M_begin_93 rfl hl (by decide) rfl (fun ls hl => ?_)
      exact t_M_begin_L94 hl0 C hr hex FU _ _ _ _ _ hf _ _ _ _ _ hs (lv_sub hl [1, 2, 0] rfl)
    · have hf := ifp q12 hf
      refine lv_aload_n hx hb d_M_begin_42 rfl (lv_at hl 0 rfl) ?_
      refine lv_iconst (v := 3) hx hb d_M_begin_43 (by decide) ?_
      obtain ⟨_, ho, hf⟩ := bd hf
      refine k_I C hs hex hf (fun res e1 => iv_V (b := x0) (As := [.int 3]) (rest := []) C hs cv_M_86 (c_M_fail hl0 e1) (ci := 6) rfl rfl ho rfl hl.1 rfl (Nat.le_of_ble_eq_true rfl) d_M_begin_44 ⟨Nat.le_of_ble_eq_true rfl, Nat.le_of_ble_eq_true rfl⟩) (fun v31 h29 z30 H locs cells slots hf hs => ?_)
      exact r_ireturn C hs hr d_M_begin_47 hf
  · have hf := ifn q10 hf
    refine lv_iconst (v := 0) hx hb d_M_begin_31 (by decide) ?_
    exact r_ireturn C hs hr d_M_begin_32 hf
def f_M_begin (bs sE : Nat) (h : HH) (z : Z3) (x0 : Nat) (x1 : Int32) (x2 : Int32) : Option RS :=
  (oK h x0 6).bind fun _ =>
  cI (f_M_out bs sE h z x0 x1 4) fun v3 h1 z2 =>
  if v3 = 0 then
    ((oK h1 x0 6).bind fun _ =>
    cI (f_M_check bs sE h1 z2 x0 x1 x2 0) fun v7 h5 z6 =>
    f_M_begin_B21 bs sE h5 z6 x0 x1 v7 x0)
  else
    (f_M_begin_B21 bs sE h1 z2 x0 x1 1 x0)
set_option maxHeartbeats 4000000 in
set_option maxRecDepth 100000 in
theorem c_M_begin {G : EN} {l : Launch} (hl0 : l.stackTraces = false) {h : HH} {z : Z3} {x0 : Nat} {x1 : Int32} {x2 : Int32} {r : RS} (hf : f_M_begin G.2.2.1 G.2.2.2 h z x0 x1 x2 = some r) : CM G l y_M_begin (.code y_M_begin b_M_begin 4 (some .int)) 1 23 [.ref x0, .int x1, .int x2] h z r := by
  refine CM.ofW hl0 rfl ?_
  intro p e s m below meth c C hr hex hin hs
  have hx := C.1
  have hb := C.2.1
  refine x_entry (n := 4) (Nat.le_of_ble_eq_true rfl) (fun ls hl => ?_)
  have hl : lv_has ls 4 [(0, .ref x0), (1, .int x1), (2, .int x2)] := hl
  unfold f_M_begin at hf
  refine lv_aload_n hx hb d_M_begin_0 rfl (lv_at hl 0 rfl) ?_
  refine lv_aload_n hx hb d_M_begin_1 rfl (lv_at hl 0 rfl) ?_
  refine lv_iload_n hx hb d_M_begin_2 rfl (lv_at hl 1 rfl) ?_
  refine lv_iconst (v := 4) hx hb d_M_begin_3 (by decide) ?_
  obtain ⟨_, ho, hf⟩ := bd hf
  refine k_I C hs hex hf (fun res e1 => iv_V (b := x0) (As := [.int x1, .int 4]) (rest := [.ref x0]) C hs cv_M_83 (c_M_out hl0 e1) (ci := 6) rfl rfl ho rfl hl.1 rfl (Nat.le_of_ble_eq_true rfl) d_M_begin_4 ⟨Nat.le_of_ble_eq_true rfl, Nat.le_of_ble_eq_true rfl⟩) (fun v3 h1 z2 H locs cells slots hf hs => ?_)
  refine lv_if_eq (tgt := 14) hx hb d_M_begin_7 (by decide) (fun q4 => ?_) (fun q4 => ?_)
  · have hf := ifp q4 hf
    refine lv_aload_n hx hb d_M_begin_14 rfl (lv_at hl 0 rfl) ?_
    refine lv_iload_n hx hb d_M_begin_15 rfl (lv_at hl 1 rfl) ?_
    refine lv_iload_n hx hb d_M_begin_16 rfl (lv_at hl 2 rfl) ?_
    refine lv_iconst (v := 0) hx hb d_M_begin_17 (by decide) ?_
    obtain ⟨_, ho, hf⟩ := bd hf
    refine k_I C hs hex hf (fun res e1 => iv_V (b := x0) (As := [.int x1, .int x2, .int 0]) (rest := [.ref x0]) C hs cv_M_94 (c_M_check hl0 e1) (ci := 6) rfl rfl ho rfl hl.1 rfl (Nat.le_of_ble_eq_true rfl) d_M_begin_18 ⟨Nat.le_of_ble_eq_true rfl, Nat.le_of_ble_eq_true rfl⟩) (fun v7 h5 z6 H locs cells slots hf hs => ?_)
    exact t_M_begin_B21 hl0 C hr hex _ _ _ _ _ _ hf _ _ _ _ _ hs (lv_sub hl [0, 1] rfl)
  · have hf := ifn q4 hf
    refine lv_iconst (v := 1) hx hb d_M_begin_10 (by decide) ?_
    refine lv_goto (tgt := 21) hx hb d_M_begin_11 (by decide) ?_
    exact t_M_begin_B21 hl0 C hr hex _ _ _ _ _ _ hf _ _ _ _ _ hs (lv_sub hl [0, 1] rfl)
def f_M_ofProducer (bs sE : Nat) (h : HH) (z : Z3) (x0 : Nat) (x1 : Int32) (x2 : Int32) : Option RS :=
  (gR h x0 6 1).bind fun v1 =>
  (aI h v1 0 x1).bind fun v2 =>
  if v2 = 1 then
    ((gR h x0 6 3).bind fun v4 =>
    (aI h v4 0 x1).bind fun v5 =>
    if v5 = x2 then
      ((gR h x0 6 4).bind fun v7 =>
      (aI h v7 0 x1).bind fun v8 =>
      (gR h x0 6 11).bind fun v9 =>
      (aI h v9 0 x2).bind fun v10 =>
      if v8 = v10 then
        ((bz 1).bind fun _ =>
        some (.inl (some (.int 1)), h, z))
      else
        ((bz 0).bind fun _ =>
        some (.inl (some (.int 0)), h, z)))
    else
      ((bz 0).bind fun _ =>
      some (.inl (some (.int 0)), h, z)))
  else
    ((bz 0).bind fun _ =>
    some (.inl (some (.int 0)), h, z))
set_option maxHeartbeats 4000000 in
set_option maxRecDepth 100000 in
theorem c_M_ofProducer {G : EN} {l : Launch} (hl0 : l.stackTraces = false) {h : HH} {z : Z3} {x0 : Nat} {x1 : Int32} {x2 : Int32} {r : RS} (hf : f_M_ofProducer G.2.2.1 G.2.2.2 h z x0 x1 x2 = some r) : CM G l y_M_ofProducer (.code y_M_ofProducer b_M_ofProducer 3 (some .boolean)) 0 0 [.ref x0, .int x1, .int x2] h z r := by
  refine CM.ofW hl0 rfl ?_
  intro p e s m below meth c C hr hex hin hs
  have hx := C.1
  have hb := C.2.1
  refine x_entry (n := 3) (Nat.le_of_ble_eq_true rfl) (fun ls hl => ?_)
  have hl : lv_has ls 3 [(0, .ref x0), (1, .int x1), (2, .int x2)] := hl
  unfold f_M_ofProducer at hf
  refine lv_aload_n hx hb d_M_ofProducer_0 rfl (lv_at hl 0 rfl) ?_
  refine r_getR C hs fl_M_7 d_M_ofProducer_1 hf (fun v1 hf => ?_)
  refine lv_iload_n hx hb d_M_ofProducer_4 rfl (lv_at hl 1 rfl) ?_
  refine r_iald C hs d_M_ofProducer_5 hf (fun v2 hf => ?_)
  refine lv_iconst (v := 1) hx hb d_M_ofProducer_6 (by decide) ?_
  refine lv_icmp_ne (tgt := 39) hx hb d_M_ofProducer_7 (by decide) (fun q3 => ?_) (fun q3 => ?_)
  · have hf := ifn q3 hf
    refine lv_iconst (v := 0) hx hb d_M_ofProducer_39 (by decide) ?_
    exact r_zreturn C hs hr d_M_ofProducer_40 hf
  · have hf := ifp q3 hf
    refine lv_aload_n hx hb d_M_ofProducer_10 rfl (lv_at hl 0 rfl) ?_
    refine r_getR C hs fl_M_16 d_M_ofProducer_11 hf (fun v4 hf => ?_)
    refine lv_iload_n hx hb d_M_ofProducer_14 rfl (lv_at hl 1 rfl) ?_
    refine r_iald C hs d_M_ofProducer_15 hf (fun v5 hf => ?_)
    refine lv_iload_n hx hb d_M_ofProducer_16 rfl (lv_at hl 2 rfl) ?_
    refine lv_icmp_ne (tgt := 39) hx hb d_M_ofProducer_17 (by decide) (fun q6 => ?_) (fun q6 => ?_)
    · have hf := ifn q6 hf
      refine lv_iconst (v := 0) hx hb d_M_ofProducer_39 (by decide) ?_
      exact r_zreturn C hs hr d_M_ofProducer_40 hf
    · have hf := ifp q6 hf
      refine lv_aload_n hx hb d_M_ofProducer_20 rfl (lv_at hl 0 rfl) ?_
      refine r_getR C hs fl_M_19 d_M_ofProducer_21 hf (fun v7 hf => ?_)
      refine lv_iload_n hx hb d_M_ofProducer_24 rfl (lv_at hl 1 rfl) ?_
      refine r_iald C hs d_M_ofProducer_25 hf (fun v8 hf => ?_)
      refine lv_aload_n hx hb d_M_ofProducer_26 rfl (lv_at hl 0 rfl) ?_
      refine r_getR C hs fl_M_40 d_M_ofProducer_27 hf (fun v9 hf => ?_)
      refine lv_iload_n hx hb d_M_ofProducer_30 rfl (lv_at hl 2 rfl) ?_
      refine r_iald C hs d_M_ofProducer_31 hf (fun v10 hf => ?_)
      refine lv_icmp_ne (tgt := 39) hx hb d_M_ofProducer_32 (by decide) (fun q11 => ?_) (fun q11 => ?_)
      · have hf := ifn q11 hf
        refine lv_iconst (v := 0) hx hb d_M_ofProducer_39 (by decide) ?_
        exact r_zreturn C hs hr d_M_ofProducer_40 hf
      · have hf := ifp q11 hf
        refine lv_iconst (v := 1) hx hb d_M_ofProducer_35 (by decide) ?_
        refine lv_goto (tgt := 40) hx hb d_M_ofProducer_36 (by decide) ?_
        exact r_zreturn C hs hr d_M_ofProducer_40 hf
def fb_M_recent_L13 (bs sE : Nat) (REC : HH → Z3 → Nat → Int32 → Int32 → Int32 → Int32 → Int32 → Option RS) (h : HH) (z : Z3) (x0 : Nat) (x1 : Int32) (x2 : Int32) (x3 : Int32) (x4 : Int32) (x5 : Int32) : Option RS :=
  if x5 < 0 then
    (some (.inl (some (.int (-1))), h, z))
  else
    (if 5 ≤ x4 then
      (some (.inl (some (.int (-1))), h, z))
    else
      ((oK h x0 6).bind fun _ =>
      cI (f_M_ofProducer bs sE h z x0 ((520 * x2) + x5) x1) fun v7 h5 z6 =>
      if v7 = 0 then
        (REC h5 z6 x0 x1 x2 x3 x4 (x5 + (-1)))
      else
        ((gR h5 x0 6 5).bind fun v9 =>
        (aI h5 v9 0 ((520 * x2) + x5)).bind fun v10 =>
        if v10 = x3 then
          (some (.inl (some (.int x5)), h5, z6))
        else
          (REC h5 z6 x0 x1 x2 x3 (x4 + 1) (x5 + (-1))))))
def f_M_recent_L13 (bs sE : Nat) : Nat → HH → Z3 → Nat → Int32 → Int32 → Int32 → Int32 → Int32 → Option RS
  | 0 => fun _ _ _ _ _ _ _ _ => none
  | n + 1 => fb_M_recent_L13 bs sE (f_M_recent_L13 bs sE n)
set_option maxHeartbeats 4000000 in
set_option maxRecDepth 100000 in
theorem t_M_recent_L13 {G : EN} {p : Program} {l : Launch} {e : Env} {s : State} {m : MethodId} {args : Array Value} {below : List Frame} {meth : Method} {c : Code} {z0 : Z3} (hl0 : l.stackTraces = false) (C : CX G p l s m meth c b_M_recent 6 y_M_recent.cls) (hr : meth.sig.returnType = (some .int)) (hex : c.exceptionTable.toList = []) {r : RS} :
    ∀ (n : Nat) (h : HH) (z : Z3) (x0 : Nat) (x1 : Int32) (x2 : Int32) (x3 : Int32) (x4 : Int32) (x5 : Int32), f_M_recent_L13 G.2.2.1 G.2.2.2 n h z x0 x1 x2 x3 x4 x5 = some r → ∀ (H : Heap) (locs : List Loc) (cells slots : Nat) (ls : Array Slot), ST G (RM 1 22 z0) s h z H locs cells slots → lv_has ls 6 [(0, .ref x0), (1, .int x1), (2, .int x2), (3, .int x3), (4, .int x4), (5, .int x5)] → W p l e (RM 1 22 z0) s m args below meth c H locs cells slots (MX G below s r (RM 1 22 z0).cells (RM 1 22 z0).slots) (F0 m 13 ls []) := by
  have hx := C.1
  have hb := C.2.1
  intro n
  induction n with
  | zero => intro h z x0 x1 x2 x3 x4 x5 hf; exact nomatch (show (none : Option RS) = some r from hf)
  | succ n ih =>
    intro h z x0 x1 x2 x3 x4 x5 hf H locs cells slots ls hs hl
    have hf : fb_M_recent_L13 G.2.2.1 G.2.2.2 (f_M_recent_L13 G.2.2.1 G.2.2.2 n) h z x0 x1 x2 x3 x4 x5 = some r := hf
    unfold fb_M_recent_L13 at hf
    refine lv_iload hx hb d_M_recent_13 (lv_at hl 5 rfl) ?_
    refine lv_if_lt (tgt := 72) hx hb d_M_recent_15 (by decide) (fun q3 => ?_) (fun q3 => ?_)
    · have hf := ifp q3 hf
      refine lv_iconst (v := (-1)) hx hb d_M_recent_72 (by decide) ?_
      exact r_ireturn C hs hr d_M_recent_73 hf
    · have hf := ifn q3 hf
      refine lv_iload hx hb d_M_recent_18 (lv_at hl 4 rfl) ?_
      refine lv_iconst (v := 5) hx hb d_M_recent_20 (by decide) ?_
      refine lv_icmp_ge (tgt := 72) hx hb d_M_recent_21 (by decide) (fun q4 => ?_) (fun q4 => ?_)
      · have hf := ifp q4 hf
        refine lv_iconst (v := (-1)) hx hb d_M_recent_72 (by decide) ?_
        exact r_ireturn C hs hr d_M_recent_73 hf
      · have hf := ifn q4 hf
        refine lv_aload_n hx hb d_M_recent_24 rfl (lv_at hl 0 rfl) ?_
        refine lv_sipush (v := 520) hx hb d_M_recent_25 (by decide) ?_
        refine lv_iload_n hx hb d_M_recent_28 rfl (lv_at hl 2 rfl) ?_
        refine lv_imul hx hb d_M_recent_29 ?_
        refine lv_iload hx hb d_M_recent_30 (lv_at hl 5 rfl) ?_
        refine lv_iadd hx hb d_M_recent_32 ?_
        refine lv_iload_n hx hb d_M_recent_33 rfl (lv_at hl 1 rfl) ?_
        obtain ⟨_, ho, hf⟩ := bd hf
        refine k_I C hs hex hf (fun res e1 => iv_V (b := x0) (As := [.int ((520 * x2) + x5), .int x1]) (rest := []) C hs cv_M_75 (c_M_ofProducer hl0 e1) (ci := 6) rfl rfl ho rfl hl.1 rfl (Nat.le_of_ble_eq_true rfl) d_M_recent_34 ⟨Nat.le_of_ble_eq_true rfl, Nat.le_of_ble_eq_true rfl⟩) (fun v7 h5 z6 H locs cells slots hf hs => ?_)
        refine lv_if_ne (tgt := 43) hx hb d_M_recent_37 (by decide) (fun q8 => ?_) (fun q8 => ?_)
        · have hf := ifn q8 hf
          refine lv_iinc (v := x4 + 1) (lv' := [(4, .int (x4 + 1)), (0, .ref x0), (1, .int x1), (2, .int x2), (3, .int x3), (5, .int x5)]) hx hb d_M_recent_43 hl (k := 4) rfl rfl (by decide) rfl (fun ls hl => ?_)
          refine lv_aload_n hx hb d_M_recent_46 rfl (lv_at hl 1 rfl) ?_
          refine r_getR C hs fl_M_22 d_M_recent_47 hf (fun v9 hf => ?_)
          refine lv_sipush (v := 520) hx hb d_M_recent_50 (by decide) ?_
          refine lv_iload_n hx hb d_M_recent_53 rfl (lv_at hl 3 rfl) ?_
          refine lv_imul hx hb d_M_recent_54 ?_
          refine lv_iload hx hb d_M_recent_55 (lv_at hl 5 rfl) ?_
          refine lv_iadd hx hb d_M_recent_57 ?_
          refine r_iald C hs d_M_recent_58 hf (fun v10 hf => ?_)
          refine lv_iload_n hx hb d_M_recent_59 rfl (lv_at hl 4 rfl) ?_
          refine lv_icmp_ne (tgt := 66) hx hb d_M_recent_60 (by decide) (fun q11 => ?_) (fun q11 => ?_)
          · have hf := ifn q11 hf
            refine lv_iinc (v := x5 + (-1)) (lv' := [(5, .int (x5 + (-1))), (4, .int (x4 + 1)), (0, .ref x0), (1, .int x1), (2, .int x2), (3, .int x3)]) hx hb d_M_recent_66 hl (k := 5) rfl rfl (by decide) rfl (fun ls hl => ?_)
            refine lv_goto (tgt := 13) hx hb d_M_recent_69 (by decide) ?_
            exact ih _ _ _ _ _ _ _ _ hf _ _ _ _ _ hs (lv_sub hl [2, 3, 4, 5, 1, 0] rfl)
          · have hf := ifp q11 hf
            refine lv_iload hx hb d_M_recent_63 (lv_at hl 5 rfl) ?_
            exact r_ireturn C hs hr d_M_recent_65 hf
        · have hf := ifp q8 hf
          refine lv_goto (tgt := 66) hx hb d_M_recent_40 (by decide) ?_
          refine lv_iinc (v := x5 + (-1)) (lv' := [(5, .int (x5 + (-1))), (0, .ref x0), (1, .int x1), (2, .int x2), (3, .int x3), (4, .int x4)]) hx hb d_M_recent_66 hl (k := 5) rfl rfl (by decide) rfl (fun ls hl => ?_)
          refine lv_goto (tgt := 13) hx hb d_M_recent_69 (by decide) ?_
          exact ih _ _ _ _ _ _ _ _ hf _ _ _ _ _ hs (lv_sub hl [1, 2, 3, 4, 5, 0] rfl)
def f_M_recent (bs sE : Nat) (h : HH) (z : Z3) (x0 : Nat) (x1 : Int32) (x2 : Int32) (x3 : Int32) : Option RS :=
  (gR h x0 6 7).bind fun v1 =>
  (aI h v1 0 x2).bind fun v2 =>
  f_M_recent_L13 bs sE FU h z x0 x1 x2 x3 0 (v2 - 1)
set_option maxHeartbeats 4000000 in
set_option maxRecDepth 100000 in
theorem c_M_recent {G : EN} {l : Launch} (hl0 : l.stackTraces = false) {h : HH} {z : Z3} {x0 : Nat} {x1 : Int32} {x2 : Int32} {x3 : Int32} {r : RS} (hf : f_M_recent G.2.2.1 G.2.2.2 h z x0 x1 x2 x3 = some r) : CM G l y_M_recent (.code y_M_recent b_M_recent 6 (some .int)) 1 22 [.ref x0, .int x1, .int x2, .int x3] h z r := by
  refine CM.ofW hl0 rfl ?_
  intro p e s m below meth c C hr hex hin hs
  have hx := C.1
  have hb := C.2.1
  refine x_entry (n := 6) (Nat.le_of_ble_eq_true rfl) (fun ls hl => ?_)
  have hl : lv_has ls 6 [(0, .ref x0), (1, .int x1), (2, .int x2), (3, .int x3)] := hl
  unfold f_M_recent at hf
  refine lv_iconst (v := 0) hx hb d_M_recent_0 (by decide) ?_
  refine lv_istore (lv' := [(4, .int 0), (0, .ref x0), (1, .int x1), (2, .int x2), (3, .int x3)]) hx hb d_M_recent_1 hl (by decide) rfl (fun ls hl => ?_)
  refine lv_aload_n hx hb d_M_recent_3 rfl (lv_at hl 1 rfl) ?_
  refine r_getR C hs fl_M_28 d_M_recent_4 hf (fun v1 hf => ?_)
  refine lv_iload_n hx hb d_M_recent_7 rfl (lv_at hl 3 rfl) ?_
  refine r_iald C hs d_M_recent_8 hf (fun v2 hf => ?_)
  refine lv_iconst (v := 1) hx hb d_M_recent_9 (by decide) ?_
  refine lv_isub hx hb d_M_recent_10 ?_
  refine lv_istore (lv' := [(5, .int (v2 - 1)), (4, .int 0), (0, .ref x0), (1, .int x1), (2, .int x2), (3, .int x3)]) hx hb d_M_recent_11 hl (by decide) rfl (fun ls hl => ?_)
  exact t_M_recent_L13 hl0 C hr hex FU _ _ _ _ _ _ _ _ hf _ _ _ _ _ hs (lv_sub hl [2, 3, 4, 5, 1, 0] rfl)
def fb_M_next_L9 (bs sE : Nat) (REC : HH → Z3 → Nat → Int32 → Int32 → Int32 → Int32 → Option RS) (h : HH) (z : Z3) (x0 : Nat) (x1 : Int32) (x2 : Int32) (x3 : Int32) (x4 : Int32) : Option RS :=
  (gR h x0 6 7).bind fun v1 =>
  (aI h v1 0 x2).bind fun v2 =>
  if ((520 * x2) + v2) ≤ x4 then
    (some (.inl (some (.int x3)), h, z))
  else
    ((oK h x0 6).bind fun _ =>
    cI (f_M_ofProducer bs sE h z x0 x4 x1) fun v6 h4 z5 =>
    if v6 = 0 then
      (REC h4 z5 x0 x1 x2 x3 (x4 + 1))
    else
      ((gR h4 x0 6 5).bind fun v8 =>
      (aI h4 v8 0 x4).bind fun v9 =>
      if v9 < x3 then
        (REC h4 z5 x0 x1 x2 x3 (x4 + 1))
      else
        ((gR h4 x0 6 5).bind fun v11 =>
        (aI h4 v11 0 x4).bind fun v12 =>
        REC h4 z5 x0 x1 x2 (v12 + 1) (x4 + 1))))
def f_M_next_L9 (bs sE : Nat) : Nat → HH → Z3 → Nat → Int32 → Int32 → Int32 → Int32 → Option RS
  | 0 => fun _ _ _ _ _ _ _ => none
  | n + 1 => fb_M_next_L9 bs sE (f_M_next_L9 bs sE n)
set_option maxHeartbeats 4000000 in
set_option maxRecDepth 100000 in
theorem t_M_next_L9 {G : EN} {p : Program} {l : Launch} {e : Env} {s : State} {m : MethodId} {args : Array Value} {below : List Frame} {meth : Method} {c : Code} {z0 : Z3} (hl0 : l.stackTraces = false) (C : CX G p l s m meth c b_M_next 5 y_M_next.cls) (hr : meth.sig.returnType = (some .int)) (hex : c.exceptionTable.toList = []) {r : RS} :
    ∀ (n : Nat) (h : HH) (z : Z3) (x0 : Nat) (x1 : Int32) (x2 : Int32) (x3 : Int32) (x4 : Int32), f_M_next_L9 G.2.2.1 G.2.2.2 n h z x0 x1 x2 x3 x4 = some r → ∀ (H : Heap) (locs : List Loc) (cells slots : Nat) (ls : Array Slot), ST G (RM 1 22 z0) s h z H locs cells slots → lv_has ls 5 [(0, .ref x0), (1, .int x1), (2, .int x2), (3, .int x3), (4, .int x4)] → W p l e (RM 1 22 z0) s m args below meth c H locs cells slots (MX G below s r (RM 1 22 z0).cells (RM 1 22 z0).slots) (F0 m 9 ls []) := by
  have hx := C.1
  have hb := C.2.1
  intro n
  induction n with
  | zero => intro h z x0 x1 x2 x3 x4 hf; exact nomatch (show (none : Option RS) = some r from hf)
  | succ n ih =>
    intro h z x0 x1 x2 x3 x4 hf H locs cells slots ls hs hl
    have hf : fb_M_next_L9 G.2.2.1 G.2.2.2 (f_M_next_L9 G.2.2.1 G.2.2.2 n) h z x0 x1 x2 x3 x4 = some r := hf
    unfold fb_M_next_L9 at hf
    refine lv_iload hx hb d_M_next_9 (lv_at hl 4 rfl) ?_
    refine lv_sipush (v := 520) hx hb d_M_next_11 (by decide) ?_
    refine lv_iload_n hx hb d_M_next_14 rfl (lv_at hl 2 rfl) ?_
    refine lv_imul hx hb d_M_next_15 ?_
    refine lv_aload_n hx hb d_M_next_16 rfl (lv_at hl 0 rfl) ?_
    refine r_getR C hs fl_M_28 d_M_next_17 hf (fun v1 hf => ?_)
    refine lv_iload_n hx hb d_M_next_20 rfl (lv_at hl 2 rfl) ?_
    refine r_iald C hs d_M_next_21 hf (fun v2 hf => ?_)
    refine lv_iadd hx hb d_M_next_22 ?_
    refine lv_icmp_ge (tgt := 63) hx hb d_M_next_23 (by decide) (fun q3 => ?_) (fun q3 => ?_)
    · have hf := ifp q3 hf
      refine lv_iload_n hx hb d_M_next_63 rfl (lv_at hl 3 rfl) ?_
      exact r_ireturn C hs hr d_M_next_64 hf
    · have hf := ifn q3 hf
      refine lv_aload_n hx hb d_M_next_26 rfl (lv_at hl 0 rfl) ?_
      refine lv_iload hx hb d_M_next_27 (lv_at hl 4 rfl) ?_
      refine lv_iload_n hx hb d_M_next_29 rfl (lv_at hl 1 rfl) ?_
      obtain ⟨_, ho, hf⟩ := bd hf
      refine k_I C hs hex hf (fun res e1 => iv_V (b := x0) (As := [.int x4, .int x1]) (rest := []) C hs cv_M_75 (c_M_ofProducer hl0 e1) (ci := 6) rfl rfl ho rfl hl.1 rfl (Nat.le_of_ble_eq_true rfl) d_M_next_30 ⟨Nat.le_of_ble_eq_true rfl, Nat.le_of_ble_eq_true rfl⟩) (fun v6 h4 z5 H locs cells slots hf hs => ?_)
      refine lv_if_eq (tgt := 57) hx hb d_M_next_33 (by decide) (fun q7 => ?_) (fun q7 => ?_)
      · have hf := ifp q7 hf
        refine lv_iinc (v := x4 + 1) (lv' := [(4, .int (x4 + 1)), (0, .ref x0), (1, .int x1), (2, .int x2), (3, .int x3)]) hx hb d_M_next_57 hl (k := 4) rfl rfl (by decide) rfl (fun ls hl => ?_)
        refine lv_goto (tgt := 9) hx hb d_M_next_60 (by decide) ?_
        exact ih _ _ _ _ _ _ _ hf _ _ _ _ _ hs (lv_sub hl [1, 2, 3, 4, 0] rfl)
      · have hf := ifn q7 hf
        refine lv_aload_n hx hb d_M_next_36 rfl (lv_at hl 0 rfl) ?_
        refine r_getR C hs fl_M_22 d_M_next_37 hf (fun v8 hf => ?_)
        refine lv_iload hx hb d_M_next_40 (lv_at hl 4 rfl) ?_
        refine r_iald C hs d_M_next_42 hf (fun v9 hf => ?_)
        refine lv_iload_n hx hb d_M_next_43 rfl (lv_at hl 3 rfl) ?_
        refine lv_icmp_lt (tgt := 57) hx hb d_M_next_44 (by decide) (fun q10 => ?_) (fun q10 => ?_)
        · have hf := ifp q10 hf
          refine lv_iinc (v := x4 + 1) (lv' := [(4, .int (x4 + 1)), (0, .ref x0), (1, .int x1), (2, .int x2), (3, .int x3)]) hx hb d_M_next_57 hl (k := 4) rfl rfl (by decide) rfl (fun ls hl => ?_)
          refine lv_goto (tgt := 9) hx hb d_M_next_60 (by decide) ?_
          exact ih _ _ _ _ _ _ _ hf _ _ _ _ _ hs (lv_sub hl [1, 2, 3, 4, 0] rfl)
        · have hf := ifn q10 hf
          refine lv_aload_n hx hb d_M_next_47 rfl (lv_at hl 0 rfl) ?_
          refine r_getR C hs fl_M_22 d_M_next_48 hf (fun v11 hf => ?_)
          refine lv_iload hx hb d_M_next_51 (lv_at hl 4 rfl) ?_
          refine r_iald C hs d_M_next_53 hf (fun v12 hf => ?_)
          refine lv_iconst (v := 1) hx hb d_M_next_54 (by decide) ?_
          refine lv_iadd hx hb d_M_next_55 ?_
          refine lv_istore_n (lv' := [(3, .int (v12 + 1)), (0, .ref x0), (1, .int x1), (2, .int x2), (4, .int x4)]) hx hb d_M_next_56 rfl hl (by decide) rfl (fun ls hl => ?_)
          refine lv_iinc (v := x4 + 1) (lv' := [(4, .int (x4 + 1)), (3, .int (v12 + 1)), (0, .ref x0), (1, .int x1), (2, .int x2)]) hx hb d_M_next_57 hl (k := 4) rfl rfl (by decide) rfl (fun ls hl => ?_)
          refine lv_goto (tgt := 9) hx hb d_M_next_60 (by decide) ?_
          exact ih _ _ _ _ _ _ _ hf _ _ _ _ _ hs (lv_sub hl [2, 3, 4, 1, 0] rfl)
def f_M_next (bs sE : Nat) (h : HH) (z : Z3) (x0 : Nat) (x1 : Int32) (x2 : Int32) : Option RS :=
  f_M_next_L9 bs sE FU h z x0 x1 x2 0 (520 * x2)
set_option maxHeartbeats 4000000 in
set_option maxRecDepth 100000 in
theorem c_M_next {G : EN} {l : Launch} (hl0 : l.stackTraces = false) {h : HH} {z : Z3} {x0 : Nat} {x1 : Int32} {x2 : Int32} {r : RS} (hf : f_M_next G.2.2.1 G.2.2.2 h z x0 x1 x2 = some r) : CM G l y_M_next (.code y_M_next b_M_next 5 (some .int)) 1 22 [.ref x0, .int x1, .int x2] h z r := by
  refine CM.ofW hl0 rfl ?_
  intro p e s m below meth c C hr hex hin hs
  have hx := C.1
  have hb := C.2.1
  refine x_entry (n := 5) (Nat.le_of_ble_eq_true rfl) (fun ls hl => ?_)
  have hl : lv_has ls 5 [(0, .ref x0), (1, .int x1), (2, .int x2)] := hl
  unfold f_M_next at hf
  refine lv_iconst (v := 0) hx hb d_M_next_0 (by decide) ?_
  refine lv_istore_n (lv' := [(3, .int 0), (0, .ref x0), (1, .int x1), (2, .int x2)]) hx hb d_M_next_1 rfl hl (by decide) rfl (fun ls hl => ?_)
  refine lv_sipush (v := 520) hx hb d_M_next_2 (by decide) ?_
  refine lv_iload_n hx hb d_M_next_5 rfl (lv_at hl 3 rfl) ?_
  refine lv_imul hx hb d_M_next_6 ?_
  refine lv_istore (lv' := [(4, .int (520 * x2)), (3, .int 0), (0, .ref x0), (1, .int x1), (2, .int x2)]) hx hb d_M_next_7 hl (by decide) rfl (fun ls hl => ?_)
  exact t_M_next_L9 hl0 C hr hex FU _ _ _ _ _ _ _ hf _ _ _ _ _ hs (lv_sub hl [2, 3, 4, 1, 0] rfl)
def f_M_full (bs sE : Nat) (h : HH) (z : Z3) (x0 : Nat) (x1 : Int32) : Option RS :=
  (gR h x0 6 7).bind fun v1 =>
  (aI h v1 0 x1).bind fun v2 =>
  (gR h x0 6 8).bind fun v3 =>
  (aI h v3 0 x1).bind fun v4 =>
  if 32 ≤ (v2 - v4) then
    ((bz 1).bind fun _ =>
    some (.inl (some (.int 1)), h, z))
  else
    ((gR h x0 6 7).bind fun v6 =>
    (aI h v6 0 x1).bind fun v7 =>
    if v7 < 400 then
      ((bz 0).bind fun _ =>
      some (.inl (some (.int 0)), h, z))
    else
      ((bz 1).bind fun _ =>
      some (.inl (some (.int 1)), h, z)))
set_option maxHeartbeats 4000000 in
set_option maxRecDepth 100000 in
theorem c_M_full {G : EN} {l : Launch} (hl0 : l.stackTraces = false) {h : HH} {z : Z3} {x0 : Nat} {x1 : Int32} {r : RS} (hf : f_M_full G.2.2.1 G.2.2.2 h z x0 x1 = some r) : CM G l y_M_full (.code y_M_full b_M_full 2 (some .boolean)) 0 0 [.ref x0, .int x1] h z r := by
  refine CM.ofW hl0 rfl ?_
  intro p e s m below meth c C hr hex hin hs
  have hx := C.1
  have hb := C.2.1
  refine x_entry (n := 2) (Nat.le_of_ble_eq_true rfl) (fun ls hl => ?_)
  have hl : lv_has ls 2 [(0, .ref x0), (1, .int x1)] := hl
  unfold f_M_full at hf
  refine lv_aload_n hx hb d_M_full_0 rfl (lv_at hl 0 rfl) ?_
  refine r_getR C hs fl_M_28 d_M_full_1 hf (fun v1 hf => ?_)
  refine lv_iload_n hx hb d_M_full_4 rfl (lv_at hl 1 rfl) ?_
  refine r_iald C hs d_M_full_5 hf (fun v2 hf => ?_)
  refine lv_aload_n hx hb d_M_full_6 rfl (lv_at hl 0 rfl) ?_
  refine r_getR C hs fl_M_31 d_M_full_7 hf (fun v3 hf => ?_)
  refine lv_iload_n hx hb d_M_full_10 rfl (lv_at hl 1 rfl) ?_
  refine r_iald C hs d_M_full_11 hf (fun v4 hf => ?_)
  refine lv_isub hx hb d_M_full_12 ?_
  refine lv_bipush (v := 32) hx hb d_M_full_13 (by decide) ?_
  refine lv_icmp_ge (tgt := 30) hx hb d_M_full_15 (by decide) (fun q5 => ?_) (fun q5 => ?_)
  · have hf := ifp q5 hf
    refine lv_iconst (v := 1) hx hb d_M_full_30 (by decide) ?_
    refine lv_goto (tgt := 35) hx hb d_M_full_31 (by decide) ?_
    exact r_zreturn C hs hr d_M_full_35 hf
  · have hf := ifn q5 hf
    refine lv_aload_n hx hb d_M_full_18 rfl (lv_at hl 0 rfl) ?_
    refine r_getR C hs fl_M_28 d_M_full_19 hf (fun v6 hf => ?_)
    refine lv_iload_n hx hb d_M_full_22 rfl (lv_at hl 1 rfl) ?_
    refine r_iald C hs d_M_full_23 hf (fun v7 hf => ?_)
    refine lv_sipush (v := 400) hx hb d_M_full_24 (by decide) ?_
    refine lv_icmp_lt (tgt := 34) hx hb d_M_full_27 (by decide) (fun q8 => ?_) (fun q8 => ?_)
    · have hf := ifp q8 hf
      refine lv_iconst (v := 0) hx hb d_M_full_34 (by decide) ?_
      exact r_zreturn C hs hr d_M_full_35 hf
    · have hf := ifn q8 hf
      refine lv_iconst (v := 1) hx hb d_M_full_30 (by decide) ?_
      refine lv_goto (tgt := 35) hx hb d_M_full_31 (by decide) ?_
      exact r_zreturn C hs hr d_M_full_35 hf
def f_M_put_B93 (bs sE : Nat) (h : HH) (z : Z3) (x0 : Nat) (x1 : Int32) (w0 : Int32) (w1 : Int32) (w2 : Nat) : Option RS :=
  (aIs bs h w2 0 w1 w0).bind fun h20 =>
  (gR h20 x0 6 7).bind fun v21 =>
  (aI h20 v21 0 x1).bind fun v22 =>
  (aIs bs h20 v21 0 x1 (v22 + 1)).bind fun h23 =>
  (gR h23 x0 6 7).bind fun v24 =>
  (aI h23 v24 0 x1).bind fun v25 =>
  some (.inl (some (.int (v25 - 1))), h23, z)
set_option maxHeartbeats 4000000 in
set_option maxRecDepth 100000 in
theorem t_M_put_B93 {G : EN} {p : Program} {l : Launch} {e : Env} {s : State} {m : MethodId} {args : Array Value} {below : List Frame} {meth : Method} {c : Code} {z0 : Z3} (hl0 : l.stackTraces = false) (C : CX G p l s m meth c b_M_put 7 y_M_put.cls) (hr : meth.sig.returnType = (some .int)) (hex : c.exceptionTable.toList = []) {r : RS} :
    ∀ (h : HH) (z : Z3) (x0 : Nat) (x1 : Int32) (w0 : Int32) (w1 : Int32) (w2 : Nat), f_M_put_B93 G.2.2.1 G.2.2.2 h z x0 x1 w0 w1 w2 = some r → ∀ (H : Heap) (locs : List Loc) (cells slots : Nat) (ls : Array Slot), ST G (RM 0 0 z0) s h z H locs cells slots → lv_has ls 7 [(0, .ref x0), (1, .int x1)] → W p l e (RM 0 0 z0) s m args below meth c H locs cells slots (MX G below s r (RM 0 0 z0).cells (RM 0 0 z0).slots) (F0 m 93 ls [.int w0, .int w1, .ref w2]) := by
  have hx := C.1
  have hb := C.2.1
  intro h z x0 x1 w0 w1 w2 hf H locs cells slots ls hs hl
  unfold f_M_put_B93 at hf
  refine r_iast C hs d_M_put_93 hf (fun h20 H locs hf hs => ?_)
  refine lv_aload_n hx hb d_M_put_94 rfl (lv_at hl 0 rfl) ?_
  refine r_getR C hs fl_M_28 d_M_put_95 hf (fun v21 hf => ?_)
  refine lv_iload_n hx hb d_M_put_98 rfl (lv_at hl 1 rfl) ?_
  refine lv_dup2_11 hx hb d_M_put_99 rfl rfl ?_
  refine r_iald C hs d_M_put_100 hf (fun v22 hf => ?_)
  refine lv_iconst (v := 1) hx hb d_M_put_101 (by decide) ?_
  refine lv_iadd hx hb d_M_put_102 ?_
  refine r_iast C hs d_M_put_103 hf (fun h23 H locs hf hs => ?_)
  refine lv_aload_n hx hb d_M_put_104 rfl (lv_at hl 0 rfl) ?_
  refine r_getR C hs fl_M_28 d_M_put_105 hf (fun v24 hf => ?_)
  refine lv_iload_n hx hb d_M_put_108 rfl (lv_at hl 1 rfl) ?_
  refine r_iald C hs d_M_put_109 hf (fun v25 hf => ?_)
  refine lv_iconst (v := 1) hx hb d_M_put_110 (by decide) ?_
  refine lv_isub hx hb d_M_put_111 ?_
  exact r_ireturn C hs hr d_M_put_112 hf
def f_M_put_B61 (bs sE : Nat) (h : HH) (z : Z3) (x0 : Nat) (x1 : Int32) (x4 : Int32) (x5 : Int32) (x6 : Int32) (w0 : Int32) (w1 : Int32) (w2 : Nat) : Option RS :=
  (aIs bs h w2 0 w1 w0).bind fun h13 =>
  (gR h13 x0 6 5).bind fun v14 =>
  (aIs bs h13 v14 0 x6 x5).bind fun h15 =>
  (gR h15 x0 6 6).bind fun v16 =>
  if 0 ≤ x4 then
    ((gR h15 x0 6 12).bind fun v18 =>
    (aI h15 v18 0 x4).bind fun v19 =>
    f_M_put_B93 bs sE h15 z x0 x1 v19 x6 v16)
  else
    (f_M_put_B93 bs sE h15 z x0 x1 0 x6 v16)
set_option maxHeartbeats 4000000 in
set_option maxRecDepth 100000 in
theorem t_M_put_B61 {G : EN} {p : Program} {l : Launch} {e : Env} {s : State} {m : MethodId} {args : Array Value} {below : List Frame} {meth : Method} {c : Code} {z0 : Z3} (hl0 : l.stackTraces = false) (C : CX G p l s m meth c b_M_put 7 y_M_put.cls) (hr : meth.sig.returnType = (some .int)) (hex : c.exceptionTable.toList = []) {r : RS} :
    ∀ (h : HH) (z : Z3) (x0 : Nat) (x1 : Int32) (x4 : Int32) (x5 : Int32) (x6 : Int32) (w0 : Int32) (w1 : Int32) (w2 : Nat), f_M_put_B61 G.2.2.1 G.2.2.2 h z x0 x1 x4 x5 x6 w0 w1 w2 = some r → ∀ (H : Heap) (locs : List Loc) (cells slots : Nat) (ls : Array Slot), ST G (RM 0 0 z0) s h z H locs cells slots → lv_has ls 7 [(0, .ref x0), (1, .int x1), (4, .int x4), (5, .int x5), (6, .int x6)] → W p l e (RM 0 0 z0) s m args below meth c H locs cells slots (MX G below s r (RM 0 0 z0).cells (RM 0 0 z0).slots) (F0 m 61 ls [.int w0, .int w1, .ref w2]) := by
  have hx := C.1
  have hb := C.2.1
  intro h z x0 x1 x4 x5 x6 w0 w1 w2 hf H locs cells slots ls hs hl
  unfold f_M_put_B61 at hf
  refine r_iast C hs d_M_put_61 hf (fun h13 H locs hf hs => ?_)
  refine lv_aload_n hx hb d_M_put_62 rfl (lv_at hl 0 rfl) ?_
  refine r_getR C hs fl_M_22 d_M_put_63 hf (fun v14 hf => ?_)
  refine lv_iload hx hb d_M_put_66 (lv_at hl 4 rfl) ?_
  refine lv_iload hx hb d_M_put_68 (lv_at hl 3 rfl) ?_
  refine r_iast C hs d_M_put_70 hf (fun h15 H locs hf hs => ?_)
  refine lv_aload_n hx hb d_M_put_71 rfl (lv_at hl 0 rfl) ?_
  refine r_getR C hs fl_M_25 d_M_put_72 hf (fun v16 hf => ?_)
  refine lv_iload hx hb d_M_put_75 (lv_at hl 4 rfl) ?_
  refine lv_iload hx hb d_M_put_77 (lv_at hl 2 rfl) ?_
  refine lv_if_ge (tgt := 86) hx hb d_M_put_79 (by decide) (fun q17 => ?_) (fun q17 => ?_)
  · have hf := ifp q17 hf
    refine lv_aload_n hx hb d_M_put_86 rfl (lv_at hl 0 rfl) ?_
    refine r_getR C hs fl_M_43 d_M_put_87 hf (fun v18 hf => ?_)
    refine lv_iload hx hb d_M_put_90 (lv_at hl 2 rfl) ?_
    refine r_iald C hs d_M_put_92 hf (fun v19 hf => ?_)
    exact t_M_put_B93 hl0 C hr hex _ _ _ _ _ _ _ hf _ _ _ _ _ hs (lv_sub hl [0, 1] rfl)
  · have hf := ifn q17 hf
    refine lv_iconst (v := 0) hx hb d_M_put_82 (by decide) ?_
    refine lv_goto (tgt := 93) hx hb d_M_put_83 (by decide) ?_
    exact t_M_put_B93 hl0 C hr hex _ _ _ _ _ _ _ hf _ _ _ _ _ hs (lv_sub hl [0, 1] rfl)
def f_M_put (bs sE : Nat) (h : HH) (z : Z3) (x0 : Nat) (x1 : Int32) (x2 : Int32) (x3 : Int32) (x4 : Int32) (x5 : Int32) : Option RS :=
  (gR h x0 6 7).bind fun v1 =>
  (aI h v1 0 x1).bind fun v2 =>
  (gR h x0 6 1).bind fun v3 =>
  (aIs bs h v3 0 ((520 * x1) + v2) x2).bind fun h4 =>
  (gR h4 x0 6 2).bind fun v5 =>
  (aIs bs h4 v5 0 ((520 * x1) + v2) x3).bind fun h6 =>
  (gR h6 x0 6 3).bind fun v7 =>
  (aIs bs h6 v7 0 ((520 * x1) + v2) x4).bind fun h8 =>
  (gR h8 x0 6 4).bind fun v9 =>
  if 0 ≤ x4 then
    ((gR h8 x0 6 11).bind fun v11 =>
    (aI h8 v11 0 x4).bind fun v12 =>
    f_M_put_B61 bs sE h8 z x0 x1 x4 x5 ((520 * x1) + v2) v12 ((520 * x1) + v2) v9)
  else
    (f_M_put_B61 bs sE h8 z x0 x1 x4 x5 ((520 * x1) + v2) 0 ((520 * x1) + v2) v9)
set_option maxHeartbeats 4000000 in
set_option maxRecDepth 100000 in
theorem c_M_put {G : EN} {l : Launch} (hl0 : l.stackTraces = false) {h : HH} {z : Z3} {x0 : Nat} {x1 : Int32} {x2 : Int32} {x3 : Int32} {x4 : Int32} {x5 : Int32} {r : RS} (hf : f_M_put G.2.2.1 G.2.2.2 h z x0 x1 x2 x3 x4 x5 = some r) : CM G l y_M_put (.code y_M_put b_M_put 7 (some .int)) 0 0 [.ref x0, .int x1, .int x2, .int x3, .int x4, .int x5] h z r := by
  refine CM.ofW hl0 rfl ?_
  intro p e s m below meth c C hr hex hin hs
  have hx := C.1
  have hb := C.2.1
  refine x_entry (n := 7) (Nat.le_of_ble_eq_true rfl) (fun ls hl => ?_)
  have hl : lv_has ls 7 [(0, .ref x0), (1, .int x1), (2, .int x2), (3, .int x3), (4, .int x4), (5, .int x5)] := hl
  unfold f_M_put at hf
  refine lv_sipush (v := 520) hx hb d_M_put_0 (by decide) ?_
  refine lv_iload_n hx hb d_M_put_3 rfl (lv_at hl 1 rfl) ?_
  refine lv_imul hx hb d_M_put_4 ?_
  refine lv_aload_n hx hb d_M_put_5 rfl (lv_at hl 0 rfl) ?_
  refine r_getR C hs fl_M_28 d_M_put_6 hf (fun v1 hf => ?_)
  refine lv_iload_n hx hb d_M_put_9 rfl (lv_at hl 1 rfl) ?_
  refine r_iald C hs d_M_put_10 hf (fun v2 hf => ?_)
  refine lv_iadd hx hb d_M_put_11 ?_
  refine lv_istore (lv' := [(6, .int ((520 * x1) + v2)), (0, .ref x0), (1, .int x1), (2, .int x2), (3, .int x3), (4, .int x4), (5, .int x5)]) hx hb d_M_put_12 hl (by decide) rfl (fun ls hl => ?_)
  refine lv_aload_n hx hb d_M_put_14 rfl (lv_at hl 1 rfl) ?_
  refine r_getR C hs fl_M_7 d_M_put_15 hf (fun v3 hf => ?_)
  refine lv_iload hx hb d_M_put_18 (lv_at hl 0 rfl) ?_
  refine lv_iload_n hx hb d_M_put_20 rfl (lv_at hl 3 rfl) ?_
  refine r_iast C hs d_M_put_21 hf (fun h4 H locs hf hs => ?_)
  refine lv_aload_n hx hb d_M_put_22 rfl (lv_at hl 1 rfl) ?_
  refine r_getR C hs fl_M_13 d_M_put_23 hf (fun v5 hf => ?_)
  refine lv_iload hx hb d_M_put_26 (lv_at hl 0 rfl) ?_
  refine lv_iload_n hx hb d_M_put_28 rfl (lv_at hl 4 rfl) ?_
  refine r_iast C hs d_M_put_29 hf (fun h6 H locs hf hs => ?_)
  refine lv_aload_n hx hb d_M_put_30 rfl (lv_at hl 1 rfl) ?_
  refine r_getR C hs fl_M_16 d_M_put_31 hf (fun v7 hf => ?_)
  refine lv_iload hx hb d_M_put_34 (lv_at hl 0 rfl) ?_
  refine lv_iload hx hb d_M_put_36 (lv_at hl 5 rfl) ?_
  refine r_iast C hs d_M_put_38 hf (fun h8 H locs hf hs => ?_)
  refine lv_aload_n hx hb d_M_put_39 rfl (lv_at hl 1 rfl) ?_
  refine r_getR C hs fl_M_19 d_M_put_40 hf (fun v9 hf => ?_)
  refine lv_iload hx hb d_M_put_43 (lv_at hl 0 rfl) ?_
  refine lv_iload hx hb d_M_put_45 (lv_at hl 5 rfl) ?_
  refine lv_if_ge (tgt := 54) hx hb d_M_put_47 (by decide) (fun q10 => ?_) (fun q10 => ?_)
  · have hf := ifp q10 hf
    refine lv_aload_n hx hb d_M_put_54 rfl (lv_at hl 1 rfl) ?_
    refine r_getR C hs fl_M_40 d_M_put_55 hf (fun v11 hf => ?_)
    refine lv_iload hx hb d_M_put_58 (lv_at hl 5 rfl) ?_
    refine r_iald C hs d_M_put_60 hf (fun v12 hf => ?_)
    exact t_M_put_B61 hl0 C hr hex _ _ _ _ _ _ _ _ _ _ hf _ _ _ _ _ hs (lv_sub hl [1, 2, 5, 6, 0] rfl)
  · have hf := ifn q10 hf
    refine lv_iconst (v := 0) hx hb d_M_put_50 (by decide) ?_
    refine lv_goto (tgt := 61) hx hb d_M_put_51 (by decide) ?_
    exact t_M_put_B61 hl0 C hr hex _ _ _ _ _ _ _ _ _ _ hf _ _ _ _ _ hs (lv_sub hl [1, 2, 5, 6, 0] rfl)
def f_M_send_B105 (bs sE : Nat) (h : HH) (z : Z3) (x0 : Nat) (x1 : Int32) (x3 : Int32) (x4 : Int32) (x5 : Int32) (x6 : Int32) : Option RS :=
  (gR h x0 6 13).bind fun v13 =>
  (aI h v13 0 x1).bind fun v14 =>
  (aIs bs h v13 0 x1 (v14 ||| (1 <<< (x3 &&& 31)))).bind fun h15 =>
  if x6 < 0 then
    ((oK h15 x0 6).bind fun _ =>
    cI (f_M_put bs sE h15 z x0 x3 1 x5 x1 x4) fun v19 h17 z18 =>
    some (.inl (some (.int v19)), h17, z18))
  else
    (some (.inl (some (.int x6)), h15, z))
set_option maxHeartbeats 4000000 in
set_option maxRecDepth 100000 in
theorem t_M_send_B105 {G : EN} {p : Program} {l : Launch} {e : Env} {s : State} {m : MethodId} {args : Array Value} {below : List Frame} {meth : Method} {c : Code} {z0 : Z3} (hl0 : l.stackTraces = false) (C : CX G p l s m meth c b_M_send 7 y_M_send.cls) (hr : meth.sig.returnType = (some .int)) (hex : c.exceptionTable.toList = []) {r : RS} :
    ∀ (h : HH) (z : Z3) (x0 : Nat) (x1 : Int32) (x3 : Int32) (x4 : Int32) (x5 : Int32) (x6 : Int32), f_M_send_B105 G.2.2.1 G.2.2.2 h z x0 x1 x3 x4 x5 x6 = some r → ∀ (H : Heap) (locs : List Loc) (cells slots : Nat) (ls : Array Slot), ST G (RM 2 47 z0) s h z H locs cells slots → lv_has ls 7 [(0, .ref x0), (1, .int x1), (3, .int x3), (4, .int x4), (5, .int x5), (6, .int x6)] → W p l e (RM 2 47 z0) s m args below meth c H locs cells slots (MX G below s r (RM 2 47 z0).cells (RM 2 47 z0).slots) (F0 m 105 ls []) := by
  have hx := C.1
  have hb := C.2.1
  intro h z x0 x1 x3 x4 x5 x6 hf H locs cells slots ls hs hl
  unfold f_M_send_B105 at hf
  refine lv_aload_n hx hb d_M_send_105 rfl (lv_at hl 0 rfl) ?_
  refine r_getR C hs fl_M_46 d_M_send_106 hf (fun v13 hf => ?_)
  refine lv_iload_n hx hb d_M_send_109 rfl (lv_at hl 1 rfl) ?_
  refine lv_dup2_11 hx hb d_M_send_110 rfl rfl ?_
  refine r_iald C hs d_M_send_111 hf (fun v14 hf => ?_)
  refine lv_iconst (v := 1) hx hb d_M_send_112 (by decide) ?_
  refine lv_iload_n hx hb d_M_send_113 rfl (lv_at hl 2 rfl) ?_
  refine lv_ishl hx hb d_M_send_114 ?_
  refine lv_ior hx hb d_M_send_115 ?_
  refine r_iast C hs d_M_send_116 hf (fun h15 H locs hf hs => ?_)
  refine lv_iload hx hb d_M_send_117 (lv_at hl 5 rfl) ?_
  refine lv_if_lt (tgt := 127) hx hb d_M_send_119 (by decide) (fun q16 => ?_) (fun q16 => ?_)
  · have hf := ifp q16 hf
    refine lv_aload_n hx hb d_M_send_127 rfl (lv_at hl 0 rfl) ?_
    refine lv_iload_n hx hb d_M_send_128 rfl (lv_at hl 2 rfl) ?_
    refine lv_iconst (v := 1) hx hb d_M_send_129 (by decide) ?_
    refine lv_iload hx hb d_M_send_130 (lv_at hl 4 rfl) ?_
    refine lv_iload_n hx hb d_M_send_132 rfl (lv_at hl 1 rfl) ?_
    refine lv_iload hx hb d_M_send_133 (lv_at hl 3 rfl) ?_
    obtain ⟨_, ho, hf⟩ := bd hf
    refine k_I C hs hex hf (fun res e1 => iv_V (b := x0) (As := [.int x3, .int 1, .int x5, .int x1, .int x4]) (rest := []) C hs cv_M_115 (c_M_put hl0 e1) (ci := 6) rfl rfl ho rfl hl.1 rfl (Nat.le_of_ble_eq_true rfl) d_M_send_135 ⟨Nat.le_of_ble_eq_true rfl, Nat.le_of_ble_eq_true rfl⟩) (fun v19 h17 z18 H locs cells slots hf hs => ?_)
    exact r_ireturn C hs hr d_M_send_138 hf
  · have hf := ifn q16 hf
    refine lv_iload hx hb d_M_send_122 (lv_at hl 5 rfl) ?_
    refine lv_goto (tgt := 138) hx hb d_M_send_124 (by decide) ?_
    exact r_ireturn C hs hr d_M_send_138 hf
def f_M_send_B86 (bs sE : Nat) (h : HH) (z : Z3) (x0 : Nat) (x1 : Int32) (x3 : Int32) (x4 : Int32) (x5 : Int32) (x6 : Int32) : Option RS :=
  if 0 ≤ x6 then
    (f_M_send_B105 bs sE h z x0 x1 x3 x4 x5 x6)
  else
    ((oK h x0 6).bind fun _ =>
    cI (f_M_full bs sE h z x0 x3) fun v22 h20 z21 =>
    if v22 = 0 then
      (f_M_send_B105 bs sE h20 z21 x0 x1 x3 x4 x5 x6)
    else
      ((oK h20 x0 6).bind fun _ =>
      cI (f_M_fail bs sE h20 z21 x0 3) fun v26 h24 z25 =>
      some (.inl (some (.int v26)), h24, z25)))
set_option maxHeartbeats 4000000 in
set_option maxRecDepth 100000 in
theorem t_M_send_B86 {G : EN} {p : Program} {l : Launch} {e : Env} {s : State} {m : MethodId} {args : Array Value} {below : List Frame} {meth : Method} {c : Code} {z0 : Z3} (hl0 : l.stackTraces = false) (C : CX G p l s m meth c b_M_send 7 y_M_send.cls) (hr : meth.sig.returnType = (some .int)) (hex : c.exceptionTable.toList = []) {r : RS} :
    ∀ (h : HH) (z : Z3) (x0 : Nat) (x1 : Int32) (x3 : Int32) (x4 : Int32) (x5 : Int32) (x6 : Int32), f_M_send_B86 G.2.2.1 G.2.2.2 h z x0 x1 x3 x4 x5 x6 = some r → ∀ (H : Heap) (locs : List Loc) (cells slots : Nat) (ls : Array Slot), ST G (RM 2 47 z0) s h z H locs cells slots → lv_has ls 7 [(0, .ref x0), (1, .int x1), (3, .int x3), (4, .int x4), (5, .int x5), (6, .int x6)] → W p l e (RM 2 47 z0) s m args below meth c H locs cells slots (MX G below s r (RM 2 47 z0).cells (RM 2 47 z0).slots) (F0 m 86 ls []) := by
  have hx := C.1
  have hb := C.2.1
  intro h z x0 x1 x3 x4 x5 x6 hf H locs cells slots ls hs hl
  unfold f_M_send_B86 at hf
  refine lv_iload hx hb d_M_send_86 (lv_at hl 5 rfl) ?_
  refine lv_if_ge (tgt := 105) hx hb d_M_send_88 (by decide) (fun q12 => ?_) (fun q12 => ?_)
  · have hf := ifp q12 hf
    exact t_M_send_B105 hl0 C hr hex _ _ _ _ _ _ _ _ hf _ _ _ _ _ hs (lv_sub hl [0, 1, 2, 3, 4, 5] rfl)
  · have hf := ifn q12 hf
    refine lv_aload_n hx hb d_M_send_91 rfl (lv_at hl 0 rfl) ?_
    refine lv_iload_n hx hb d_M_send_92 rfl (lv_at hl 2 rfl) ?_
    obtain ⟨_, ho, hf⟩ := bd hf
    refine k_I C hs hex hf (fun res e1 => iv_V (b := x0) (As := [.int x3]) (rest := []) C hs cv_M_111 (c_M_full hl0 e1) (ci := 6) rfl rfl ho rfl hl.1 rfl (Nat.le_of_ble_eq_true rfl) d_M_send_93 ⟨Nat.le_of_ble_eq_true rfl, Nat.le_of_ble_eq_true rfl⟩) (fun v22 h20 z21 H locs cells slots hf hs => ?_)
    refine lv_if_eq (tgt := 105) hx hb d_M_send_96 (by decide) (fun q23 => ?_) (fun q23 => ?_)
    · have hf := ifp q23 hf
      exact t_M_send_B105 hl0 C hr hex _ _ _ _ _ _ _ _ hf _ _ _ _ _ hs (lv_sub hl [0, 1, 2, 3, 4, 5] rfl)
    · have hf := ifn q23 hf
      refine lv_aload_n hx hb d_M_send_99 rfl (lv_at hl 0 rfl) ?_
      refine lv_iconst (v := 3) hx hb d_M_send_100 (by decide) ?_
      obtain ⟨_, ho, hf⟩ := bd hf
      refine k_I C hs hex hf (fun res e1 => iv_V (b := x0) (As := [.int 3]) (rest := []) C hs cv_M_86 (c_M_fail hl0 e1) (ci := 6) rfl rfl ho rfl hl.1 rfl (Nat.le_of_ble_eq_true rfl) d_M_send_101 ⟨Nat.le_of_ble_eq_true rfl, Nat.le_of_ble_eq_true rfl⟩) (fun v26 h24 z25 H locs cells slots hf hs => ?_)
      exact r_ireturn C hs hr d_M_send_104 hf
def f_M_send_B42 (bs sE : Nat) (h : HH) (z : Z3) (x0 : Nat) (x1 : Int32) (x3 : Int32) (x4 : Int32) (x5 : Int32) (w0 : Int32) (w1 : Nat) : Option RS :=
  (pV bs h w1 6 0 (.inl w0)).bind fun h5 =>
  (gI h5 x0 6 0).bind fun v6 =>
  if v6 ≤ 0 then
    ((oK h5 x0 6).bind fun _ =>
    cI (f_M_recent bs sE h5 z x0 x1 x3 x4) fun v10 h8 z9 =>
    if 0 ≤ v10 then
      (f_M_send_B86 bs sE h8 z9 x0 x1 x3 x4 x5 v10)
    else
      ((oK h8 x0 6).bind fun _ =>
      cI (f_M_next bs sE h8 z9 x0 x1 x3) fun v29 h27 z28 =>
      if x4 = v29 then
        (f_M_send_B86 bs sE h27 z28 x0 x1 x3 x4 x5 v10)
      else
        ((oK h27 x0 6).bind fun _ =>
        cI (f_M_fail bs sE h27 z28 x0 4) fun v33 h31 z32 =>
        some (.inl (some (.int v33)), h31, z32))))
  else
    (some (.inl (some (.int 0)), h5, z))
set_option maxHeartbeats 4000000 in
set_option maxRecDepth 100000 in
theorem t_M_send_B42 {G : EN} {p : Program} {l : Launch} {e : Env} {s : State} {m : MethodId} {args : Array Value} {below : List Frame} {meth : Method} {c : Code} {z0 : Z3} (hl0 : l.stackTraces = false) (C : CX G p l s m meth c b_M_send 7 y_M_send.cls) (hr : meth.sig.returnType = (some .int)) (hex : c.exceptionTable.toList = []) {r : RS} :
    ∀ (h : HH) (z : Z3) (x0 : Nat) (x1 : Int32) (x3 : Int32) (x4 : Int32) (x5 : Int32) (w0 : Int32) (w1 : Nat), f_M_send_B42 G.2.2.1 G.2.2.2 h z x0 x1 x3 x4 x5 w0 w1 = some r → ∀ (H : Heap) (locs : List Loc) (cells slots : Nat) (ls : Array Slot), ST G (RM 2 47 z0) s h z H locs cells slots → lv_has ls 7 [(0, .ref x0), (1, .int x1), (3, .int x3), (4, .int x4), (5, .int x5)] → W p l e (RM 2 47 z0) s m args below meth c H locs cells slots (MX G below s r (RM 2 47 z0).cells (RM 2 47 z0).slots) (F0 m 42 ls [.int w0, .ref w1]) := by
  have hx := C.1
  have hb := C.2.1
  intro h z x0 x1 x3 x4 x5 w0 w1 hf H locs cells slots ls hs hl
  unfold f_M_send_B42 at hf
  refine r_putV (v := (.inl w0)) C hs flp_M_71 rfl rfl d_M_send_42 hf (fun h5 H locs hf hs => ?_)
  refine lv_aload_n hx hb d_M_send_45 rfl (lv_at hl 0 rfl) ?_
  refine r_getI C hs fl_M_71 d_M_send_46 hf (fun v6 hf => ?_)
  refine lv_if_le (tgt := 54) hx hb d_M_send_49 (by decide) (fun q7 => ?_) (fun q7 => ?_)
  · have hf := ifp q7 hf
    refine lv_aload_n hx hb d_M_send_54 rfl (lv_at hl 0 rfl) ?_
    refine lv_iload_n hx hb d_M_send_55 rfl (lv_at hl 1 rfl) ?_
    refine lv_iload_n hx hb d_M_send_56 rfl (lv_at hl 2 rfl) ?_
    refine lv_iload hx hb d_M_send_57 (lv_at hl 3 rfl) ?_
    obtain ⟨_, ho, hf⟩ := bd hf
    refine k_I C hs hex hf (fun res e1 => iv_V (b := x0) (As := [.int x1, .int x3, .int x4]) (rest := []) C hs cv_M_104 (c_M_recent hl0 e1) (ci := 6) rfl rfl ho rfl hl.1 rfl (Nat.le_of_ble_eq_true rfl) d_M_send_59 ⟨Nat.le_of_ble_eq_true rfl, Nat.le_of_ble_eq_true rfl⟩) (fun v10 h8 z9 H locs cells slots hf hs => ?_)
    refine lv_istore (lv' := [(6, .int v10), (0, .ref x0), (1, .int x1), (3, .int x3), (4, .int x4), (5, .int x5)]) hx hb d_M_send_62 hl (by decide) rfl (fun ls hl => ?_)
    refine lv_iload hx hb d_M_send_64 (lv_at hl 0 rfl) ?_
    refine lv_if_ge (tgt := 86) hx hb d_M_send_66 (by decide) (fun q11 => ?_) (fun q11 => ?_)
    · have hf := ifp q11 hf
      exact t_M_send_B86 hl0 C hr hex _ _ _ _ _ _ _ _ hf _ _ _ _ _ hs (lv_sub hl [1, 2, 3, 4, 5, 0] rfl)
    · have hf := ifn q11 hf
      refine lv_iload hx hb d_M_send_69 (lv_at hl 4 rfl) ?_
      refine lv_aload_n hx hb d_M_send_71 rfl (lv_at hl 1 rfl) ?_
      refine lv_iload_n hx hb d_M_send_72 rfl (lv_at hl 2 rfl) ?_
      refine lv_iload_n hx hb d_M_send_73 rfl (lv_at hl 3 rfl) ?_
      obtain ⟨_, ho, hf⟩ := bd hf
      refine k_I C hs hex hf (fun res e1 => iv_V (b := x0) (As := [.int x1, .int x3]) (rest := [.int x4]) C hs cv_M_107 (c_M_next hl0 e1) (ci := 6) rfl rfl ho rfl hl.1 rfl (Nat.le_of_ble_eq_true rfl) d_M_send_74 ⟨Nat.le_of_ble_eq_true rfl, Nat.le_of_ble_eq_true rfl⟩) (fun v29 h27 z28 H locs cells slots hf hs => ?_)
      refine lv_icmp_eq (tgt := 86) hx hb d_M_send_77 (by decide) (fun q30 => ?_) (fun q30 => ?_)
      · have hf := ifp q30 hf
        exact t_M_send_B86 hl0 C hr hex _ _ _ _ _ _ _ _ hf _ _ _ _ _ hs (lv_sub hl [1, 2, 3, 4, 5, 0] rfl)
      · have hf := ifn q30 hf
        refine lv_aload_n hx hb d_M_send_80 rfl (lv_at hl 1 rfl) ?_
        refine lv_iconst (v := 4) hx hb d_M_send_81 (by decide) ?_
        obtain ⟨_, ho, hf⟩ := bd hf
        refine k_I C hs hex hf (fun res e1 => iv_V (b := x0) (As := [.int 4]) (rest := []) C hs cv_M_86 (c_M_fail hl0 e1) (ci := 6) rfl rfl ho rfl hl.1 rfl (Nat.le_of_ble_eq_true rfl) d_M_send_82 ⟨Nat.le_of_ble_eq_true rfl, Nat.le_of_ble_eq_true rfl⟩) (fun v33 h31 z32 H locs cells slots hf hs => ?_)
        exact r_ireturn C hs hr d_M_send_85 hf
  · have hf := ifn q7 hf
    refine lv_iconst (v := 0) hx hb d_M_send_52 (by decide) ?_
    exact r_ireturn C hs hr d_M_send_53 hf
def f_M_send_B31 (bs sE : Nat) (h : HH) (z : Z3) (x0 : Nat) (x1 : Int32) (x3 : Int32) (x4 : Int32) (x5 : Int32) (w0 : Nat) : Option RS :=
  f_M_send_B42 bs sE h z x0 x1 x3 x4 x5 1 w0
set_option maxHeartbeats 4000000 in
set_option maxRecDepth 100000 in
theorem t_M_send_B31 {G : EN} {p : Program} {l : Launch} {e : Env} {s : State} {m : MethodId} {args : Array Value} {below : List Frame} {meth : Method} {c : Code} {z0 : Z3} (hl0 : l.stackTraces = false) (C : CX G p l s m meth c b_M_send 7 y_M_send.cls) (hr : meth.sig.returnType = (some .int)) (hex : c.exceptionTable.toList = []) {r : RS} :
    ∀ (h : HH) (z : Z3) (x0 : Nat) (x1 : Int32) (x3 : Int32) (x4 : Int32) (x5 : Int32) (w0 : Nat), f_M_send_B31 G.2.2.1 G.2.2.2 h z x0 x1 x3 x4 x5 w0 = some r → ∀ (H : Heap) (locs : List Loc) (cells slots : Nat) (ls : Array Slot), ST G (RM 2 47 z0) s h z H locs cells slots → lv_has ls 7 [(0, .ref x0), (1, .int x1), (3, .int x3), (4, .int x4), (5, .int x5)] → W p l e (RM 2 47 z0) s m args below meth c H locs cells slots (MX G below s r (RM 2 47 z0).cells (RM 2 47 z0).slots) (F0 m 31 ls [.ref w0]) := by
  have hx := C.1
  have hb := C.2.1
  intro h z x0 x1 x3 x4 x5 w0 hf H locs cells slots ls hs hl
  unfold f_M_send_B31 at hf
  refine lv_iconst (v := 1) hx hb d_M_send_31 (by decide) ?_
  refine lv_goto (tgt := 42) hx hb d_M_send_32 (by decide) ?_
  exact t_M_send_B42 hl0 C hr hex _ _ _ _ _ _ _ _ _ hf _ _ _ _ _ hs (lv_sub hl [0, 1, 2, 3, 4] rfl)
def f_M_send (bs sE : Nat) (h : HH) (z : Z3) (x0 : Nat) (x1 : Int32) (x2 : Int32) (x3 : Int32) (x4 : Int32) (x5 : Int32) : Option RS :=
  (oK h x0 6).bind fun _ =>
  cI (f_M_out bs sE h z x0 x1 4) fun v3 h1 z2 =>
  if v3 = 0 then
    ((oK h1 x0 6).bind fun _ =>
    cI (f_M_out bs sE h1 z2 x0 x3 4) fun v36 h34 z35 =>
    if v36 = 0 then
      ((oK h34 x0 6).bind fun _ =>
      cI (f_M_out bs sE h34 z35 x0 x4 1001) fun v40 h38 z39 =>
      if v40 = 0 then
        ((oK h38 x0 6).bind fun _ =>
        cI (f_M_check bs sE h38 z39 x0 x1 x2 1) fun v44 h42 z43 =>
        f_M_send_B42 bs sE h42 z43 x0 x1 x3 x4 x5 v44 x0)
      else
        (f_M_send_B31 bs sE h38 z39 x0 x1 x3 x4 x5 x0))
    else
      (f_M_send_B31 bs sE h34 z35 x0 x1 x3 x4 x5 x0))
  else
    (f_M_send_B31 bs sE h1 z2 x0 x1 x3 x4 x5 x0)
set_option maxHeartbeats 4000000 in
set_option maxRecDepth 100000 in
theorem c_M_send {G : EN} {l : Launch} (hl0 : l.stackTraces = false) {h : HH} {z : Z3} {x0 : Nat} {x1 : Int32} {x2 : Int32} {x3 : Int32} {x4 : Int32} {x5 : Int32} {r : RS} (hf : f_M_send G.2.2.1 G.2.2.2 h z x0 x1 x2 x3 x4 x5 = some r) : CM G l y_M_send (.code y_M_send b_M_send 7 (some .int)) 2 47 [.ref x0, .int x1, .int x2, .int x3, .int x4, .int x5] h z r := by
  refine CM.ofW hl0 rfl ?_
  intro p e s m below meth c C hr hex hin hs
  have hx := C.1
  have hb := C.2.1
  refine x_entry (n := 7) (Nat.le_of_ble_eq_true rfl) (fun ls hl => ?_)
  have hl : lv_has ls 7 [(0, .ref x0), (1, .int x1), (2, .int x2), (3, .int x3), (4, .int x4), (5, .int x5)] := hl
  unfold f_M_send at hf
  refine lv_aload_n hx hb d_M_send_0 rfl (lv_at hl 0 rfl) ?_
  refine lv_aload_n hx hb d_M_send_1 rfl (lv_at hl 0 rfl) ?_
  refine lv_iload_n hx hb d_M_send_2 rfl (lv_at hl 1 rfl) ?_
  refine lv_iconst (v := 4) hx hb d_M_send_3 (by decide) ?_
  obtain ⟨_, ho, hf⟩ := bd hf
  refine k_I C hs hex hf (fun res e1 => iv_V (b := x0) (As := [.int x1, .int 4]) (rest := [.ref x0]) C hs cv_M_83 (c_M_out hl0 e1) (ci := 6) rfl rfl ho rfl hl.1 rfl (Nat.le_of_ble_eq_true rfl) d_M_send_4 ⟨Nat.le_of_ble_eq_true rfl, Nat.le_of_ble_eq_true rfl⟩) (fun v3 h1 z2 H locs cells slots hf hs => ?_)
  refine lv_if_ne (tgt := 31) hx hb d_M_send_7 (by decide) (fun q4 => ?_) (fun q4 => ?_)
  · have hf := ifn q4 hf
    exact t_M_send_B31 hl0 C hr hex _ _ _ _ _ _ _ _ hf _ _ _ _ _ hs (lv_sub hl [0, 1, 3, 4, 5] rfl)
  · have hf := ifp q4 hf
    refine lv_aload_n hx hb d_M_send_10 rfl (lv_at hl 0 rfl) ?_
    refine lv_iload_n hx hb d_M_send_11 rfl (lv_at hl 3 rfl) ?_
    refine lv_iconst (v := 4) hx hb d_M_send_12 (by decide) ?_
    obtain ⟨_, ho, hf⟩ := bd hf
    refine k_I C hs hex hf (fun res e1 => iv_V (b := x0) (As := [.int x3, .int 4]) (rest := [.ref x0]) C hs cv_M_83 (c_M_out hl0 e1) (ci := 6) rfl rfl ho rfl hl.1 rfl (Nat.le_of_ble_eq_true rfl) d_M_send_13 ⟨Nat.le_of_ble_eq_true rfl, Nat.le_of_ble_eq_true rfl⟩) (fun v36 h34 z35 H locs cells slots hf hs => ?_)
    refine lv_if_ne (tgt := 31) hx hb d_M_send_16 (by decide) (fun q37 => ?_) (fun q37 => ?_)
    · have hf := ifn q37 hf
      exact t_M_send_B31 hl0 C hr hex _ _ _ _ _ _ _ _ hf _ _ _ _ _ hs (lv_sub hl [0, 1, 3, 4, 5] rfl)
    · have hf := ifp q37 hf
      refine lv_aload_n hx hb d_M_send_19 rfl (lv_at hl 0 rfl) ?_
      refine lv_iload hx hb d_M_send_20 (lv_at hl 4 rfl) ?_
      refine lv_sipush (v := 1001) hx hb d_M_send_22 (by decide) ?_
      obtain ⟨_, ho, hf⟩ := bd hf
      refine k_I C hs hex hf (fun res e1 => iv_V (b := x0) (As := [.int x4, .int 1001]) (rest := [.ref x0]) C hs cv_M_83 (c_M_out hl0 e1) (ci := 6) rfl rfl ho rfl hl.1 rfl (Nat.le_of_ble_eq_true rfl) d_M_send_25 ⟨Nat.le_of_ble_eq_true rfl, Nat.le_of_ble_eq_true rfl⟩) (fun v40 h38 z39 H locs cells slots hf hs => ?_)
      refine lv_if_eq (tgt := 35) hx hb d_M_send_28 (by decide) (fun q41 => ?_) (fun q41 => ?_)
      · have hf := ifp q41 hf
        refine lv_aload_n hx hb d_M_send_35 rfl (lv_at hl 0 rfl) ?_
        refine lv_iload_n hx hb d_M_send_36 rfl (lv_at hl 1 rfl) ?_
        refine lv_iload_n hx hb d_M_send_37 rfl (lv_at hl 2 rfl) ?_
        refine lv_iconst (v := 1) hx hb d_M_send_38 (by decide) ?_
        obtain ⟨_, ho, hf⟩ := bd hf
        refine k_I C hs hex hf (fun res e1 => iv_V (b := x0) (As := [.int x1, .int x2, .int 1]) (rest := [.ref x0]) C hs cv_M_94 (c_M_check hl0 e1) (ci := 6) rfl rfl ho rfl hl.1 rfl (Nat.le_of_ble_eq_true rfl) d_M_send_39 ⟨Nat.le_of_ble_eq_true rfl, Nat.le_of_ble_eq_true rfl⟩) (fun v44 h42 z43 H locs cells slots hf hs => ?_)
        exact t_M_send_B42 hl0 C hr hex _ _ _ _ _ _ _ _ _ hf _ _ _ _ _ hs (lv_sub hl [0, 1, 3, 4, 5] rfl)
      · have hf := ifn q41 hf
        exact t_M_send_B31 hl0 C hr hex _ _ _ _ _ _ _ _ hf _ _ _ _ _ hs (lv_sub hl [0, 1, 3, 4, 5] rfl)
def fb_M_pend_L88 (bs sE : Nat) (REC : HH → Z3 → Nat → Int32 → Int32 → Int32 → Option RS) (h : HH) (z : Z3) (x0 : Nat) (x1 : Int32) (x6 : Int32) (x7 : Int32) : Option RS :=
  if 8 ≤ x7 then
    (some (.inl (some (.int x6)), h, z))
  else
    ((gR h x0 6 15).bind fun v11 =>
    (aI h v11 0 ((8 * x1) + x7)).bind fun v12 =>
    if v12 < 0 then
      (REC h z x0 x1 (x6 + 0) (x7 + 1))
    else
      (REC h z x0 x1 (x6 + 1) (x7 + 1)))
def f_M_pend_L88 (bs sE : Nat) : Nat → HH → Z3 → Nat → Int32 → Int32 → Int32 → Option RS
  | 0 => fun _ _ _ _ _ _ => none
  | n + 1 => fb_M_pend_L88 bs sE (f_M_pend_L88 bs sE n)
set_option maxHeartbeats 4000000 in
set_option maxRecDepth 100000 in
theorem t_M_pend_L88 {G : EN} {p : Program} {l : Launch} {e : Env} {s : State} {m : MethodId} {args : Array Value} {below : List Frame} {meth : Method} {c : Code} {z0 : Z3} (hl0 : l.stackTraces = false) (C : CX G p l s m meth c b_M_pend 8 y_M_pend.cls) (hr : meth.sig.returnType = (some .int)) (hex : c.exceptionTable.toList = []) {r : RS} :
    ∀ (n : Nat) (h : HH) (z : Z3) (x0 : Nat) (x1 : Int32) (x6 : Int32) (x7 : Int32), f_M_pend_L88 G.2.2.1 G.2.2.2 n h z x0 x1 x6 x7 = some r → ∀ (H : Heap) (locs : List Loc) (cells slots : Nat) (ls : Array Slot), ST G (RM 1 23 z0) s h z H locs cells slots → lv_has ls 8 [(0, .ref x0), (1, .int x1), (6, .int x6), (7, .int x7)] → W p l e (RM 1 23 z0) s m args below meth c H locs cells slots (MX G below s r (RM 1 23 z0).cells (RM 1 23 z0).slots) (F0 m 88 ls []) := by
  have hx := C.1
  have hb := C.2.1
  intro n
  induction n with
  | zero => intro h z x0 x1 x6 x7 hf; exact nomatch (show (none : Option RS) = some r from hf)
  | succ n ih =>
    intro h z x0 x1 x6 x7 hf H locs cells slots ls hs hl
    have hf : fb_M_pend_L88 G.2.2.1 G.2.2.2 (f_M_pend_L88 G.2.2.1 G.2.2.2 n) h z x0 x1 x6 x7 = some r := hf
    unfold fb_M_pend_L88 at hf
    refine lv_iload hx hb d_M_pend_88 (lv_at hl 3 rfl) ?_
    refine lv_bipush (v := 8) hx hb d_M_pend_90 (by decide) ?_
    refine lv_icmp_ge (tgt := 126) hx hb d_M_pend_92 (by decide) (fun q10 => ?_) (fun q10 => ?_)
    · have hf := ifp q10 hf
      refine lv_iload hx hb d_M_pend_126 (lv_at hl 2 rfl) ?_
      exact r_ireturn C hs hr d_M_pend_128 hf
    · have hf := ifn q10 hf
      refine lv_iload hx hb d_M_pend_95 (lv_at hl 2 rfl) ?_
      refine lv_aload_n hx hb d_M_pend_97 rfl (lv_at hl 0 rfl) ?_
      refine r_getR C hs fl_M_52 d_M_pend_98 hf (fun v11 hf => ?_)
      refine lv_bipush (v := 8) hx hb d_M_pend_101 (by decide) ?_
      refine lv_iload_n hx hb d_M_pend_103 rfl (lv_at hl 1 rfl) ?_
      refine lv_imul hx hb d_M_pend_104 ?_
      refine lv_iload hx hb d_M_pend_105 (lv_at hl 3 rfl) ?_
      refine lv_iadd hx hb d_M_pend_107 ?_
      refine r_iald C hs d_M_pend_108 hf (fun v12 hf => ?_)
      refine lv_if_lt (tgt := 116) hx hb d_M_pend_109 (by decide) (fun q13 => ?_) (fun q13 => ?_)
      · have hf := ifp q13 hf
        refine lv_iconst (v := 0) hx hb d_M_pend_116 (by decide) ?_
        refine lv_iadd hx hb d_M_pend_117 ?_
        refine lv_istore (lv' := [(6, .int (x6 + 0)), (0, .ref x0), (1, .int x1), (7, .int x7)]) hx hb d_M_pend_118 hl (by decide) rfl (fun ls hl => ?_)
        refine lv_iinc (v := x7 + 1) (lv' := [(7, .int (x7 + 1)), (6, .int (x6 + 0)), (0, .ref x0), (1, .int x1)]) hx hb d_M_pend_120 hl (k := 3) rfl rfl (by decide) rfl (fun ls hl => ?_)
        refine lv_goto (tgt := 88) hx hb d_M_pend_123 (by decide) ?_
        exact ih _ _ _ _ _ _ hf _ _ _ _ _ hs (lv_sub hl [2, 3, 1, 0] rfl)
      · have hf := ifn q13 hf
        refine lv_iconst (v := 1) hx hb d_M_pend_112 (by decide) ?_
        refine lv_goto (tgt := 117) hx hb d_M_pend_113 (by decide) ?_
        refine lv_iadd hx hb d_M_pend_117 ?_
        refine lv_istore (lv' := [(6, .int (x6 + 1)), (0, .ref x0), (1, .int x1), (7, .int x7)]) hx hb d_M_pend_118 hl (by decide) rfl (fun ls hl => ?_)
        refine lv_iinc (v := x7 + 1) (lv' := [(7, .int (x7 + 1)), (6, .int (x6 + 1)), (0, .ref x0), (1, .int x1)]) hx hb d_M_pend_120 hl (k := 3) rfl rfl (by decide) rfl (fun ls hl => ?_)
        refine lv_goto (tgt := 88) hx hb d_M_pend_123 (by decide) ?_
        exact ih _ _ _ _ _ _ hf _ _ _ _ _ hs (lv_sub hl [2, 3, 1, 0] rfl)
def f_M_pend_B52 (bs sE : Nat) (h : HH) (z : Z3) (x0 : Nat) (x1 : Int32) (x3 : Int32) (x4 : Int32) (x5 : Int32) (w0 : Int32) (w1 : Nat) : Option RS :=
  (pV bs h w1 6 0 (.inl w0)).bind fun h5 =>
  (gI h5 x0 6 0).bind fun v6 =>
  if v6 ≤ 0 then
    ((gR h5 x0 6 15).bind fun v8 =>
    (aIs bs h5 v8 0 (((8 * x1) + (4 * x3)) + x4) x5).bind fun h9 =>
    f_M_pend_L88 bs sE FU h9 z x0 x1 0 0)
  else
    (some (.inl (some (.int 0)), h5, z))
set_option maxHeartbeats 4000000 in
set_option maxRecDepth 100000 in
theorem t_M_pend_B52 {G : EN} {p : Program} {l : Launch} {e : Env} {s : State} {m : MethodId} {args : Array Value} {below : List Frame} {meth : Method} {c : Code} {z0 : Z3} (hl0 : l.stackTraces = false) (C : CX G p l s m meth c b_M_pend 8 y_M_pend.cls) (hr : meth.sig.returnType = (some .int)) (hex : c.exceptionTable.toList = []) {r : RS} :
    ∀ (h : HH) (z : Z3) (x0 : Nat) (x1 : Int32) (x3 : Int32) (x4 : Int32) (x5 : Int32) (w0 : Int32) (w1 : Nat), f_M_pend_B52 G.2.2.1 G.2.2.2 h z x0 x1 x3 x4 x5 w0 w1 = some r → ∀ (H : Heap) (locs : List Loc) (cells slots : Nat) (ls : Array Slot), ST G (RM 1 23 z0) s h z H locs cells slots → lv_has ls 8 [(0, .ref x0), (1, .int x1), (3, .int x3), (4, .int x4), (5, .int x5)] → W p l e (RM 1 23 z0) s m args below meth c H locs cells slots (MX G below s r (RM 1 23 z0).cells (RM 1 23 z0).slots) (F0 m 52 ls [.int w0, .ref w1]) := by
  have hx := C.1
  have hb := C.2.1
  intro h z x0 x1 x3 x4 x5 w0 w1 hf H locs cells slots ls hs hl
  unfold f_M_pend_B52 at hf
  refine r_putV (v := (.inl w0)) C hs flp_M_71 rfl rfl d_M_pend_52 hf (fun h5 H locs hf hs => ?_)
  refine lv_aload_n hx hb d_M_pend_55 rfl (lv_at hl 0 rfl) ?_
  refine r_getI C hs fl_M_71 d_M_pend_56 hf (fun v6 hf => ?_)
  refine lv_if_le (tgt := 64) hx hb d_M_pend_59 (by decide) (fun q7 => ?_) (fun q7 => ?_)
  · have hf := ifp q7 hf
    refine lv_aload_n hx hb d_M_pend_64 rfl (lv_at hl 0 rfl) ?_
    refine r_getR C hs fl_M_52 d_M_pend_65 hf (fun v8 hf => ?_)
    refine lv_bipush (v := 8) hx hb d_M_pend_68 (by decide) ?_
    refine lv_iload_n hx hb d_M_pend_70 rfl (lv_at hl 1 rfl) ?_
    refine lv_imul hx hb d_M_pend_71 ?_
    refine lv_iconst (v := 4) hx hb d_M_pend_72 (by decide) ?_
    refine lv_iload_n hx hb d_M_pend_73 rfl (lv_at hl 2 rfl) ?_
    refine lv_imul hx hb d_M_pend_74 ?_
    refine lv_iadd hx hb d_M_pend_75 ?_
    refine lv_iload hx hb d_M_pend_76 (lv_at hl 3 rfl) ?_
    refine lv_iadd hx hb d_M_pend_78 ?_
    refine lv_iload hx hb d_M_pend_79 (lv_at hl 4 rfl) ?_
    refine r_iast C hs d_M_pend_81 hf (fun h9 H locs hf hs => ?_)
    refine lv_iconst (v := 0) hx hb d_M_pend_82 (by decide) ?_
    refine lv_istore (lv' := [(6, .int 0), (0, .ref x0), (1, .int x1), (3, .int x3), (4, .int x4), (5, .int x5)]) hx hb d_M_pend_83 hl (by decide) rfl (fun ls hl => ?_)
    refine lv_iconst (v := 0) hx hb d_M_pend_85 (by decide) ?_
    refine lv_istore (lv' := [(7, .int 0), (6, .int 0), (0, .ref x0), (1, .int x1), (3, .int x3), (4, .int x4), (5, .int x5)]) hx hb d_M_pend_86 hl (by decide) rfl (fun ls hl => ?_)
    exact t_M_pend_L88 hl0 C hr hex FU _ _ _ _ _ _ hf _ _ _ _ _ hs (lv_sub hl [2, 3, 1, 0] rfl)
  · have hf := ifn q7 hf
    refine lv_iconst (v := 0) hx hb d_M_pend_62 (by decide) ?_
    exact r_ireturn C hs hr d_M_pend_63 hf
def f_M_pend_B41 (bs sE : Nat) (h : HH) (z : Z3) (x0 : Nat) (x1 : Int32) (x3 : Int32) (x4 : Int32) (x5 : Int32) (w0 : Nat) : Option RS :=
  f_M_pend_B52 bs sE h z x0 x1 x3 x4 x5 1 w0
set_option maxHeartbeats 4000000 in
set_option maxRecDepth 100000 in
theorem t_M_pend_B41 {G : EN} {p : Program} {l : Launch} {e : Env} {s : State} {m : MethodId} {args : Array Value} {below : List Frame} {meth : Method} {c : Code} {z0 : Z3} (hl0 : l.stackTraces = false) (C : CX G p l s m meth c b_M_pend 8 y_M_pend.cls) (hr : meth.sig.returnType = (some .int)) (hex : c.exceptionTable.toList = []) {r : RS} :
    ∀ (h : HH) (z : Z3) (x0 : Nat) (x1 : Int32) (x3 : Int32) (x4 : Int32) (x5 : Int32) (w0 : Nat), f_M_pend_B41 G.2.2.1 G.2.2.2 h z x0 x1 x3 x4 x5 w0 = some r → ∀ (H : Heap) (locs : List Loc) (cells slots : Nat) (ls : Array Slot), ST G (RM 1 23 z0) s h z H locs cells slots → lv_has ls 8 [(0, .ref x0), (1, .int x1), (3, .int x3), (4, .int x4), (5, .int x5)] → W p l e (RM 1 23 z0) s m args below meth c H locs cells slots (MX G below s r (RM 1 23 z0).cells (RM 1 23 z0).slots) (F0 m 41 ls [.ref w0]) := by
  have hx := C.1
  have hb := C.2.1
  intro h z x0 x1 x3 x4 x5 w0 hf H locs cells slots ls hs hl
  unfold f_M_pend_B41 at hf
  refine lv_iconst (v := 1) hx hb d_M_pend_41 (by decide) ?_
  refine lv_goto (tgt := 52) hx hb d_M_pend_42 (by decide) ?_
  exact t_M_pend_B52 hl0 C hr hex _ _ _ _ _ _ _ _ _ hf _ _ _ _ _ hs (lv_sub hl [0, 1, 2, 3, 4] rfl)
def f_M_pend (bs sE : Nat) (h : HH) (z : Z3) (x0 : Nat) (x1 : Int32) (x2 : Int32) (x3 : Int32) (x4 : Int32) (x5 : Int32) : Option RS :=
  (oK h x0 6).bind fun _ =>
  cI (f_M_out bs sE h z x0 x1 4) fun v3 h1 z2 =>
  if v3 = 0 then
    ((oK h1 x0 6).bind fun _ =>
    cI (f_M_out bs sE h1 z2 x0 x3 2) fun v16 h14 z15 =>
    if v16 = 0 then
      ((oK h14 x0 6).bind fun _ =>
      cI (f_M_out bs sE h14 z15 x0 x4 4) fun v20 h18 z19 =>
      if v20 = 0 then
        ((oK h18 x0 6).bind fun _ =>
        cI (f_M_out bs sE h18 z19 x0 x5 601) fun v24 h22 z23 =>
        if v24 = 0 then
          ((oK h22 x0 6).bind fun _ =>
          cI (f_M_check bs sE h22 z23 x0 x1 x2 1) fun v28 h26 z27 =>
          f_M_pend_B52 bs sE h26 z27 x0 x1 x3 x4 x5 v28 x0)
        else
          (f_M_pend_B41 bs sE h22 z23 x0 x1 x3 x4 x5 x0))
      else
        (f_M_pend_B41 bs sE h18 z19 x0 x1 x3 x4 x5 x0))
    else
      (f_M_pend_B41 bs sE h14 z15 x0 x1 x3 x4 x5 x0))
  else
    (f_M_pend_B41 bs sE h1 z2 x0 x1 x3 x4 x5 x0)
set_option maxHeartbeats 4000000 in
set_option maxRecDepth 100000 in
theorem c_M_pend {G : EN} {l : Launch} (hl0 : l.stackTraces = false) {h : HH} {z : Z3} {x0 : Nat} {x1 : Int32} {x2 : Int32} {x3 : Int32} {x4 : Int32} {x5 : Int32} {r : RS} (hf : f_M_pend G.2.2.1 G.2.2.2 h z x0 x1 x2 x3 x4 x5 = some r) : CM G l y_M_pend (.code y_M_pend b_M_pend 8 (some .int)) 1 23 [.ref x0, .int x1, .int x2, .int x3, .int x4, .int x5] h z r := by
  refine CM.ofW hl0 rfl ?_
  intro p e s m below meth c C hr hex hin hs
  have hx := C.1
  have hb := C.2.1
  refine x_entry (n := 8) (Nat.le_of_ble_eq_true rfl) (fun ls hl => ?_)
  have hl : lv_has ls 8 [(0, .ref x0), (1, .int x1), (2, .int x2), (3, .int x3), (4, .int x4), (5, .int x5)] := hl
  unfold f_M_pend at hf
  refine lv_aload_n hx hb d_M_pend_0 rfl (lv_at hl 0 rfl) ?_
  refine lv_aload_n hx hb d_M_pend_1 rfl (lv_at hl 0 rfl) ?_
  refine lv_iload_n hx hb d_M_pend_2 rfl (lv_at hl 1 rfl) ?_
  refine lv_iconst (v := 4) hx hb d_M_pend_3 (by decide) ?_
  obtain ⟨_, ho, hf⟩ := bd hf
  refine k_I C hs hex hf (fun res e1 => iv_V (b := x0) (As := [.int x1, .int 4]) (rest := [.ref x0]) C hs cv_M_83 (c_M_out hl0 e1) (ci := 6) rfl rfl ho rfl hl.1 rfl (Nat.le_of_ble_eq_true rfl) d_M_pend_4 ⟨Nat.le_of_ble_eq_true rfl, Nat.le_of_ble_eq_true rfl⟩) (fun v3 h1 z2 H locs cells slots hf hs => ?_)
  refine lv_if_ne (tgt := 41) hx hb d_M_pend_7 (by decide) (fun q4 => ?_) (fun q4 => ?_)
  · have hf := ifn q4 hf
    exact t_M_pend_B41 hl0 C hr hex _ _ _ _ _ _ _ _ hf _ _ _ _ _ hs (lv_sub hl [0, 1, 3, 4, 5] rfl)
  · have hf := ifp q4 hf
    refine lv_aload_n hx hb d_M_pend_10 rfl (lv_at hl 0 rfl) ?_
    refine lv_iload_n hx hb d_M_pend_11 rfl (lv_at hl 3 rfl) ?_
    refine lv_iconst (v := 2) hx hb d_M_pend_12 (by decide) ?_
    obtain ⟨_, ho, hf⟩ := bd hf
    refine k_I C hs hex hf (fun res e1 => iv_V (b := x0) (As := [.int x3, .int 2]) (rest := [.ref x0]) C hs cv_M_83 (c_M_out hl0 e1) (ci := 6) rfl rfl ho rfl hl.1 rfl (Nat.le_of_ble_eq_true rfl) d_M_pend_13 ⟨Nat.le_of_ble_eq_true rfl, Nat.le_of_ble_eq_true rfl⟩) (fun v16 h14 z15 H locs cells slots hf hs => ?_)
    refine lv_if_ne (tgt := 41) hx hb d_M_pend_16 (by decide) (fun q17 => ?_) (fun q17 => ?_)
    · have hf := ifn q17 hf
      exact t_M_pend_B41 hl0 C hr hex _ _ _ _ _ _ _ _ hf _ _ _ _ _ hs (lv_sub hl [0, 1, 3, 4, 5] rfl)
    · have hf := ifp q17 hf
      refine lv_aload_n hx hb d_M_pend_19 rfl (lv_at hl 0 rfl) ?_
      refine lv_iload hx hb d_M_pend_20 (lv_at hl 4 rfl) ?_
      refine lv_iconst (v := 4) hx hb d_M_pend_22 (by decide) ?_
      obtain ⟨_, ho, hf⟩ := bd hf
      refine k_I C hs hex hf (fun res e1 => iv_V (b := x0) (As := [.int x4, .int 4]) (rest := [.ref x0]) C hs cv_M_83 (c_M_out hl0 e1) (ci := 6) rfl rfl ho rfl hl.1 rfl (Nat.le_of_ble_eq_true rfl) d_M_pend_23 ⟨Nat.le_of_ble_eq_true rfl, Nat.le_of_ble_eq_true rfl⟩) (fun v20 h18 z19 H locs cells slots hf hs => ?_)
      refine lv_if_ne (tgt := 41) hx hb d_M_pend_26 (by decide) (fun q21 => ?_) (fun q21 => ?_)
      · have hf := ifn q21 hf
        exact t_M_pend_B41 hl0 C hr hex _ _ _ _ _ _ _ _ hf _ _ _ _ _ hs (lv_sub hl [0, 1, 3, 4, 5] rfl)
      · have hf := ifp q21 hf
        refine lv_aload_n hx hb d_M_pend_29 rfl (lv_at hl 0 rfl) ?_
        refine lv_iload hx hb d_M_pend_30 (lv_at hl 5 rfl) ?_
        refine lv_sipush (v := 601) hx hb d_M_pend_32 (by decide) ?_
        obtain ⟨_, ho, hf⟩ := bd hf
        refine k_I C hs hex hf (fun res e1 => iv_V (b := x0) (As := [.int x5, .int 601]) (rest := [.ref x0]) C hs cv_M_83 (c_M_out hl0 e1) (ci := 6) rfl rfl ho rfl hl.1 rfl (Nat.le_of_ble_eq_true rfl) d_M_pend_35 ⟨Nat.le_of_ble_eq_true rfl, Nat.le_of_ble_eq_true rfl⟩) (fun v24 h22 z23 H locs cells slots hf hs => ?_)
        refine lv_if_eq (tgt := 45) hx hb d_M_pend_38 (by decide) (fun q25 => ?_) (fun q25 => ?_)
        · have hf := ifp q25 hf
          refine lv_aload_n hx hb d_M_pend_45 rfl (lv_at hl 0 rfl) ?_
          refine lv_iload_n hx hb d_M_pend_46 rfl (lv_at hl 1 rfl) ?_
          refine lv_iload_n hx hb d_M_pend_47 rfl (lv_at hl 2 rfl) ?_
          refine lv_iconst (v := 1) hx hb d_M_pend_48 (by decide) ?_
          obtain ⟨_, ho, hf⟩ := bd hf
          refine k_I C hs hex hf (fun res e1 => iv_V (b := x0) (As := [.int x1, .int x2, .int 1]) (rest := [.ref x0]) C hs cv_M_94 (c_M_check hl0 e1) (ci := 6) rfl rfl ho rfl hl.1 rfl (Nat.le_of_ble_eq_true rfl) d_M_pend_49 ⟨Nat.le_of_ble_eq_true rfl, Nat.le_of_ble_eq_true rfl⟩) (fun v28 h26 z27 H locs cells slots hf hs => ?_)
          exact t_M_pend_B52 hl0 C hr hex _ _ _ _ _ _ _ _ _ hf _ _ _ _ _ hs (lv_sub hl [0, 1, 3, 4, 5] rfl)
        · have hf := ifn q25 hf
          exact t_M_pend_B41 hl0 C hr hex _ _ _ _ _ _ _ _ hf _ _ _ _ _ hs (lv_sub hl [0, 1, 3, 4, 5] rfl)
def fb_M_ones_L4 (bs sE : Nat) (REC : HH → Z3 → Int32 → Int32 → Int32 → Option RS) (h : HH) (z : Z3) (x1 : Int32) (x2 : Int32) (x3 : Int32) : Option RS :=
  if 4 ≤ x3 then
    (some (.inl (some (.int x2)), h, z))
  else
    (REC h z x1 (x2 + ((x1 >>> (x3 &&& 31)) &&& 1)) (x3 + 1))
def f_M_ones_L4 (bs sE : Nat) : Nat → HH → Z3 → Int32 → Int32 → Int32 → Option RS
  | 0 => fun _ _ _ _ _ => none
  | n + 1 => fb_M_ones_L4 bs sE (f_M_ones_L4 bs sE n)
set_option maxHeartbeats 4000000 in
set_option maxRecDepth 100000 in
theorem t_M_ones_L4 {G : EN} {p : Program} {l : Launch} {e : Env} {s : State} {m : MethodId} {args : Array Value} {below : List Frame} {meth : Method} {c : Code} {z0 : Z3} (hl0 : l.stackTraces = false) (C : CX G p l s m meth c b_M_ones 4 y_M_ones.cls) (hr : meth.sig.returnType = (some .int)) (hex : c.exceptionTable.toList = []) {r : RS} :
    ∀ (n : Nat) (h : HH) (z : Z3) (x1 : Int32) (x2 : Int32) (x3 : Int32), f_M_ones_L4 G.2.2.1 G.2.2.2 n h z x1 x2 x3 = some r → ∀ (H : Heap) (locs : List Loc) (cells slots : Nat) (ls : Array Slot), ST G (RM 0 0 z0) s h z H locs cells slots → lv_has ls 4 [(1, .int x1), (2, .int x2), (3, .int x3)] → W p l e (RM 0 0 z0) s m args below meth c H locs cells slots (MX G below s r (RM 0 0 z0).cells (RM 0 0 z0).slots) (F0 m 4 ls []) := by
  have hx := C.1
  have hb := C.2.1
  intro n
  induction n with
  | zero => intro h z x1 x2 x3 hf; exact nomatch (show (none : Option RS) = some r from hf)
  | succ n ih =>
    intro h z x1 x2 x3 hf H locs cells slots ls hs hl
    have hf : fb_M_ones_L4 G.2.2.1 G.2.2.2 (f_M_ones_L4 G.2.2.1 G.2.2.2 n) h z x1 x2 x3 = some r := hf
    unfold fb_M_ones_L4 at hf
    refine lv_iload_n hx hb d_M_ones_4 rfl (lv_at hl 2 rfl) ?_
    refine lv_iconst (v := 4) hx hb d_M_ones_5 (by decide) ?_
    refine lv_icmp_ge (tgt := 23) hx hb d_M_ones_6 (by decide) (fun q1 => ?_) (fun q1 => ?_)
    · have hf := ifp q1 hf
      refine lv_iload_n hx hb d_M_ones_23 rfl (lv_at hl 1 rfl) ?_
      exact r_ireturn C hs hr d_M_ones_24 hf
    · have hf := ifn q1 hf
      refine lv_iload_n hx hb d_M_ones_9 rfl (lv_at hl 1 rfl) ?_
      refine lv_iload_n hx hb d_M_ones_10 rfl (lv_at hl 0 rfl) ?_
      refine lv_iload_n hx hb d_M_ones_11 rfl (lv_at hl 2 rfl) ?_
      refine lv_ishr hx hb d_M_ones_12 ?_
      refine lv_iconst (v := 1) hx hb d_M_ones_13 (by decide) ?_
      refine lv_iand hx hb d_M_ones_14 ?_
      refine lv_iadd hx hb d_M_ones_15 ?_
      refine lv_istore_n (lv' := [(2, .int (x2 + ((x1 >>> (x3 &&& 31)) &&& 1))), (1, .int x1), (3, .int x3)]) hx hb d_M_ones_16 rfl hl (by decide) rfl (fun ls hl => ?_)
      refine lv_iinc (v := x3 + 1) (lv' := [(3, .int (x3 + 1)), (2, .int (x2 + ((x1 >>> (x3 &&& 31)) &&& 1))), (1, .int x1)]) hx hb d_M_ones_17 hl (k := 2) rfl rfl (by decide) rfl (fun ls hl => ?_)
      refine lv_goto (tgt := 4) hx hb d_M_ones_20 (by decide) ?_
      exact ih _ _ _ _ _ hf _ _ _ _ _ hs (lv_sub hl [2, 1, 0] rfl)
def f_M_ones (bs sE : Nat) (h : HH) (z : Z3) (x0 : Nat) (x1 : Int32) : Option RS :=
  f_M_ones_L4 bs sE FU h z x1 0 0
set_option maxHeartbeats 4000000 in
set_option maxRecDepth 100000 in
theorem c_M_ones {G : EN} {l : Launch} (hl0 : l.stackTraces = false) {h : HH} {z : Z3} {x0 : Nat} {x1 : Int32} {r : RS} (hf : f_M_ones G.2.2.1 G.2.2.2 h z x0 x1 = some r) : CM G l y_M_ones (.code y_M_ones b_M_ones 4 (some .int)) 0 0 [.ref x0, .int x1] h z r := by
  refine CM.ofW hl0 rfl ?_
  intro p e s m below meth c C hr hex hin hs
  have hx := C.1
  have hb := C.2.1
  refine x_entry (n := 4) (Nat.le_of_ble_eq_true rfl) (fun ls hl => ?_)
  have hl : lv_has ls 4 [(0, .ref x0), (1, .int x1)] := hl
  unfold f_M_ones at hf
  refine lv_iconst (v := 0) hx hb d_M_ones_0 (by decide) ?_
  refine lv_istore_n (lv' := [(2, .int 0), (0, .ref x0), (1, .int x1)]) hx hb d_M_ones_1 rfl hl (by decide) rfl (fun ls hl => ?_)
  refine lv_iconst (v := 0) hx hb d_M_ones_2 (by decide) ?_
  refine lv_istore_n (lv' := [(3, .int 0), (2, .int 0), (0, .ref x0), (1, .int x1)]) hx hb d_M_ones_3 rfl hl (by decide) rfl (fun ls hl => ?_)
  exact t_M_ones_L4 hl0 C hr hex FU _ _ _ _ _ hf _ _ _ _ _ hs (lv_sub hl [3, 1, 0] rfl)
def fb_M_finish_L51 (bs sE : Nat) (K117 : HH → Z3 → Nat → Int32 → Int32 → Int32 → Option RS) (K105 : HH → Z3 → Nat → Option RS) (REC : HH → Z3 → Nat → Int32 → Int32 → Int32 → Int32 → Option RS) (h : HH) (z : Z3) (x0 : Nat) (x1 : Int32) (x3 : Int32) (x4 : Int32) (x5 : Int32) : Option RS :=
  if x3 = 0 then
    (K117 h z x0 x1 x3 x4)
  else
    ((gR h x0 6 7).bind fun v29 =>
    (aI h v29 0 x4).bind fun v30 =>
    if v30 ≤ x5 then
      (K117 h z x0 x1 x3 x4)
    else
      ((gR h x0 6 1).bind fun v32 =>
      (aI h v32 0 ((520 * x4) + x5)).bind fun v33 =>
      if v33 = 1 then
        ((gR h x0 6 6).bind fun v35 =>
        (aI h v35 0 ((520 * x4) + x5)).bind fun v36 =>
        (gR h x0 6 12).bind fun v37 =>
        (aI h v37 0 x1).bind fun v38 =>
        if v36 = v38 then
          (K105 h z x0)
        else
          (REC h z x0 x1 x3 x4 (x5 + 1)))
      else
        (REC h z x0 x1 x3 x4 (x5 + 1))))
def f_M_finish_L51 (bs sE : Nat) (K117 : HH → Z3 → Nat → Int32 → Int32 → Int32 → Option RS) (K105 : HH → Z3 → Nat → Option RS) : Nat → HH → Z3 → Nat → Int32 → Int32 → Int32 → Int32 → Option RS
  | 0 => fun _ _ _ _ _ _ _ => none
  | n + 1 => fb_M_finish_L51 bs sE K117 K105 (f_M_finish_L51 bs sE K117 K105 n)
set_option maxHeartbeats 4000000 in
set_option maxRecDepth 100000 in
theorem t_M_finish_L51 {G : EN} {p : Program} {l : Launch} {e : Env} {s : State} {m : MethodId} {args : Array Value} {below : List Frame} {meth : Method} {c : Code} {z0 : Z3} (hl0 : l.stackTraces = false) (C : CX G p l s m meth c b_M_finish 7 y_M_finish.cls) (hr : meth.sig.returnType = (some .int)) (hex : c.exceptionTable.toList = []) {r : RS} {K117 : HH → Z3 → Nat → Int32 → Int32 → Int32 → Option RS} {K105 : HH → Z3 → Nat → Option RS}
    (hK117 : ∀ (h : HH) (z : Z3) (y0 : Nat) (y1 : Int32) (y2 : Int32) (y3 : Int32), K117 h z y0 y1 y2 y3 = some r → ∀ (H : Heap) (locs : List Loc) (cells slots : Nat) (ls : Array Slot), ST G (RM 1 23 z0) s h z H locs cells slots → lv_has ls 7 [(0, .ref y0), (1, .int y1), (3, .int y2), (4, .int y3)] → W p l e (RM 1 23 z0) s m args below meth c H locs cells slots (MX G below s r (RM 1 23 z0).cells (RM 1 23 z0).slots) (F0 m 117 ls []))
    (hK105 : ∀ (h : HH) (z : Z3) (y0 : Nat), K105 h z y0 = some r → ∀ (H : Heap) (locs : List Loc) (cells slots : Nat) (ls : Array Slot), ST G (RM 1 23 z0) s h z H locs cells slots → lv_has ls 7 [(0, .ref y0)] → W p l e (RM 1 23 z0) s m args below meth c H locs cells slots (MX G below s r (RM 1 23 z0).cells (RM 1 23 z0).slots) (F0 m 105 ls [])) :
    ∀ (n : Nat) (h : HH) (z : Z3) (x0 : Nat) (x1 : Int32) (x3 : Int32) (x4 : Int32) (x5 : Int32), f_M_finish_L51 G.2.2.1 G.2.2.2 K117 K105 n h z x0 x1 x3 x4 x5 = some r → ∀ (H : Heap) (locs : List Loc) (cells slots : Nat) (ls : Array Slot), ST G (RM 1 23 z0) s h z H locs cells slots → lv_has ls 7 [(0, .ref x0), (1, .int x1), (3, .int x3), (4, .int x4), (5, .int x5)] → W p l e (RM 1 23 z0) s m args below meth c H locs cells slots (MX G below s r (RM 1 23 z0).cells (RM 1 23 z0).slots) (F0 m 51 ls []) := by
  have hx := C.1
  have hb := C.2.1
  intro n
  induction n with
  | zero => intro h z x0 x1 x3 x4 x5 hf; exact nomatch (show (none : Option RS) = some r from hf)
  | succ n ih =>
    intro h z x0 x1 x3 x4 x5 hf H locs cells slots ls hs hl
    have hf : fb_M_finish_L51 G.2.2.1 G.2.2.2 K117 K105 (f_M_finish_L51 G.2.2.1 G.2.2.2 K117 K105 n) h z x0 x1 x3 x4 x5 = some r := hf
    unfold fb_M_finish_L51 at hf
    refine lv_iload_n hx hb d_M_finish_51 rfl (lv_at hl 2 rfl) ?_
    refine lv_if_eq (tgt := 117) hx hb d_M_finish_52 (by decide) (fun q28 => ?_) (fun q28 => ?_)
    · have hf := ifp q28 hf
      exact hK117 _ _ _ _ _ _ hf _ _ _ _ _ hs (lv_sub hl [0, 1, 2, 3] rfl)
    · have hf := ifn q28 hf
      refine lv_iload hx hb d_M_finish_55 (lv_at hl 4 rfl) ?_
      refine lv_aload_n hx hb d_M_finish_57 rfl (lv_at hl 0 rfl) ?_
      refine r_getR C hs fl_M_28 d_M_finish_58 hf (fun v29 hf => ?_)
      refine lv_iload hx hb d_M_finish_61 (lv_at hl 3 rfl) ?_
      refine r_iald C hs d_M_finish_63 hf (fun v30 hf => ?_)
      refine lv_icmp_ge (tgt := 117) hx hb d_M_finish_64 (by decide) (fun q31 => ?_) (fun q31 => ?_)
      · have hf := ifp q31 hf
        exact hK117 _ _ _ _ _ _ hf _ _ _ _ _ hs (lv_sub hl [0, 1, 2, 3] rfl)
      · have hf := ifn q31 hf
        refine lv_sipush (v := 520) hx hb d_M_finish_67 (by decide) ?_
        refine lv_iload hx hb d_M_finish_70 (lv_at hl 3 rfl) ?_
        refine lv_imul hx hb d_M_finish_72 ?_
        refine lv_iload hx hb d_M_finish_73 (lv_at hl 4 rfl) ?_
        refine lv_iadd hx hb d_M_finish_75 ?_
        refine lv_istore (lv' := [(6, .int ((520 * x4) + x5)), (0, .ref x0), (1, .int x1), (3, .int x3), (4, .int x4), (5, .int x5)]) hx hb d_M_finish_76 hl (by decide) rfl (fun ls hl => ?_)
        refine lv_aload_n hx hb d_M_finish_78 rfl (lv_at hl 1 rfl) ?_
        refine r_getR C hs fl_M_7 d_M_finish_79 hf (fun v32 hf => ?_)
        refine lv_iload hx hb d_M_finish_82 (lv_at hl 0 rfl) ?_
        refine r_iald C hs d_M_finish_84 hf (fun v33 hf => ?_)
        refine lv_iconst (v := 1) hx hb d_M_finish_85 (by decide) ?_
        refine lv_icmp_ne (tgt := 111) hx hb d_M_finish_86 (by decide) (fun q34 => ?_) (fun q34 => ?_)
        · have hf := ifn q34 hf
          refine lv_iinc (v := x5 + 1) (lv' := [(5, .int (x5 + 1)), (6, .int ((520 * x4) + x5)), (0, .ref x0), (1, .int x1), (3, .int x3), (4, .int x4)]) hx hb d_M_finish_111 hl (k := 5) rfl rfl (by decide) rfl (fun ls hl => ?_)
          refine lv_goto (tgt := 51) hx hb d_M_finish_114 (by decide) ?_
          exact ih _ _ _ _ _ _ _ hf _ _ _ _ _ hs (lv_sub hl [2, 3, 4, 5, 0] rfl)
        · have hf := ifp q34 hf
          refine lv_aload_n hx hb d_M_finish_89 rfl (lv_at hl 1 rfl) ?_
          refine r_getR C hs fl_M_25 d_M_finish_90 hf (fun v35 hf => ?_)
          refine lv_iload hx hb d_M_finish_93 (lv_at hl 0 rfl) ?_
          refine r_iald C hs d_M_finish_95 hf (fun v36 hf => ?_)
          refine lv_aload_n hx hb d_M_finish_96 rfl (lv_at hl 1 rfl) ?_
          refine r_getR C hs fl_M_43 d_M_finish_97 hf (fun v37 hf => ?_)
          refine lv_iload_n hx hb d_M_finish_100 rfl (lv_at hl 2 rfl) ?_
          refine r_iald C hs d_M_finish_101 hf (fun v38 hf => ?_)
          refine lv_icmp_ne (tgt := 111) hx hb d_M_finish_102 (by decide) (fun q39 => ?_) (fun q39 => ?_)
          · have hf := ifn q39 hf
            refine lv_iinc (v := x5 + 1) (lv' := [(5, .int (x5 + 1)), (6, .int ((520 * x4) + x5)), (0, .ref x0), (1, .int x1), (3, .int x3), (4, .int x4)]) hx hb d_M_finish_111 hl (k := 5) rfl rfl (by decide) rfl (fun ls hl => ?_)
            refine lv_goto (tgt := 51) hx hb d_M_finish_114 (by decide) ?_
            exact ih _ _ _ _ _ _ _ hf _ _ _ _ _ hs (lv_sub hl [2, 3, 4, 5, 0] rfl)
          · have hf := ifp q39 hf
            exact hK105 _ _ _ hf _ _ _ _ _ hs (lv_sub hl [1] rfl)
def fb_M_finish_L36 (bs sE : Nat) (REC : HH → Z3 → Nat → Int32 → Int32 → Int32 → Option RS) (h : HH) (z : Z3) (x0 : Nat) (x1 : Int32) (x3 : Int32) (x4 : Int32) : Option RS :=
  if 4 ≤ x4 then
    ((gR h x0 6 10).bind fun v12 =>
    if x3 = 0 then
      ((aIs bs h v12 0 x1 3).bind fun h14 =>
      (gR h14 x0 6 13).bind fun v15 =>
      (aI h14 v15 0 x1).bind fun v16 =>
      (oK h14 x0 6).bind fun _ =>
      cI (f_M_ones bs sE h14 z x0 v16) fun v19 h17 z18 =>
      some (.inl (some (.int v19)), h17, z18))
    else
      ((aIs bs h v12 0 x1 2).bind fun h20 =>
      (gR h20 x0 6 13).bind fun v21 =>
      (aI h20 v21 0 x1).bind fun v22 =>
      (oK h20 x0 6).bind fun _ =>
      cI (f_M_ones bs sE h20 z x0 v22) fun v25 h23 z24 =>
      some (.inl (some (.int v25)), h23, z24)))
  else
    ((gR h x0 6 9).bind fun v26 =>
    (aI h v26 0 x4).bind fun v27 =>
    f_M_finish_L51 bs sE (fun h40 z41 x0_117 x1_117 x3_117 x4_117 =>
      REC h40 z41 x0_117 x1_117 x3_117 (x4_117 + 1)) (fun h42 z43 x0_105 =>
      (oK h42 x0_105 6).bind fun _ =>
      cI (f_M_fail bs sE h42 z43 x0_105 4) fun v46 h44 z45 =>
      some (.inl (some (.int v46)), h44, z45)) FU h z x0 x1 x3 x4 v27)
def f_M_finish_L36 (bs sE : Nat) : Nat → HH → Z3 → Nat → Int32 → Int32 → Int32 → Option RS
  | 0 => fun _ _ _ _ _ _ => none
  | n + 1 => fb_M_finish_L36 bs sE (f_M_finish_L36 bs sE n)
set_option maxHeartbeats 4000000 in
set_option maxRecDepth 100000 in
theorem t_M_finish_L36 {G : EN} {p : Program} {l : Launch} {e : Env} {s : State} {m : MethodId} {args : Array Value} {below : List Frame} {meth : Method} {c : Code} {z0 : Z3} (hl0 : l.stackTraces = false) (C : CX G p l s m meth c b_M_finish 7 y_M_finish.cls) (hr : meth.sig.returnType = (some .int)) (hex : c.exceptionTable.toList = []) {r : RS} :
    ∀ (n : Nat) (h : HH) (z : Z3) (x0 : Nat) (x1 : Int32) (x3 : Int32) (x4 : Int32), f_M_finish_L36 G.2.2.1 G.2.2.2 n h z x0 x1 x3 x4 = some r → ∀ (H : Heap) (locs : List Loc) (cells slots : Nat) (ls : Array Slot), ST G (RM 1 23 z0) s h z H locs cells slots → lv_has ls 7 [(0, .ref x0), (1, .int x1), (3, .int x3), (4, .int x4)] → W p l e (RM 1 23 z0) s m args below meth c H locs cells slots (MX G below s r (RM 1 23 z0).cells (RM 1 23 z0).slots) (F0 m 36 ls []) := by
  have hx := C.1
  have hb := C.2.1
  intro n
  induction n with
  | zero => intro h z x0 x1 x3 x4 hf; exact nomatch (show (none : Option RS) = some r from hf)
  | succ n ih =>
    intro h z x0 x1 x3 x4 hf H locs cells slots ls hs hl
    have hf : fb_M_finish_L36 G.2.2.1 G.2.2.2 (f_M_finish_L36 G.2.2.1 G.2.2.2 n) h z x0 x1 x3 x4 = some r := hf
    unfold fb_M_finish_L36 at hf
    refine lv_iload hx hb d_M_finish_36 (lv_at hl 3 rfl) ?_
    refine lv_iconst (v := 4) hx hb d_M_finish_38 (by decide) ?_
    refine lv_icmp_ge (tgt := 123) hx hb d_M_finish_39 (by decide) (fun q11 => ?_) (fun q11 => ?_)
    · have hf := ifp q11 hf
      refine lv_aload_n hx hb d_M_finish_123 rfl (lv_at hl 0 rfl) ?_
      refine r_getR C hs fl_M_37 d_M_finish_124 hf (fun v12 hf => ?_)
      refine lv_iload_n hx hb d_M_finish_127 rfl (lv_at hl 1 rfl) ?_
      refine lv_iload_n hx hb d_M_finish_128 rfl (lv_at hl 2 rfl) ?_
      refine lv_if_eq (tgt := 136) hx hb d_M_finish_129 (by decide) (fun q13 => ?_) (fun q13 => ?_)
      · have hf := ifp q13 hf
        refine lv_iconst (v := 3) hx hb d_M_finish_136 (by decide) ?_
        refine r_iast C hs d_M_finish_137 hf (fun h14 H locs hf hs => ?_)
        refine lv_aload_n hx hb d_M_finish_138 rfl (lv_at hl 0 rfl) ?_
        refine lv_aload_n hx hb d_M_finish_139 rfl (lv_at hl 0 rfl) ?_
        refine r_getR C hs fl_M_46 d_M_finish_140 hf (fun v15 hf => ?_)
        refine lv_iload_n hx hb d_M_finish_143 rfl (lv_at hl 1 rfl) ?_
        refine r_iald C hs d_M_finish_144 hf (fun v16 hf => ?_)
        obtain ⟨_, ho, hf⟩ := bd hf
        refine k_I C hs hex hf (fun res e1 => iv_V (b := x0) (As := [.int v16]) (rest := []) C hs cv_M_119 (c_M_ones hl0 e1) (ci := 6) rfl rfl ho rfl hl.1 rfl (Nat.le_of_ble_eq_true rfl) d_M_finish_145 ⟨Nat.le_of_ble_eq_true rfl, Nat.le_of_ble_eq_true rfl⟩) (fun v19 h17 z18 H locs cells slots hf hs => ?_)
        exact r_ireturn C hs hr d_M_finish_148 hf
      · have hf := ifn q13 hf
        refine lv_iconst (v := 2) hx hb d_M_finish_132 (by decide) ?_
        refine lv_goto (tgt := 137) hx hb d_M_finish_133 (by decide) ?_
        refine r_iast C hs d_M_finish_137 hf (fun h20 H locs hf hs => ?_)
        refine lv_aload_n hx hb d_M_finish_138 rfl (lv_at hl 0 rfl) ?_
        refine lv_aload_n hx hb d_M_finish_139 rfl (lv_at hl 0 rfl) ?_
        refine r_getR C hs fl_M_46 d_M_finish_140 hf (fun v21 hf => ?_)
        refine lv_iload_n hx hb d_M_finish_143 rfl (lv_at hl 1 rfl) ?_
        refine r_iald C hs d_M_finish_144 hf (fun v22 hf => ?_)
        obtain ⟨_, ho, hf⟩ := bd hf
        refine k_I C hs hex hf (fun res e1 => iv_V (b := x0) (As := [.int v22]) (rest := []) C hs cv_M_119 (c_M_ones hl0 e1) (ci := 6) rfl rfl ho rfl hl.1 rfl (Nat.le_of_ble_eq_true rfl) d_M_finish_145 ⟨Nat.le_of_ble_eq_true rfl, Nat.le_of_ble_eq_true rfl⟩) (fun v25 h23 z24 H locs cells slots hf hs => ?_)
        exact r_ireturn C hs hr d_M_finish_148 hf
    · have hf := ifn q11 hf
      refine lv_aload_n hx hb d_M_finish_42 rfl (lv_at hl 0 rfl) ?_
      refine r_getR C hs fl_M_34 d_M_finish_43 hf (fun v26 hf => ?_)
      refine lv_iload hx hb d_M_finish_46 (lv_at hl 3 rfl) ?_
      refine r_iald C hs d_M_finish_48 hf (fun v27 hf => ?_)
      refine lv_istore (lv' := [(5, .int v27), (0, .ref x0), (1, .int x1), (3, .int x3), (4, .int x4)]) hx hb d_M_finish_49 hl (by decide) rfl (fun ls hl => ?_)
      refine t_M_finish_L51 hl0 C hr hex ?_ ?_ FU _ _ _ _ _ _ _ hf _ _ _ _ _ hs (lv_sub hl [1, 2, 3, 4, 0] rfl)
      · intro h40 z41 x0_117 x1_117 x3_117 x4_117 hf H locs cells slots ls hs hl
        refine lv_iinc (v := x4_117 + 1) (lv' := [(4, .int (x4_117 + 1)), (0, .ref x0_117), (1, .int x1_117), (3, .int x3_117)]) hx hb d_M_finish_117 hl (k := 3) rfl rfl (by decide) rfl (fun ls hl => ?_)
        refine lv_goto (tgt := 36) hx hb d_M_finish_120 (by decide) ?_
        exact ih _ _ _ _ _ _ hf _ _ _ _ _ hs (lv_sub hl [1, 2, 3, 0] rfl)
      · intro h42 z43 x0_105 hf H locs cells slots ls hs hl
        refine lv_aload_n hx hb d_M_finish_105 rfl (lv_at hl 0 rfl) ?_
        refine lv_iconst (v := 4) hx hb d_M_finish_106 (by decide) ?_
        obtain ⟨_, ho, hf⟩ := bd hf
        refine k_I C hs hex hf (fun res e1 => iv_V (b := x0_105) (As := [.int 4]) (rest := []) C hs cv_M_86 (c_M_fail hl0 e1) (ci := 6) rfl rfl ho rfl hl.1 rfl (Nat.le_of_ble_eq_true rfl) d_M_finish_107 ⟨Nat.le_of_ble_eq_true rfl, Nat.le_of_ble_eq_true rfl⟩) (fun v46 h44 z45 H locs cells slots hf hs => ?_)
        exact r_ireturn C hs hr d_M_finish_110 hf
def f_M_finish_B21 (bs sE : Nat) (h : HH) (z : Z3) (x0 : Nat) (x1 : Int32) (x3 : Int32) (w0 : Int32) (w1 : Nat) : Option RS :=
  (pV bs h w1 6 0 (.inl w0)).bind fun h8 =>
  (gI h8 x0 6 0).bind fun v9 =>
  if v9 ≤ 0 then
    (f_M_finish_L36 bs sE FU h8 z x0 x1 x3 0)
  else
    (some (.inl (some (.int 0)), h8, z))
set_option maxHeartbeats 4000000 in
set_option maxRecDepth 100000 in
theorem t_M_finish_B21 {G : EN} {p : Program} {l : Launch} {e : Env} {s : State} {m : MethodId} {args : Array Value} {below : List Frame} {meth : Method} {c : Code} {z0 : Z3} (hl0 : l.stackTraces = false) (C : CX G p l s m meth c b_M_finish 7 y_M_finish.cls) (hr : meth.sig.returnType = (some .int)) (hex : c.exceptionTable.toList = []) {r : RS} :
    ∀ (h : HH) (z : Z3) (x0 : Nat) (x1 : Int32) (x3 : Int32) (w0 : Int32) (w1 : Nat), f_M_finish_B21 G.2.2.1 G.2.2.2 h z x0 x1 x3 w0 w1 = some r → ∀ (H : Heap) (locs : List Loc) (cells slots : Nat) (ls : Array Slot), ST G (RM 1 23 z0) s h z H locs cells slots → lv_has ls 7 [(0, .ref x0), (1, .int x1), (3, .int x3)] → W p l e (RM 1 23 z0) s m args below meth c H locs cells slots (MX G below s r (RM 1 23 z0).cells (RM 1 23 z0).slots) (F0 m 21 ls [.int w0, .ref w1]) := by
  have hx := C.1
  have hb := C.2.1
  intro h z x0 x1 x3 w0 w1 hf H locs cells slots ls hs hl
  unfold f_M_finish_B21 at hf
  refine r_putV (v := (.inl w0)) C hs flp_M_71 rfl rfl d_M_finish_21 hf (fun h8 H locs hf hs => ?_)
  refine lv_aload_n hx hb d_M_finish_24 rfl (lv_at hl 0 rfl) ?_
  refine r_getI C hs fl_M_71 d_M_finish_25 hf (fun v9 hf => ?_)
  refine lv_if_le (tgt := 33) hx hb d_M_finish_28 (by decide) (fun q10 => ?_) (fun q10 => ?_)
  · have hf := ifp q10 hf
    refine lv_iconst (v := 0) hx hb d_M_finish_33 (by decide) ?_
    refine lv_istore (lv' := [(4, .int 0), (0, .ref x0), (1, .int x1), (3, .int x3)]) hx hb d_M_finish_34 hl (by decide) rfl (fun ls hl => ?_)
    exact t_M_finish_L36 hl0 C hr hex FU _ _ _ _ _ _ hf _ _ _ _ _ hs (lv_sub hl [1, 2, 3, 0] rfl)
  · have hf := ifn q10 hf
    refine lv_iconst (v := 0) hx hb d_M_finish_31 (by decide) ?_
    exact r_ireturn C hs hr d_M_finish_32 hf
def f_M_finish (bs sE : Nat) (h : HH) (z : Z3) (x0 : Nat) (x1 : Int32) (x2 : Int32) (x3 : Int32) : Option RS :=
  (oK h x0 6).bind fun _ =>
  cI (f_M_out bs sE h z x0 x1 4) fun v3 h1 z2 =>
  if v3 = 0 then
    ((oK h1 x0 6).bind fun _ =>
    cI (f_M_check bs sE h1 z2 x0 x1 x2 1) fun v7 h5 z6 =>
    f_M_finish_B21 bs sE h5 z6 x0 x1 x3 v7 x0)
  else
    (f_M_finish_B21 bs sE h1 z2 x0 x1 x3 1 x0)
set_option maxHeartbeats 4000000 in
set_option maxRecDepth 100000 in
theorem c_M_finish {G : EN} {l : Launch} (hl0 : l.stackTraces = false) {h : HH} {z : Z3} {x0 : Nat} {x1 : Int32} {x2 : Int32} {x3 : Int32} {r : RS} (hf : f_M_finish G.2.2.1 G.2.2.2 h z x0 x1 x2 x3 = some r) : CM G l y_M_finish (.code y_M_finish b_M_finish 7 (some .int)) 1 23 [.ref x0, .int x1, .int x2, .int x3] h z r := by
  refine CM.ofW hl0 rfl ?_
  intro p e s m below meth c C hr hex hin hs
  have hx := C.1
  have hb := C.2.1
  refine x_entry (n := 7) (Nat.le_of_ble_eq_true rfl) (fun ls hl => ?_)
  have hl : lv_has ls 7 [(0, .ref x0), (1, .int x1), (2, .int x2), (3, .int x3)] := hl
  unfold f_M_finish at hf
  refine lv_aload_n hx hb d_M_finish_0 rfl (lv_at hl 0 rfl) ?_
  refine lv_aload_n hx hb d_M_finish_1 rfl (lv_at hl 0 rfl) ?_
  refine lv_iload_n hx hb d_M_finish_2 rfl (lv_at hl 1 rfl) ?_
  refine lv_iconst (v := 4) hx hb d_M_finish_3 (by decide) ?_
  obtain ⟨_, ho, hf⟩ := bd hf
  refine k_I C hs hex hf (fun res e1 => iv_V (b := x0) (As := [.int x1, .int 4]) (rest := [.ref x0]) C hs cv_M_83 (c_M_out hl0 e1) (ci := 6) rfl rfl ho rfl hl.1 rfl (Nat.le_of_ble_eq_true rfl) d_M_finish_4 ⟨Nat.le_of_ble_eq_true rfl, Nat.le_of_ble_eq_true rfl⟩) (fun v3 h1 z2 H locs cells slots hf hs => ?_)
  refine lv_if_eq (tgt := 14) hx hb d_M_finish_7 (by decide) (fun q4 => ?_) (fun q4 => ?_)
  · have hf := ifp q4 hf
    refine lv_aload_n hx hb d_M_finish_14 rfl (lv_at hl 0 rfl) ?_
    refine lv_iload_n hx hb d_M_finish_15 rfl (lv_at hl 1 rfl) ?_
    refine lv_iload_n hx hb d_M_finish_16 rfl (lv_at hl 2 rfl) ?_
    refine lv_iconst (v := 1) hx hb d_M_finish_17 (by decide) ?_
    obtain ⟨_, ho, hf⟩ := bd hf
    refine k_I C hs hex hf (fun res e1 => iv_V (b := x0) (As := [.int x1, .int x2, .int 1]) (rest := [.ref x0]) C hs cv_M_94 (c_M_check hl0 e1) (ci := 6) rfl rfl ho rfl hl.1 rfl (Nat.le_of_ble_eq_true rfl) d_M_finish_18 ⟨Nat.le_of_ble_eq_true rfl, Nat.le_of_ble_eq_true rfl⟩) (fun v7 h5 z6 H locs cells slots hf hs => ?_)
    exact t_M_finish_B21 hl0 C hr hex _ _ _ _ _ _ _ hf _ _ _ _ _ hs (lv_sub hl [0, 1, 3] rfl)
  · have hf := ifn q4 hf
    refine lv_iconst (v := 1) hx hb d_M_finish_10 (by decide) ?_
    refine lv_goto (tgt := 21) hx hb d_M_finish_11 (by decide) ?_
    exact t_M_finish_B21 hl0 C hr hex _ _ _ _ _ _ _ hf _ _ _ _ _ hs (lv_sub hl [0, 1, 3] rfl)
def fb_M_marked_L7 (bs sE : Nat) (REC : HH → Z3 → Nat → Int32 → Int32 → Int32 → Int32 → Int32 → Option RS) (h : HH) (z : Z3) (x0 : Nat) (x1 : Int32) (x2 : Int32) (x3 : Int32) (x4 : Int32) (x5 : Int32) : Option RS :=
  if ((520 * x1) + x3) ≤ x5 then
    ((bz 0).bind fun _ =>
    some (.inl (some (.int 0)), h, z))
  else
    ((gR h x0 6 1).bind fun v2 =>
    (aI h v2 0 x5).bind fun v3 =>
    if v3 ≤ 1 then
      (REC h z x0 x1 x2 x3 x4 (x5 + 1))
    else
      ((gR h x0 6 6).bind fun v5 =>
      (aI h v5 0 x5).bind fun v6 =>
      if v6 = x2 then
        (if x4 = 0 then
          ((bz 1).bind fun _ =>
          some (.inl (some (.int 1)), h, z))
        else
          ((gR h x0 6 1).bind fun v9 =>
          (aI h v9 0 x5).bind fun v10 =>
          if v10 = 3 then
            ((bz 1).bind fun _ =>
            some (.inl (some (.int 1)), h, z))
          else
            (REC h z x0 x1 x2 x3 x4 (x5 + 1))))
      else
        (REC h z x0 x1 x2 x3 x4 (x5 + 1))))
def f_M_marked_L7 (bs sE : Nat) : Nat → HH → Z3 → Nat → Int32 → Int32 → Int32 → Int32 → Int32 → Option RS
  | 0 => fun _ _ _ _ _ _ _ _ => none
  | n + 1 => fb_M_marked_L7 bs sE (f_M_marked_L7 bs sE n)
set_option maxHeartbeats 4000000 in
set_option maxRecDepth 100000 in
theorem t_M_marked_L7 {G : EN} {p : Program} {l : Launch} {e : Env} {s : State} {m : MethodId} {args : Array Value} {below : List Frame} {meth : Method} {c : Code} {z0 : Z3} (hl0 : l.stackTraces = false) (C : CX G p l s m meth c b_M_marked 6 y_M_marked.cls) (hr : meth.sig.returnType = (some .boolean)) (hex : c.exceptionTable.toList = []) {r : RS} :
    ∀ (n : Nat) (h : HH) (z : Z3) (x0 : Nat) (x1 : Int32) (x2 : Int32) (x3 : Int32) (x4 : Int32) (x5 : Int32), f_M_marked_L7 G.2.2.1 G.2.2.2 n h z x0 x1 x2 x3 x4 x5 = some r → ∀ (H : Heap) (locs : List Loc) (cells slots : Nat) (ls : Array Slot), ST G (RM 0 0 z0) s h z H locs cells slots → lv_has ls 6 [(0, .ref x0), (1, .int x1), (2, .int x2), (3, .int x3), (4, .int x4), (5, .int x5)] → W p l e (RM 0 0 z0) s m args below meth c H locs cells slots (MX G below s r (RM 0 0 z0).cells (RM 0 0 z0).slots) (F0 m 7 ls []) := by
  have hx := C.1
  have hb := C.2.1
  intro n
  induction n with
  | zero => intro h z x0 x1 x2 x3 x4 x5 hf; exact nomatch (show (none : Option RS) = some r from hf)
  | succ n ih =>
    intro h z x0 x1 x2 x3 x4 x5 hf H locs cells slots ls hs hl
    have hf : fb_M_marked_L7 G.2.2.1 G.2.2.2 (f_M_marked_L7 G.2.2.1 G.2.2.2 n) h z x0 x1 x2 x3 x4 x5 = some r := hf
    unfold fb_M_marked_L7 at hf
    refine lv_iload hx hb d_M_marked_7 (lv_at hl 5 rfl) ?_
    refine lv_sipush (v := 520) hx hb d_M_marked_9 (by decide) ?_
    refine lv_iload_n hx hb d_M_marked_12 rfl (lv_at hl 1 rfl) ?_
    refine lv_imul hx hb d_M_marked_13 ?_
    refine lv_iload_n hx hb d_M_marked_14 rfl (lv_at hl 3 rfl) ?_
    refine lv_iadd hx hb d_M_marked_15 ?_
    refine lv_icmp_ge (tgt := 65) hx hb d_M_marked_16 (by decide) (fun q1 => ?_) (fun q1 => ?_)
    · have hf := ifp q1 hf
      refine lv_iconst (v := 0) hx hb d_M_marked_65 (by decide) ?_
      exact r_zreturn C hs hr d_M_marked_66 hf
    · have hf := ifn q1 hf
      refine lv_aload_n hx hb d_M_marked_19 rfl (lv_at hl 0 rfl) ?_
      refine r_getR C hs fl_M_7 d_M_marked_20 hf (fun v2 hf => ?_)
      refine lv_iload hx hb d_M_marked_23 (lv_at hl 5 rfl) ?_
      refine r_iald C hs d_M_marked_25 hf (fun v3 hf => ?_)
      refine lv_iconst (v := 1) hx hb d_M_marked_26 (by decide) ?_
      refine lv_icmp_le (tgt := 59) hx hb d_M_marked_27 (by decide) (fun q4 => ?_) (fun q4 => ?_)
      · have hf := ifp q4 hf
        refine lv_iinc (v := x5 + 1) (lv' := [(5, .int (x5 + 1)), (0, .ref x0), (1, .int x1), (2, .int x2), (3, .int x3), (4, .int x4)]) hx hb d_M_marked_59 hl (k := 5) rfl rfl (by decide) rfl (fun ls hl => ?_)
        refine lv_goto (tgt := 7) hx hb d_M_marked_62 (by decide) ?_
        exact ih _ _ _ _ _ _ _ _ hf _ _ _ _ _ hs (lv_sub hl [1, 2, 3, 4, 5, 0] rfl)
      · have hf := ifn q4 hf
        refine lv_aload_n hx hb d_M_marked_30 rfl (lv_at hl 0 rfl) ?_
        refine r_getR C hs fl_M_25 d_M_marked_31 hf (fun v5 hf => ?_)
        refine lv_iload hx hb d_M_marked_34 (lv_at hl 5 rfl) ?_
        refine r_iald C hs d_M_marked_36 hf (fun v6 hf => ?_)
        refine lv_iload_n hx hb d_M_marked_37 rfl (lv_at hl 2 rfl) ?_
        refine lv_icmp_ne (tgt := 59) hx hb d_M_marked_38 (by decide) (fun q7 => ?_) (fun q7 => ?_)
        · have hf := ifn q7 hf
          refine lv_iinc (v := x5 + 1) (lv' := [(5, .int (x5 + 1)), (0, .ref x0), (1, .int x1), (2, .int x2), (3, .int x3), (4, .int x4)]) hx hb d_M_marked_59 hl (k := 5) rfl rfl (by decide) rfl (fun ls hl => ?_)
          refine lv_goto (tgt := 7) hx hb d_M_marked_62 (by decide) ?_
          exact ih _ _ _ _ _ _ _ _ hf _ _ _ _ _ hs (lv_sub hl [1, 2, 3, 4, 5, 0] rfl)
        · have hf := ifp q7 hf
          refine lv_iload hx hb d_M_marked_41 (lv_at hl 4 rfl) ?_
          refine lv_if_eq (tgt := 57) hx hb d_M_marked_43 (by decide) (fun q8 => ?_) (fun q8 => ?_)
          · have hf := ifp q8 hf
            refine lv_iconst (v := 1) hx hb d_M_marked_57 (by decide) ?_
            exact r_zreturn C hs hr d_M_marked_58 hf
          · have hf := ifn q8 hf
            refine lv_aload_n hx hb d_M_marked_46 rfl (lv_at hl 0 rfl) ?_
            refine r_getR C hs fl_M_7 d_M_marked_47 hf (fun v9 hf => ?_)
            refine lv_iload hx hb d_M_marked_50 (lv_at hl 5 rfl) ?_
            refine r_iald C hs d_M_marked_52 hf (fun v10 hf => ?_)
            refine lv_iconst (v := 3) hx hb d_M_marked_53 (by decide) ?_
            refine lv_icmp_ne (tgt := 59) hx hb d_M_marked_54 (by decide) (fun q11 => ?_) (fun q11 => ?_)
            · have hf := ifn q11 hf
              refine lv_iinc (v := x5 + 1) (lv' := [(5, .int (x5 + 1)), (0, .ref x0), (1, .int x1), (2, .int x2), (3, .int x3), (4, .int x4)]) hx hb d_M_marked_59 hl (k := 5) rfl rfl (by decide) rfl (fun ls hl => ?_)
              refine lv_goto (tgt := 7) hx hb d_M_marked_62 (by decide) ?_
              exact ih _ _ _ _ _ _ _ _ hf _ _ _ _ _ hs (lv_sub hl [1, 2, 3, 4, 5, 0] rfl)
            · have hf := ifp q11 hf
              refine lv_iconst (v := 1) hx hb d_M_marked_57 (by decide) ?_
              exact r_zreturn C hs hr d_M_marked_58 hf
def f_M_marked (bs sE : Nat) (h : HH) (z : Z3) (x0 : Nat) (x1 : Int32) (x2 : Int32) (x3 : Int32) (x4 : Int32) : Option RS :=
  f_M_marked_L7 bs sE FU h z x0 x1 x2 x3 x4 (520 * x1)
set_option maxHeartbeats 4000000 in
set_option maxRecDepth 100000 in
theorem c_M_marked {G : EN} {l : Launch} (hl0 : l.stackTraces = false) {h : HH} {z : Z3} {x0 : Nat} {x1 : Int32} {x2 : Int32} {x3 : Int32} {x4 : Int32} {r : RS} (hf : f_M_marked G.2.2.1 G.2.2.2 h z x0 x1 x2 x3 x4 = some r) : CM G l y_M_marked (.code y_M_marked b_M_marked 6 (some .boolean)) 0 0 [.ref x0, .int x1, .int x2, .int x3, .int x4] h z r := by
  refine CM.ofW hl0 rfl ?_
  intro p e s m below meth c C hr hex hin hs
  have hx := C.1
  have hb := C.2.1
  refine x_entry (n := 6) (Nat.le_of_ble_eq_true rfl) (fun ls hl => ?_)
  have hl : lv_has ls 6 [(0, .ref x0), (1, .int x1), (2, .int x2), (3, .int x3), (4, .int x4)] := hl
  unfold f_M_marked at hf
  refine lv_sipush (v := 520) hx hb d_M_marked_0 (by decide) ?_
  refine lv_iload_n hx hb d_M_marked_3 rfl (lv_at hl 1 rfl) ?_
  refine lv_imul hx hb d_M_marked_4 ?_
  refine lv_istore (lv' := [(5, .int (520 * x1)), (0, .ref x0), (1, .int x1), (2, .int x2), (3, .int x3), (4, .int x4)]) hx hb d_M_marked_5 hl (by decide) rfl (fun ls hl => ?_)
  exact t_M_marked_L7 hl0 C hr hex FU _ _ _ _ _ _ _ _ hf _ _ _ _ _ hs (lv_sub hl [1, 2, 3, 4, 5, 0] rfl)
def fb_M_stepOf_L75 (bs sE : Nat) (REC : HH → Z3 → Nat → Int32 → Int32 → Option RS) (h : HH) (z : Z3) (x0 : Nat) (x1 : Int32) (x2 : Int32) : Option RS :=
  if 4 ≤ x2 then
    (some (.inl (some (.int 0)), h, z))
  else
    ((gR h x0 6 13).bind fun v5 =>
    (aI h v5 0 x1).bind fun v6 =>
    if ((v6 >>> (x2 &&& 31)) &&& 1) = 0 then
      (REC h z x0 x1 (x2 + 1))
    else
      ((gR h x0 6 12).bind fun v8 =>
      (aI h v8 0 x1).bind fun v9 =>
      (gR h x0 6 9).bind fun v10 =>
      (aI h v10 0 x2).bind fun v11 =>
      (oK h x0 6).bind fun _ =>
      cI (f_M_marked bs sE h z x0 x2 v9 v11 0) fun v14 h12 z13 =>
      if v14 = 0 then
        ((gR h12 x0 6 12).bind fun v16 =>
        (aI h12 v16 0 x1).bind fun v17 =>
        (gR h12 x0 6 7).bind fun v18 =>
        (aI h12 v18 0 x2).bind fun v19 =>
        (oK h12 x0 6).bind fun _ =>
        cI (f_M_marked bs sE h12 z13 x0 x2 v17 v19 0) fun v22 h20 z21 =>
        if v22 = 0 then
          ((gR h20 x0 6 10).bind fun v24 =>
          (aI h20 v24 0 x1).bind fun v25 =>
          (oK h20 x0 6).bind fun _ =>
          cI (f_M_put bs sE h20 z21 x0 x2 v25 0 x1 (-1)) fun v28 h26 z27 =>
          some (.inl (some (.int 1)), h26, z27))
        else
          (REC h20 z21 x0 x1 (x2 + 1)))
      else
        ((gR h12 x0 6 13).bind fun v29 =>
        (aI h12 v29 0 x1).bind fun v30 =>
        (aIs bs h12 v29 0 x1 (v30 - (1 <<< (x2 &&& 31)))).bind fun h31 =>
        some (.inl (some (.int 2)), h31, z13))))
def f_M_stepOf_L75 (bs sE : Nat) : Nat → HH → Z3 → Nat → Int32 → Int32 → Option RS
  | 0 => fun _ _ _ _ _ => none
  | n + 1 => fb_M_stepOf_L75 bs sE (f_M_stepOf_L75 bs sE n)
set_option maxHeartbeats 4000000 in
set_option maxRecDepth 100000 in
theorem t_M_stepOf_L75 {G : EN} {p : Program} {l : Launch} {e : Env} {s : State} {m : MethodId} {args : Array Value} {below : List Frame} {meth : Method} {c : Code} {z0 : Z3} (hl0 : l.stackTraces = false) (C : CX G p l s m meth c b_M_stepOf 3 y_M_stepOf.cls) (hr : meth.sig.returnType = (some .int)) (hex : c.exceptionTable.toList = []) {r : RS} :
    ∀ (n : Nat) (h : HH) (z : Z3) (x0 : Nat) (x1 : Int32) (x2 : Int32), f_M_stepOf_L75 G.2.2.1 G.2.2.2 n h z x0 x1 x2 = some r → ∀ (H : Heap) (locs : List Loc) (cells slots : Nat) (ls : Array Slot), ST G (RM 1 26 z0) s h z H locs cells slots → lv_has ls 3 [(0, .ref x0), (1, .int x1), (2, .int x2)] → W p l e (RM 1 26 z0) s m args below meth c H locs cells slots (MX G below s r (RM 1 26 z0).cells (RM 1 26 z0).slots) (F0 m 75 ls []) := by
  have hx := C.1
  have hb := C.2.1
  intro n
  induction n with
  | zero => intro h z x0 x1 x2 hf; exact nomatch (show (none : Option RS) = some r from hf)
  | succ n ih =>
    intro h z x0 x1 x2 hf H locs cells slots ls hs hl
    have hf : fb_M_stepOf_L75 G.2.2.1 G.2.2.2 (f_M_stepOf_L75 G.2.2.1 G.2.2.2 n) h z x0 x1 x2 = some r := hf
    unfold fb_M_stepOf_L75 at hf
    refine lv_iload_n hx hb d_M_stepOf_75 rfl (lv_at hl 2 rfl) ?_
    refine lv_iconst (v := 4) hx hb d_M_stepOf_76 (by decide) ?_
    refine lv_icmp_ge (tgt := 175) hx hb d_M_stepOf_77 (by decide) (fun q4 => ?_) (fun q4 => ?_)
    · have hf := ifp q4 hf
      refine lv_iconst (v := 0) hx hb d_M_stepOf_175 (by decide) ?_
      exact r_ireturn C hs hr d_M_stepOf_176 hf
    · have hf := ifn q4 hf
      refine lv_aload_n hx hb d_M_stepOf_80 rfl (lv_at hl 0 rfl) ?_
      refine r_getR C hs fl_M_46 d_M_stepOf_81 hf (fun v5 hf => ?_)
      refine lv_iload_n hx hb d_M_stepOf_84 rfl (lv_at hl 1 rfl) ?_
      refine r_iald C hs d_M_stepOf_85 hf (fun v6 hf => ?_)
      refine lv_iload_n hx hb d_M_stepOf_86 rfl (lv_at hl 2 rfl) ?_
      refine lv_ishr hx hb d_M_stepOf_87 ?_
      refine lv_iconst (v := 1) hx hb d_M_stepOf_88 (by decide) ?_
      refine lv_iand hx hb d_M_stepOf_89 ?_
      refine lv_if_ne (tgt := 96) hx hb d_M_stepOf_90 (by decide) (fun q7 => ?_) (fun q7 => ?_)
      · have hf := ifn q7 hf
        refine lv_aload_n hx hb d_M_stepOf_96 rfl (lv_at hl 0 rfl) ?_
        refine lv_iload_n hx hb d_M_stepOf_97 rfl (lv_at hl 2 rfl) ?_
        refine lv_aload_n hx hb d_M_stepOf_98 rfl (lv_at hl 0 rfl) ?_
        refine r_getR C hs fl_M_43 d_M_stepOf_99 hf (fun v8 hf => ?_)
        refine lv_iload_n hx hb d_M_stepOf_102 rfl (lv_at hl 1 rfl) ?_
        refine r_iald C hs d_M_stepOf_103 hf (fun v9 hf => ?_)
        refine lv_aload_n hx hb d_M_stepOf_104 rfl (lv_at hl 0 rfl) ?_
        refine r_getR C hs fl_M_34 d_M_stepOf_105 hf (fun v10 hf => ?_)
        refine lv_iload_n hx hb d_M_stepOf_108 rfl (lv_at hl 2 rfl) ?_
        refine r_iald C hs d_M_stepOf_109 hf (fun v11 hf => ?_)
        refine lv_iconst (v := 0) hx hb d_M_stepOf_110 (by decide) ?_
        obtain ⟨_, ho, hf⟩ := bd hf
        refine k_I C hs hex hf (fun res e1 => iv_V (b := x0) (As := [.int x2, .int v9, .int v11, .int 0]) (rest := []) C hs cv_M_79 (c_M_marked hl0 e1) (ci := 6) rfl rfl ho rfl hl.1 rfl (Nat.le_of_ble_eq_true rfl) d_M_stepOf_111 ⟨Nat.le_of_ble_eq_true rfl, Nat.le_of_ble_eq_true rfl⟩) (fun v14 h12 z13 H locs cells slots hf hs => ?_)
        refine lv_if_eq (tgt := 131) hx hb d_M_stepOf_114 (by decide) (fun q15 => ?_) (fun q15 => ?_)
        · have hf := ifp q15 hf
          refine lv_aload_n hx hb d_M_stepOf_131 rfl (lv_at hl 0 rfl) ?_
          refine lv_iload_n hx hb d_M_stepOf_132 rfl (lv_at hl 2 rfl) ?_
          refine lv_aload_n hx hb d_M_stepOf_133 rfl (lv_at hl 0 rfl) ?_
          refine r_getR C hs fl_M_43 d_M_stepOf_134 hf (fun v16 hf => ?_)
          refine lv_iload_n hx hb d_M_stepOf_137 rfl (lv_at hl 1 rfl) ?_
          refine r_iald C hs d_M_stepOf_138 hf (fun v17 hf => ?_)
          refine lv_aload_n hx hb d_M_stepOf_139 rfl (lv_at hl 0 rfl) ?_
          refine r_getR C hs fl_M_28 d_M_stepOf_140 hf (fun v18 hf => ?_)
          refine lv_iload_n hx hb d_M_stepOf_143 rfl (lv_at hl 2 rfl) ?_
          refine r_iald C hs d_M_stepOf_144 hf (fun v19 hf => ?_)
          refine lv_iconst (v := 0) hx hb d_M_stepOf_145 (by decide) ?_
          obtain ⟨_, ho, hf⟩ := bd hf
          refine k_I C hs hex hf (fun res e1 => iv_V (b := x0) (As := [.int x2, .int v17, .int v19, .int 0]) (rest := []) C hs cv_M_79 (c_M_marked hl0 e1) (ci := 6) rfl rfl ho rfl hl.1 rfl (Nat.le_of_ble_eq_true rfl) d_M_stepOf_146 ⟨Nat.le_of_ble_eq_true rfl, Nat.le_of_ble_eq_true rfl⟩) (fun v22 h20 z21 H locs cells slots hf hs => ?_)
          refine lv_if_ne (tgt := 169) hx hb d_M_stepOf_149 (by decide) (fun q23 => ?_) (fun q23 => ?_)
          · have hf := ifn q23 hf
            refine lv_iinc (v := x2 + 1) (lv' := [(2, .int (x2 + 1)), (0, .ref x0), (1, .int x1)]) hx hb d_M_stepOf_169 hl (k := 2) rfl rfl (by decide) rfl (fun ls hl => ?_)
            refine lv_goto (tgt := 75) hx hb d_M_stepOf_172 (by decide) ?_
            exact ih _ _ _ _ _ hf _ _ _ _ _ hs (lv_sub hl [1, 2, 0] rfl)
          · have hf := ifp q23 hf
            refine lv_aload_n hx hb d_M_stepOf_152 rfl (lv_at hl 0 rfl) ?_
            refine lv_iload_n hx hb d_M_stepOf_153 rfl (lv_at hl 2 rfl) ?_
            refine lv_aload_n hx hb d_M_stepOf_154 rfl (lv_at hl 0 rfl) ?_
            refine r_getR C hs fl_M_37 d_M_stepOf_155 hf (fun v24 hf => ?_)
            refine lv_iload_n hx hb d_M_stepOf_158 rfl (lv_at hl 1 rfl) ?_
            refine r_iald C hs d_M_stepOf_159 hf (fun v25 hf => ?_)
            refine lv_iconst (v := 0) hx hb d_M_stepOf_160 (by decide) ?_
            refine lv_iload_n hx hb d_M_stepOf_161 rfl (lv_at hl 1 rfl) ?_
            refine lv_iconst (v := (-1)) hx hb d_M_stepOf_162 (by decide) ?_
            obtain ⟨_, ho, hf⟩ := bd hf
            refine k_I C hs hex hf (fun res e1 => iv_V (b := x0) (As := [.int x2, .int v25, .int 0, .int x1, .int (-1)]) (rest := []) C hs cv_M_115 (c_M_put hl0 e1) (ci := 6) rfl rfl ho rfl hl.1 rfl (Nat.le_of_ble_eq_true rfl) d_M_stepOf_163 ⟨Nat.le_of_ble_eq_true rfl, Nat.le_of_ble_eq_true rfl⟩) (fun v28 h26 z27 H locs cells slots hf hs => ?_)
            refine lv_pop hx hb d_M_stepOf_166 rfl ?_
            refine lv_iconst (v := 1) hx hb d_M_stepOf_167 (by decide) ?_
            exact r_ireturn C hs hr d_M_stepOf_168 hf
        · have hf := ifn q15 hf
          refine lv_aload_n hx hb d_M_stepOf_117 rfl (lv_at hl 0 rfl) ?_
          refine r_getR C hs fl_M_46 d_M_stepOf_118 hf (fun v29 hf => ?_)
          refine lv_iload_n hx hb d_M_stepOf_121 rfl (lv_at hl 1 rfl) ?_
          refine lv_dup2_11 hx hb d_M_stepOf_122 rfl rfl ?_
          refine r_iald C hs d_M_stepOf_123 hf (fun v30 hf => ?_)
          refine lv_iconst (v := 1) hx hb d_M_stepOf_124 (by decide) ?_
          refine lv_iload_n hx hb d_M_stepOf_125 rfl (lv_at hl 2 rfl) ?_
          refine lv_ishl hx hb d_M_stepOf_126 ?_
          refine lv_isub hx hb d_M_stepOf_127 ?_
          refine r_iast C hs d_M_stepOf_128 hf (fun h31 H locs hf hs => ?_)
          refine lv_iconst (v := 2) hx hb d_M_stepOf_129 (by decide) ?_
          exact r_ireturn C hs hr d_M_stepOf_130 hf
      · have hf := ifp q7 hf
        refine lv_goto (tgt := 169) hx hb d_M_stepOf_93 (by decide) ?_
        refine lv_iinc (v := x2 + 1) (lv' := [(2, .int (x2 + 1)), (0, .ref x0), (1, .int x1)]) hx hb d_M_stepOf_169 hl (k := 2) rfl rfl (by decide) rfl (fun ls hl => ?_)
        refine lv_goto (tgt := 75) hx hb d_M_stepOf_172 (by decide) ?_
        exact ih _ _ _ _ _ hf _ _ _ _ _ hs (lv_sub hl [1, 2, 0] rfl)
def fb_M_stepOf_L11 (bs sE : Nat) (REC : HH → Z3 → Nat → Int32 → Int32 → Option RS) (h : HH) (z : Z3) (x0 : Nat) (x1 : Int32) (x2 : Int32) : Option RS :=
  if 8 ≤ x2 then
    ((gR h x0 6 10).bind fun v33 =>
    (aIs bs h v33 0 x1 0).bind fun h34 =>
    some (.inl (some (.int 3)), h34, z))
  else
    ((gR h x0 6 10).bind fun v35 =>
    (aI h v35 0 x1).bind fun v36 =>
    if v36 = 2 then
      ((gR h x0 6 15).bind fun v38 =>
      (aI h v38 0 ((8 * x1) + x2)).bind fun v39 =>
      if v39 < 0 then
        (REC h z x0 x1 (x2 + 1))
      else
        ((gR h x0 6 21).bind fun v41 =>
        (gR h x0 6 15).bind fun v42 =>
        (aI h v42 0 ((8 * x1) + x2)).bind fun v43 =>
        (aIs bs h v41 0 x2 v43).bind fun h44 =>
        REC h44 z x0 x1 (x2 + 1)))
    else
      (REC h z x0 x1 (x2 + 1)))
def f_M_stepOf_L11 (bs sE : Nat) : Nat → HH → Z3 → Nat → Int32 → Int32 → Option RS
  | 0 => fun _ _ _ _ _ => none
  | n + 1 => fb_M_stepOf_L11 bs sE (f_M_stepOf_L11 bs sE n)
set_option maxHeartbeats 4000000 in
set_option maxRecDepth 100000 in
theorem t_M_stepOf_L11 {G : EN} {p : Program} {l : Launch} {e : Env} {s : State} {m : MethodId} {args : Array Value} {below : List Frame} {meth : Method} {c : Code} {z0 : Z3} (hl0 : l.stackTraces = false) (C : CX G p l s m meth c b_M_stepOf 3 y_M_stepOf.cls) (hr : meth.sig.returnType = (some .int)) (hex : c.exceptionTable.toList = []) {r : RS} :
    ∀ (n : Nat) (h : HH) (z : Z3) (x0 : Nat) (x1 : Int32) (x2 : Int32), f_M_stepOf_L11 G.2.2.1 G.2.2.2 n h z x0 x1 x2 = some r → ∀ (H : Heap) (locs : List Loc) (cells slots : Nat) (ls : Array Slot), ST G (RM 1 26 z0) s h z H locs cells slots → lv_has ls 3 [(0, .ref x0), (1, .int x1), (2, .int x2)] → W p l e (RM 1 26 z0) s m args below meth c H locs cells slots (MX G below s r (RM 1 26 z0).cells (RM 1 26 z0).slots) (F0 m 11 ls []) := by
  have hx := C.1
  have hb := C.2.1
  intro n
  induction n with
  | zero => intro h z x0 x1 x2 hf; exact nomatch (show (none : Option RS) = some r from hf)
  | succ n ih =>
    intro h z x0 x1 x2 hf H locs cells slots ls hs hl
    have hf : fb_M_stepOf_L11 G.2.2.1 G.2.2.2 (f_M_stepOf_L11 G.2.2.1 G.2.2.2 n) h z x0 x1 x2 = some r := hf
    unfold fb_M_stepOf_L11 at hf
    refine lv_iload_n hx hb d_M_stepOf_11 rfl (lv_at hl 2 rfl) ?_
    refine lv_bipush (v := 8) hx hb d_M_stepOf_12 (by decide) ?_
    refine lv_icmp_ge (tgt := 64) hx hb d_M_stepOf_14 (by decide) (fun q32 => ?_) (fun q32 => ?_)
    · have hf := ifp q32 hf
      refine lv_aload_n hx hb d_M_stepOf_64 rfl (lv_at hl 0 rfl) ?_
      refine r_getR C hs fl_M_37 d_M_stepOf_65 hf (fun v33 hf => ?_)
      refine lv_iload_n hx hb d_M_stepOf_68 rfl (lv_at hl 1 rfl) ?_
      refine lv_iconst (v := 0) hx hb d_M_stepOf_69 (by decide) ?_
      refine r_iast C hs d_M_stepOf_70 hf (fun h34 H locs hf hs => ?_)
      refine lv_iconst (v := 3) hx hb d_M_stepOf_71 (by decide) ?_
      exact r_ireturn C hs hr d_M_stepOf_72 hf
    · have hf := ifn q32 hf
      refine lv_aload_n hx hb d_M_stepOf_17 rfl (lv_at hl 0 rfl) ?_
      refine r_getR C hs fl_M_37 d_M_stepOf_18 hf (fun v35 hf => ?_)
      refine lv_iload_n hx hb d_M_stepOf_21 rfl (lv_at hl 1 rfl) ?_
      refine r_iald C hs d_M_stepOf_22 hf (fun v36 hf => ?_)
      refine lv_iconst (v := 2) hx hb d_M_stepOf_23 (by decide) ?_
      refine lv_icmp_ne (tgt := 58) hx hb d_M_stepOf_24 (by decide) (fun q37 => ?_) (fun q37 => ?_)
      · have hf := ifn q37 hf
        refine lv_iinc (v := x2 + 1) (lv' := [(2, .int (x2 + 1)), (0, .ref x0), (1, .int x1)]) hx hb d_M_stepOf_58 hl (k := 2) rfl rfl (by decide) rfl (fun ls hl => ?_)
        refine lv_goto (tgt := 11) hx hb d_M_stepOf_61 (by decide) ?_
        exact ih _ _ _ _ _ hf _ _ _ _ _ hs (lv_sub hl [1, 2, 0] rfl)
      · have hf := ifp q37 hf
        refine lv_aload_n hx hb d_M_stepOf_27 rfl (lv_at hl 0 rfl) ?_
        refine r_getR C hs fl_M_52 d_M_stepOf_28 hf (fun v38 hf => ?_)
        refine lv_bipush (v := 8) hx hb d_M_stepOf_31 (by decide) ?_
        refine lv_iload_n hx hb d_M_stepOf_33 rfl (lv_at hl 1 rfl) ?_
        refine lv_imul hx hb d_M_stepOf_34 ?_
        refine lv_iload_n hx hb d_M_stepOf_35 rfl (lv_at hl 2 rfl) ?_
        refine lv_iadd hx hb d_M_stepOf_36 ?_
        refine r_iald C hs d_M_stepOf_37 hf (fun v39 hf => ?_)
        refine lv_if_lt (tgt := 58) hx hb d_M_stepOf_38 (by decide) (fun q40 => ?_) (fun q40 => ?_)
        · have hf := ifp q40 hf
          refine lv_iinc (v := x2 + 1) (lv' := [(2, .int (x2 + 1)), (0, .ref x0), (1, .int x1)]) hx hb d_M_stepOf_58 hl (k := 2) rfl rfl (by decide) rfl (fun ls hl => ?_)
          refine lv_goto (tgt := 11) hx hb d_M_stepOf_61 (by decide) ?_
          exact ih _ _ _ _ _ hf _ _ _ _ _ hs (lv_sub hl [1, 2, 0] rfl)
        · have hf := ifn q40 hf
          refine lv_aload_n hx hb d_M_stepOf_41 rfl (lv_at hl 0 rfl) ?_
          refine r_getR C hs fl_M_68 d_M_stepOf_42 hf (fun v41 hf => ?_)
          refine lv_iload_n hx hb d_M_stepOf_45 rfl (lv_at hl 2 rfl) ?_
          refine lv_aload_n hx hb d_M_stepOf_46 rfl (lv_at hl 0 rfl) ?_
          refine r_getR C hs fl_M_52 d_M_stepOf_47 hf (fun v42 hf => ?_)
          refine lv_bipush (v := 8) hx hb d_M_stepOf_50 (by decide) ?_
          refine lv_iload_n hx hb d_M_stepOf_52 rfl (lv_at hl 1 rfl) ?_
          refine lv_imul hx hb d_M_stepOf_53 ?_
          refine lv_iload_n hx hb d_M_stepOf_54 rfl (lv_at hl 2 rfl) ?_
          refine lv_iadd hx hb d_M_stepOf_55 ?_
          refine r_iald C hs d_M_stepOf_56 hf (fun v43 hf => ?_)
          refine r_iast C hs d_M_stepOf_57 hf (fun h44 H locs hf hs => ?_)
          refine lv_iinc (v := x2 + 1) (lv' := [(2, .int (x2 + 1)), (0, .ref x0), (1, .int x1)]) hx hb d_M_stepOf_58 hl (k := 2) rfl rfl (by decide) rfl (fun ls hl => ?_)
          refine lv_goto (tgt := 11) hx hb d_M_stepOf_61 (by decide) ?_
          exact ih _ _ _ _ _ hf _ _ _ _ _ hs (lv_sub hl [1, 2, 0] rfl)
def f_M_stepOf (bs sE : Nat) (h : HH) (z : Z3) (x0 : Nat) (x1 : Int32) : Option RS :=
  (gR h x0 6 13).bind fun v1 =>
  (aI h v1 0 x1).bind fun v2 =>
  if v2 = 0 then
    (f_M_stepOf_L11 bs sE FU h z x0 x1 0)
  else
    (f_M_stepOf_L75 bs sE FU h z x0 x1 0)
set_option maxHeartbeats 4000000 in
set_option maxRecDepth 100000 in
theorem c_M_stepOf {G : EN} {l : Launch} (hl0 : l.stackTraces = false) {h : HH} {z : Z3} {x0 : Nat} {x1 : Int32} {r : RS} (hf : f_M_stepOf G.2.2.1 G.2.2.2 h z x0 x1 = some r) : CM G l y_M_stepOf (.code y_M_stepOf b_M_stepOf 3 (some .int)) 1 26 [.ref x0, .int x1] h z r := by
  refine CM.ofW hl0 rfl ?_
  intro p e s m below meth c C hr hex hin hs
  have hx := C.1
  have hb := C.2.1
  refine x_entry (n := 3) (Nat.le_of_ble_eq_true rfl) (fun ls hl => ?_)
  have hl : lv_has ls 3 [(0, .ref x0), (1, .int x1)] := hl
  unfold f_M_stepOf at hf
  refine lv_aload_n hx hb d_M_stepOf_0 rfl (lv_at hl 0 rfl) ?_
  refine r_getR C hs fl_M_46 d_M_stepOf_1 hf (fun v1 hf => ?_)
  refine lv_iload_n hx hb d_M_stepOf_4 rfl (lv_at hl 1 rfl) ?_
  refine r_iald C hs d_M_stepOf_5 hf (fun v2 hf => ?_)
  refine lv_if_ne (tgt := 73) hx hb d_M_stepOf_6 (by decide) (fun q3 => ?_) (fun q3 => ?_)
  · have hf := ifn q3 hf
    refine lv_iconst (v := 0) hx hb d_M_stepOf_73 (by decide) ?_
    refine lv_istore_n (lv' := [(2, .int 0), (0, .ref x0), (1, .int x1)]) hx hb d_M_stepOf_74 rfl hl (by decide) rfl (fun ls hl => ?_)
    exact t_M_stepOf_L75 hl0 C hr hex FU _ _ _ _ _ hf _ _ _ _ _ hs (lv_sub hl [1, 2, 0] rfl)
  · have hf := ifp q3 hf
    refine lv_iconst (v := 0) hx hb d_M_stepOf_9 (by decide) ?_
    refine lv_istore_n (lv' := [(2, .int 0), (0, .ref x0), (1, .int x1)]) hx hb d_M_stepOf_10 rfl hl (by decide) rfl (fun ls hl => ?_)
    exact t_M_stepOf_L11 hl0 C hr hex FU _ _ _ _ _ hf _ _ _ _ _ hs (lv_sub hl [1, 2, 0] rfl)
def fb_M_step_L7 (bs sE : Nat) (REC : HH → Z3 → Nat → Int32 → Option RS) (h : HH) (z : Z3) (x0 : Nat) (x1 : Int32) : Option RS :=
  if 4 ≤ x1 then
    (some (.inl (some (.int (-1))), h, z))
  else
    ((gR h x0 6 10).bind fun v3 =>
    (aI h v3 0 x1).bind fun v4 =>
    if v4 ≤ 1 then
      (if (0 : Int32) ≤ 0 then
        (REC h z x0 (x1 + 1))
      else
        (some (.inl (some (.int ((10 * x1) + 0))), h, z)))
    else
      ((oK h x0 6).bind fun _ =>
      cI (f_M_stepOf bs sE h z x0 x1) fun v9 h7 z8 =>
      if v9 ≤ 0 then
        (REC h7 z8 x0 (x1 + 1))
      else
        (some (.inl (some (.int ((10 * x1) + v9))), h7, z8))))
def f_M_step_L7 (bs sE : Nat) : Nat → HH → Z3 → Nat → Int32 → Option RS
  | 0 => fun _ _ _ _ => none
  | n + 1 => fb_M_step_L7 bs sE (f_M_step_L7 bs sE n)
set_option maxHeartbeats 4000000 in
set_option maxRecDepth 100000 in
theorem t_M_step_L7 {G : EN} {p : Program} {l : Launch} {e : Env} {s : State} {m : MethodId} {args : Array Value} {below : List Frame} {meth : Method} {c : Code} {z0 : Z3} (hl0 : l.stackTraces = false) (C : CX G p l s m meth c b_M_step 3 y_M_step.cls) (hr : meth.sig.returnType = (some .int)) (hex : c.exceptionTable.toList = []) {r : RS} :
    ∀ (n : Nat) (h : HH) (z : Z3) (x0 : Nat) (x1 : Int32), f_M_step_L7 G.2.2.1 G.2.2.2 n h z x0 x1 = some r → ∀ (H : Heap) (locs : List Loc) (cells slots : Nat) (ls : Array Slot), ST G (RM 2 48 z0) s h z H locs cells slots → lv_has ls 3 [(0, .ref x0), (1, .int x1)] → W p l e (RM 2 48 z0) s m args below meth c H locs cells slots (MX G below s r (RM 2 48 z0).cells (RM 2 48 z0).slots) (F0 m 7 ls []) := by
  have hx := C.1
  have hb := C.2.1
  intro n
  induction n with
  | zero => intro h z x0 x1 hf; exact nomatch (show (none : Option RS) = some r from hf)
  | succ n ih =>
    intro h z x0 x1 hf H locs cells slots ls hs hl
    have hf : fb_M_step_L7 G.2.2.1 G.2.2.2 (f_M_step_L7 G.2.2.1 G.2.2.2 n) h z x0 x1 = some r := hf
    unfold fb_M_step_L7 at hf
    refine lv_iload_n hx hb d_M_step_7 rfl (lv_at hl 1 rfl) ?_
    refine lv_iconst (v := 4) hx hb d_M_step_8 (by decide) ?_
    refine lv_icmp_ge (tgt := 49) hx hb d_M_step_9 (by decide) (fun q2 => ?_) (fun q2 => ?_)
    · have hf := ifp q2 hf
      refine lv_iconst (v := (-1)) hx hb d_M_step_49 (by decide) ?_
      exact r_ireturn C hs hr d_M_step_50 hf
    · have hf := ifn q2 hf
      refine lv_aload_n hx hb d_M_step_12 rfl (lv_at hl 0 rfl) ?_
      refine r_getR C hs fl_M_37 d_M_step_13 hf (fun v3 hf => ?_)
      refine lv_iload_n hx hb d_M_step_16 rfl (lv_at hl 1 rfl) ?_
      refine r_iald C hs d_M_step_17 hf (fun v4 hf => ?_)
      refine lv_iconst (v := 1) hx hb d_M_step_18 (by decide) ?_
      refine lv_icmp_le (tgt := 30) hx hb d_M_step_19 (by decide) (fun q5 => ?_) (fun q5 => ?_)
      · have hf := ifp q5 hf
        refine lv_iconst (v := 0) hx hb d_M_step_30 (by decide) ?_
        refine lv_istore_n (lv' := [(2, .int 0), (0, .ref x0), (1, .int x1)]) hx hb d_M_step_31 rfl hl (by decide) rfl (fun ls hl => ?_)
        refine lv_iload_n hx hb d_M_step_32 rfl (lv_at hl 0 rfl) ?_
        refine lv_if_le (tgt := 43) hx hb d_M_step_33 (by decide) (fun q6 => ?_) (fun q6 => ?_)
        · rw [if_pos q6] at hf
          refine lv_iinc (v := x1 + 1) (lv' := [(1, .int (x1 + 1)), (2, .int 0), (0, .ref x0)]) hx hb d_M_step_43 hl (k := 2) rfl rfl (by decide) rfl (fun ls hl => ?_)
          refine lv_goto (tgt := 7) hx hb d_M_step_46 (by decide) ?_
          exact ih _ _ _ _ hf _ _ _ _ _ hs (lv_sub hl [2, 0] rfl)
        · rw [if_neg q6] at hf
          refine lv_bipush (v := 10) hx hb d_M_step_36 (by decide) ?_
          refine lv_iload_n hx hb d_M_step_38 rfl (lv_at hl 2 rfl) ?_
          refine lv_imul hx hb d_M_step_39 ?_
          refine lv_iload_n hx hb d_M_step_40 rfl (lv_at hl 0 rfl) ?_
          refine lv_iadd hx hb d_M_step_41 ?_
          exact r_ireturn C hs hr d_M_step_42 hf
      · have hf := ifn q5 hf
        refine lv_aload_n hx hb d_M_step_22 rfl (lv_at hl 0 rfl) ?_
        refine lv_iload_n hx hb d_M_step_23 rfl (lv_at hl 1 rfl) ?_
        obtain ⟨_, ho, hf⟩ := bd hf
        refine k_I C hs hex hf (fun res e1 => iv_V (b := x0) (As := [.int x1]) (rest := []) C hs cv_M_122 (c_M_stepOf hl0 e1) (ci := 6) rfl rfl ho rfl hl.1 rfl (Nat.le_of_ble_eq_true rfl) d_M_step_24 ⟨Nat.le_of_ble_eq_true rfl, Nat.le_of_ble_eq_true rfl⟩) (fun v9 h7 z8 H locs cells slots hf hs => ?_)
        refine lv_goto (tgt := 31) hx hb d_M_step_27 (by decide) ?_
        refine lv_istore_n (lv' := [(2, .int v9), (0, .ref x0), (1, .int x1)]) hx hb d_M_step_31 rfl hl (by decide) rfl (fun ls hl => ?_)
        refine lv_iload_n hx hb d_M_step_32 rfl (lv_at hl 0 rfl) ?_
        refine lv_if_le (tgt := 43) hx hb d_M_step_33 (by decide) (fun q10 => ?_) (fun q10 => ?_)
        · have hf := ifp q10 hf
          refine lv_iinc (v := x1 + 1) (lv' := [(1, .int (x1 + 1)), (2, .int v9), (0, .ref x0)]) hx hb d_M_step_43 hl (k := 2) rfl rfl (by decide) rfl (fun ls hl => ?_)
          refine lv_goto (tgt := 7) hx hb d_M_step_46 (by decide) ?_
          exact ih _ _ _ _ hf _ _ _ _ _ hs (lv_sub hl [2, 0] rfl)
        · have hf := ifn q10 hf
          refine lv_bipush (v := 10) hx hb d_M_step_36 (by decide) ?_
          refine lv_iload_n hx hb d_M_step_38 rfl (lv_at hl 2 rfl) ?_
          refine lv_imul hx hb d_M_step_39 ?_
          refine lv_iload_n hx hb d_M_step_40 rfl (lv_at hl 0 rfl) ?_
          refine lv_iadd hx hb d_M_step_41 ?_
          exact r_ireturn C hs hr d_M_step_42 hf
def f_M_step (bs sE : Nat) (h : HH) (z : Z3) (x0 : Nat) : Option RS :=
  (pV bs h x0 6 0 (.inl 0)).bind fun h1 =>
  f_M_step_L7 bs sE FU h1 z x0 0
set_option maxHeartbeats 4000000 in
set_option maxRecDepth 100000 in
theorem c_M_step {G : EN} {l : Launch} (hl0 : l.stackTraces = false) {h : HH} {z : Z3} {x0 : Nat} {r : RS} (hf : f_M_step G.2.2.1 G.2.2.2 h z x0 = some r) : CM G l y_M_step (.code y_M_step b_M_step 3 (some .int)) 2 48 [.ref x0] h z r := by
  refine CM.ofW hl0 rfl ?_
  intro p e s m below meth c C hr hex hin hs
  have hx := C.1
  have hb := C.2.1
  refine x_entry (n := 3) (Nat.le_of_ble_eq_true rfl) (fun ls hl => ?_)
  have hl : lv_has ls 3 [(0, .ref x0)] := hl
  unfold f_M_step at hf
  refine lv_aload_n hx hb d_M_step_0 rfl (lv_at hl 0 rfl) ?_
  refine lv_iconst (v := 0) hx hb d_M_step_1 (by decide) ?_
  refine r_putV (v := (.inl 0)) C hs flp_M_71 rfl rfl d_M_step_2 hf (fun h1 H locs hf hs => ?_)
  refine lv_iconst (v := 0) hx hb d_M_step_5 (by decide) ?_
  refine lv_istore_n (lv' := [(1, .int 0), (0, .ref x0)]) hx hb d_M_step_6 rfl hl (by decide) rfl (fun ls hl => ?_)
  exact t_M_step_L7 hl0 C hr hex FU _ _ _ _ hf _ _ _ _ _ hs (lv_sub hl [1, 0] rfl)
def f_M_plain (bs sE : Nat) (h : HH) (z : Z3) (x0 : Nat) (x1 : Int32) (x2 : Int32) : Option RS :=
  (pV bs h x0 6 0 (.inl 0)).bind fun h1 =>
  (oK h1 x0 6).bind fun _ =>
  cI (f_M_out bs sE h1 z x0 x1 4) fun v4 h2 z3 =>
  if v4 = 0 then
    ((oK h2 x0 6).bind fun _ =>
    cI (f_M_full bs sE h2 z3 x0 x1) fun v8 h6 z7 =>
    if v8 = 0 then
      ((oK h6 x0 6).bind fun _ =>
      cI (f_M_put bs sE h6 z7 x0 x1 0 x2 (-1) (-1)) fun v12 h10 z11 =>
      some (.inl (some (.int v12)), h10, z11))
    else
      ((oK h6 x0 6).bind fun _ =>
      cI (f_M_fail bs sE h6 z7 x0 2) fun v15 h13 z14 =>
      some (.inl (some (.int v15)), h13, z14)))
  else
    ((oK h2 x0 6).bind fun _ =>
    cI (f_M_fail bs sE h2 z3 x0 1) fun v18 h16 z17 =>
    some (.inl (some (.int v18)), h16, z17))
set_option maxHeartbeats 4000000 in
set_option maxRecDepth 100000 in
theorem c_M_plain {G : EN} {l : Launch} (hl0 : l.stackTraces = false) {h : HH} {z : Z3} {x0 : Nat} {x1 : Int32} {x2 : Int32} {r : RS} (hf : f_M_plain G.2.2.1 G.2.2.2 h z x0 x1 x2 = some r) : CM G l y_M_plain (.code y_M_plain b_M_plain 3 (some .int)) 1 26 [.ref x0, .int x1, .int x2] h z r := by
  refine CM.ofW hl0 rfl ?_
  intro p e s m below meth c C hr hex hin hs
  have hx := C.1
  have hb := C.2.1
  refine x_entry (n := 3) (Nat.le_of_ble_eq_true rfl) (fun ls hl => ?_)
  have hl : lv_has ls 3 [(0, .ref x0), (1, .int x1), (2, .int x2)] := hl
  unfold f_M_plain at hf
  refine lv_aload_n hx hb d_M_plain_0 rfl (lv_at hl 0 rfl) ?_
  refine lv_iconst (v := 0) hx hb d_M_plain_1 (by decide) ?_
  refine r_putV (v := (.inl 0)) C hs flp_M_71 rfl rfl d_M_plain_2 hf (fun h1 H locs hf hs => ?_)
  refine lv_aload_n hx hb d_M_plain_5 rfl (lv_at hl 0 rfl) ?_
  refine lv_iload_n hx hb d_M_plain_6 rfl (lv_at hl 1 rfl) ?_
  refine lv_iconst (v := 4) hx hb d_M_plain_7 (by decide) ?_
  obtain ⟨_, ho, hf⟩ := bd hf
  refine k_I C hs hex hf (fun res e1 => iv_V (b := x0) (As := [.int x1, .int 4]) (rest := []) C hs cv_M_83 (c_M_out hl0 e1) (ci := 6) rfl rfl ho rfl hl.1 rfl (Nat.le_of_ble_eq_true rfl) d_M_plain_8 ⟨Nat.le_of_ble_eq_true rfl, Nat.le_of_ble_eq_true rfl⟩) (fun v4 h2 z3 H locs cells slots hf hs => ?_)
  refine lv_if_eq (tgt := 20) hx hb d_M_plain_11 (by decide) (fun q5 => ?_) (fun q5 => ?_)
  · have hf := ifp q5 hf
    refine lv_aload_n hx hb d_M_plain_20 rfl (lv_at hl 0 rfl) ?_
    refine lv_iload_n hx hb d_M_plain_21 rfl (lv_at hl 1 rfl) ?_
    obtain ⟨_, ho, hf⟩ := bd hf
    refine k_I C hs hex hf (fun res e1 => iv_V (b := x0) (As := [.int x1]) (rest := []) C hs cv_M_111 (c_M_full hl0 e1) (ci := 6) rfl rfl ho rfl hl.1 rfl (Nat.le_of_ble_eq_true rfl) d_M_plain_22 ⟨Nat.le_of_ble_eq_true rfl, Nat.le_of_ble_eq_true rfl⟩) (fun v8 h6 z7 H locs cells slots hf hs => ?_)
    refine lv_if_eq (tgt := 36) hx hb d_M_plain_25 (by decide) (fun q9 => ?_) (fun q9 => ?_)
    · have hf := ifp q9 hf
      refine lv_aload_n hx hb d_M_plain_36 rfl (lv_at hl 0 rfl) ?_
      refine lv_iload_n hx hb d_M_plain_37 rfl (lv_at hl 1 rfl) ?_
      refine lv_iconst (v := 0) hx hb d_M_plain_38 (by decide) ?_
      refine lv_iload_n hx hb d_M_plain_39 rfl (lv_at hl 2 rfl) ?_
      refine lv_iconst (v := (-1)) hx hb d_M_plain_40 (by decide) ?_
      refine lv_iconst (v := (-1)) hx hb d_M_plain_41 (by decide) ?_
      obtain ⟨_, ho, hf⟩ := bd hf
      refine k_I C hs hex hf (fun res e1 => iv_V (b := x0) (As := [.int x1, .int 0, .int x2, .int (-1), .int (-1)]) (rest := []) C hs cv_M_115 (c_M_put hl0 e1) (ci := 6) rfl rfl ho rfl hl.1 rfl (Nat.le_of_ble_eq_true rfl) d_M_plain_42 ⟨Nat.le_of_ble_eq_true rfl, Nat.le_of_ble_eq_true rfl⟩) (fun v12 h10 z11 H locs cells slots hf hs => ?_)
      exact r_ireturn C hs hr d_M_plain_45 hf
    · have hf := ifn q9 hf
      refine lv_aload_n hx hb d_M_plain_28 rfl (lv_at hl 0 rfl) ?_
      refine lv_iconst (v := 2) hx hb d_M_plain_29 (by decide) ?_
      obtain ⟨_, ho, hf⟩ := bd hf
      refine k_I C hs hex hf (fun res e1 => iv_V (b := x0) (As := [.int 2]) (rest := []) C hs cv_M_86 (c_M_fail hl0 e1) (ci := 6) rfl rfl ho rfl hl.1 rfl (Nat.le_of_ble_eq_true rfl) d_M_plain_30 ⟨Nat.le_of_ble_eq_true rfl, Nat.le_of_ble_eq_true rfl⟩) (fun v15 h13 z14 H locs cells slots hf hs => ?_)
      refine lv_goto (tgt := 45) hx hb d_M_plain_33 (by decide) ?_
      exact r_ireturn C hs hr d_M_plain_45 hf
  · have hf := ifn q5 hf
    refine lv_aload_n hx hb d_M_plain_14 rfl (lv_at hl 0 rfl) ?_
    refine lv_iconst (v := 1) hx hb d_M_plain_15 (by decide) ?_
    obtain ⟨_, ho, hf⟩ := bd hf
    refine k_I C hs hex hf (fun res e1 => iv_V (b := x0) (As := [.int 1]) (rest := []) C hs cv_M_86 (c_M_fail hl0 e1) (ci := 6) rfl rfl ho rfl hl.1 rfl (Nat.le_of_ble_eq_true rfl) d_M_plain_16 ⟨Nat.le_of_ble_eq_true rfl, Nat.le_of_ble_eq_true rfl⟩) (fun v18 h16 z17 H locs cells slots hf hs => ?_)
    exact r_ireturn C hs hr d_M_plain_19 hf
def f_M_copy (bs sE : Nat) (h : HH) (z : Z3) (x0 : Nat) (x1 : Int32) (x2 : Int32) : Option RS :=
  (pV bs h x0 6 0 (.inl 0)).bind fun h1 =>
  (oK h1 x0 6).bind fun _ =>
  cI (f_M_out bs sE h1 z x0 x1 4) fun v4 h2 z3 =>
  if v4 = 0 then
    (if x2 < 1 then
      ((oK h2 x0 6).bind fun _ =>
      cI (f_M_fail bs sE h2 z3 x0 1) fun v12 h10 z11 =>
      some (.inl (some (.int v12)), h10, z11))
    else
      (if x2 ≤ 40 then
        ((gR h2 x0 6 9).bind fun v14 =>
        (gR h2 x0 6 9).bind fun v15 =>
        (aI h2 v15 0 x1).bind fun v16 =>
        (gR h2 x0 6 7).bind fun v17 =>
        (aI h2 v17 0 x1).bind fun v18 =>
        if (v16 + x2) ≤ v18 then
          ((gR h2 x0 6 9).bind fun v20 =>
          (aI h2 v20 0 x1).bind fun v21 =>
          (aIs bs h2 v14 0 x1 (v21 + x2)).bind fun h22 =>
          (gR h22 x0 6 9).bind fun v23 =>
          (aI h22 v23 0 x1).bind fun v24 =>
          some (.inl (some (.int v24)), h22, z3))
        else
          ((gR h2 x0 6 7).bind fun v25 =>
          (aI h2 v25 0 x1).bind fun v26 =>
          (aIs bs h2 v14 0 x1 v26).bind fun h27 =>
          (gR h27 x0 6 9).bind fun v28 =>
          (aI h27 v28 0 x1).bind fun v29 =>
          some (.inl (some (.int v29)), h27, z3)))
      else
        ((oK h2 x0 6).bind fun _ =>
        cI (f_M_fail bs sE h2 z3 x0 1) fun v32 h30 z31 =>
        some (.inl (some (.int v32)), h30, z31))))
  else
    ((oK h2 x0 6).bind fun _ =>
    cI (f_M_fail bs sE h2 z3 x0 1) fun v8 h6 z7 =>
    some (.inl (some (.int v8)), h6, z7))
set_option maxHeartbeats 4000000 in
set_option maxRecDepth 100000 in
theorem c_M_copy {G : EN} {l : Launch} (hl0 : l.stackTraces = false) {h : HH} {z : Z3} {x0 : Nat} {x1 : Int32} {x2 : Int32} {r : RS} (hf : f_M_copy G.2.2.1 G.2.2.2 h z x0 x1 x2 = some r) : CM G l y_M_copy (.code y_M_copy b_M_copy 3 (some .int)) 1 22 [.ref x0, .int x1, .int x2] h z r := by
  refine CM.ofW hl0 rfl ?_
  intro p e s m below meth c C hr hex hin hs
  have hx := C.1
  have hb := C.2.1
  refine x_entry (n := 3) (Nat.le_of_ble_eq_true rfl) (fun ls hl => ?_)
  have hl : lv_has ls 3 [(0, .ref x0), (1, .int x1), (2, .int x2)] := hl
  unfold f_M_copy at hf
  refine lv_aload_n hx hb d_M_copy_0 rfl (lv_at hl 0 rfl) ?_
  refine lv_iconst (v := 0) hx hb d_M_copy_1 (by decide) ?_
  refine r_putV (v := (.inl 0)) C hs flp_M_71 rfl rfl d_M_copy_2 hf (fun h1 H locs hf hs => ?_)
  refine lv_aload_n hx hb d_M_copy_5 rfl (lv_at hl 0 rfl) ?_
  refine lv_iload_n hx hb d_M_copy_6 rfl (lv_at hl 1 rfl) ?_
  refine lv_iconst (v := 4) hx hb d_M_copy_7 (by decide) ?_
  obtain ⟨_, ho, hf⟩ := bd hf
  refine k_I C hs hex hf (fun res e1 => iv_V (b := x0) (As := [.int x1, .int 4]) (rest := []) C hs cv_M_83 (c_M_out hl0 e1) (ci := 6) rfl rfl ho rfl hl.1 rfl (Nat.le_of_ble_eq_true rfl) d_M_copy_8 ⟨Nat.le_of_ble_eq_true rfl, Nat.le_of_ble_eq_true rfl⟩) (fun v4 h2 z3 H locs cells slots hf hs => ?_)
  refine lv_if_ne (tgt := 25) hx hb d_M_copy_11 (by decide) (fun q5 => ?_) (fun q5 => ?_)
  · have hf := ifn q5 hf
    refine lv_aload_n hx hb d_M_copy_25 rfl (lv_at hl 0 rfl) ?_
    refine lv_iconst (v := 1) hx hb d_M_copy_26 (by decide) ?_
    obtain ⟨_, ho, hf⟩ := bd hf
    refine k_I C hs hex hf (fun res e1 => iv_V (b := x0) (As := [.int 1]) (rest := []) C hs cv_M_86 (c_M_fail hl0 e1) (ci := 6) rfl rfl ho rfl hl.1 rfl (Nat.le_of_ble_eq_true rfl) d_M_copy_27 ⟨Nat.le_of_ble_eq_true rfl, Nat.le_of_ble_eq_true rfl⟩) (fun v8 h6 z7 H locs cells slots hf hs => ?_)
    exact r_ireturn C hs hr d_M_copy_30 hf
  · have hf := ifp q5 hf
    refine lv_iload_n hx hb d_M_copy_14 rfl (lv_at hl 2 rfl) ?_
    refine lv_iconst (v := 1) hx hb d_M_copy_15 (by decide) ?_
    refine lv_icmp_lt (tgt := 25) hx hb d_M_copy_16 (by decide) (fun q9 => ?_) (fun q9 => ?_)
    · have hf := ifp q9 hf
      refine lv_aload_n hx hb d_M_copy_25 rfl (lv_at hl 0 rfl) ?_
      refine lv_iconst (v := 1) hx hb d_M_copy_26 (by decide) ?_
      obtain ⟨_, ho, hf⟩ := bd hf
      refine k_I C hs hex hf (fun res e1 => iv_V (b := x0) (As := [.int 1]) (rest := []) C hs cv_M_86 (c_M_fail hl0 e1) (ci := 6) rfl rfl ho rfl hl.1 rfl (Nat.le_of_ble_eq_true rfl) d_M_copy_27 ⟨Nat.le_of_ble_eq_true rfl, Nat.le_of_ble_eq_true rfl⟩) (fun v12 h10 z11 H locs cells slots hf hs => ?_)
      exact r_ireturn C hs hr d_M_copy_30 hf
    · have hf := ifn q9 hf
      refine lv_iload_n hx hb d_M_copy_19 rfl (lv_at hl 2 rfl) ?_
      refine lv_bipush (v := 40) hx hb d_M_copy_20 (by decide) ?_
      refine lv_icmp_le (tgt := 31) hx hb d_M_copy_22 (by decide) (fun q13 => ?_) (fun q13 => ?_)
      · have hf := ifp q13 hf
        refine lv_aload_n hx hb d_M_copy_31 rfl (lv_at hl 0 rfl) ?_
        refine r_getR C hs fl_M_34 d_M_copy_32 hf (fun v14 hf => ?_)
        refine lv_iload_n hx hb d_M_copy_35 rfl (lv_at hl 1 rfl) ?_
        refine lv_aload_n hx hb d_M_copy_36 rfl (lv_at hl 0 rfl) ?_
        refine r_getR C hs fl_M_34 d_M_copy_37 hf (fun v15 hf => ?_)
        refine lv_iload_n hx hb d_M_copy_40 rfl (lv_at hl 1 rfl) ?_
        refine r_iald C hs d_M_copy_41 hf (fun v16 hf => ?_)
        refine lv_iload_n hx hb d_M_copy_42 rfl (lv_at hl 2 rfl) ?_
        refine lv_iadd hx hb d_M_copy_43 ?_
        refine lv_aload_n hx hb d_M_copy_44 rfl (lv_at hl 0 rfl) ?_
        refine r_getR C hs fl_M_28 d_M_copy_45 hf (fun v17 hf => ?_)
        refine lv_iload_n hx hb d_M_copy_48 rfl (lv_at hl 1 rfl) ?_
        refine r_iald C hs d_M_copy_49 hf (fun v18 hf => ?_)
        refine lv_icmp_le (tgt := 62) hx hb d_M_copy_50 (by decide) (fun q19 => ?_) (fun q19 => ?_)
        · have hf := ifp q19 hf
          refine lv_aload_n hx hb d_M_copy_62 rfl (lv_at hl 0 rfl) ?_
          refine r_getR C hs fl_M_34 d_M_copy_63 hf (fun v20 hf => ?_)
          refine lv_iload_n hx hb d_M_copy_66 rfl (lv_at hl 1 rfl) ?_
          refine r_iald C hs d_M_copy_67 hf (fun v21 hf => ?_)
          refine lv_iload_n hx hb d_M_copy_68 rfl (lv_at hl 2 rfl) ?_
          refine lv_iadd hx hb d_M_copy_69 ?_
          refine r_iast C hs d_M_copy_70 hf (fun h22 H locs hf hs => ?_)
          refine lv_aload_n hx hb d_M_copy_71 rfl (lv_at hl 0 rfl) ?_
          refine r_getR C hs fl_M_34 d_M_copy_72 hf (fun v23 hf => ?_)
          refine lv_iload_n hx hb d_M_copy_75 rfl (lv_at hl 1 rfl) ?_
          refine r_iald C hs d_M_copy_76 hf (fun v24 hf => ?_)
          exact r_ireturn C hs hr d_M_copy_77 hf
        · have hf := ifn q19 hf
          refine lv_aload_n hx hb d_M_copy_53 rfl (lv_at hl 0 rfl) ?_
          refine r_getR C hs fl_M_28 d_M_copy_54 hf (fun v25 hf => ?_)
          refine lv_iload_n hx hb d_M_copy_57 rfl (lv_at hl 1 rfl) ?_
          refine r_iald C hs d_M_copy_58 hf (fun v26 hf => ?_)
          refine lv_goto (tgt := 70) hx hb d_M_copy_59 (by decide) ?_
          refine r_iast C hs d_M_copy_70 hf (fun h27 H locs hf hs => ?_)
          refine lv_aload_n hx hb d_M_copy_71 rfl (lv_at hl 0 rfl) ?_
          refine r_getR C hs fl_M_34 d_M_copy_72 hf (fun v28 hf => ?_)
          refine lv_iload_n hx hb d_M_copy_75 rfl (lv_at hl 1 rfl) ?_
          refine r_iald C hs d_M_copy_76 hf (fun v29 hf => ?_)
          exact r_ireturn C hs hr d_M_copy_77 hf
      · have hf := ifn q13 hf
        refine lv_aload_n hx hb d_M_copy_25 rfl (lv_at hl 0 rfl) ?_
        refine lv_iconst (v := 1) hx hb d_M_copy_26 (by decide) ?_
        obtain ⟨_, ho, hf⟩ := bd hf
        refine k_I C hs hex hf (fun res e1 => iv_V (b := x0) (As := [.int 1]) (rest := []) C hs cv_M_86 (c_M_fail hl0 e1) (ci := 6) rfl rfl ho rfl hl.1 rfl (Nat.le_of_ble_eq_true rfl) d_M_copy_27 ⟨Nat.le_of_ble_eq_true rfl, Nat.le_of_ble_eq_true rfl⟩) (fun v32 h30 z31 H locs cells slots hf hs => ?_)
        exact r_ireturn C hs hr d_M_copy_30 hf
def f_M_lose (bs sE : Nat) (h : HH) (z : Z3) (x0 : Nat) (x1 : Int32) : Option RS :=
  (pV bs h x0 6 0 (.inl 0)).bind fun h1 =>
  (oK h1 x0 6).bind fun _ =>
  cI (f_M_out bs sE h1 z x0 x1 4) fun v4 h2 z3 =>
  if v4 = 0 then
    ((gR h2 x0 6 7).bind fun v6 =>
    (aI h2 v6 0 x1).bind fun v7 =>
    (gR h2 x0 6 9).bind fun v8 =>
    (aI h2 v8 0 x1).bind fun v9 =>
    (gR h2 x0 6 7).bind fun v10 =>
    (gR h2 x0 6 9).bind fun v11 =>
    (aI h2 v11 0 x1).bind fun v12 =>
    (aIs bs h2 v10 0 x1 v12).bind fun h13 =>
    some (.inl (some (.int (v7 - v9))), h13, z3))
  else
    ((oK h2 x0 6).bind fun _ =>
    cI (f_M_fail bs sE h2 z3 x0 1) fun v16 h14 z15 =>
    some (.inl (some (.int v16)), h14, z15))
set_option maxHeartbeats 4000000 in
set_option maxRecDepth 100000 in
theorem c_M_lose {G : EN} {l : Launch} (hl0 : l.stackTraces = false) {h : HH} {z : Z3} {x0 : Nat} {x1 : Int32} {r : RS} (hf : f_M_lose G.2.2.1 G.2.2.2 h z x0 x1 = some r) : CM G l y_M_lose (.code y_M_lose b_M_lose 3 (some .int)) 1 22 [.ref x0, .int x1] h z r := by
  refine CM.ofW hl0 rfl ?_
  intro p e s m below meth c C hr hex hin hs
  have hx := C.1
  have hb := C.2.1
  refine x_entry (n := 3) (Nat.le_of_ble_eq_true rfl) (fun ls hl => ?_)
  have hl : lv_has ls 3 [(0, .ref x0), (1, .int x1)] := hl
  unfold f_M_lose at hf
  refine lv_aload_n hx hb d_M_lose_0 rfl (lv_at hl 0 rfl) ?_
  refine lv_iconst (v := 0) hx hb d_M_lose_1 (by decide) ?_
  refine r_putV (v := (.inl 0)) C hs flp_M_71 rfl rfl d_M_lose_2 hf (fun h1 H locs hf hs => ?_)
  refine lv_aload_n hx hb d_M_lose_5 rfl (lv_at hl 0 rfl) ?_
  refine lv_iload_n hx hb d_M_lose_6 rfl (lv_at hl 1 rfl) ?_
  refine lv_iconst (v := 4) hx hb d_M_lose_7 (by decide) ?_
  obtain ⟨_, ho, hf⟩ := bd hf
  refine k_I C hs hex hf (fun res e1 => iv_V (b := x0) (As := [.int x1, .int 4]) (rest := []) C hs cv_M_83 (c_M_out hl0 e1) (ci := 6) rfl rfl ho rfl hl.1 rfl (Nat.le_of_ble_eq_true rfl) d_M_lose_8 ⟨Nat.le_of_ble_eq_true rfl, Nat.le_of_ble_eq_true rfl⟩) (fun v4 h2 z3 H locs cells slots hf hs => ?_)
  refine lv_if_eq (tgt := 20) hx hb d_M_lose_11 (by decide) (fun q5 => ?_) (fun q5 => ?_)
  · have hf := ifp q5 hf
    refine lv_aload_n hx hb d_M_lose_20 rfl (lv_at hl 0 rfl) ?_
    refine r_getR C hs fl_M_28 d_M_lose_21 hf (fun v6 hf => ?_)
    refine lv_iload_n hx hb d_M_lose_24 rfl (lv_at hl 1 rfl) ?_
    refine r_iald C hs d_M_lose_25 hf (fun v7 hf => ?_)
    refine lv_aload_n hx hb d_M_lose_26 rfl (lv_at hl 0 rfl) ?_
    refine r_getR C hs fl_M_34 d_M_lose_27 hf (fun v8 hf => ?_)
    refine lv_iload_n hx hb d_M_lose_30 rfl (lv_at hl 1 rfl) ?_
    refine r_iald C hs d_M_lose_31 hf (fun v9 hf => ?_)
    refine lv_isub hx hb d_M_lose_32 ?_
    refine lv_istore_n (lv' := [(2, .int (v7 - v9)), (0, .ref x0), (1, .int x1)]) hx hb d_M_lose_33 rfl hl (by decide) rfl (fun ls hl => ?_)
    refine lv_aload_n hx hb d_M_lose_34 rfl (lv_at hl 1 rfl) ?_
    refine r_getR C hs fl_M_28 d_M_lose_35 hf (fun v10 hf => ?_)
    refine lv_iload_n hx hb d_M_lose_38 rfl (lv_at hl 2 rfl) ?_
    refine lv_aload_n hx hb d_M_lose_39 rfl (lv_at hl 1 rfl) ?_
    refine r_getR C hs fl_M_34 d_M_lose_40 hf (fun v11 hf => ?_)
    refine lv_iload_n hx hb d_M_lose_43 rfl (lv_at hl 2 rfl) ?_
    refine r_iald C hs d_M_lose_44 hf (fun v12 hf => ?_)
    refine r_iast C hs d_M_lose_45 hf (fun h13 H locs hf hs => ?_)
    refine lv_iload_n hx hb d_M_lose_46 rfl (lv_at hl 0 rfl) ?_
    exact r_ireturn C hs hr d_M_lose_47 hf
  · have hf := ifn q5 hf
    refine lv_aload_n hx hb d_M_lose_14 rfl (lv_at hl 0 rfl) ?_
    refine lv_iconst (v := 1) hx hb d_M_lose_15 (by decide) ?_
    obtain ⟨_, ho, hf⟩ := bd hf
    refine k_I C hs hex hf (fun res e1 => iv_V (b := x0) (As := [.int 1]) (rest := []) C hs cv_M_86 (c_M_fail hl0 e1) (ci := 6) rfl rfl ho rfl hl.1 rfl (Nat.le_of_ble_eq_true rfl) d_M_lose_16 ⟨Nat.le_of_ble_eq_true rfl, Nat.le_of_ble_eq_true rfl⟩) (fun v16 h14 z15 H locs cells slots hf hs => ?_)
    exact r_ireturn C hs hr d_M_lose_19 hf
def fb_M_stable_L2 (bs sE : Nat) (REC : HH → Z3 → Nat → Int32 → Int32 → Option RS) (h : HH) (z : Z3) (x0 : Nat) (x1 : Int32) (x2 : Int32) : Option RS :=
  (gR h x0 6 9).bind fun v1 =>
  (aI h v1 0 x1).bind fun v2 =>
  if v2 ≤ x2 then
    ((gR h x0 6 9).bind fun v4 =>
    (aI h v4 0 x1).bind fun v5 =>
    some (.inl (some (.int v5)), h, z))
  else
    ((gR h x0 6 1).bind fun v6 =>
    (aI h v6 0 ((520 * x1) + x2)).bind fun v7 =>
    if v7 = 1 then
      ((gR h x0 6 6).bind fun v9 =>
      (aI h v9 0 ((520 * x1) + x2)).bind fun v10 =>
      (gR h x0 6 9).bind fun v11 =>
      (aI h v11 0 x1).bind fun v12 =>
      (oK h x0 6).bind fun _ =>
      cI (f_M_marked bs sE h z x0 x1 v10 v12 0) fun v15 h13 z14 =>
      if v15 = 0 then
        (some (.inl (some (.int x2)), h13, z14))
      else
        (REC h13 z14 x0 x1 (x2 + 1)))
    else
      (REC h z x0 x1 (x2 + 1)))
def f_M_stable_L2 (bs sE : Nat) : Nat → HH → Z3 → Nat → Int32 → Int32 → Option RS
  | 0 => fun _ _ _ _ _ => none
  | n + 1 => fb_M_stable_L2 bs sE (f_M_stable_L2 bs sE n)
set_option maxHeartbeats 4000000 in
set_option maxRecDepth 100000 in
theorem t_M_stable_L2 {G : EN} {p : Program} {l : Launch} {e : Env} {s : State} {m : MethodId} {args : Array Value} {below : List Frame} {meth : Method} {c : Code} {z0 : Z3} (hl0 : l.stackTraces = false) (C : CX G p l s m meth c b_M_stable 4 y_M_stable.cls) (hr : meth.sig.returnType = (some .int)) (hex : c.exceptionTable.toList = []) {r : RS} :
    ∀ (n : Nat) (h : HH) (z : Z3) (x0 : Nat) (x1 : Int32) (x2 : Int32), f_M_stable_L2 G.2.2.1 G.2.2.2 n h z x0 x1 x2 = some r → ∀ (H : Heap) (locs : List Loc) (cells slots : Nat) (ls : Array Slot), ST G (RM 1 25 z0) s h z H locs cells slots → lv_has ls 4 [(0, .ref x0), (1, .int x1), (2, .int x2)] → W p l e (RM 1 25 z0) s m args below meth c H locs cells slots (MX G below s r (RM 1 25 z0).cells (RM 1 25 z0).slots) (F0 m 2 ls []) := by
  have hx := C.1
  have hb := C.2.1
  intro n
  induction n with
  | zero => intro h z x0 x1 x2 hf; exact nomatch (show (none : Option RS) = some r from hf)
  | succ n ih =>
    intro h z x0 x1 x2 hf H locs cells slots ls hs hl
    have hf : fb_M_stable_L2 G.2.2.1 G.2.2.2 (f_M_stable_L2 G.2.2.1 G.2.2.2 n) h z x0 x1 x2 = some r := hf
    unfold fb_M_stable_L2 at hf
    refine lv_iload_n hx hb d_M_stable_2 rfl (lv_at hl 2 rfl) ?_
    refine lv_aload_n hx hb d_M_stable_3 rfl (lv_at hl 0 rfl) ?_
    refine r_getR C hs fl_M_34 d_M_stable_4 hf (fun v1 hf => ?_)
    refine lv_iload_n hx hb d_M_stable_7 rfl (lv_at hl 1 rfl) ?_
    refine r_iald C hs d_M_stable_8 hf (fun v2 hf => ?_)
    refine lv_icmp_ge (tgt := 59) hx hb d_M_stable_9 (by decide) (fun q3 => ?_) (fun q3 => ?_)
    · have hf := ifp q3 hf
      refine lv_aload_n hx hb d_M_stable_59 rfl (lv_at hl 0 rfl) ?_
      refine r_getR C hs fl_M_34 d_M_stable_60 hf (fun v4 hf => ?_)
      refine lv_iload_n hx hb d_M_stable_63 rfl (lv_at hl 1 rfl) ?_
      refine r_iald C hs d_M_stable_64 hf (fun v5 hf => ?_)
      exact r_ireturn C hs hr d_M_stable_65 hf
    · have hf := ifn q3 hf
      refine lv_sipush (v := 520) hx hb d_M_stable_12 (by decide) ?_
      refine lv_iload_n hx hb d_M_stable_15 rfl (lv_at hl 1 rfl) ?_
      refine lv_imul hx hb d_M_stable_16 ?_
      refine lv_iload_n hx hb d_M_stable_17 rfl (lv_at hl 2 rfl) ?_
      refine lv_iadd hx hb d_M_stable_18 ?_
      refine lv_istore_n (lv' := [(3, .int ((520 * x1) + x2)), (0, .ref x0), (1, .int x1), (2, .int x2)]) hx hb d_M_stable_19 rfl hl (by decide) rfl (fun ls hl => ?_)
      refine lv_aload_n hx hb d_M_stable_20 rfl (lv_at hl 1 rfl) ?_
      refine r_getR C hs fl_M_7 d_M_stable_21 hf (fun v6 hf => ?_)
      refine lv_iload_n hx hb d_M_stable_24 rfl (lv_at hl 0 rfl) ?_
      refine r_iald C hs d_M_stable_25 hf (fun v7 hf => ?_)
      refine lv_iconst (v := 1) hx hb d_M_stable_26 (by decide) ?_
      refine lv_icmp_ne (tgt := 53) hx hb d_M_stable_27 (by decide) (fun q8 => ?_) (fun q8 => ?_)
      · have hf := ifn q8 hf
        refine lv_iinc (v := x2 + 1) (lv' := [(2, .int (x2 + 1)), (3, .int ((520 * x1) + x2)), (0, .ref x0), (1, .int x1)]) hx hb d_M_stable_53 hl (k := 3) rfl rfl (by decide) rfl (fun ls hl => ?_)
        refine lv_goto (tgt := 2) hx hb d_M_stable_56 (by decide) ?_
        exact ih _ _ _ _ _ hf _ _ _ _ _ hs (lv_sub hl [2, 3, 0] rfl)
      · have hf := ifp q8 hf
        refine lv_aload_n hx hb d_M_stable_30 rfl (lv_at hl 1 rfl) ?_
        refine lv_iload_n hx hb d_M_stable_31 rfl (lv_at hl 2 rfl) ?_
        refine lv_aload_n hx hb d_M_stable_32 rfl (lv_at hl 1 rfl) ?_
        refine r_getR C hs fl_M_25 d_M_stable_33 hf (fun v9 hf => ?_)
        refine lv_iload_n hx hb d_M_stable_36 rfl (lv_at hl 0 rfl) ?_
        refine r_iald C hs d_M_stable_37 hf (fun v10 hf => ?_)
        refine lv_aload_n hx hb d_M_stable_38 rfl (lv_at hl 1 rfl) ?_
        refine r_getR C hs fl_M_34 d_M_stable_39 hf (fun v11 hf => ?_)
        refine lv_iload_n hx hb d_M_stable_42 rfl (lv_at hl 2 rfl) ?_
        refine r_iald C hs d_M_stable_43 hf (fun v12 hf => ?_)
        refine lv_iconst (v := 0) hx hb d_M_stable_44 (by decide) ?_
        obtain ⟨_, ho, hf⟩ := bd hf
        refine k_I C hs hex hf (fun res e1 => iv_V (b := x0) (As := [.int x1, .int v10, .int v12, .int 0]) (rest := []) C hs cv_M_79 (c_M_marked hl0 e1) (ci := 6) rfl rfl ho rfl hl.1 rfl (Nat.le_of_ble_eq_true rfl) d_M_stable_45 ⟨Nat.le_of_ble_eq_true rfl, Nat.le_of_ble_eq_true rfl⟩) (fun v15 h13 z14 H locs cells slots hf hs => ?_)
        refine lv_if_ne (tgt := 53) hx hb d_M_stable_48 (by decide) (fun q16 => ?_) (fun q16 => ?_)
        · have hf := ifn q16 hf
          refine lv_iinc (v := x2 + 1) (lv' := [(2, .int (x2 + 1)), (3, .int ((520 * x1) + x2)), (0, .ref x0), (1, .int x1)]) hx hb d_M_stable_53 hl (k := 3) rfl rfl (by decide) rfl (fun ls hl => ?_)
          refine lv_goto (tgt := 2) hx hb d_M_stable_56 (by decide) ?_
          exact ih _ _ _ _ _ hf _ _ _ _ _ hs (lv_sub hl [2, 3, 0] rfl)
        · have hf := ifp q16 hf
          refine lv_iload_n hx hb d_M_stable_51 rfl (lv_at hl 3 rfl) ?_
          exact r_ireturn C hs hr d_M_stable_52 hf
def f_M_stable (bs sE : Nat) (h : HH) (z : Z3) (x0 : Nat) (x1 : Int32) : Option RS :=
  f_M_stable_L2 bs sE FU h z x0 x1 0
set_option maxHeartbeats 4000000 in
set_option maxRecDepth 100000 in
theorem c_M_stable {G : EN} {l : Launch} (hl0 : l.stackTraces = false) {h : HH} {z : Z3} {x0 : Nat} {x1 : Int32} {r : RS} (hf : f_M_stable G.2.2.1 G.2.2.2 h z x0 x1 = some r) : CM G l y_M_stable (.code y_M_stable b_M_stable 4 (some .int)) 1 25 [.ref x0, .int x1] h z r := by
  refine CM.ofW hl0 rfl ?_
  intro p e s m below meth c C hr hex hin hs
  have hx := C.1
  have hb := C.2.1
  refine x_entry (n := 4) (Nat.le_of_ble_eq_true rfl) (fun ls hl => ?_)
  have hl : lv_has ls 4 [(0, .ref x0), (1, .int x1)] := hl
  unfold f_M_stable at hf
  refine lv_iconst (v := 0) hx hb d_M_stable_0 (by decide) ?_
  refine lv_istore_n (lv' := [(2, .int 0), (0, .ref x0), (1, .int x1)]) hx hb d_M_stable_1 rfl hl (by decide) rfl (fun ls hl => ?_)
  exact t_M_stable_L2 hl0 C hr hex FU _ _ _ _ _ hf _ _ _ _ _ hs (lv_sub hl [1, 2, 0] rfl)
def fb_M_fetch_L70 (bs sE : Nat) (REC : HH → Z3 → Nat → Int32 → Int32 → Int32 → Int32 → Option RS) (h : HH) (z : Z3) (x0 : Nat) (x1 : Int32) (x3 : Int32) (x4 : Int32) (x5 : Int32) : Option RS :=
  if x4 ≤ x5 then
    ((oK h x0 6).bind fun _ =>
    cI (f_M_fail bs sE h z x0 3) fun v22 h20 z21 =>
    some (.inl (some (.int v22)), h20, z21))
  else
    ((gR h x0 6 1).bind fun v23 =>
    (aI h v23 0 ((520 * x1) + x5)).bind fun v24 =>
    if v24 ≤ 1 then
      (if x3 = 0 then
        ((gR h x0 6 2).bind fun v27 =>
        (aI h v27 0 ((520 * x1) + x5)).bind fun v28 =>
        (pV bs h x0 6 23 (.inl v28)).bind fun h29 =>
        some (.inl (some (.int x5)), h29, z))
      else
        ((gR h x0 6 1).bind fun v30 =>
        (aI h v30 0 ((520 * x1) + x5)).bind fun v31 =>
        if v31 = 1 then
          ((gR h x0 6 6).bind fun v36 =>
          (aI h v36 0 ((520 * x1) + x5)).bind fun v37 =>
          (gR h x0 6 9).bind fun v38 =>
          (aI h v38 0 x1).bind fun v39 =>
          (oK h x0 6).bind fun _ =>
          cI (f_M_marked bs sE h z x0 x1 v37 v39 1) fun v42 h40 z41 =>
          if v42 = 0 then
            ((gR h40 x0 6 2).bind fun v44 =>
            (aI h40 v44 0 ((520 * x1) + x5)).bind fun v45 =>
            (pV bs h40 x0 6 23 (.inl v45)).bind fun h46 =>
            some (.inl (some (.int x5)), h46, z41))
          else
            (REC h40 z41 x0 x1 x3 x4 (x5 + 1)))
        else
          ((gR h x0 6 2).bind fun v33 =>
          (aI h v33 0 ((520 * x1) + x5)).bind fun v34 =>
          (pV bs h x0 6 23 (.inl v34)).bind fun h35 =>
          some (.inl (some (.int x5)), h35, z))))
    else
      (REC h z x0 x1 x3 x4 (x5 + 1)))
def f_M_fetch_L70 (bs sE : Nat) : Nat → HH → Z3 → Nat → Int32 → Int32 → Int32 → Int32 → Option RS
  | 0 => fun _ _ _ _ _ _ _ => none
  | n + 1 => fb_M_fetch_L70 bs sE (f_M_fetch_L70 bs sE n)
set_option maxHeartbeats 4000000 in
set_option maxRecDepth 100000 in
theorem t_M_fetch_L70 {G : EN} {p : Program} {l : Launch} {e : Env} {s : State} {m : MethodId} {args : Array Value} {below : List Frame} {meth : Method} {c : Code} {z0 : Z3} (hl0 : l.stackTraces = false) (C : CX G p l s m meth c b_M_fetch 7 y_M_fetch.cls) (hr : meth.sig.returnType = (some .int)) (hex : c.exceptionTable.toList = []) {r : RS} :
    ∀ (n : Nat) (h : HH) (z : Z3) (x0 : Nat) (x1 : Int32) (x3 : Int32) (x4 : Int32) (x5 : Int32), f_M_fetch_L70 G.2.2.1 G.2.2.2 n h z x0 x1 x3 x4 x5 = some r → ∀ (H : Heap) (locs : List Loc) (cells slots : Nat) (ls : Array Slot), ST G (RM 2 48 z0) s h z H locs cells slots → lv_has ls 7 [(0, .ref x0), (1, .int x1), (3, .int x3), (4, .int x4), (5, .int x5)] → W p l e (RM 2 48 z0) s m args below meth c H locs cells slots (MX G below s r (RM 2 48 z0).cells (RM 2 48 z0).slots) (F0 m 70 ls []) := by
  have hx := C.1
  have hb := C.2.1
  intro n
  induction n with
  | zero => intro h z x0 x1 x3 x4 x5 hf; exact nomatch (show (none : Option RS) = some r from hf)
  | succ n ih =>
    intro h z x0 x1 x3 x4 x5 hf H locs cells slots ls hs hl
    have hf : fb_M_fetch_L70 G.2.2.1 G.2.2.2 (f_M_fetch_L70 G.2.2.1 G.2.2.2 n) h z x0 x1 x3 x4 x5 = some r := hf
    unfold fb_M_fetch_L70 at hf
    refine lv_iload hx hb d_M_fetch_70 (lv_at hl 4 rfl) ?_
    refine lv_iload hx hb d_M_fetch_72 (lv_at hl 3 rfl) ?_
    refine lv_icmp_ge (tgt := 161) hx hb d_M_fetch_74 (by decide) (fun q19 => ?_) (fun q19 => ?_)
    · have hf := ifp q19 hf
      refine lv_aload_n hx hb d_M_fetch_161 rfl (lv_at hl 0 rfl) ?_
      refine lv_iconst (v := 3) hx hb d_M_fetch_162 (by decide) ?_
      obtain ⟨_, ho, hf⟩ := bd hf
      refine k_I C hs hex hf (fun res e1 => iv_V (b := x0) (As := [.int 3]) (rest := []) C hs cv_M_86 (c_M_fail hl0 e1) (ci := 6) rfl rfl ho rfl hl.1 rfl (Nat.le_of_ble_eq_true rfl) d_M_fetch_163 ⟨Nat.le_of_ble_eq_true rfl, Nat.le_of_ble_eq_true rfl⟩) (fun v22 h20 z21 H locs cells slots hf hs => ?_)
      exact r_ireturn C hs hr d_M_fetch_166 hf
    · have hf := ifn q19 hf
      refine lv_sipush (v := 520) hx hb d_M_fetch_77 (by decide) ?_
      refine lv_iload_n hx hb d_M_fetch_80 rfl (lv_at hl 1 rfl) ?_
      refine lv_imul hx hb d_M_fetch_81 ?_
      refine lv_iload hx hb d_M_fetch_82 (lv_at hl 4 rfl) ?_
      refine lv_iadd hx hb d_M_fetch_84 ?_
      refine lv_istore (lv' := [(6, .int ((520 * x1) + x5)), (0, .ref x0), (1, .int x1), (3, .int x3), (4, .int x4), (5, .int x5)]) hx hb d_M_fetch_85 hl (by decide) rfl (fun ls hl => ?_)
      refine lv_aload_n hx hb d_M_fetch_87 rfl (lv_at hl 1 rfl) ?_
      refine r_getR C hs fl_M_7 d_M_fetch_88 hf (fun v23 hf => ?_)
      refine lv_iload hx hb d_M_fetch_91 (lv_at hl 0 rfl) ?_
      refine r_iald C hs d_M_fetch_93 hf (fun v24 hf => ?_)
      refine lv_iconst (v := 1) hx hb d_M_fetch_94 (by decide) ?_
      refine lv_icmp_le (tgt := 101) hx hb d_M_fetch_95 (by decide) (fun q25 => ?_) (fun q25 => ?_)
      · have hf := ifp q25 hf
        refine lv_iload_n hx hb d_M_fetch_101 rfl (lv_at hl 3 rfl) ?_
        refine lv_if_eq (tgt := 141) hx hb d_M_fetch_102 (by decide) (fun q26 => ?_) (fun q26 => ?_)
        · have hf := ifp q26 hf
          refine lv_aload_n hx hb d_M_fetch_141 rfl (lv_at hl 1 rfl) ?_
          refine lv_aload_n hx hb d_M_fetch_142 rfl (lv_at hl 1 rfl) ?_
          refine r_getR C hs fl_M_13 d_M_fetch_143 hf (fun v27 hf => ?_)
          refine lv_iload hx hb d_M_fetch_146 (lv_at hl 0 rfl) ?_
          refine r_iald C hs d_M_fetch_148 hf (fun v28 hf => ?_)
          refine r_putV (v := (.inl v28)) C hs flp_M_128 rfl rfl d_M_fetch_149 hf (fun h29 H locs hf hs => ?_)
          refine lv_iload hx hb d_M_fetch_152 (lv_at hl 5 rfl) ?_
          exact r_ireturn C hs hr d_M_fetch_154 hf
        · have hf := ifn q26 hf
          refine lv_aload_n hx hb d_M_fetch_105 rfl (lv_at hl 1 rfl) ?_
          refine r_getR C hs fl_M_7 d_M_fetch_106 hf (fun v30 hf => ?_)
          refine lv_iload hx hb d_M_fetch_109 (lv_at hl 0 rfl) ?_
          refine r_iald C hs d_M_fetch_111 hf (fun v31 hf => ?_)
          refine lv_iconst (v := 1) hx hb d_M_fetch_112 (by decide) ?_
          refine lv_icmp_ne (tgt := 141) hx hb d_M_fetch_113 (by decide) (fun q32 => ?_) (fun q32 => ?_)
          · have hf := ifn q32 hf
            refine lv_aload_n hx hb d_M_fetch_141 rfl (lv_at hl 1 rfl) ?_
            refine lv_aload_n hx hb d_M_fetch_142 rfl (lv_at hl 1 rfl) ?_
            refine r_getR C hs fl_M_13 d_M_fetch_143 hf (fun v33 hf => ?_)
            refine lv_iload hx hb d_M_fetch_146 (lv_at hl 0 rfl) ?_
            refine r_iald C hs d_M_fetch_148 hf (fun v34 hf => ?_)
            refine r_putV (v := (.inl v34)) C hs flp_M_128 rfl rfl d_M_fetch_149 hf (fun h35 H locs hf hs => ?_)
            refine lv_iload hx hb d_M_fetch_152 (lv_at hl 5 rfl) ?_
            exact r_ireturn C hs hr d_M_fetch_154 hf
          · have hf := ifp q32 hf
            refine lv_aload_n hx hb d_M_fetch_116 rfl (lv_at hl 1 rfl) ?_
            refine lv_iload_n hx hb d_M_fetch_117 rfl (lv_at hl 2 rfl) ?_
            refine lv_aload_n hx hb d_M_fetch_118 rfl (lv_at hl 1 rfl) ?_
            refine r_getR C hs fl_M_25 d_M_fetch_119 hf (fun v36 hf => ?_)
            refine lv_iload hx hb d_M_fetch_122 (lv_at hl 0 rfl) ?_
            refine r_iald C hs d_M_fetch_124 hf (fun v37 hf => ?_)
            refine lv_aload_n hx hb d_M_fetch_125 rfl (lv_at hl 1 rfl) ?_
            refine r_getR C hs fl_M_34 d_M_fetch_126 hf (fun v38 hf => ?_)
            refine lv_iload_n hx hb d_M_fetch_129 rfl (lv_at hl 2 rfl) ?_
            refine r_iald C hs d_M_fetch_130 hf (fun v39 hf => ?_)
            refine lv_iconst (v := 1) hx hb d_M_fetch_131 (by decide) ?_
            obtain ⟨_, ho, hf⟩ := bd hf
            refine k_I C hs hex hf (fun res e1 => iv_V (b := x0) (As := [.int x1, .int v37, .int v39, .int 1]) (rest := []) C hs cv_M_79 (c_M_marked hl0 e1) (ci := 6) rfl rfl ho rfl hl.1 rfl (Nat.le_of_ble_eq_true rfl) d_M_fetch_132 ⟨Nat.le_of_ble_eq_true rfl, Nat.le_of_ble_eq_true rfl⟩) (fun v42 h40 z41 H locs cells slots hf hs => ?_)
            refine lv_if_eq (tgt := 141) hx hb d_M_fetch_135 (by decide) (fun q43 => ?_) (fun q43 => ?_)
            · have hf := ifp q43 hf
              refine lv_aload_n hx hb d_M_fetch_141 rfl (lv_at hl 1 rfl) ?_
              refine lv_aload_n hx hb d_M_fetch_142 rfl (lv_at hl 1 rfl) ?_
              refine r_getR C hs fl_M_13 d_M_fetch_143 hf (fun v44 hf => ?_)
              refine lv_iload hx hb d_M_fetch_146 (lv_at hl 0 rfl) ?_
              refine r_iald C hs d_M_fetch_148 hf (fun v45 hf => ?_)
              refine r_putV (v := (.inl v45)) C hs flp_M_128 rfl rfl d_M_fetch_149 hf (fun h46 H locs hf hs => ?_)
              refine lv_iload hx hb d_M_fetch_152 (lv_at hl 5 rfl) ?_
              exact r_ireturn C hs hr d_M_fetch_154 hf
            · have hf := ifn q43 hf
              refine lv_goto (tgt := 155) hx hb d_M_fetch_138 (by decide) ?_
              refine lv_iinc (v := x5 + 1) (lv' := [(5, .int (x5 + 1)), (6, .int ((520 * x1) + x5)), (0, .ref x0), (1, .int x1), (3, .int x3), (4, .int x4)]) hx hb d_M_fetch_155 hl (k := 5) rfl rfl (by decide) rfl (fun ls hl => ?_)
              refine lv_goto (tgt := 70) hx hb d_M_fetch_158 (by decide) ?_
              exact ih _ _ _ _ _ _ _ hf _ _ _ _ _ hs (lv_sub hl [2, 3, 4, 5, 0] rfl)
      · have hf := ifn q25 hf
        refine lv_goto (tgt := 155) hx hb d_M_fetch_98 (by decide) ?_
        refine lv_iinc (v := x5 + 1) (lv' := [(5, .int (x5 + 1)), (6, .int ((520 * x1) + x5)), (0, .ref x0), (1, .int x1), (3, .int x3), (4, .int x4)]) hx hb d_M_fetch_155 hl (k := 5) rfl rfl (by decide) rfl (fun ls hl => ?_)
        refine lv_goto (tgt := 70) hx hb d_M_fetch_158 (by decide) ?_
        exact ih _ _ _ _ _ _ _ hf _ _ _ _ _ hs (lv_sub hl [2, 3, 4, 5, 0] rfl)
def f_M_fetch_B65 (bs sE : Nat) (h : HH) (z : Z3) (x0 : Nat) (x1 : Int32) (x2 : Int32) (x3 : Int32) (w0 : Int32) : Option RS :=
  f_M_fetch_L70 bs sE FU h z x0 x1 x3 w0 x2
set_option maxHeartbeats 4000000 in
set_option maxRecDepth 100000 in
theorem t_M_fetch_B65 {G : EN} {p : Program} {l : Launch} {e : Env} {s : State} {m : MethodId} {args : Array Value} {below : List Frame} {meth : Method} {c : Code} {z0 : Z3} (hl0 : l.stackTraces = false) (C : CX G p l s m meth c b_M_fetch 7 y_M_fetch.cls) (hr : meth.sig.returnType = (some .int)) (hex : c.exceptionTable.toList = []) {r : RS} :
    ∀ (h : HH) (z : Z3) (x0 : Nat) (x1 : Int32) (x2 : Int32) (x3 : Int32) (w0 : Int32), f_M_fetch_B65 G.2.2.1 G.2.2.2 h z x0 x1 x2 x3 w0 = some r → ∀ (H : Heap) (locs : List Loc) (cells slots : Nat) (ls : Array Slot), ST G (RM 2 48 z0) s h z H locs cells slots → lv_has ls 7 [(0, .ref x0), (1, .int x1), (2, .int x2), (3, .int x3)] → W p l e (RM 2 48 z0) s m args below meth c H locs cells slots (MX G below s r (RM 2 48 z0).cells (RM 2 48 z0).slots) (F0 m 65 ls [.int w0]) := by
  have hx := C.1
  have hb := C.2.1
  intro h z x0 x1 x2 x3 w0 hf H locs cells slots ls hs hl
  unfold f_M_fetch_B65 at hf
  refine lv_istore (lv' := [(4, .int w0), (0, .ref x0), (1, .int x1), (2, .int x2), (3, .int x3)]) hx hb d_M_fetch_65 hl (by decide) rfl (fun ls hl => ?_)
  refine lv_iload_n hx hb d_M_fetch_67 rfl (lv_at hl 3 rfl) ?_
  refine lv_istore (lv' := [(5, .int x2), (4, .int w0), (0, .ref x0), (1, .int x1), (2, .int x2), (3, .int x3)]) hx hb d_M_fetch_68 hl (by decide) rfl (fun ls hl => ?_)
  exact t_M_fetch_L70 hl0 C hr hex FU _ _ _ _ _ _ _ hf _ _ _ _ _ hs (lv_sub hl [2, 3, 5, 1, 0] rfl)
def f_M_fetch (bs sE : Nat) (h : HH) (z : Z3) (x0 : Nat) (x1 : Int32) (x2 : Int32) (x3 : Int32) : Option RS :=
  (pV bs h x0 6 0 (.inl 0)).bind fun h1 =>
  (oK h1 x0 6).bind fun _ =>
  cI (f_M_out bs sE h1 z x0 x1 4) fun v4 h2 z3 =>
  if v4 = 0 then
    ((oK h2 x0 6).bind fun _ =>
    cI (f_M_out bs sE h2 z3 x0 x2 601) fun v11 h9 z10 =>
    if v11 = 0 then
      ((gR h9 x0 6 8).bind fun v13 =>
      (aI h9 v13 0 x1).bind fun v14 =>
      if v14 ≤ x2 then
        (if x3 = 0 then
          ((gR h9 x0 6 9).bind fun v17 =>
          (aI h9 v17 0 x1).bind fun v18 =>
          f_M_fetch_B65 bs sE h9 z10 x0 x1 x2 x3 v18)
        else
          ((oK h9 x0 6).bind fun _ =>
          cI (f_M_stable bs sE h9 z10 x0 x1) fun v49 h47 z48 =>
          f_M_fetch_B65 bs sE h47 z48 x0 x1 x2 x3 v49))
      else
        ((oK h9 x0 6).bind fun _ =>
        cI (f_M_fail bs sE h9 z10 x0 2) fun v52 h50 z51 =>
        some (.inl (some (.int v52)), h50, z51)))
    else
      ((oK h9 x0 6).bind fun _ =>
      cI (f_M_fail bs sE h9 z10 x0 1) fun v55 h53 z54 =>
      some (.inl (some (.int v55)), h53, z54)))
  else
    ((oK h2 x0 6).bind fun _ =>
    cI (f_M_fail bs sE h2 z3 x0 1) fun v8 h6 z7 =>
    some (.inl (some (.int v8)), h6, z7))
set_option maxHeartbeats 4000000 in
set_option maxRecDepth 100000 in
theorem c_M_fetch {G : EN} {l : Launch} (hl0 : l.stackTraces = false) {h : HH} {z : Z3} {x0 : Nat} {x1 : Int32} {x2 : Int32} {x3 : Int32} {r : RS} (hf : f_M_fetch G.2.2.1 G.2.2.2 h z x0 x1 x2 x3 = some r) : CM G l y_M_fetch (.code y_M_fetch b_M_fetch 7 (some .int)) 2 48 [.ref x0, .int x1, .int x2, .int x3] h z r := by
  refine CM.ofW hl0 rfl ?_
  intro p e s m below meth c C hr hex hin hs
  have hx := C.1
  have hb := C.2.1
  refine x_entry (n := 7) (Nat.le_of_ble_eq_true rfl) (fun ls hl => ?_)
  have hl : lv_has ls 7 [(0, .ref x0), (1, .int x1), (2, .int x2), (3, .int x3)] := hl
  unfold f_M_fetch at hf
  refine lv_aload_n hx hb d_M_fetch_0 rfl (lv_at hl 0 rfl) ?_
  refine lv_iconst (v := 0) hx hb d_M_fetch_1 (by decide) ?_
  refine r_putV (v := (.inl 0)) C hs flp_M_71 rfl rfl d_M_fetch_2 hf (fun h1 H locs hf hs => ?_)
  refine lv_aload_n hx hb d_M_fetch_5 rfl (lv_at hl 0 rfl) ?_
  refine lv_iload_n hx hb d_M_fetch_6 rfl (lv_at hl 1 rfl) ?_
  refine lv_iconst (v := 4) hx hb d_M_fetch_7 (by decide) ?_
  obtain ⟨_, ho, hf⟩ := bd hf
  refine k_I C hs hex hf (fun res e1 => iv_V (b := x0) (As := [.int x1, .int 4]) (rest := []) C hs cv_M_83 (c_M_out hl0 e1) (ci := 6) rfl rfl ho rfl hl.1 rfl (Nat.le_of_ble_eq_true rfl) d_M_fetch_8 ⟨Nat.le_of_ble_eq_true rfl, Nat.le_of_ble_eq_true rfl⟩) (fun v4 h2 z3 H locs cells slots hf hs => ?_)
  refine lv_if_ne (tgt := 25) hx hb d_M_fetch_11 (by decide) (fun q5 => ?_) (fun q5 => ?_)
  · have hf := ifn q5 hf
    refine lv_aload_n hx hb d_M_fetch_25 rfl (lv_at hl 0 rfl) ?_
    refine lv_iconst (v := 1) hx hb d_M_fetch_26 (by decide) ?_
    obtain ⟨_, ho, hf⟩ := bd hf
    refine k_I C hs hex hf (fun res e1 => iv_V (b := x0) (As := [.int 1]) (rest := []) C hs cv_M_86 (c_M_fail hl0 e1) (ci := 6) rfl rfl ho rfl hl.1 rfl (Nat.le_of_ble_eq_true rfl) d_M_fetch_27 ⟨Nat.le_of_ble_eq_true rfl, Nat.le_of_ble_eq_true rfl⟩) (fun v8 h6 z7 H locs cells slots hf hs => ?_)
    exact r_ireturn C hs hr d_M_fetch_30 hf
  · have hf := ifp q5 hf
    refine lv_aload_n hx hb d_M_fetch_14 rfl (lv_at hl 0 rfl) ?_
    refine lv_iload_n hx hb d_M_fetch_15 rfl (lv_at hl 2 rfl) ?_
    refine lv_sipush (v := 601) hx hb d_M_fetch_16 (by decide) ?_
    obtain ⟨_, ho, hf⟩ := bd hf
    refine k_I C hs hex hf (fun res e1 => iv_V (b := x0) (As := [.int x2, .int 601]) (rest := []) C hs cv_M_83 (c_M_out hl0 e1) (ci := 6) rfl rfl ho rfl hl.1 rfl (Nat.le_of_ble_eq_true rfl) d_M_fetch_19 ⟨Nat.le_of_ble_eq_true rfl, Nat.le_of_ble_eq_true rfl⟩) (fun v11 h9 z10 H locs cells slots hf hs => ?_)
    refine lv_if_eq (tgt := 31) hx hb d_M_fetch_22 (by decide) (fun q12 => ?_) (fun q12 => ?_)
    · have hf := ifp q12 hf
      refine lv_iload_n hx hb d_M_fetch_31 rfl (lv_at hl 2 rfl) ?_
      refine lv_aload_n hx hb d_M_fetch_32 rfl (lv_at hl 0 rfl) ?_
      refine r_getR C hs fl_M_31 d_M_fetch_33 hf (fun v13 hf => ?_)
      refine lv_iload_n hx hb d_M_fetch_36 rfl (lv_at hl 1 rfl) ?_
      refine r_iald C hs d_M_fetch_37 hf (fun v14 hf => ?_)
      refine lv_icmp_ge (tgt := 47) hx hb d_M_fetch_38 (by decide) (fun q15 => ?_) (fun q15 => ?_)
      · have hf := ifp q15 hf
        refine lv_iload_n hx hb d_M_fetch_47 rfl (lv_at hl 3 rfl) ?_
        refine lv_if_eq (tgt := 59) hx hb d_M_fetch_48 (by decide) (fun q16 => ?_) (fun q16 => ?_)
        · have hf := ifp q16 hf
          refine lv_aload_n hx hb d_M_fetch_59 rfl (lv_at hl 0 rfl) ?_
          refine r_getR C hs fl_M_34 d_M_fetch_60 hf (fun v17 hf => ?_)
          refine lv_iload_n hx hb d_M_fetch_63 rfl (lv_at hl 1 rfl) ?_
          refine r_iald C hs d_M_fetch_64 hf (fun v18 hf => ?_)
          exact t_M_fetch_B65 hl0 C hr hex _ _ _ _ _ _ _ hf _ _ _ _ _ hs (lv_sub hl [0, 1, 2, 3] rfl)
        · have hf := ifn q16 hf
          refine lv_aload_n hx hb d_M_fetch_51 rfl (lv_at hl 0 rfl) ?_
          refine lv_iload_n hx hb d_M_fetch_52 rfl (lv_at hl 1 rfl) ?_
          obtain ⟨_, ho, hf⟩ := bd hf
          refine k_I C hs hex hf (fun res e1 => iv_V (b := x0) (As := [.int x1]) (rest := []) C hs cv_M_125 (c_M_stable hl0 e1) (ci := 6) rfl rfl ho rfl hl.1 rfl (Nat.le_of_ble_eq_true rfl) d_M_fetch_53 ⟨Nat.le_of_ble_eq_true rfl, Nat.le_of_ble_eq_true rfl⟩) (fun v49 h47 z48 H locs cells slots hf hs => ?_)
          refine lv_goto (tgt := 65) hx hb d_M_fetch_56 (by decide) ?_
          exact t_M_fetch_B65 hl0 C hr hex _ _ _ _ _ _ _ hf _ _ _ _ _ hs (lv_sub hl [0, 1, 2, 3] rfl)
      · have hf := ifn q15 hf
        refine lv_aload_n hx hb d_M_fetch_41 rfl (lv_at hl 0 rfl) ?_
        refine lv_iconst (v := 2) hx hb d_M_fetch_42 (by decide) ?_
        obtain ⟨_, ho, hf⟩ := bd hf
        refine k_I C hs hex hf (fun res e1 => iv_V (b := x0) (As := [.int 2]) (rest := []) C hs cv_M_86 (c_M_fail hl0 e1) (ci := 6) rfl rfl ho rfl hl.1 rfl (Nat.le_of_ble_eq_true rfl) d_M_fetch_43 ⟨Nat.le_of_ble_eq_true rfl, Nat.le_of_ble_eq_true rfl⟩) (fun v52 h50 z51 H locs cells slots hf hs => ?_)
        exact r_ireturn C hs hr d_M_fetch_46 hf
    · have hf := ifn q12 hf
      refine lv_aload_n hx hb d_M_fetch_25 rfl (lv_at hl 0 rfl) ?_
      refine lv_iconst (v := 1) hx hb d_M_fetch_26 (by decide) ?_
      obtain ⟨_, ho, hf⟩ := bd hf
      refine k_I C hs hex hf (fun res e1 => iv_V (b := x0) (As := [.int 1]) (rest := []) C hs cv_M_86 (c_M_fail hl0 e1) (ci := 6) rfl rfl ho rfl hl.1 rfl (Nat.le_of_ble_eq_true rfl) d_M_fetch_27 ⟨Nat.le_of_ble_eq_true rfl, Nat.le_of_ble_eq_true rfl⟩) (fun v55 h53 z54 H locs cells slots hf hs => ?_)
      exact r_ireturn C hs hr d_M_fetch_30 hf
def f_M_last (bs sE : Nat) (h : HH) (z : Z3) (x0 : Nat) : Option RS :=
  (pV bs h x0 6 0 (.inl 0)).bind fun h1 =>
  (gI h1 x0 6 23).bind fun v2 =>
  some (.inl (some (.int v2)), h1, z)
set_option maxHeartbeats 4000000 in
set_option maxRecDepth 100000 in
theorem c_M_last {G : EN} {l : Launch} (hl0 : l.stackTraces = false) {h : HH} {z : Z3} {x0 : Nat} {r : RS} (hf : f_M_last G.2.2.1 G.2.2.2 h z x0 = some r) : CM G l y_M_last (.code y_M_last b_M_last 1 (some .int)) 0 0 [.ref x0] h z r := by
  refine CM.ofW hl0 rfl ?_
  intro p e s m below meth c C hr hex hin hs
  have hx := C.1
  have hb := C.2.1
  refine x_entry (n := 1) (Nat.le_of_ble_eq_true rfl) (fun ls hl => ?_)
  have hl : lv_has ls 1 [(0, .ref x0)] := hl
  unfold f_M_last at hf
  refine lv_aload_n hx hb d_M_last_0 rfl (lv_at hl 0 rfl) ?_
  refine lv_iconst (v := 0) hx hb d_M_last_1 (by decide) ?_
  refine r_putV (v := (.inl 0)) C hs flp_M_71 rfl rfl d_M_last_2 hf (fun h1 H locs hf hs => ?_)
  refine lv_aload_n hx hb d_M_last_5 rfl (lv_at hl 0 rfl) ?_
  refine r_getI C hs fl_M_128 d_M_last_6 hf (fun v2 hf => ?_)
  exact r_ireturn C hs hr d_M_last_9 hf
def f_M_trim (bs sE : Nat) (h : HH) (z : Z3) (x0 : Nat) (x1 : Int32) (x2 : Int32) : Option RS :=
  (pV bs h x0 6 0 (.inl 0)).bind fun h1 =>
  (oK h1 x0 6).bind fun _ =>
  cI (f_M_out bs sE h1 z x0 x1 4) fun v4 h2 z3 =>
  if v4 = 0 then
    ((oK h2 x0 6).bind fun _ =>
    cI (f_M_out bs sE h2 z3 x0 x2 601) fun v11 h9 z10 =>
    if v11 = 0 then
      ((gR h9 x0 6 8).bind fun v13 =>
      (aI h9 v13 0 x1).bind fun v14 =>
      if x2 < v14 then
        ((oK h9 x0 6).bind fun _ =>
        cI (f_M_fail bs sE h9 z10 x0 2) fun v18 h16 z17 =>
        some (.inl (some (.int v18)), h16, z17))
      else
        ((oK h9 x0 6).bind fun _ =>
        cI (f_M_stable bs sE h9 z10 x0 x1) fun v21 h19 z20 =>
        if x2 ≤ v21 then
          ((gR h19 x0 6 8).bind fun v23 =>
          (aI h19 v23 0 x1).bind fun v24 =>
          (gR h19 x0 6 8).bind fun v25 =>
          (aIs bs h19 v25 0 x1 x2).bind fun h26 =>
          some (.inl (some (.int (x2 - v24))), h26, z20))
        else
          ((oK h19 x0 6).bind fun _ =>
          cI (f_M_fail bs sE h19 z20 x0 2) fun v29 h27 z28 =>
          some (.inl (some (.int v29)), h27, z28))))
    else
      ((oK h9 x0 6).bind fun _ =>
      cI (f_M_fail bs sE h9 z10 x0 1) fun v32 h30 z31 =>
      some (.inl (some (.int v32)), h30, z31)))
  else
    ((oK h2 x0 6).bind fun _ =>
    cI (f_M_fail bs sE h2 z3 x0 1) fun v8 h6 z7 =>
    some (.inl (some (.int v8)), h6, z7))
set_option maxHeartbeats 4000000 in
set_option maxRecDepth 100000 in
theorem c_M_trim {G : EN} {l : Launch} (hl0 : l.stackTraces = false) {h : HH} {z : Z3} {x0 : Nat} {x1 : Int32} {x2 : Int32} {r : RS} (hf : f_M_trim G.2.2.1 G.2.2.2 h z x0 x1 x2 = some r) : CM G l y_M_trim (.code y_M_trim b_M_trim 4 (some .int)) 2 48 [.ref x0, .int x1, .int x2] h z r := by
  refine CM.ofW hl0 rfl ?_
  intro p e s m below meth c C hr hex hin hs
  have hx := C.1
  have hb := C.2.1
  refine x_entry (n := 4) (Nat.le_of_ble_eq_true rfl) (fun ls hl => ?_)
  have hl : lv_has ls 4 [(0, .ref x0), (1, .int x1), (2, .int x2)] := hl
  unfold f_M_trim at hf
  refine lv_aload_n hx hb d_M_trim_0 rfl (lv_at hl 0 rfl) ?_
  refine lv_iconst (v := 0) hx hb d_M_trim_1 (by decide) ?_
  refine r_putV (v := (.inl 0)) C hs flp_M_71 rfl rfl d_M_trim_2 hf (fun h1 H locs hf hs => ?_)
  refine lv_aload_n hx hb d_M_trim_5 rfl (lv_at hl 0 rfl) ?_
  refine lv_iload_n hx hb d_M_trim_6 rfl (lv_at hl 1 rfl) ?_
  refine lv_iconst (v := 4) hx hb d_M_trim_7 (by decide) ?_
  obtain ⟨_, ho, hf⟩ := bd hf
  refine k_I C hs hex hf (fun res e1 => iv_V (b := x0) (As := [.int x1, .int 4]) (rest := []) C hs cv_M_83 (c_M_out hl0 e1) (ci := 6) rfl rfl ho rfl hl.1 rfl (Nat.le_of_ble_eq_true rfl) d_M_trim_8 ⟨Nat.le_of_ble_eq_true rfl, Nat.le_of_ble_eq_true rfl⟩) (fun v4 h2 z3 H locs cells slots hf hs => ?_)
  refine lv_if_ne (tgt := 25) hx hb d_M_trim_11 (by decide) (fun q5 => ?_) (fun q5 => ?_)
  · have hf := ifn q5 hf
    refine lv_aload_n hx hb d_M_trim_25 rfl (lv_at hl 0 rfl) ?_
    refine lv_iconst (v := 1) hx hb d_M_trim_26 (by decide) ?_
    obtain ⟨_, ho, hf⟩ := bd hf
    refine k_I C hs hex hf (fun res e1 => iv_V (b := x0) (As := [.int 1]) (rest := []) C hs cv_M_86 (c_M_fail hl0 e1) (ci := 6) rfl rfl ho rfl hl.1 rfl (Nat.le_of_ble_eq_true rfl) d_M_trim_27 ⟨Nat.le_of_ble_eq_true rfl, Nat.le_of_ble_eq_true rfl⟩) (fun v8 h6 z7 H locs cells slots hf hs => ?_)
    exact r_ireturn C hs hr d_M_trim_30 hf
  · have hf := ifp q5 hf
    refine lv_aload_n hx hb d_M_trim_14 rfl (lv_at hl 0 rfl) ?_
    refine lv_iload_n hx hb d_M_trim_15 rfl (lv_at hl 2 rfl) ?_
    refine lv_sipush (v := 601) hx hb d_M_trim_16 (by decide) ?_
    obtain ⟨_, ho, hf⟩ := bd hf
    refine k_I C hs hex hf (fun res e1 => iv_V (b := x0) (As := [.int x2, .int 601]) (rest := []) C hs cv_M_83 (c_M_out hl0 e1) (ci := 6) rfl rfl ho rfl hl.1 rfl (Nat.le_of_ble_eq_true rfl) d_M_trim_19 ⟨Nat.le_of_ble_eq_true rfl, Nat.le_of_ble_eq_true rfl⟩) (fun v11 h9 z10 H locs cells slots hf hs => ?_)
    refine lv_if_eq (tgt := 31) hx hb d_M_trim_22 (by decide) (fun q12 => ?_) (fun q12 => ?_)
    · have hf := ifp q12 hf
      refine lv_iload_n hx hb d_M_trim_31 rfl (lv_at hl 2 rfl) ?_
      refine lv_aload_n hx hb d_M_trim_32 rfl (lv_at hl 0 rfl) ?_
      refine r_getR C hs fl_M_31 d_M_trim_33 hf (fun v13 hf => ?_)
      refine lv_iload_n hx hb d_M_trim_36 rfl (lv_at hl 1 rfl) ?_
      refine r_iald C hs d_M_trim_37 hf (fun v14 hf => ?_)
      refine lv_icmp_lt (tgt := 50) hx hb d_M_trim_38 (by decide) (fun q15 => ?_) (fun q15 => ?_)
      · have hf := ifp q15 hf
        refine lv_aload_n hx hb d_M_trim_50 rfl (lv_at hl 0 rfl) ?_
        refine lv_iconst (v := 2) hx hb d_M_trim_51 (by decide) ?_
        obtain ⟨_, ho, hf⟩ := bd hf
        refine k_I C hs hex hf (fun res e1 => iv_V (b := x0) (As := [.int 2]) (rest := []) C hs cv_M_86 (c_M_fail hl0 e1) (ci := 6) rfl rfl ho rfl hl.1 rfl (Nat.le_of_ble_eq_true rfl) d_M_trim_52 ⟨Nat.le_of_ble_eq_true rfl, Nat.le_of_ble_eq_true rfl⟩) (fun v18 h16 z17 H locs cells slots hf hs => ?_)
        exact r_ireturn C hs hr d_M_trim_55 hf
      · have hf := ifn q15 hf
        refine lv_iload_n hx hb d_M_trim_41 rfl (lv_at hl 2 rfl) ?_
        refine lv_aload_n hx hb d_M_trim_42 rfl (lv_at hl 0 rfl) ?_
        refine lv_iload_n hx hb d_M_trim_43 rfl (lv_at hl 1 rfl) ?_
        obtain ⟨_, ho, hf⟩ := bd hf
        refine k_I C hs hex hf (fun res e1 => iv_V (b := x0) (As := [.int x1]) (rest := [.int x2]) C hs cv_M_125 (c_M_stable hl0 e1) (ci := 6) rfl rfl ho rfl hl.1 rfl (Nat.le_of_ble_eq_true rfl) d_M_trim_44 ⟨Nat.le_of_ble_eq_true rfl, Nat.le_of_ble_eq_true rfl⟩) (fun v21 h19 z20 H locs cells slots hf hs => ?_)
        refine lv_icmp_le (tgt := 56) hx hb d_M_trim_47 (by decide) (fun q22 => ?_) (fun q22 => ?_)
        · have hf := ifp q22 hf
          refine lv_iload_n hx hb d_M_trim_56 rfl (lv_at hl 2 rfl) ?_
          refine lv_aload_n hx hb d_M_trim_57 rfl (lv_at hl 0 rfl) ?_
          refine r_getR C hs fl_M_31 d_M_trim_58 hf (fun v23 hf => ?_)
          refine lv_iload_n hx hb d_M_trim_61 rfl (lv_at hl 1 rfl) ?_
          refine r_iald C hs d_M_trim_62 hf (fun v24 hf => ?_)
          refine lv_isub hx hb d_M_trim_63 ?_
          refine lv_istore_n (lv' := [(3, .int (x2 - v24)), (0, .ref x0), (1, .int x1), (2, .int x2)]) hx hb d_M_trim_64 rfl hl (by decide) rfl (fun ls hl => ?_)
          refine lv_aload_n hx hb d_M_trim_65 rfl (lv_at hl 1 rfl) ?_
          refine r_getR C hs fl_M_31 d_M_trim_66 hf (fun v25 hf => ?_)
          refine lv_iload_n hx hb d_M_trim_69 rfl (lv_at hl 2 rfl) ?_
          refine lv_iload_n hx hb d_M_trim_70 rfl (lv_at hl 3 rfl) ?_
          refine r_iast C hs d_M_trim_71 hf (fun h26 H locs hf hs => ?_)
          refine lv_iload_n hx hb d_M_trim_72 rfl (lv_at hl 0 rfl) ?_
          exact r_ireturn C hs hr d_M_trim_73 hf
        · have hf := ifn q22 hf
          refine lv_aload_n hx hb d_M_trim_50 rfl (lv_at hl 0 rfl) ?_
          refine lv_iconst (v := 2) hx hb d_M_trim_51 (by decide) ?_
          obtain ⟨_, ho, hf⟩ := bd hf
          refine k_I C hs hex hf (fun res e1 => iv_V (b := x0) (As := [.int 2]) (rest := []) C hs cv_M_86 (c_M_fail hl0 e1) (ci := 6) rfl rfl ho rfl hl.1 rfl (Nat.le_of_ble_eq_true rfl) d_M_trim_52 ⟨Nat.le_of_ble_eq_true rfl, Nat.le_of_ble_eq_true rfl⟩) (fun v29 h27 z28 H locs cells slots hf hs => ?_)
          exact r_ireturn C hs hr d_M_trim_55 hf
    · have hf := ifn q12 hf
      refine lv_aload_n hx hb d_M_trim_25 rfl (lv_at hl 0 rfl) ?_
      refine lv_iconst (v := 1) hx hb d_M_trim_26 (by decide) ?_
      obtain ⟨_, ho, hf⟩ := bd hf
      refine k_I C hs hex hf (fun res e1 => iv_V (b := x0) (As := [.int 1]) (rest := []) C hs cv_M_86 (c_M_fail hl0 e1) (ci := 6) rfl rfl ho rfl hl.1 rfl (Nat.le_of_ble_eq_true rfl) d_M_trim_27 ⟨Nat.le_of_ble_eq_true rfl, Nat.le_of_ble_eq_true rfl⟩) (fun v32 h30 z31 H locs cells slots hf hs => ?_)
      exact r_ireturn C hs hr d_M_trim_30 hf
def fb_M_has_L5 (bs sE : Nat) (REC : HH → Z3 → Nat → Int32 → Int32 → Int32 → Int32 → Option RS) (h : HH) (z : Z3) (x0 : Nat) (x1 : Int32) (x2 : Int32) (x3 : Int32) (x4 : Int32) : Option RS :=
  if 4 ≤ x4 then
    (some (.inl (some (.int x3)), h, z))
  else
    ((gR h x0 6 20).bind fun v2 =>
    (aI h v2 0 ((4 * x1) + x4)).bind fun v3 =>
    if v3 = x2 then
      (REC h z x0 x1 x2 (x3 + 1) (x4 + 1))
    else
      (REC h z x0 x1 x2 (x3 + 0) (x4 + 1)))
def f_M_has_L5 (bs sE : Nat) : Nat → HH → Z3 → Nat → Int32 → Int32 → Int32 → Int32 → Option RS
  | 0 => fun _ _ _ _ _ _ _ => none
  | n + 1 => fb_M_has_L5 bs sE (f_M_has_L5 bs sE n)
set_option maxHeartbeats 4000000 in
set_option maxRecDepth 100000 in
theorem t_M_has_L5 {G : EN} {p : Program} {l : Launch} {e : Env} {s : State} {m : MethodId} {args : Array Value} {below : List Frame} {meth : Method} {c : Code} {z0 : Z3} (hl0 : l.stackTraces = false) (C : CX G p l s m meth c b_M_has 5 y_M_has.cls) (hr : meth.sig.returnType = (some .int)) (hex : c.exceptionTable.toList = []) {r : RS} :
    ∀ (n : Nat) (h : HH) (z : Z3) (x0 : Nat) (x1 : Int32) (x2 : Int32) (x3 : Int32) (x4 : Int32), f_M_has_L5 G.2.2.1 G.2.2.2 n h z x0 x1 x2 x3 x4 = some r → ∀ (H : Heap) (locs : List Loc) (cells slots : Nat) (ls : Array Slot), ST G (RM 0 0 z0) s h z H locs cells slots → lv_has ls 5 [(0, .ref x0), (1, .int x1), (2, .int x2), (3, .int x3), (4, .int x4)] → W p l e (RM 0 0 z0) s m args below meth c H locs cells slots (MX G below s r (RM 0 0 z0).cells (RM 0 0 z0).slots) (F0 m 5 ls []) := by
  have hx := C.1
  have hb := C.2.1
  intro n
  induction n with
  | zero => intro h z x0 x1 x2 x3 x4 hf; exact nomatch (show (none : Option RS) = some r from hf)
  | succ n ih =>
    intro h z x0 x1 x2 x3 x4 hf H locs cells slots ls hs hl
    have hf : fb_M_has_L5 G.2.2.1 G.2.2.2 (f_M_has_L5 G.2.2.1 G.2.2.2 n) h z x0 x1 x2 x3 x4 = some r := hf
    unfold fb_M_has_L5 at hf
    refine lv_iload hx hb d_M_has_5 (lv_at hl 4 rfl) ?_
    refine lv_iconst (v := 4) hx hb d_M_has_7 (by decide) ?_
    refine lv_icmp_ge (tgt := 40) hx hb d_M_has_8 (by decide) (fun q1 => ?_) (fun q1 => ?_)
    · have hf := ifp q1 hf
      refine lv_iload_n hx hb d_M_has_40 rfl (lv_at hl 3 rfl) ?_
      exact r_ireturn C hs hr d_M_has_41 hf
    · have hf := ifn q1 hf
      refine lv_iload_n hx hb d_M_has_11 rfl (lv_at hl 3 rfl) ?_
      refine lv_aload_n hx hb d_M_has_12 rfl (lv_at hl 0 rfl) ?_
      refine r_getR C hs fl_M_65 d_M_has_13 hf (fun v2 hf => ?_)
      refine lv_iconst (v := 4) hx hb d_M_has_16 (by decide) ?_
      refine lv_iload_n hx hb d_M_has_17 rfl (lv_at hl 1 rfl) ?_
      refine lv_imul hx hb d_M_has_18 ?_
      refine lv_iload hx hb d_M_has_19 (lv_at hl 4 rfl) ?_
      refine lv_iadd hx hb d_M_has_21 ?_
      refine r_iald C hs d_M_has_22 hf (fun v3 hf => ?_)
      refine lv_iload_n hx hb d_M_has_23 rfl (lv_at hl 2 rfl) ?_
      refine lv_icmp_ne (tgt := 31) hx hb d_M_has_24 (by decide) (fun q4 => ?_) (fun q4 => ?_)
      · have hf := ifn q4 hf
        refine lv_iconst (v := 0) hx hb d_M_has_31 (by decide) ?_
        refine lv_iadd hx hb d_M_has_32 ?_
        refine lv_istore_n (lv' := [(3, .int (x3 + 0)), (0, .ref x0), (1, .int x1), (2, .int x2), (4, .int x4)]) hx hb d_M_has_33 rfl hl (by decide) rfl (fun ls hl => ?_)
        refine lv_iinc (v := x4 + 1) (lv' := [(4, .int (x4 + 1)), (3, .int (x3 + 0)), (0, .ref x0), (1, .int x1), (2, .int x2)]) hx hb d_M_has_34 hl (k := 4) rfl rfl (by decide) rfl (fun ls hl => ?_)
        refine lv_goto (tgt := 5) hx hb d_M_has_37 (by decide) ?_
        exact ih _ _ _ _ _ _ _ hf _ _ _ _ _ hs (lv_sub hl [2, 3, 4, 1, 0] rfl)
      · have hf := ifp q4 hf
        refine lv_iconst (v := 1) hx hb d_M_has_27 (by decide) ?_
        refine lv_goto (tgt := 32) hx hb d_M_has_28 (by decide) ?_
        refine lv_iadd hx hb d_M_has_32 ?_
        refine lv_istore_n (lv' := [(3, .int (x3 + 1)), (0, .ref x0), (1, .int x1), (2, .int x2), (4, .int x4)]) hx hb d_M_has_33 rfl hl (by decide) rfl (fun ls hl => ?_)
        refine lv_iinc (v := x4 + 1) (lv' := [(4, .int (x4 + 1)), (3, .int (x3 + 1)), (0, .ref x0), (1, .int x1), (2, .int x2)]) hx hb d_M_has_34 hl (k := 4) rfl rfl (by decide) rfl (fun ls hl => ?_)
        refine lv_goto (tgt := 5) hx hb d_M_has_37 (by decide) ?_
        exact ih _ _ _ _ _ _ _ hf _ _ _ _ _ hs (lv_sub hl [2, 3, 4, 1, 0] rfl)
def f_M_has (bs sE : Nat) (h : HH) (z : Z3) (x0 : Nat) (x1 : Int32) (x2 : Int32) : Option RS :=
  f_M_has_L5 bs sE FU h z x0 x1 x2 0 0
set_option maxHeartbeats 4000000 in
set_option maxRecDepth 100000 in
theorem c_M_has {G : EN} {l : Launch} (hl0 : l.stackTraces = false) {h : HH} {z : Z3} {x0 : Nat} {x1 : Int32} {x2 : Int32} {r : RS} (hf : f_M_has G.2.2.1 G.2.2.2 h z x0 x1 x2 = some r) : CM G l y_M_has (.code y_M_has b_M_has 5 (some .int)) 0 0 [.ref x0, .int x1, .int x2] h z r := by
  refine CM.ofW hl0 rfl ?_
  intro p e s m below meth c C hr hex hin hs
  have hx := C.1
  have hb := C.2.1
  refine x_entry (n := 5) (Nat.le_of_ble_eq_true rfl) (fun ls hl => ?_)
  have hl : lv_has ls 5 [(0, .ref x0), (1, .int x1), (2, .int x2)] := hl
  unfold f_M_has at hf
  refine lv_iconst (v := 0) hx hb d_M_has_0 (by decide) ?_
  refine lv_istore_n (lv' := [(3, .int 0), (0, .ref x0), (1, .int x1), (2, .int x2)]) hx hb d_M_has_1 rfl hl (by decide) rfl (fun ls hl => ?_)
  refine lv_iconst (v := 0) hx hb d_M_has_2 (by decide) ?_
  refine lv_istore (lv' := [(4, .int 0), (3, .int 0), (0, .ref x0), (1, .int x1), (2, .int x2)]) hx hb d_M_has_3 hl (by decide) rfl (fun ls hl => ?_)
  exact t_M_has_L5 hl0 C hr hex FU _ _ _ _ _ _ _ hf _ _ _ _ _ hs (lv_sub hl [2, 3, 4, 1, 0] rfl)
def fb_M_fewest_L4 (bs sE : Nat) (REC : HH → Z3 → Nat → Int32 → Int32 → Int32 → Option RS) (h : HH) (z : Z3) (x0 : Nat) (x1 : Int32) (x2 : Int32) (x3 : Int32) : Option RS :=
  if 4 ≤ x3 then
    (some (.inl (some (.int x2)), h, z))
  else
    ((gR h x0 6 18).bind fun v2 =>
    (aI h v2 1 ((4 * x1) + x3)).bind fun v3 =>
    if v3 = 0 then
      (REC h z x0 x1 x2 (x3 + 1))
    else
      (if x2 < 0 then
        (REC h z x0 x1 x3 (x3 + 1))
      else
        ((oK h x0 6).bind fun _ =>
        cI (f_M_has bs sE h z x0 x1 x3) fun v8 h6 z7 =>
        (oK h6 x0 6).bind fun _ =>
        cI (f_M_has bs sE h6 z7 x0 x1 x2) fun v11 h9 z10 =>
        if v11 ≤ v8 then
          (REC h9 z10 x0 x1 x2 (x3 + 1))
        else
          (REC h9 z10 x0 x1 x3 (x3 + 1)))))
def f_M_fewest_L4 (bs sE : Nat) : Nat → HH → Z3 → Nat → Int32 → Int32 → Int32 → Option RS
  | 0 => fun _ _ _ _ _ _ => none
  | n + 1 => fb_M_fewest_L4 bs sE (f_M_fewest_L4 bs sE n)
set_option maxHeartbeats 4000000 in
set_option maxRecDepth 100000 in
theorem t_M_fewest_L4 {G : EN} {p : Program} {l : Launch} {e : Env} {s : State} {m : MethodId} {args : Array Value} {below : List Frame} {meth : Method} {c : Code} {z0 : Z3} (hl0 : l.stackTraces = false) (C : CX G p l s m meth c b_M_fewest 4 y_M_fewest.cls) (hr : meth.sig.returnType = (some .int)) (hex : c.exceptionTable.toList = []) {r : RS} :
    ∀ (n : Nat) (h : HH) (z : Z3) (x0 : Nat) (x1 : Int32) (x2 : Int32) (x3 : Int32), f_M_fewest_L4 G.2.2.1 G.2.2.2 n h z x0 x1 x2 x3 = some r → ∀ (H : Heap) (locs : List Loc) (cells slots : Nat) (ls : Array Slot), ST G (RM 1 24 z0) s h z H locs cells slots → lv_has ls 4 [(0, .ref x0), (1, .int x1), (2, .int x2), (3, .int x3)] → W p l e (RM 1 24 z0) s m args below meth c H locs cells slots (MX G below s r (RM 1 24 z0).cells (RM 1 24 z0).slots) (F0 m 4 ls []) := by
  have hx := C.1
  have hb := C.2.1
  intro n
  induction n with
  | zero => intro h z x0 x1 x2 x3 hf; exact nomatch (show (none : Option RS) = some r from hf)
  | succ n ih =>
    intro h z x0 x1 x2 x3 hf H locs cells slots ls hs hl
    have hf : fb_M_fewest_L4 G.2.2.1 G.2.2.2 (f_M_fewest_L4 G.2.2.1 G.2.2.2 n) h z x0 x1 x2 x3 = some r := hf
    unfold fb_M_fewest_L4 at hf
    refine lv_iload_n hx hb d_M_fewest_4 rfl (lv_at hl 3 rfl) ?_
    refine lv_iconst (v := 4) hx hb d_M_fewest_5 (by decide) ?_
    refine lv_icmp_ge (tgt := 49) hx hb d_M_fewest_6 (by decide) (fun q1 => ?_) (fun q1 => ?_)
    · have hf := ifp q1 hf
      refine lv_iload_n hx hb d_M_fewest_49 rfl (lv_at hl 2 rfl) ?_
      exact r_ireturn C hs hr d_M_fewest_50 hf
    · have hf := ifn q1 hf
      refine lv_aload_n hx hb d_M_fewest_9 rfl (lv_at hl 0 rfl) ?_
      refine r_getR C hs fl_M_58 d_M_fewest_10 hf (fun v2 hf => ?_)
      refine lv_iconst (v := 4) hx hb d_M_fewest_13 (by decide) ?_
      refine lv_iload_n hx hb d_M_fewest_14 rfl (lv_at hl 1 rfl) ?_
      refine lv_imul hx hb d_M_fewest_15 ?_
      refine lv_iload_n hx hb d_M_fewest_16 rfl (lv_at hl 3 rfl) ?_
      refine lv_iadd hx hb d_M_fewest_17 ?_
      refine r_zald C hs d_M_fewest_18 hf (fun v3 hf => ?_)
      refine lv_if_eq (tgt := 43) hx hb d_M_fewest_19 (by decide) (fun q4 => ?_) (fun q4 => ?_)
      · have hf := ifp q4 hf
        refine lv_iinc (v := x3 + 1) (lv' := [(3, .int (x3 + 1)), (0, .ref x0), (1, .int x1), (2, .int x2)]) hx hb d_M_fewest_43 hl (k := 3) rfl rfl (by decide) rfl (fun ls hl => ?_)
        refine lv_goto (tgt := 4) hx hb d_M_fewest_46 (by decide) ?_
        exact ih _ _ _ _ _ _ hf _ _ _ _ _ hs (lv_sub hl [1, 2, 3, 0] rfl)
      · have hf := ifn q4 hf
        refine lv_iload_n hx hb d_M_fewest_22 rfl (lv_at hl 2 rfl) ?_
        refine lv_if_lt (tgt := 41) hx hb d_M_fewest_23 (by decide) (fun q5 => ?_) (fun q5 => ?_)
        · have hf := ifp q5 hf
          refine lv_iload_n hx hb d_M_fewest_41 rfl (lv_at hl 3 rfl) ?_
          refine lv_istore_n (lv' := [(2, .int x3), (0, .ref x0), (1, .int x1), (3, .int x3)]) hx hb d_M_fewest_42 rfl hl (by decide) rfl (fun ls hl => ?_)
          refine lv_iinc (v := x3 + 1) (lv' := [(3, .int (x3 + 1)), (2, .int x3), (0, .ref x0), (1, .int x1)]) hx hb d_M_fewest_43 hl (k := 3) rfl rfl (by decide) rfl (fun ls hl => ?_)
          refine lv_goto (tgt := 4) hx hb d_M_fewest_46 (by decide) ?_
          exact ih _ _ _ _ _ _ hf _ _ _ _ _ hs (lv_sub hl [2, 3, 1, 0] rfl)
        · have hf := ifn q5 hf
          refine lv_aload_n hx hb d_M_fewest_26 rfl (lv_at hl 0 rfl) ?_
          refine lv_iload_n hx hb d_M_fewest_27 rfl (lv_at hl 1 rfl) ?_
          refine lv_iload_n hx hb d_M_fewest_28 rfl (lv_at hl 3 rfl) ?_
          obtain ⟨_, ho, hf⟩ := bd hf
          refine k_I C hs hex hf (fun res e1 => iv_V (b := x0) (As := [.int x1, .int x3]) (rest := []) C hs cv_M_131 (c_M_has hl0 e1) (ci := 6) rfl rfl ho rfl hl.1 rfl (Nat.le_of_ble_eq_true rfl) d_M_fewest_29 ⟨Nat.le_of_ble_eq_true rfl, Nat.le_of_ble_eq_true rfl⟩) (fun v8 h6 z7 H locs cells slots hf hs => ?_)
          refine lv_aload_n hx hb d_M_fewest_32 rfl (lv_at hl 0 rfl) ?_
          refine lv_iload_n hx hb d_M_fewest_33 rfl (lv_at hl 1 rfl) ?_
          refine lv_iload_n hx hb d_M_fewest_34 rfl (lv_at hl 2 rfl) ?_
          obtain ⟨_, ho, hf⟩ := bd hf
          refine k_I C hs hex hf (fun res e1 => iv_V (b := x0) (As := [.int x1, .int x2]) (rest := [.int v8]) C hs cv_M_131 (c_M_has hl0 e1) (ci := 6) rfl rfl ho rfl hl.1 rfl (Nat.le_of_ble_eq_true rfl) d_M_fewest_35 ⟨Nat.le_of_ble_eq_true rfl, Nat.le_of_ble_eq_true rfl⟩) (fun v11 h9 z10 H locs cells slots hf hs => ?_)
          refine lv_icmp_ge (tgt := 43) hx hb d_M_fewest_38 (by decide) (fun q12 => ?_) (fun q12 => ?_)
          · have hf := ifp q12 hf
            refine lv_iinc (v := x3 + 1) (lv' := [(3, .int (x3 + 1)), (0, .ref x0), (1, .int x1), (2, .int x2)]) hx hb d_M_fewest_43 hl (k := 3) rfl rfl (by decide) rfl (fun ls hl => ?_)
            refine lv_goto (tgt := 4) hx hb d_M_fewest_46 (by decide) ?_
            exact ih _ _ _ _ _ _ hf _ _ _ _ _ hs (lv_sub hl [1, 2, 3, 0] rfl)
          · have hf := ifn q12 hf
            refine lv_iload_n hx hb d_M_fewest_41 rfl (lv_at hl 3 rfl) ?_
            refine lv_istore_n (lv' := [(2, .int x3), (0, .ref x0), (1, .int x1), (3, .int x3)]) hx hb d_M_fewest_42 rfl hl (by decide) rfl (fun ls hl => ?_)
            refine lv_iinc (v := x3 + 1) (lv' := [(3, .int (x3 + 1)), (2, .int x3), (0, .ref x0), (1, .int x1)]) hx hb d_M_fewest_43 hl (k := 3) rfl rfl (by decide) rfl (fun ls hl => ?_)
            refine lv_goto (tgt := 4) hx hb d_M_fewest_46 (by decide) ?_
            exact ih _ _ _ _ _ _ hf _ _ _ _ _ hs (lv_sub hl [2, 3, 1, 0] rfl)
def f_M_fewest (bs sE : Nat) (h : HH) (z : Z3) (x0 : Nat) (x1 : Int32) : Option RS :=
  f_M_fewest_L4 bs sE FU h z x0 x1 (-1) 0
set_option maxHeartbeats 4000000 in
set_option maxRecDepth 100000 in
theorem c_M_fewest {G : EN} {l : Launch} (hl0 : l.stackTraces = false) {h : HH} {z : Z3} {x0 : Nat} {x1 : Int32} {r : RS} (hf : f_M_fewest G.2.2.1 G.2.2.2 h z x0 x1 = some r) : CM G l y_M_fewest (.code y_M_fewest b_M_fewest 4 (some .int)) 1 24 [.ref x0, .int x1] h z r := by
  refine CM.ofW hl0 rfl ?_
  intro p e s m below meth c C hr hex hin hs
  have hx := C.1
  have hb := C.2.1
  refine x_entry (n := 4) (Nat.le_of_ble_eq_true rfl) (fun ls hl => ?_)
  have hl : lv_has ls 4 [(0, .ref x0), (1, .int x1)] := hl
  unfold f_M_fewest at hf
  refine lv_iconst (v := (-1)) hx hb d_M_fewest_0 (by decide) ?_
  refine lv_istore_n (lv' := [(2, .int (-1)), (0, .ref x0), (1, .int x1)]) hx hb d_M_fewest_1 rfl hl (by decide) rfl (fun ls hl => ?_)
  refine lv_iconst (v := 0) hx hb d_M_fewest_2 (by decide) ?_
  refine lv_istore_n (lv' := [(3, .int 0), (2, .int (-1)), (0, .ref x0), (1, .int x1)]) hx hb d_M_fewest_3 rfl hl (by decide) rfl (fun ls hl => ?_)
  exact t_M_fewest_L4 hl0 C hr hex FU _ _ _ _ _ _ hf _ _ _ _ _ hs (lv_sub hl [2, 3, 1, 0] rfl)
def fb_M_share_L221 (bs sE : Nat) (REC : HH → Z3 → Nat → Int32 → Int32 → Option RS) (h : HH) (z : Z3) (x0 : Nat) (x1 : Int32) (x5 : Int32) : Option RS :=
  if 4 ≤ x5 then
    (some (.inl none, h, z))
  else
    ((gR h x0 6 20).bind fun v9 =>
    (aI h v9 0 ((4 * x1) + x5)).bind fun v10 =>
    if 0 ≤ v10 then
      (REC h z x0 x1 (x5 + 1))
    else
      ((gR h x0 6 20).bind fun v12 =>
      (oK h x0 6).bind fun _ =>
      cI (f_M_fewest bs sE h z x0 x1) fun v15 h13 z14 =>
      (aIs bs h13 v12 0 ((4 * x1) + x5) v15).bind fun h16 =>
      REC h16 z14 x0 x1 (x5 + 1)))
def f_M_share_L221 (bs sE : Nat) : Nat → HH → Z3 → Nat → Int32 → Int32 → Option RS
  | 0 => fun _ _ _ _ _ => none
  | n + 1 => fb_M_share_L221 bs sE (f_M_share_L221 bs sE n)
set_option maxHeartbeats 4000000 in
set_option maxRecDepth 100000 in
theorem t_M_share_L221 {G : EN} {p : Program} {l : Launch} {e : Env} {s : State} {m : MethodId} {args : Array Value} {below : List Frame} {meth : Method} {c : Code} {z0 : Z3} (hl0 : l.stackTraces = false) (C : CX G p l s m meth c b_M_share 9 y_M_share.cls) (hr : meth.sig.returnType = none) (hex : c.exceptionTable.toList = []) {r : RS} :
    ∀ (n : Nat) (h : HH) (z : Z3) (x0 : Nat) (x1 : Int32) (x5 : Int32), f_M_share_L221 G.2.2.1 G.2.2.2 n h z x0 x1 x5 = some r → ∀ (H : Heap) (locs : List Loc) (cells slots : Nat) (ls : Array Slot), ST G (RM 2 47 z0) s h z H locs cells slots → lv_has ls 9 [(0, .ref x0), (1, .int x1), (5, .int x5)] → W p l e (RM 2 47 z0) s m args below meth c H locs cells slots (MX G below s r (RM 2 47 z0).cells (RM 2 47 z0).slots) (F0 m 221 ls []) := by
  have hx := C.1
  have hb := C.2.1
  intro n
  induction n with
  | zero => intro h z x0 x1 x5 hf; exact nomatch (show (none : Option RS) = some r from hf)
  | succ n ih =>
    intro h z x0 x1 x5 hf H locs cells slots ls hs hl
    have hf : fb_M_share_L221 G.2.2.1 G.2.2.2 (f_M_share_L221 G.2.2.1 G.2.2.2 n) h z x0 x1 x5 = some r := hf
    unfold fb_M_share_L221 at hf
    refine lv_iload hx hb d_M_share_221 (lv_at hl 2 rfl) ?_
    refine lv_iconst (v := 4) hx hb d_M_share_223 (by decide) ?_
    refine lv_icmp_ge (tgt := 263) hx hb d_M_share_224 (by decide) (fun q8 => ?_) (fun q8 => ?_)
    · have hf := ifp q8 hf
      exact r_vreturn C hs hr d_M_share_263 hf
    · have hf := ifn q8 hf
      refine lv_aload_n hx hb d_M_share_227 rfl (lv_at hl 0 rfl) ?_
      refine r_getR C hs fl_M_65 d_M_share_228 hf (fun v9 hf => ?_)
      refine lv_iconst (v := 4) hx hb d_M_share_231 (by decide) ?_
      refine lv_iload_n hx hb d_M_share_232 rfl (lv_at hl 1 rfl) ?_
      refine lv_imul hx hb d_M_share_233 ?_
      refine lv_iload hx hb d_M_share_234 (lv_at hl 2 rfl) ?_
      refine lv_iadd hx hb d_M_share_236 ?_
      refine r_iald C hs d_M_share_237 hf (fun v10 hf => ?_)
      refine lv_if_ge (tgt := 257) hx hb d_M_share_238 (by decide) (fun q11 => ?_) (fun q11 => ?_)
      · have hf := ifp q11 hf
        refine lv_iinc (v := x5 + 1) (lv' := [(5, .int (x5 + 1)), (0, .ref x0), (1, .int x1)]) hx hb d_M_share_257 hl (k := 2) rfl rfl (by decide) rfl (fun ls hl => ?_)
        refine lv_goto (tgt := 221) hx hb d_M_share_260 (by decide) ?_
        exact ih _ _ _ _ _ hf _ _ _ _ _ hs (lv_sub hl [1, 2, 0] rfl)
      · have hf := ifn q11 hf
        refine lv_aload_n hx hb d_M_share_241 rfl (lv_at hl 0 rfl) ?_
        refine r_getR C hs fl_M_65 d_M_share_242 hf (fun v12 hf => ?_)
        refine lv_iconst (v := 4) hx hb d_M_share_245 (by decide) ?_
        refine lv_iload_n hx hb d_M_share_246 rfl (lv_at hl 1 rfl) ?_
        refine lv_imul hx hb d_M_share_247 ?_
        refine lv_iload hx hb d_M_share_248 (lv_at hl 2 rfl) ?_
        refine lv_iadd hx hb d_M_share_250 ?_
        refine lv_aload_n hx hb d_M_share_251 rfl (lv_at hl 0 rfl) ?_
        refine lv_iload_n hx hb d_M_share_252 rfl (lv_at hl 1 rfl) ?_
        obtain ⟨_, ho, hf⟩ := bd hf
        refine k_I C hs hex hf (fun res e1 => iv_V (b := x0) (As := [.int x1]) (rest := [.int ((4 * x1) + x5), .ref v12]) C hs cv_M_134 (c_M_fewest hl0 e1) (ci := 6) rfl rfl ho rfl hl.1 rfl (Nat.le_of_ble_eq_true rfl) d_M_share_253 ⟨Nat.le_of_ble_eq_true rfl, Nat.le_of_ble_eq_true rfl⟩) (fun v15 h13 z14 H locs cells slots hf hs => ?_)
        refine r_iast C hs d_M_share_256 hf (fun h16 H locs hf hs => ?_)
        refine lv_iinc (v := x5 + 1) (lv' := [(5, .int (x5 + 1)), (0, .ref x0), (1, .int x1)]) hx hb d_M_share_257 hl (k := 2) rfl rfl (by decide) rfl (fun ls hl => ?_)
        refine lv_goto (tgt := 221) hx hb d_M_share_260 (by decide) ?_
        exact ih _ _ _ _ _ hf _ _ _ _ _ hs (lv_sub hl [1, 2, 0] rfl)
def fb_M_share_L159 (bs sE : Nat) (K212 : HH → Z3 → Nat → Int32 → Int32 → Int32 → Int32 → Option RS) (REC : HH → Z3 → Nat → Int32 → Int32 → Int32 → Int32 → Int32 → Int32 → Int32 → Option RS) (h : HH) (z : Z3) (x0 : Nat) (x1 : Int32) (x3 : Int32) (x4 : Int32) (x5 : Int32) (x6 : Int32) (x7 : Int32) (x8 : Int32) : Option RS :=
  if 4 ≤ x8 then
    (K212 h z x0 x1 x3 x4 x5)
  else
    ((gR h x0 6 20).bind fun v22 =>
    (aI h v22 0 ((4 * x1) + x8)).bind fun v23 =>
    if v23 = x5 then
      (if (x7 + 1) ≤ x6 then
        (REC h z x0 x1 x3 x4 x5 x6 (x7 + 1) (x8 + 1))
      else
        ((gR h x0 6 20).bind fun v26 =>
        (aIs bs h v26 0 ((4 * x1) + x8) (-1)).bind fun h27 =>
        REC h27 z x0 x1 x3 x4 x5 x6 (x7 + 1) (x8 + 1)))
    else
      (REC h z x0 x1 x3 x4 x5 x6 x7 (x8 + 1)))
def f_M_share_L159 (bs sE : Nat) (K212 : HH → Z3 → Nat → Int32 → Int32 → Int32 → Int32 → Option RS) : Nat → HH → Z3 → Nat → Int32 → Int32 → Int32 → Int32 → Int32 → Int32 → Int32 → Option RS
  | 0 => fun _ _ _ _ _ _ _ _ _ _ => none
  | n + 1 => fb_M_share_L159 bs sE K212 (f_M_share_L159 bs sE K212 n)
set_option maxHeartbeats 4000000 in
set_option maxRecDepth 100000 in
theorem t_M_share_L159 {G : EN} {p : Program} {l : Launch} {e : Env} {s : State} {m : MethodId} {args : Array Value} {below : List Frame} {meth : Method} {c : Code} {z0 : Z3} (hl0 : l.stackTraces = false) (C : CX G p l s m meth c b_M_share 9 y_M_share.cls) (hr : meth.sig.returnType = none) (hex : c.exceptionTable.toList = []) {r : RS} {K212 : HH → Z3 → Nat → Int32 → Int32 → Int32 → Int32 → Option RS}
    (hK212 : ∀ (h : HH) (z : Z3) (y0 : Nat) (y1 : Int32) (y2 : Int32) (y3 : Int32) (y4 : Int32), K212 h z y0 y1 y2 y3 y4 = some r → ∀ (H : Heap) (locs : List Loc) (cells slots : Nat) (ls : Array Slot), ST G (RM 2 47 z0) s h z H locs cells slots → lv_has ls 9 [(0, .ref y0), (1, .int y1), (3, .int y2), (4, .int y3), (5, .int y4)] → W p l e (RM 2 47 z0) s m args below meth c H locs cells slots (MX G below s r (RM 2 47 z0).cells (RM 2 47 z0).slots) (F0 m 212 ls [])) :
    ∀ (n : Nat) (h : HH) (z : Z3) (x0 : Nat) (x1 : Int32) (x3 : Int32) (x4 : Int32) (x5 : Int32) (x6 : Int32) (x7 : Int32) (x8 : Int32), f_M_share_L159 G.2.2.1 G.2.2.2 K212 n h z x0 x1 x3 x4 x5 x6 x7 x8 = some r → ∀ (H : Heap) (locs : List Loc) (cells slots : Nat) (ls : Array Slot), ST G (RM 2 47 z0) s h z H locs cells slots → lv_has ls 9 [(0, .ref x0), (1, .int x1), (3, .int x3), (4, .int x4), (5, .int x5), (6, .int x6), (7, .int x7), (8, .int x8)] → W p l e (RM 2 47 z0) s m args below meth c H locs cells slots (MX G below s r (RM 2 47 z0).cells (RM 2 47 z0).slots) (F0 m 159 ls []) := by
  have hx := C.1
  have hb := C.2.1
  intro n
  induction n with
  | zero => intro h z x0 x1 x3 x4 x5 x6 x7 x8 hf; exact nomatch (show (none : Option RS) = some r from hf)
  | succ n ih =>
    intro h z x0 x1 x3 x4 x5 x6 x7 x8 hf H locs cells slots ls hs hl
    have hf : fb_M_share_L159 G.2.2.1 G.2.2.2 K212 (f_M_share_L159 G.2.2.1 G.2.2.2 K212 n) h z x0 x1 x3 x4 x5 x6 x7 x8 = some r := hf
    unfold fb_M_share_L159 at hf
    refine lv_iload hx hb d_M_share_159 (lv_at hl 7 rfl) ?_
    refine lv_iconst (v := 4) hx hb d_M_share_161 (by decide) ?_
    refine lv_icmp_ge (tgt := 212) hx hb d_M_share_162 (by decide) (fun q21 => ?_) (fun q21 => ?_)
    · have hf := ifp q21 hf
      exact hK212 _ _ _ _ _ _ _ hf _ _ _ _ _ hs (lv_sub hl [0, 1, 2, 3, 4] rfl)
    · have hf := ifn q21 hf
      refine lv_aload_n hx hb d_M_share_165 rfl (lv_at hl 0 rfl) ?_
      refine r_getR C hs fl_M_65 d_M_share_166 hf (fun v22 hf => ?_)
      refine lv_iconst (v := 4) hx hb d_M_share_169 (by decide) ?_
      refine lv_iload_n hx hb d_M_share_170 rfl (lv_at hl 1 rfl) ?_
      refine lv_imul hx hb d_M_share_171 ?_
      refine lv_iload hx hb d_M_share_172 (lv_at hl 7 rfl) ?_
      refine lv_iadd hx hb d_M_share_174 ?_
      refine r_iald C hs d_M_share_175 hf (fun v23 hf => ?_)
      refine lv_iload hx hb d_M_share_176 (lv_at hl 4 rfl) ?_
      refine lv_icmp_eq (tgt := 184) hx hb d_M_share_178 (by decide) (fun q24 => ?_) (fun q24 => ?_)
      · have hf := ifp q24 hf
        refine lv_iinc (v := x7 + 1) (lv' := [(7, .int (x7 + 1)), (0, .ref x0), (1, .int x1), (3, .int x3), (4, .int x4), (5, .int x5), (6, .int x6), (8, .int x8)]) hx hb d_M_share_184 hl (k := 6) rfl rfl (by decide) rfl (fun ls hl => ?_)
        refine lv_iload hx hb d_M_share_187 (lv_at hl 0 rfl) ?_
        refine lv_iload hx hb d_M_share_189 (lv_at hl 6 rfl) ?_
        refine lv_icmp_le (tgt := 206) hx hb d_M_share_191 (by decide) (fun q25 => ?_) (fun q25 => ?_)
        · have hf := ifp q25 hf
          refine lv_iinc (v := x8 + 1) (lv' := [(8, .int (x8 + 1)), (7, .int (x7 + 1)), (0, .ref x0), (1, .int x1), (3, .int x3), (4, .int x4), (5, .int x5), (6, .int x6)]) hx hb d_M_share_206 hl (k := 7) rfl rfl (by decide) rfl (fun ls hl => ?_)
          refine lv_goto (tgt := 159) hx hb d_M_share_209 (by decide) ?_
          exact ih _ _ _ _ _ _ _ _ _ _ hf _ _ _ _ _ hs (lv_sub hl [2, 3, 4, 5, 6, 7, 1, 0] rfl)
        · have hf := ifn q25 hf
          refine lv_aload_n hx hb d_M_share_194 rfl (lv_at hl 1 rfl) ?_
          refine r_getR C hs fl_M_65 d_M_share_195 hf (fun v26 hf => ?_)
          refine lv_iconst (v := 4) hx hb d_M_share_198 (by decide) ?_
          refine lv_iload_n hx hb d_M_share_199 rfl (lv_at hl 2 rfl) ?_
          refine lv_imul hx hb d_M_share_200 ?_
          refine lv_iload hx hb d_M_share_201 (lv_at hl 7 rfl) ?_
          refine lv_iadd hx hb d_M_share_203 ?_
          refine lv_iconst (v := (-1)) hx hb d_M_share_204 (by decide) ?_
          refine r_iast C hs d_M_share_205 hf (fun h27 H locs hf hs => ?_)
          refine lv_iinc (v := x8 + 1) (lv' := [(8, .int (x8 + 1)), (7, .int (x7 + 1)), (0, .ref x0), (1, .int x1), (3, .int x3), (4, .int x4), (5, .int x5), (6, .int x6)]) hx hb d_M_share_206 hl (k := 7) rfl rfl (by decide) rfl (fun ls hl => ?_)
          refine lv_goto (tgt := 159) hx hb d_M_share_209 (by decide) ?_
          exact ih _ _ _ _ _ _ _ _ _ _ hf _ _ _ _ _ hs (lv_sub hl [2, 3, 4, 5, 6, 7, 1, 0] rfl)
      · have hf := ifn q24 hf
        refine lv_goto (tgt := 206) hx hb d_M_share_181 (by decide) ?_
        refine lv_iinc (v := x8 + 1) (lv' := [(8, .int (x8 + 1)), (0, .ref x0), (1, .int x1), (3, .int x3), (4, .int x4), (5, .int x5), (6, .int x6), (7, .int x7)]) hx hb d_M_share_206 hl (k := 7) rfl rfl (by decide) rfl (fun ls hl => ?_)
        refine lv_goto (tgt := 159) hx hb d_M_share_209 (by decide) ?_
        exact ih _ _ _ _ _ _ _ _ _ _ hf _ _ _ _ _ hs (lv_sub hl [1, 2, 3, 4, 5, 6, 7, 0] rfl)
def fb_M_share_L122 (bs sE : Nat) (REC : HH → Z3 → Nat → Int32 → Int32 → Int32 → Int32 → Option RS) (h : HH) (z : Z3) (x0 : Nat) (x1 : Int32) (x3 : Int32) (x4 : Int32) (x5 : Int32) : Option RS :=
  if 4 ≤ x5 then
    (f_M_share_L221 bs sE FU h z x0 x1 0)
  else
    ((oK h x0 6).bind fun _ =>
    cI (f_M_has bs sE h z x0 x1 x5) fun v19 h17 z18 =>
    if v19 ≤ x3 then
      (f_M_share_L159 bs sE (fun h28 z29 x0_212 x1_212 x3_212 x4_212 x5_212 =>
        REC h28 z29 x0_212 x1_212 x3_212 x4_212 (x5_212 + 1)) FU h17 z18 x0 x1 x3 x4 x5 x3 0 0)
    else
      (if x4 ≤ 0 then
        (f_M_share_L159 bs sE (fun h31 z32 x0_212 x1_212 x3_212 x4_212 x5_212 =>
          REC h31 z32 x0_212 x1_212 x3_212 x4_212 (x5_212 + 1)) FU h17 z18 x0 x1 x3 x4 x5 x3 0 0)
      else
        (f_M_share_L159 bs sE (fun h33 z34 x0_212 x1_212 x3_212 x4_212 x5_212 =>
          REC h33 z34 x0_212 x1_212 x3_212 x4_212 (x5_212 + 1)) FU h17 z18 x0 x1 x3 (x4 + (-1)) x5 (x3 + 1) 0 0)))
def f_M_share_L122 (bs sE : Nat) : Nat → HH → Z3 → Nat → Int32 → Int32 → Int32 → Int32 → Option RS
  | 0 => fun _ _ _ _ _ _ _ => none
  | n + 1 => fb_M_share_L122 bs sE (f_M_share_L122 bs sE n)
set_option maxHeartbeats 4000000 in
set_option maxRecDepth 100000 in
theorem t_M_share_L122 {G : EN} {p : Program} {l : Launch} {e : Env} {s : State} {m : MethodId} {args : Array Value} {below : List Frame} {meth : Method} {c : Code} {z0 : Z3} (hl0 : l.stackTraces = false) (C : CX G p l s m meth c b_M_share 9 y_M_share.cls) (hr : meth.sig.returnType = none) (hex : c.exceptionTable.toList = []) {r : RS} :
    ∀ (n : Nat) (h : HH) (z : Z3) (x0 : Nat) (x1 : Int32) (x3 : Int32) (x4 : Int32) (x5 : Int32), f_M_share_L122 G.2.2.1 G.2.2.2 n h z x0 x1 x3 x4 x5 = some r → ∀ (H : Heap) (locs : List Loc) (cells slots : Nat) (ls : Array Slot), ST G (RM 2 47 z0) s h z H locs cells slots → lv_has ls 9 [(0, .ref x0), (1, .int x1), (3, .int x3), (4, .int x4), (5, .int x5)] → W p l e (RM 2 47 z0) s m args below meth c H locs cells slots (MX G below s r (RM 2 47 z0).cells (RM 2 47 z0).slots) (F0 m 122 ls []) := by
  have hx := C.1
  have hb := C.2.1
  intro n
  induction n with
  | zero => intro h z x0 x1 x3 x4 x5 hf; exact nomatch (show (none : Option RS) = some r from hf)
  | succ n ih =>
    intro h z x0 x1 x3 x4 x5 hf H locs cells slots ls hs hl
    have hf : fb_M_share_L122 G.2.2.1 G.2.2.2 (f_M_share_L122 G.2.2.1 G.2.2.2 n) h z x0 x1 x3 x4 x5 = some r := hf
    unfold fb_M_share_L122 at hf
    refine lv_iload hx hb d_M_share_122 (lv_at hl 4 rfl) ?_
    refine lv_iconst (v := 4) hx hb d_M_share_124 (by decide) ?_
    refine lv_icmp_ge (tgt := 218) hx hb d_M_share_125 (by decide) (fun q7 => ?_) (fun q7 => ?_)
    · have hf := ifp q7 hf
      refine lv_iconst (v := 0) hx hb d_M_share_218 (by decide) ?_
      refine lv_istore (lv' := [(5, .int 0), (0, .ref x0), (1, .int x1), (3, .int x3), (4, .int x4)]) hx hb d_M_share_219 hl (by decide) rfl (fun ls hl => ?_)
      exact t_M_share_L221 hl0 C hr hex FU _ _ _ _ _ hf _ _ _ _ _ hs (lv_sub hl [1, 2, 0] rfl)
    · have hf := ifn q7 hf
      refine lv_iload_n hx hb d_M_share_128 rfl (lv_at hl 2 rfl) ?_
      refine lv_istore (lv' := [(6, .int x3), (0, .ref x0), (1, .int x1), (3, .int x3), (4, .int x4), (5, .int x5)]) hx hb d_M_share_129 hl (by decide) rfl (fun ls hl => ?_)
      refine lv_aload_n hx hb d_M_share_131 rfl (lv_at hl 1 rfl) ?_
      refine lv_iload_n hx hb d_M_share_132 rfl (lv_at hl 2 rfl) ?_
      refine lv_iload hx hb d_M_share_133 (lv_at hl 5 rfl) ?_
      obtain ⟨_, ho, hf⟩ := bd hf
      refine k_I C hs hex hf (fun res e1 => iv_V (b := x0) (As := [.int x1, .int x5]) (rest := []) C hs cv_M_131 (c_M_has hl0 e1) (ci := 6) rfl rfl ho rfl hl.1 rfl (Nat.le_of_ble_eq_true rfl) d_M_share_135 ⟨Nat.le_of_ble_eq_true rfl, Nat.le_of_ble_eq_true rfl⟩) (fun v19 h17 z18 H locs cells slots hf hs => ?_)
      refine lv_iload_n hx hb d_M_share_138 rfl (lv_at hl 3 rfl) ?_
      refine lv_icmp_le (tgt := 153) hx hb d_M_share_139 (by decide) (fun q20 => ?_) (fun q20 => ?_)
      · have hf := ifp q20 hf
        refine lv_iconst (v := 0) hx hb d_M_share_153 (by decide) ?_
        refine lv_istore (lv' := [(7, .int 0), (6, .int x3), (0, .ref x0), (1, .int x1), (3, .int x3), (4, .int x4), (5, .int x5)]) hx hb d_M_share_154 hl (by decide) rfl (fun ls hl => ?_)
        refine lv_iconst (v := 0) hx hb d_M_share_156 (by decide) ?_
        refine lv_istore (lv' := [(8, .int 0), (7, .int 0), (6, .int x3), (0, .ref x0), (1, .int x1), (3, .int x3), (4, .int x4), (5, .int x5)]) hx hb d_M_share_157 hl (by decide) rfl (fun ls hl => ?_)
        refine t_M_share_L159 hl0 C hr hex ?_ FU _ _ _ _ _ _ _ _ _ _ hf _ _ _ _ _ hs (lv_sub hl [3, 4, 5, 6, 7, 2, 1, 0] rfl)
        · intro h28 z29 x0_212 x1_212 x3_212 x4_212 x5_212 hf H locs cells slots ls hs hl
          refine lv_iinc (v := x5_212 + 1) (lv' := [(5, .int (x5_212 + 1)), (0, .ref x0_212), (1, .int x1_212), (3, .int x3_212), (4, .int x4_212)]) hx hb d_M_share_212 hl (k := 4) rfl rfl (by decide) rfl (fun ls hl => ?_)
          refine lv_goto (tgt := 122) hx hb d_M_share_215 (by decide) ?_
          exact ih _ _ _ _ _ _ _ hf _ _ _ _ _ hs (lv_sub hl [1, 2, 3, 4, 0] rfl)
      · have hf := ifn q20 hf
        refine lv_iload hx hb d_M_share_142 (lv_at hl 4 rfl) ?_
        refine lv_if_le (tgt := 153) hx hb d_M_share_144 (by decide) (fun q30 => ?_) (fun q30 => ?_)
        · have hf := ifp q30 hf
          refine lv_iconst (v := 0) hx hb d_M_share_153 (by decide) ?_
          refine lv_istore (lv' := [(7, .int 0), (6, .int x3), (0, .ref x0), (1, .int x1), (3, .int x3), (4, .int x4), (5, .int x5)]) hx hb d_M_share_154 hl (by decide) rfl (fun ls hl => ?_)
          refine lv_iconst (v := 0) hx hb d_M_share_156 (by decide) ?_
          refine lv_istore (lv' := [(8, .int 0), (7, .int 0), (6, .int x3), (0, .ref x0), (1, .int x1), (3, .int x3), (4, .int x4), (5, .int x5)]) hx hb d_M_share_157 hl (by decide) rfl (fun ls hl => ?_)
          refine t_M_share_L159 hl0 C hr hex ?_ FU _ _ _ _ _ _ _ _ _ _ hf _ _ _ _ _ hs (lv_sub hl [3, 4, 5, 6, 7, 2, 1, 0] rfl)
          · intro h31 z32 x0_212 x1_212 x3_212 x4_212 x5_212 hf H locs cells slots ls hs hl
            refine lv_iinc (v := x5_212 + 1) (lv' := [(5, .int (x5_212 + 1)), (0, .ref x0_212), (1, .int x1_212), (3, .int x3_212), (4, .int x4_212)]) hx hb d_M_share_212 hl (k := 4) rfl rfl (by decide) rfl (fun ls hl => ?_)
            refine lv_goto (tgt := 122) hx hb d_M_share_215 (by decide) ?_
            exact ih _ _ _ _ _ _ _ hf _ _ _ _ _ hs (lv_sub hl [1, 2, 3, 4, 0] rfl)
        · have hf := ifn q30 hf
          refine lv_iinc (v := x3 + 1) (lv' := [(6, .int (x3 + 1)), (0, .ref x0), (1, .int x1), (3, .int x3), (4, .int x4), (5, .int x5)]) hx hb d_M_share_147 hl (k := 0) rfl rfl (by decide) rfl (fun ls hl => ?_)
          refine lv_iinc (v := x4 + (-1)) (lv' := [(4, .int (x4 + (-1))), (6, .int (x3 + 1)), (0, .ref x0), (1, .int x1), (3, .int x3), (5, .int x5)]) hx hb d_M_share_150 hl (k := 4) rfl rfl (by decide) rfl (fun ls hl => ?_)
          refine lv_iconst (v := 0) hx hb d_M_share_153 (by decide) ?_
          refine lv_istore (lv' := [(7, .int 0), (4, .int (x4 + (-1))), (6, .int (x3 + 1)), (0, .ref x0), (1, .int x1), (3, .int x3), (5, .int x5)]) hx hb d_M_share_154 hl (by decide) rfl (fun ls hl => ?_)
          refine lv_iconst (v := 0) hx hb d_M_share_156 (by decide) ?_
          refine lv_istore (lv' := [(8, .int 0), (7, .int 0), (4, .int (x4 + (-1))), (6, .int (x3 + 1)), (0, .ref x0), (1, .int x1), (3, .int x3), (5, .int x5)]) hx hb d_M_share_157 hl (by decide) rfl (fun ls hl => ?_)
          refine t_M_share_L159 hl0 C hr hex ?_ FU _ _ _ _ _ _ _ _ _ _ hf _ _ _ _ _ hs (lv_sub hl [4, 5, 6, 2, 7, 3, 1, 0] rfl)
          · intro h33 z34 x0_212 x1_212 x3_212 x4_212 x5_212 hf H locs cells slots ls hs hl
            refine lv_iinc (v := x5_212 + 1) (lv' := [(5, .int (x5_212 + 1)), (0, .ref x0_212), (1, .int x1_212), (3, .int x3_212), (4, .int x4_212)]) hx hb d_M_share_212 hl (k := 4) rfl rfl (by decide) rfl (fun ls hl => ?_)
            refine lv_goto (tgt := 122) hx hb d_M_share_215 (by decide) ?_
            exact ih _ _ _ _ _ _ _ hf _ _ _ _ _ hs (lv_sub hl [1, 2, 3, 4, 0] rfl)
def fb_M_share_L48 (bs sE : Nat) (REC : HH → Z3 → Nat → Int32 → Int32 → Int32 → Option RS) (h : HH) (z : Z3) (x0 : Nat) (x1 : Int32) (x2 : Int32) (x3 : Int32) : Option RS :=
  if 4 ≤ x3 then
    (if x2 = 0 then
      (some (.inl none, h, z))
    else
      (if x2 = 0 then none else
      if x2 = 0 then none else
      f_M_share_L122 bs sE FU h z x0 x1 (4 / x2) (4 - 4 / x2 * x2) 0))
  else
    ((gR h x0 6 20).bind fun v35 =>
    (aI h v35 0 ((4 * x1) + x3)).bind fun v36 =>
    if v36 < 0 then
      (REC h z x0 x1 x2 (x3 + 1))
    else
      ((gR h x0 6 18).bind fun v38 =>
      (gR h x0 6 20).bind fun v39 =>
      (aI h v39 0 ((4 * x1) + x3)).bind fun v40 =>
      (aI h v38 1 ((4 * x1) + v40)).bind fun v41 =>
      if v41 = 0 then
        ((gR h x0 6 20).bind fun v43 =>
        (aIs bs h v43 0 ((4 * x1) + x3) (-1)).bind fun h44 =>
        REC h44 z x0 x1 x2 (x3 + 1))
      else
        (REC h z x0 x1 x2 (x3 + 1))))
def f_M_share_L48 (bs sE : Nat) : Nat → HH → Z3 → Nat → Int32 → Int32 → Int32 → Option RS
  | 0 => fun _ _ _ _ _ _ => none
  | n + 1 => fb_M_share_L48 bs sE (f_M_share_L48 bs sE n)
set_option maxHeartbeats 4000000 in
set_option maxRecDepth 100000 in
theorem t_M_share_L48 {G : EN} {p : Program} {l : Launch} {e : Env} {s : State} {m : MethodId} {args : Array Value} {below : List Frame} {meth : Method} {c : Code} {z0 : Z3} (hl0 : l.stackTraces = false) (C : CX G p l s m meth c b_M_share 9 y_M_share.cls) (hr : meth.sig.returnType = none) (hex : c.exceptionTable.toList = []) {r : RS} :
    ∀ (n : Nat) (h : HH) (z : Z3) (x0 : Nat) (x1 : Int32) (x2 : Int32) (x3 : Int32), f_M_share_L48 G.2.2.1 G.2.2.2 n h z x0 x1 x2 x3 = some r → ∀ (H : Heap) (locs : List Loc) (cells slots : Nat) (ls : Array Slot), ST G (RM 2 47 z0) s h z H locs cells slots → lv_has ls 9 [(0, .ref x0), (1, .int x1), (2, .int x2), (3, .int x3)] → W p l e (RM 2 47 z0) s m args below meth c H locs cells slots (MX G below s r (RM 2 47 z0).cells (RM 2 47 z0).slots) (F0 m 48 ls []) := by
  have hx := C.1
  have hb := C.2.1
  intro n
  induction n with
  | zero => intro h z x0 x1 x2 x3 hf; exact nomatch (show (none : Option RS) = some r from hf)
  | succ n ih =>
    intro h z x0 x1 x2 x3 hf H locs cells slots ls hs hl
    have hf : fb_M_share_L48 G.2.2.1 G.2.2.2 (f_M_share_L48 G.2.2.1 G.2.2.2 n) h z x0 x1 x2 x3 = some r := hf
    unfold fb_M_share_L48 at hf
    refine lv_iload_n hx hb d_M_share_48 rfl (lv_at hl 3 rfl) ?_
    refine lv_iconst (v := 4) hx hb d_M_share_49 (by decide) ?_
    refine lv_icmp_ge (tgt := 105) hx hb d_M_share_50 (by decide) (fun q5 => ?_) (fun q5 => ?_)
    · have hf := ifp q5 hf
      refine lv_iload_n hx hb d_M_share_105 rfl (lv_at hl 2 rfl) ?_
      refine lv_if_ne (tgt := 110) hx hb d_M_share_106 (by decide) (fun q6 => ?_) (fun q6 => ?_)
      · have hf := ifn q6 hf
        refine lv_iconst (v := 4) hx hb d_M_share_110 (by decide) ?_
        refine lv_iload_n hx hb d_M_share_111 rfl (lv_at hl 2 rfl) ?_
        by_cases q0 : x2 = 0
        · exact nomatch (show (none : Option RS) = some r from ifp q0 hf)
        have hf := ifn q0 hf
        refine lv_idiv hx hb d_M_share_112 q0 ?_
        refine lv_istore_n (lv' := [(3, .int (4 / x2)), (0, .ref x0), (1, .int x1), (2, .int x2)]) hx hb d_M_share_113 rfl hl (by decide) rfl (fun ls hl => ?_)
        refine lv_iconst (v := 4) hx hb d_M_share_114 (by decide) ?_
        refine lv_iload_n hx hb d_M_share_115 rfl (lv_at hl 3 rfl) ?_
        by_cases q0 : x2 = 0
        · exact nomatch (show (none : Option RS) = some r from ifp q0 hf)
        have hf := ifn q0 hf
        refine lv_irem hx hb d_M_share_116 q0 ?_
        refine lv_istore (lv' := [(4, .int (4 - 4 / x2 * x2)), (3, .int (4 / x2)), (0, .ref x0), (1, .int x1), (2, .int x2)]) hx hb d_M_share_117 hl (by decide) rfl (fun ls hl => ?_)
        refine lv_iconst (v := 0) hx hb d_M_share_119 (by decide) ?_
        refine lv_istore (lv' := [(5, .int 0), (4, .int (4 - 4 / x2 * x2)), (3, .int (4 / x2)), (0, .ref x0), (1, .int x1), (2, .int x2)]) hx hb d_M_share_120 hl (by decide) rfl (fun ls hl => ?_)
        exact t_M_share_L122 hl0 C hr hex FU _ _ _ _ _ _ _ hf _ _ _ _ _ hs (lv_sub hl [3, 4, 2, 1, 0] rfl)
      · have hf := ifp q6 hf
        exact r_vreturn C hs hr d_M_share_109 hf
    · have hf := ifn q5 hf
      refine lv_aload_n hx hb d_M_share_53 rfl (lv_at hl 0 rfl) ?_
      refine r_getR C hs fl_M_65 d_M_share_54 hf (fun v35 hf => ?_)
      refine lv_iconst (v := 4) hx hb d_M_share_57 (by decide) ?_
      refine lv_iload_n hx hb d_M_share_58 rfl (lv_at hl 1 rfl) ?_
      refine lv_imul hx hb d_M_share_59 ?_
      refine lv_iload_n hx hb d_M_share_60 rfl (lv_at hl 3 rfl) ?_
      refine lv_iadd hx hb d_M_share_61 ?_
      refine r_iald C hs d_M_share_62 hf (fun v36 hf => ?_)
      refine lv_if_lt (tgt := 99) hx hb d_M_share_63 (by decide) (fun q37 => ?_) (fun q37 => ?_)
      · have hf := ifp q37 hf
        refine lv_iinc (v := x3 + 1) (lv' := [(3, .int (x3 + 1)), (0, .ref x0), (1, .int x1), (2, .int x2)]) hx hb d_M_share_99 hl (k := 3) rfl rfl (by decide) rfl (fun ls hl => ?_)
        refine lv_goto (tgt := 48) hx hb d_M_share_102 (by decide) ?_
        exact ih _ _ _ _ _ _ hf _ _ _ _ _ hs (lv_sub hl [1, 2, 3, 0] rfl)
      · have hf := ifn q37 hf
        refine lv_aload_n hx hb d_M_share_66 rfl (lv_at hl 0 rfl) ?_
        refine r_getR C hs fl_M_58 d_M_share_67 hf (fun v38 hf => ?_)
        refine lv_iconst (v := 4) hx hb d_M_share_70 (by decide) ?_
        refine lv_iload_n hx hb d_M_share_71 rfl (lv_at hl 1 rfl) ?_
        refine lv_imul hx hb d_M_share_72 ?_
        refine lv_aload_n hx hb d_M_share_73 rfl (lv_at hl 0 rfl) ?_
        refine r_getR C hs fl_M_65 d_M_share_74 hf (fun v39 hf => ?_)
        refine lv_iconst (v := 4) hx hb d_M_share_77 (by decide) ?_
        refine lv_iload_n hx hb d_M_share_78 rfl (lv_at hl 1 rfl) ?_
        refine lv_imul hx hb d_M_share_79 ?_
        refine lv_iload_n hx hb d_M_share_80 rfl (lv_at hl 3 rfl) ?_
        refine lv_iadd hx hb d_M_share_81 ?_
        refine r_iald C hs d_M_share_82 hf (fun v40 hf => ?_)
        refine lv_iadd hx hb d_M_share_83 ?_
        refine r_zald C hs d_M_share_84 hf (fun v41 hf => ?_)
        refine lv_if_ne (tgt := 99) hx hb d_M_share_85 (by decide) (fun q42 => ?_) (fun q42 => ?_)
        · have hf := ifn q42 hf
          refine lv_iinc (v := x3 + 1) (lv' := [(3, .int (x3 + 1)), (0, .ref x0), (1, .int x1), (2, .int x2)]) hx hb d_M_share_99 hl (k := 3) rfl rfl (by decide) rfl (fun ls hl => ?_)
          refine lv_goto (tgt := 48) hx hb d_M_share_102 (by decide) ?_
          exact ih _ _ _ _ _ _ hf _ _ _ _ _ hs (lv_sub hl [1, 2, 3, 0] rfl)
        · have hf := ifp q42 hf
          refine lv_aload_n hx hb d_M_share_88 rfl (lv_at hl 0 rfl) ?_
          refine r_getR C hs fl_M_65 d_M_share_89 hf (fun v43 hf => ?_)
          refine lv_iconst (v := 4) hx hb d_M_share_92 (by decide) ?_
          refine lv_iload_n hx hb d_M_share_93 rfl (lv_at hl 1 rfl) ?_
          refine lv_imul hx hb d_M_share_94 ?_
          refine lv_iload_n hx hb d_M_share_95 rfl (lv_at hl 3 rfl) ?_
          refine lv_iadd hx hb d_M_share_96 ?_
          refine lv_iconst (v := (-1)) hx hb d_M_share_97 (by decide) ?_
          refine r_iast C hs d_M_share_98 hf (fun h44 H locs hf hs => ?_)
          refine lv_iinc (v := x3 + 1) (lv' := [(3, .int (x3 + 1)), (0, .ref x0), (1, .int x1), (2, .int x2)]) hx hb d_M_share_99 hl (k := 3) rfl rfl (by decide) rfl (fun ls hl => ?_)
          refine lv_goto (tgt := 48) hx hb d_M_share_102 (by decide) ?_
          exact ih _ _ _ _ _ _ hf _ _ _ _ _ hs (lv_sub hl [1, 2, 3, 0] rfl)
def fb_M_share_L14 (bs sE : Nat) (REC : HH → Z3 → Nat → Int32 → Int32 → Int32 → Option RS) (h : HH) (z : Z3) (x0 : Nat) (x1 : Int32) (x2 : Int32) (x3 : Int32) : Option RS :=
  if 4 ≤ x3 then
    (f_M_share_L48 bs sE FU h z x0 x1 x2 0)
  else
    ((gR h x0 6 18).bind fun v45 =>
    (aI h v45 1 ((4 * x1) + x3)).bind fun v46 =>
    if v46 = 0 then
      (REC h z x0 x1 (x2 + 0) (x3 + 1))
    else
      (REC h z x0 x1 (x2 + 1) (x3 + 1)))
def f_M_share_L14 (bs sE : Nat) : Nat → HH → Z3 → Nat → Int32 → Int32 → Int32 → Option RS
  | 0 => fun _ _ _ _ _ _ => none
  | n + 1 => fb_M_share_L14 bs sE (f_M_share_L14 bs sE n)
set_option maxHeartbeats 4000000 in
set_option maxRecDepth 100000 in
theorem t_M_share_L14 {G : EN} {p : Program} {l : Launch} {e : Env} {s : State} {m : MethodId} {args : Array Value} {below : List Frame} {meth : Method} {c : Code} {z0 : Z3} (hl0 : l.stackTraces = false) (C : CX G p l s m meth c b_M_share 9 y_M_share.cls) (hr : meth.sig.returnType = none) (hex : c.exceptionTable.toList = []) {r : RS} :
    ∀ (n : Nat) (h : HH) (z : Z3) (x0 : Nat) (x1 : Int32) (x2 : Int32) (x3 : Int32), f_M_share_L14 G.2.2.1 G.2.2.2 n h z x0 x1 x2 x3 = some r → ∀ (H : Heap) (locs : List Loc) (cells slots : Nat) (ls : Array Slot), ST G (RM 2 47 z0) s h z H locs cells slots → lv_has ls 9 [(0, .ref x0), (1, .int x1), (2, .int x2), (3, .int x3)] → W p l e (RM 2 47 z0) s m args below meth c H locs cells slots (MX G below s r (RM 2 47 z0).cells (RM 2 47 z0).slots) (F0 m 14 ls []) := by
  have hx := C.1
  have hb := C.2.1
  intro n
  induction n with
  | zero => intro h z x0 x1 x2 x3 hf; exact nomatch (show (none : Option RS) = some r from hf)
  | succ n ih =>
    intro h z x0 x1 x2 x3 hf H locs cells slots ls hs hl
    have hf : fb_M_share_L14 G.2.2.1 G.2.2.2 (f_M_share_L14 G.2.2.1 G.2.2.2 n) h z x0 x1 x2 x3 = some r := hf
    unfold fb_M_share_L14 at hf
    refine lv_iload_n hx hb d_M_share_14 rfl (lv_at hl 3 rfl) ?_
    refine lv_iconst (v := 4) hx hb d_M_share_15 (by decide) ?_
    refine lv_icmp_ge (tgt := 46) hx hb d_M_share_16 (by decide) (fun q4 => ?_) (fun q4 => ?_)
    · have hf := ifp q4 hf
      refine lv_iconst (v := 0) hx hb d_M_share_46 (by decide) ?_
      refine lv_istore_n (lv' := [(3, .int 0), (0, .ref x0), (1, .int x1), (2, .int x2)]) hx hb d_M_share_47 rfl hl (by decide) rfl (fun ls hl => ?_)
      exact t_M_share_L48 hl0 C hr hex FU _ _ _ _ _ _ hf _ _ _ _ _ hs (lv_sub hl [1, 2, 3, 0] rfl)
    · have hf := ifn q4 hf
      refine lv_iload_n hx hb d_M_share_19 rfl (lv_at hl 2 rfl) ?_
      refine lv_aload_n hx hb d_M_share_20 rfl (lv_at hl 0 rfl) ?_
      refine r_getR C hs fl_M_58 d_M_share_21 hf (fun v45 hf => ?_)
      refine lv_iconst (v := 4) hx hb d_M_share_24 (by decide) ?_
      refine lv_iload_n hx hb d_M_share_25 rfl (lv_at hl 1 rfl) ?_
      refine lv_imul hx hb d_M_share_26 ?_
      refine lv_iload_n hx hb d_M_share_27 rfl (lv_at hl 3 rfl) ?_
      refine lv_iadd hx hb d_M_share_28 ?_
      refine r_zald C hs d_M_share_29 hf (fun v46 hf => ?_)
      refine lv_if_eq (tgt := 37) hx hb d_M_share_30 (by decide) (fun q47 => ?_) (fun q47 => ?_)
      · have hf := ifp q47 hf
        refine lv_iconst (v := 0) hx hb d_M_share_37 (by decide) ?_
        refine lv_iadd hx hb d_M_share_38 ?_
        refine lv_istore_n (lv' := [(2, .int (x2 + 0)), (0, .ref x0), (1, .int x1), (3, .int x3)]) hx hb d_M_share_39 rfl hl (by decide) rfl (fun ls hl => ?_)
        refine lv_iinc (v := x3 + 1) (lv' := [(3, .int (x3 + 1)), (2, .int (x2 + 0)), (0, .ref x0), (1, .int x1)]) hx hb d_M_share_40 hl (k := 3) rfl rfl (by decide) rfl (fun ls hl => ?_)
        refine lv_goto (tgt := 14) hx hb d_M_share_43 (by decide) ?_
        exact ih _ _ _ _ _ _ hf _ _ _ _ _ hs (lv_sub hl [2, 3, 1, 0] rfl)
      · have hf := ifn q47 hf
        refine lv_iconst (v := 1) hx hb d_M_share_33 (by decide) ?_
        refine lv_goto (tgt := 38) hx hb d_M_share_34 (by decide) ?_
        refine lv_iadd hx hb d_M_share_38 ?_
        refine lv_istore_n (lv' := [(2, .int (x2 + 1)), (0, .ref x0), (1, .int x1), (3, .int x3)]) hx hb d_M_share_39 rfl hl (by decide) rfl (fun ls hl => ?_)
        refine lv_iinc (v := x3 + 1) (lv' := [(3, .int (x3 + 1)), (2, .int (x2 + 1)), (0, .ref x0), (1, .int x1)]) hx hb d_M_share_40 hl (k := 3) rfl rfl (by decide) rfl (fun ls hl => ?_)
        refine lv_goto (tgt := 14) hx hb d_M_share_43 (by decide) ?_
        exact ih _ _ _ _ _ _ hf _ _ _ _ _ hs (lv_sub hl [2, 3, 1, 0] rfl)
def f_M_share (bs sE : Nat) (h : HH) (z : Z3) (x0 : Nat) (x1 : Int32) : Option RS :=
  (gR h x0 6 17).bind fun v1 =>
  (aI h v1 0 x1).bind fun v2 =>
  (aIs bs h v1 0 x1 (v2 + 1)).bind fun h3 =>
  f_M_share_L14 bs sE FU h3 z x0 x1 0 0
set_option maxHeartbeats 4000000 in
set_option maxRecDepth 100000 in
theorem c_M_share {G : EN} {l : Launch} (hl0 : l.stackTraces = false) {h : HH} {z : Z3} {x0 : Nat} {x1 : Int32} {r : RS} (hf : f_M_share G.2.2.1 G.2.2.2 h z x0 x1 = some r) : CM G l y_M_share (.code y_M_share b_M_share 9 none) 2 47 [.ref x0, .int x1] h z r := by
  refine CM.ofW hl0 rfl ?_
  intro p e s m below meth c C hr hex hin hs
  have hx := C.1
  have hb := C.2.1
  refine x_entry (n := 9) (Nat.le_of_ble_eq_true rfl) (fun ls hl => ?_)
  have hl : lv_has ls 9 [(0, .ref x0), (1, .int x1)] := hl
  unfold f_M_share at hf
  refine lv_aload_n hx hb d_M_share_0 rfl (lv_at hl 0 rfl) ?_
  refine r_getR C hs fl_M_55 d_M_share_1 hf (fun v1 hf => ?_)
  refine lv_iload_n hx hb d_M_share_4 rfl (lv_at hl 1 rfl) ?_
  refine lv_dup2_11 hx hb d_M_share_5 rfl rfl ?_
  refine r_iald C hs d_M_share_6 hf (fun v2 hf => ?_)
  refine lv_iconst (v := 1) hx hb d_M_share_7 (by decide) ?_
  refine lv_iadd hx hb d_M_share_8 ?_
  refine r_iast C hs d_M_share_9 hf (fun h3 H locs hf hs => ?_)
  refine lv_iconst (v := 0) hx hb d_M_share_10 (by decide) ?_
  refine lv_istore_n (lv' := [(2, .int 0), (0, .ref x0), (1, .int x1)]) hx hb d_M_share_11 rfl hl (by decide) rfl (fun ls hl => ?_)
  refine lv_iconst (v := 0) hx hb d_M_share_12 (by decide) ?_
  refine lv_istore_n (lv' := [(3, .int 0), (2, .int 0), (0, .ref x0), (1, .int x1)]) hx hb d_M_share_13 rfl hl (by decide) rfl (fun ls hl => ?_)
  exact t_M_share_L14 hl0 C hr hex FU _ _ _ _ _ _ hf _ _ _ _ _ hs (lv_sub hl [2, 3, 1, 0] rfl)
def f_M_join (bs sE : Nat) (h : HH) (z : Z3) (x0 : Nat) (x1 : Int32) (x2 : Int32) : Option RS :=
  (pV bs h x0 6 0 (.inl 0)).bind fun h1 =>
  (oK h1 x0 6).bind fun _ =>
  cI (f_M_out bs sE h1 z x0 x1 2) fun v4 h2 z3 =>
  if v4 = 0 then
    ((oK h2 x0 6).bind fun _ =>
    cI (f_M_out bs sE h2 z3 x0 x2 4) fun v11 h9 z10 =>
    if v11 = 0 then
      ((gR h9 x0 6 18).bind fun v13 =>
      (aI h9 v13 1 ((4 * x1) + x2)).bind fun v14 =>
      if v14 = 0 then
        ((gR h9 x0 6 18).bind fun v16 =>
        (aIs bs h9 v16 1 ((4 * x1) + x2) (vp_nar .boolean 1)).bind fun h17 =>
        (gR h17 x0 6 19).bind fun v18 =>
        (gI h17 x0 6 22).bind fun v19 =>
        (aIs bs h17 v18 0 ((4 * x1) + x2) v19).bind fun h20 =>
        (oK h20 x0 6).bind fun _ =>
        cV (f_M_share bs sE h20 z10 x0 x1) fun h21 z22 =>
        (gR h21 x0 6 17).bind fun v24 =>
        (aI h21 v24 0 x1).bind fun v25 =>
        some (.inl (some (.int v25)), h21, z22))
      else
        ((oK h9 x0 6).bind fun _ =>
        cI (f_M_fail bs sE h9 z10 x0 2) fun v28 h26 z27 =>
        some (.inl (some (.int v28)), h26, z27)))
    else
      ((oK h9 x0 6).bind fun _ =>
      cI (f_M_fail bs sE h9 z10 x0 1) fun v31 h29 z30 =>
      some (.inl (some (.int v31)), h29, z30)))
  else
    ((oK h2 x0 6).bind fun _ =>
    cI (f_M_fail bs sE h2 z3 x0 1) fun v8 h6 z7 =>
    some (.inl (some (.int v8)), h6, z7))
set_option maxHeartbeats 4000000 in
set_option maxRecDepth 100000 in
theorem c_M_join {G : EN} {l : Launch} (hl0 : l.stackTraces = false) {h : HH} {z : Z3} {x0 : Nat} {x1 : Int32} {x2 : Int32} {r : RS} (hf : f_M_join G.2.2.1 G.2.2.2 h z x0 x1 x2 = some r) : CM G l y_M_join (.code y_M_join b_M_join 3 (some .int)) 3 75 [.ref x0, .int x1, .int x2] h z r := by
  refine CM.ofW hl0 rfl ?_
  intro p e s m below meth c C hr hex hin hs
  have hx := C.1
  have hb := C.2.1
  refine x_entry (n := 3) (Nat.le_of_ble_eq_true rfl) (fun ls hl => ?_)
  have hl : lv_has ls 3 [(0, .ref x0), (1, .int x1), (2, .int x2)] := hl
  unfold f_M_join at hf
  refine lv_aload_n hx hb d_M_join_0 rfl (lv_at hl 0 rfl) ?_
  refine lv_iconst (v := 0) hx hb d_M_join_1 (by decide) ?_
  refine r_putV (v := (.inl 0)) C hs flp_M_71 rfl rfl d_M_join_2 hf (fun h1 H locs hf hs => ?_)
  refine lv_aload_n hx hb d_M_join_5 rfl (lv_at hl 0 rfl) ?_
  refine lv_iload_n hx hb d_M_join_6 rfl (lv_at hl 1 rfl) ?_
  refine lv_iconst (v := 2) hx hb d_M_join_7 (by decide) ?_
  obtain ⟨_, ho, hf⟩ := bd hf
  refine k_I C hs hex hf (fun res e1 => iv_V (b := x0) (As := [.int x1, .int 2]) (rest := []) C hs cv_M_83 (c_M_out hl0 e1) (ci := 6) rfl rfl ho rfl hl.1 rfl (Nat.le_of_ble_eq_true rfl) d_M_join_8 ⟨Nat.le_of_ble_eq_true rfl, Nat.le_of_ble_eq_true rfl⟩) (fun v4 h2 z3 H locs cells slots hf hs => ?_)
  refine lv_if_ne (tgt := 23) hx hb d_M_join_11 (by decide) (fun q5 => ?_) (fun q5 => ?_)
  · have hf := ifn q5 hf
    refine lv_aload_n hx hb d_M_join_23 rfl (lv_at hl 0 rfl) ?_
    refine lv_iconst (v := 1) hx hb d_M_join_24 (by decide) ?_
    obtain ⟨_, ho, hf⟩ := bd hf
    refine k_I C hs hex hf (fun res e1 => iv_V (b := x0) (As := [.int 1]) (rest := []) C hs cv_M_86 (c_M_fail hl0 e1) (ci := 6) rfl rfl ho rfl hl.1 rfl (Nat.le_of_ble_eq_true rfl) d_M_join_25 ⟨Nat.le_of_ble_eq_true rfl, Nat.le_of_ble_eq_true rfl⟩) (fun v8 h6 z7 H locs cells slots hf hs => ?_)
    exact r_ireturn C hs hr d_M_join_28 hf
  · have hf := ifp q5 hf
    refine lv_aload_n hx hb d_M_join_14 rfl (lv_at hl 0 rfl) ?_
    refine lv_iload_n hx hb d_M_join_15 rfl (lv_at hl 2 rfl) ?_
    refine lv_iconst (v := 4) hx hb d_M_join_16 (by decide) ?_
    obtain ⟨_, ho, hf⟩ := bd hf
    refine k_I C hs hex hf (fun res e1 => iv_V (b := x0) (As := [.int x2, .int 4]) (rest := []) C hs cv_M_83 (c_M_out hl0 e1) (ci := 6) rfl rfl ho rfl hl.1 rfl (Nat.le_of_ble_eq_true rfl) d_M_join_17 ⟨Nat.le_of_ble_eq_true rfl, Nat.le_of_ble_eq_true rfl⟩) (fun v11 h9 z10 H locs cells slots hf hs => ?_)
    refine lv_if_eq (tgt := 29) hx hb d_M_join_20 (by decide) (fun q12 => ?_) (fun q12 => ?_)
    · have hf := ifp q12 hf
      refine lv_aload_n hx hb d_M_join_29 rfl (lv_at hl 0 rfl) ?_
      refine r_getR C hs fl_M_58 d_M_join_30 hf (fun v13 hf => ?_)
      refine lv_iconst (v := 4) hx hb d_M_join_33 (by decide) ?_
      refine lv_iload_n hx hb d_M_join_34 rfl (lv_at hl 1 rfl) ?_
      refine lv_imul hx hb d_M_join_35 ?_
      refine lv_iload_n hx hb d_M_join_36 rfl (lv_at hl 2 rfl) ?_
      refine lv_iadd hx hb d_M_join_37 ?_
      refine r_zald C hs d_M_join_38 hf (fun v14 hf => ?_)
      refine lv_if_eq (tgt := 48) hx hb d_M_join_39 (by decide) (fun q15 => ?_) (fun q15 => ?_)
      · have hf := ifp q15 hf
        refine lv_aload_n hx hb d_M_join_48 rfl (lv_at hl 0 rfl) ?_
        refine r_getR C hs fl_M_58 d_M_join_49 hf (fun v16 hf => ?_)
        refine lv_iconst (v := 4) hx hb d_M_join_52 (by decide) ?_
        refine lv_iload_n hx hb d_M_join_53 rfl (lv_at hl 1 rfl) ?_
        refine lv_imul hx hb d_M_join_54 ?_
        refine lv_iload_n hx hb d_M_join_55 rfl (lv_at hl 2 rfl) ?_
        refine lv_iadd hx hb d_M_join_56 ?_
        refine lv_iconst (v := 1) hx hb d_M_join_57 (by decide) ?_
        refine r_zast C hs d_M_join_58 hf (fun h17 H locs hf hs => ?_)
        refine lv_aload_n hx hb d_M_join_59 rfl (lv_at hl 0 rfl) ?_
        refine r_getR C hs fl_M_62 d_M_join_60 hf (fun v18 hf => ?_)
        refine lv_iconst (v := 4) hx hb d_M_join_63 (by decide) ?_
        refine lv_iload_n hx hb d_M_join_64 rfl (lv_at hl 1 rfl) ?_
        refine lv_imul hx hb d_M_join_65 ?_
        refine lv_iload_n hx hb d_M_join_66 rfl (lv_at hl 2 rfl) ?_
        refine lv_iadd hx hb d_M_join_67 ?_
        refine lv_aload_n hx hb d_M_join_68 rfl (lv_at hl 0 rfl) ?_
        refine r_getI C hs fl_M_101 d_M_join_69 hf (fun v19 hf => ?_)
        refine r_iast C hs d_M_join_72 hf (fun h20 H locs hf hs => ?_)
        refine lv_aload_n hx hb d_M_join_73 rfl (lv_at hl 0 rfl) ?_
        refine lv_iload_n hx hb d_M_join_74 rfl (lv_at hl 1 rfl) ?_
        obtain ⟨_, ho, hf⟩ := bd hf
        refine k_V C hs hex hf (fun res e1 => iv_V (b := x0) (As := [.int x1]) (rest := []) C hs cv_M_137 (c_M_share hl0 e1) (ci := 6) rfl rfl ho rfl hl.1 rfl (Nat.le_of_ble_eq_true rfl) d_M_join_75 ⟨Nat.le_of_ble_eq_true rfl, Nat.le_of_ble_eq_true rfl⟩) (fun h21 z22 H locs cells slots hf hs => ?_)
        refine lv_aload_n hx hb d_M_join_78 rfl (lv_at hl 0 rfl) ?_
        refine r_getR C hs fl_M_55 d_M_join_79 hf (fun v24 hf => ?_)
        refine lv_iload_n hx hb d_M_join_82 rfl (lv_at hl 1 rfl) ?_
        refine r_iald C hs d_M_join_83 hf (fun v25 hf => ?_)
        exact r_ireturn C hs hr d_M_join_84 hf
      · have hf := ifn q15 hf
        refine lv_aload_n hx hb d_M_join_42 rfl (lv_at hl 0 rfl) ?_
        refine lv_iconst (v := 2) hx hb d_M_join_43 (by decide) ?_
        obtain ⟨_, ho, hf⟩ := bd hf
        refine k_I C hs hex hf (fun res e1 => iv_V (b := x0) (As := [.int 2]) (rest := []) C hs cv_M_86 (c_M_fail hl0 e1) (ci := 6) rfl rfl ho rfl hl.1 rfl (Nat.le_of_ble_eq_true rfl) d_M_join_44 ⟨Nat.le_of_ble_eq_true rfl, Nat.le_of_ble_eq_true rfl⟩) (fun v28 h26 z27 H locs cells slots hf hs => ?_)
        exact r_ireturn C hs hr d_M_join_47 hf
    · have hf := ifn q12 hf
      refine lv_aload_n hx hb d_M_join_23 rfl (lv_at hl 0 rfl) ?_
      refine lv_iconst (v := 1) hx hb d_M_join_24 (by decide) ?_
      obtain ⟨_, ho, hf⟩ := bd hf
      refine k_I C hs hex hf (fun res e1 => iv_V (b := x0) (As := [.int 1]) (rest := []) C hs cv_M_86 (c_M_fail hl0 e1) (ci := 6) rfl rfl ho rfl hl.1 rfl (Nat.le_of_ble_eq_true rfl) d_M_join_25 ⟨Nat.le_of_ble_eq_true rfl, Nat.le_of_ble_eq_true rfl⟩) (fun v31 h29 z30 H locs cells slots hf hs => ?_)
      exact r_ireturn C hs hr d_M_join_28 hf
def f_M_leave (bs sE : Nat) (h : HH) (z : Z3) (x0 : Nat) (x1 : Int32) (x2 : Int32) : Option RS :=
  (pV bs h x0 6 0 (.inl 0)).bind fun h1 =>
  (oK h1 x0 6).bind fun _ =>
  cI (f_M_out bs sE h1 z x0 x1 2) fun v4 h2 z3 =>
  if v4 = 0 then
    ((oK h2 x0 6).bind fun _ =>
    cI (f_M_out bs sE h2 z3 x0 x2 4) fun v11 h9 z10 =>
    if v11 = 0 then
      ((gR h9 x0 6 18).bind fun v13 =>
      (aI h9 v13 1 ((4 * x1) + x2)).bind fun v14 =>
      if v14 = 0 then
        ((oK h9 x0 6).bind fun _ =>
        cI (f_M_fail bs sE h9 z10 x0 2) fun v25 h23 z24 =>
        some (.inl (some (.int v25)), h23, z24))
      else
        ((gR h9 x0 6 18).bind fun v16 =>
        (aIs bs h9 v16 1 ((4 * x1) + x2) (vp_nar .boolean 0)).bind fun h17 =>
        (oK h17 x0 6).bind fun _ =>
        cV (f_M_share bs sE h17 z10 x0 x1) fun h18 z19 =>
        (gR h18 x0 6 17).bind fun v21 =>
        (aI h18 v21 0 x1).bind fun v22 =>
        some (.inl (some (.int v22)), h18, z19)))
    else
      ((oK h9 x0 6).bind fun _ =>
      cI (f_M_fail bs sE h9 z10 x0 1) fun v28 h26 z27 =>
      some (.inl (some (.int v28)), h26, z27)))
  else
    ((oK h2 x0 6).bind fun _ =>
    cI (f_M_fail bs sE h2 z3 x0 1) fun v8 h6 z7 =>
    some (.inl (some (.int v8)), h6, z7))
set_option maxHeartbeats 4000000 in
set_option maxRecDepth 100000 in
theorem c_M_leave {G : EN} {l : Launch} (hl0 : l.stackTraces = false) {h : HH} {z : Z3} {x0 : Nat} {x1 : Int32} {x2 : Int32} {r : RS} (hf : f_M_leave G.2.2.1 G.2.2.2 h z x0 x1 x2 = some r) : CM G l y_M_leave (.code y_M_leave b_M_leave 3 (some .int)) 3 75 [.ref x0, .int x1, .int x2] h z r := by
  refine CM.ofW hl0 rfl ?_
  intro p e s m below meth c C hr hex hin hs
  have hx := C.1
  have hb := C.2.1
  refine x_entry (n := 3) (Nat.le_of_ble_eq_true rfl) (fun ls hl => ?_)
  have hl : lv_has ls 3 [(0, .ref x0), (1, .int x1), (2, .int x2)] := hl
  unfold f_M_leave at hf
  refine lv_aload_n hx hb d_M_leave_0 rfl (lv_at hl 0 rfl) ?_
  refine lv_iconst (v := 0) hx hb d_M_leave_1 (by decide) ?_
  refine r_putV (v := (.inl 0)) C hs flp_M_71 rfl rfl d_M_leave_2 hf (fun h1 H locs hf hs => ?_)
  refine lv_aload_n hx hb d_M_leave_5 rfl (lv_at hl 0 rfl) ?_
  refine lv_iload_n hx hb d_M_leave_6 rfl (lv_at hl 1 rfl) ?_
  refine lv_iconst (v := 2) hx hb d_M_leave_7 (by decide) ?_
  obtain ⟨_, ho, hf⟩ := bd hf
  refine k_I C hs hex hf (fun res e1 => iv_V (b := x0) (As := [.int x1, .int 2]) (rest := []) C hs cv_M_83 (c_M_out hl0 e1) (ci := 6) rfl rfl ho rfl hl.1 rfl (Nat.le_of_ble_eq_true rfl) d_M_leave_8 ⟨Nat.le_of_ble_eq_true rfl, Nat.le_of_ble_eq_true rfl⟩) (fun v4 h2 z3 H locs cells slots hf hs => ?_)
  refine lv_if_ne (tgt := 23) hx hb d_M_leave_11 (by decide) (fun q5 => ?_) (fun q5 => ?_)
  · have hf := ifn q5 hf
    refine lv_aload_n hx hb d_M_leave_23 rfl (lv_at hl 0 rfl) ?_
    refine lv_iconst (v := 1) hx hb d_M_leave_24 (by decide) ?_
    obtain ⟨_, ho, hf⟩ := bd hf
    refine k_I C hs hex hf (fun res e1 => iv_V (b := x0) (As := [.int 1]) (rest := []) C hs cv_M_86 (c_M_fail hl0 e1) (ci := 6) rfl rfl ho rfl hl.1 rfl (Nat.le_of_ble_eq_true rfl) d_M_leave_25 ⟨Nat.le_of_ble_eq_true rfl, Nat.le_of_ble_eq_true rfl⟩) (fun v8 h6 z7 H locs cells slots hf hs => ?_)
    exact r_ireturn C hs hr d_M_leave_28 hf
  · have hf := ifp q5 hf
    refine lv_aload_n hx hb d_M_leave_14 rfl (lv_at hl 0 rfl) ?_
    refine lv_iload_n hx hb d_M_leave_15 rfl (lv_at hl 2 rfl) ?_
    refine lv_iconst (v := 4) hx hb d_M_leave_16 (by decide) ?_
    obtain ⟨_, ho, hf⟩ := bd hf
    refine k_I C hs hex hf (fun res e1 => iv_V (b := x0) (As := [.int x2, .int 4]) (rest := []) C hs cv_M_83 (c_M_out hl0 e1) (ci := 6) rfl rfl ho rfl hl.1 rfl (Nat.le_of_ble_eq_true rfl) d_M_leave_17 ⟨Nat.le_of_ble_eq_true rfl, Nat.le_of_ble_eq_true rfl⟩) (fun v11 h9 z10 H locs cells slots hf hs => ?_)
    refine lv_if_eq (tgt := 29) hx hb d_M_leave_20 (by decide) (fun q12 => ?_) (fun q12 => ?_)
    · have hf := ifp q12 hf
      refine lv_aload_n hx hb d_M_leave_29 rfl (lv_at hl 0 rfl) ?_
      refine r_getR C hs fl_M_58 d_M_leave_30 hf (fun v13 hf => ?_)
      refine lv_iconst (v := 4) hx hb d_M_leave_33 (by decide) ?_
      refine lv_iload_n hx hb d_M_leave_34 rfl (lv_at hl 1 rfl) ?_
      refine lv_imul hx hb d_M_leave_35 ?_
      refine lv_iload_n hx hb d_M_leave_36 rfl (lv_at hl 2 rfl) ?_
      refine lv_iadd hx hb d_M_leave_37 ?_
      refine r_zald C hs d_M_leave_38 hf (fun v14 hf => ?_)
      refine lv_if_ne (tgt := 48) hx hb d_M_leave_39 (by decide) (fun q15 => ?_) (fun q15 => ?_)
      · have hf := ifn q15 hf
        refine lv_aload_n hx hb d_M_leave_48 rfl (lv_at hl 0 rfl) ?_
        refine r_getR C hs fl_M_58 d_M_leave_49 hf (fun v16 hf => ?_)
        refine lv_iconst (v := 4) hx hb d_M_leave_52 (by decide) ?_
        refine lv_iload_n hx hb d_M_leave_53 rfl (lv_at hl 1 rfl) ?_
        refine lv_imul hx hb d_M_leave_54 ?_
        refine lv_iload_n hx hb d_M_leave_55 rfl (lv_at hl 2 rfl) ?_
        refine lv_iadd hx hb d_M_leave_56 ?_
        refine lv_iconst (v := 0) hx hb d_M_leave_57 (by decide) ?_
        refine r_zast C hs d_M_leave_58 hf (fun h17 H locs hf hs => ?_)
        refine lv_aload_n hx hb d_M_leave_59 rfl (lv_at hl 0 rfl) ?_
        refine lv_iload_n hx hb d_M_leave_60 rfl (lv_at hl 1 rfl) ?_
        obtain ⟨_, ho, hf⟩ := bd hf
        refine k_V C hs hex hf (fun res e1 => iv_V (b := x0) (As := [.int x1]) (rest := []) C hs cv_M_137 (c_M_share hl0 e1) (ci := 6) rfl rfl ho rfl hl.1 rfl (Nat.le_of_ble_eq_true rfl) d_M_leave_61 ⟨Nat.le_of_ble_eq_true rfl, Nat.le_of_ble_eq_true rfl⟩) (fun h18 z19 H locs cells slots hf hs => ?_)
        refine lv_aload_n hx hb d_M_leave_64 rfl (lv_at hl 0 rfl) ?_
        refine r_getR C hs fl_M_55 d_M_leave_65 hf (fun v21 hf => ?_)
        refine lv_iload_n hx hb d_M_leave_68 rfl (lv_at hl 1 rfl) ?_
        refine r_iald C hs d_M_leave_69 hf (fun v22 hf => ?_)
        exact r_ireturn C hs hr d_M_leave_70 hf
      · have hf := ifp q15 hf
        refine lv_aload_n hx hb d_M_leave_42 rfl (lv_at hl 0 rfl) ?_
        refine lv_iconst (v := 2) hx hb d_M_leave_43 (by decide) ?_
        obtain ⟨_, ho, hf⟩ := bd hf
        refine k_I C hs hex hf (fun res e1 => iv_V (b := x0) (As := [.int 2]) (rest := []) C hs cv_M_86 (c_M_fail hl0 e1) (ci := 6) rfl rfl ho rfl hl.1 rfl (Nat.le_of_ble_eq_true rfl) d_M_leave_44 ⟨Nat.le_of_ble_eq_true rfl, Nat.le_of_ble_eq_true rfl⟩) (fun v25 h23 z24 H locs cells slots hf hs => ?_)
        exact r_ireturn C hs hr d_M_leave_47 hf
    · have hf := ifn q12 hf
      refine lv_aload_n hx hb d_M_leave_23 rfl (lv_at hl 0 rfl) ?_
      refine lv_iconst (v := 1) hx hb d_M_leave_24 (by decide) ?_
      obtain ⟨_, ho, hf⟩ := bd hf
      refine k_I C hs hex hf (fun res e1 => iv_V (b := x0) (As := [.int 1]) (rest := []) C hs cv_M_86 (c_M_fail hl0 e1) (ci := 6) rfl rfl ho rfl hl.1 rfl (Nat.le_of_ble_eq_true rfl) d_M_leave_25 ⟨Nat.le_of_ble_eq_true rfl, Nat.le_of_ble_eq_true rfl⟩) (fun v28 h26 z27 H locs cells slots hf hs => ?_)
      exact r_ireturn C hs hr d_M_leave_28 hf
def fb_M_beat_L84 (bs sE : Nat) (REC : HH → Z3 → Nat → Int32 → Int32 → Int32 → Int32 → Option RS) (h : HH) (z : Z3) (x0 : Nat) (x1 : Int32) (x2 : Int32) (x4 : Int32) (x5 : Int32) : Option RS :=
  if 4 ≤ x5 then
    (some (.inl (some (.int x4)), h, z))
  else
    ((gR h x0 6 20).bind fun v23 =>
    (aI h v23 0 ((4 * x1) + x5)).bind fun v24 =>
    if v24 = x2 then
      (REC h z x0 x1 x2 (x4 ||| (1 <<< (x5 &&& 31))) (x5 + 1))
    else
      (REC h z x0 x1 x2 (x4 ||| 0) (x5 + 1)))
def f_M_beat_L84 (bs sE : Nat) : Nat → HH → Z3 → Nat → Int32 → Int32 → Int32 → Int32 → Option RS
  | 0 => fun _ _ _ _ _ _ _ => none
  | n + 1 => fb_M_beat_L84 bs sE (f_M_beat_L84 bs sE n)
set_option maxHeartbeats 4000000 in
set_option maxRecDepth 100000 in
theorem t_M_beat_L84 {G : EN} {p : Program} {l : Launch} {e : Env} {s : State} {m : MethodId} {args : Array Value} {below : List Frame} {meth : Method} {c : Code} {z0 : Z3} (hl0 : l.stackTraces = false) (C : CX G p l s m meth c b_M_beat 6 y_M_beat.cls) (hr : meth.sig.returnType = (some .int)) (hex : c.exceptionTable.toList = []) {r : RS} :
    ∀ (n : Nat) (h : HH) (z : Z3) (x0 : Nat) (x1 : Int32) (x2 : Int32) (x4 : Int32) (x5 : Int32), f_M_beat_L84 G.2.2.1 G.2.2.2 n h z x0 x1 x2 x4 x5 = some r → ∀ (H : Heap) (locs : List Loc) (cells slots : Nat) (ls : Array Slot), ST G (RM 1 22 z0) s h z H locs cells slots → lv_has ls 6 [(0, .ref x0), (1, .int x1), (2, .int x2), (4, .int x4), (5, .int x5)] → W p l e (RM 1 22 z0) s m args below meth c H locs cells slots (MX G below s r (RM 1 22 z0).cells (RM 1 22 z0).slots) (F0 m 84 ls []) := by
  have hx := C.1
  have hb := C.2.1
  intro n
  induction n with
  | zero => intro h z x0 x1 x2 x4 x5 hf; exact nomatch (show (none : Option RS) = some r from hf)
  | succ n ih =>
    intro h z x0 x1 x2 x4 x5 hf H locs cells slots ls hs hl
    have hf : fb_M_beat_L84 G.2.2.1 G.2.2.2 (f_M_beat_L84 G.2.2.1 G.2.2.2 n) h z x0 x1 x2 x4 x5 = some r := hf
    unfold fb_M_beat_L84 at hf
    refine lv_iload hx hb d_M_beat_84 (lv_at hl 4 rfl) ?_
    refine lv_iconst (v := 4) hx hb d_M_beat_86 (by decide) ?_
    refine lv_icmp_ge (tgt := 124) hx hb d_M_beat_87 (by decide) (fun q22 => ?_) (fun q22 => ?_)
    · have hf := ifp q22 hf
      refine lv_iload hx hb d_M_beat_124 (lv_at hl 3 rfl) ?_
      exact r_ireturn C hs hr d_M_beat_126 hf
    · have hf := ifn q22 hf
      refine lv_iload hx hb d_M_beat_90 (lv_at hl 3 rfl) ?_
      refine lv_aload_n hx hb d_M_beat_92 rfl (lv_at hl 0 rfl) ?_
      refine r_getR C hs fl_M_65 d_M_beat_93 hf (fun v23 hf => ?_)
      refine lv_iconst (v := 4) hx hb d_M_beat_96 (by decide) ?_
      refine lv_iload_n hx hb d_M_beat_97 rfl (lv_at hl 1 rfl) ?_
      refine lv_imul hx hb d_M_beat_98 ?_
      refine lv_iload hx hb d_M_beat_99 (lv_at hl 4 rfl) ?_
      refine lv_iadd hx hb d_M_beat_101 ?_
      refine r_iald C hs d_M_beat_102 hf (fun v24 hf => ?_)
      refine lv_iload_n hx hb d_M_beat_103 rfl (lv_at hl 2 rfl) ?_
      refine lv_icmp_ne (tgt := 114) hx hb d_M_beat_104 (by decide) (fun q25 => ?_) (fun q25 => ?_)
      · have hf := ifn q25 hf
        refine lv_iconst (v := 0) hx hb d_M_beat_114 (by decide) ?_
        refine lv_ior hx hb d_M_beat_115 ?_
        refine lv_istore (lv' := [(4, .int (x4 ||| 0)), (0, .ref x0), (1, .int x1), (2, .int x2), (5, .int x5)]) hx hb d_M_beat_116 hl (by decide) rfl (fun ls hl => ?_)
        refine lv_iinc (v := x5 + 1) (lv' := [(5, .int (x5 + 1)), (4, .int (x4 ||| 0)), (0, .ref x0), (1, .int x1), (2, .int x2)]) hx hb d_M_beat_118 hl (k := 4) rfl rfl (by decide) rfl (fun ls hl => ?_)
        refine lv_goto (tgt := 84) hx hb d_M_beat_121 (by decide) ?_
        exact ih _ _ _ _ _ _ _ hf _ _ _ _ _ hs (lv_sub hl [2, 3, 4, 1, 0] rfl)
      · have hf := ifp q25 hf
        refine lv_iconst (v := 1) hx hb d_M_beat_107 (by decide) ?_
        refine lv_iload hx hb d_M_beat_108 (lv_at hl 4 rfl) ?_
        refine lv_ishl hx hb d_M_beat_110 ?_
        refine lv_goto (tgt := 115) hx hb d_M_beat_111 (by decide) ?_
        refine lv_ior hx hb d_M_beat_115 ?_
        refine lv_istore (lv' := [(4, .int (x4 ||| (1 <<< (x5 &&& 31)))), (0, .ref x0), (1, .int x1), (2, .int x2), (5, .int x5)]) hx hb d_M_beat_116 hl (by decide) rfl (fun ls hl => ?_)
        refine lv_iinc (v := x5 + 1) (lv' := [(5, .int (x5 + 1)), (4, .int (x4 ||| (1 <<< (x5 &&& 31)))), (0, .ref x0), (1, .int x1), (2, .int x2)]) hx hb d_M_beat_118 hl (k := 4) rfl rfl (by decide) rfl (fun ls hl => ?_)
        refine lv_goto (tgt := 84) hx hb d_M_beat_121 (by decide) ?_
        exact ih _ _ _ _ _ _ _ hf _ _ _ _ _ hs (lv_sub hl [2, 3, 4, 1, 0] rfl)
def f_M_beat (bs sE : Nat) (h : HH) (z : Z3) (x0 : Nat) (x1 : Int32) (x2 : Int32) (x3 : Int32) : Option RS :=
  (pV bs h x0 6 0 (.inl 0)).bind fun h1 =>
  (oK h1 x0 6).bind fun _ =>
  cI (f_M_out bs sE h1 z x0 x1 2) fun v4 h2 z3 =>
  if v4 = 0 then
    ((oK h2 x0 6).bind fun _ =>
    cI (f_M_out bs sE h2 z3 x0 x2 4) fun v11 h9 z10 =>
    if v11 = 0 then
      ((gR h9 x0 6 18).bind fun v13 =>
      (aI h9 v13 1 ((4 * x1) + x2)).bind fun v14 =>
      if v14 = 0 then
        ((oK h9 x0 6).bind fun _ =>
        cI (f_M_fail bs sE h9 z10 x0 2) fun v31 h29 z30 =>
        some (.inl (some (.int v31)), h29, z30))
      else
        ((gR h9 x0 6 17).bind fun v16 =>
        (aI h9 v16 0 x1).bind fun v17 =>
        if x3 = v17 then
          ((gR h9 x0 6 19).bind fun v19 =>
          (gI h9 x0 6 22).bind fun v20 =>
          (aIs bs h9 v19 0 ((4 * x1) + x2) v20).bind fun h21 =>
          f_M_beat_L84 bs sE FU h21 z10 x0 x1 x2 0 0)
        else
          ((oK h9 x0 6).bind fun _ =>
          cI (f_M_fail bs sE h9 z10 x0 3) fun v28 h26 z27 =>
          some (.inl (some (.int v28)), h26, z27))))
    else
      ((oK h9 x0 6).bind fun _ =>
      cI (f_M_fail bs sE h9 z10 x0 1) fun v34 h32 z33 =>
      some (.inl (some (.int v34)), h32, z33)))
  else
    ((oK h2 x0 6).bind fun _ =>
    cI (f_M_fail bs sE h2 z3 x0 1) fun v8 h6 z7 =>
    some (.inl (some (.int v8)), h6, z7))
set_option maxHeartbeats 4000000 in
set_option maxRecDepth 100000 in
theorem c_M_beat {G : EN} {l : Launch} (hl0 : l.stackTraces = false) {h : HH} {z : Z3} {x0 : Nat} {x1 : Int32} {x2 : Int32} {x3 : Int32} {r : RS} (hf : f_M_beat G.2.2.1 G.2.2.2 h z x0 x1 x2 x3 = some r) : CM G l y_M_beat (.code y_M_beat b_M_beat 6 (some .int)) 1 22 [.ref x0, .int x1, .int x2, .int x3] h z r := by
  refine CM.ofW hl0 rfl ?_
  intro p e s m below meth c C hr hex hin hs
  have hx := C.1
  have hb := C.2.1
  refine x_entry (n := 6) (Nat.le_of_ble_eq_true rfl) (fun ls hl => ?_)
  have hl : lv_has ls 6 [(0, .ref x0), (1, .int x1), (2, .int x2), (3, .int x3)] := hl
  unfold f_M_beat at hf
  refine lv_aload_n hx hb d_M_beat_0 rfl (lv_at hl 0 rfl) ?_
  refine lv_iconst (v := 0) hx hb d_M_beat_1 (by decide) ?_
  refine r_putV (v := (.inl 0)) C hs flp_M_71 rfl rfl d_M_beat_2 hf (fun h1 H locs hf hs => ?_)
  refine lv_aload_n hx hb d_M_beat_5 rfl (lv_at hl 0 rfl) ?_
  refine lv_iload_n hx hb d_M_beat_6 rfl (lv_at hl 1 rfl) ?_
  refine lv_iconst (v := 2) hx hb d_M_beat_7 (by decide) ?_
  obtain ⟨_, ho, hf⟩ := bd hf
  refine k_I C hs hex hf (fun res e1 => iv_V (b := x0) (As := [.int x1, .int 2]) (rest := []) C hs cv_M_83 (c_M_out hl0 e1) (ci := 6) rfl rfl ho rfl hl.1 rfl (Nat.le_of_ble_eq_true rfl) d_M_beat_8 ⟨Nat.le_of_ble_eq_true rfl, Nat.le_of_ble_eq_true rfl⟩) (fun v4 h2 z3 H locs cells slots hf hs => ?_)
  refine lv_if_ne (tgt := 23) hx hb d_M_beat_11 (by decide) (fun q5 => ?_) (fun q5 => ?_)
  · have hf := ifn q5 hf
    refine lv_aload_n hx hb d_M_beat_23 rfl (lv_at hl 0 rfl) ?_
    refine lv_iconst (v := 1) hx hb d_M_beat_24 (by decide) ?_
    obtain ⟨_, ho, hf⟩ := bd hf
    refine k_I C hs hex hf (fun res e1 => iv_V (b := x0) (As := [.int 1]) (rest := []) C hs cv_M_86 (c_M_fail hl0 e1) (ci := 6) rfl rfl ho rfl hl.1 rfl (Nat.le_of_ble_eq_true rfl) d_M_beat_25 ⟨Nat.le_of_ble_eq_true rfl, Nat.le_of_ble_eq_true rfl⟩) (fun v8 h6 z7 H locs cells slots hf hs => ?_)
    exact r_ireturn C hs hr d_M_beat_28 hf
  · have hf := ifp q5 hf
    refine lv_aload_n hx hb d_M_beat_14 rfl (lv_at hl 0 rfl) ?_
    refine lv_iload_n hx hb d_M_beat_15 rfl (lv_at hl 2 rfl) ?_
    refine lv_iconst (v := 4) hx hb d_M_beat_16 (by decide) ?_
    obtain ⟨_, ho, hf⟩ := bd hf
    refine k_I C hs hex hf (fun res e1 => iv_V (b := x0) (As := [.int x2, .int 4]) (rest := []) C hs cv_M_83 (c_M_out hl0 e1) (ci := 6) rfl rfl ho rfl hl.1 rfl (Nat.le_of_ble_eq_true rfl) d_M_beat_17 ⟨Nat.le_of_ble_eq_true rfl, Nat.le_of_ble_eq_true rfl⟩) (fun v11 h9 z10 H locs cells slots hf hs => ?_)
    refine lv_if_eq (tgt := 29) hx hb d_M_beat_20 (by decide) (fun q12 => ?_) (fun q12 => ?_)
    · have hf := ifp q12 hf
      refine lv_aload_n hx hb d_M_beat_29 rfl (lv_at hl 0 rfl) ?_
      refine r_getR C hs fl_M_58 d_M_beat_30 hf (fun v13 hf => ?_)
      refine lv_iconst (v := 4) hx hb d_M_beat_33 (by decide) ?_
      refine lv_iload_n hx hb d_M_beat_34 rfl (lv_at hl 1 rfl) ?_
      refine lv_imul hx hb d_M_beat_35 ?_
      refine lv_iload_n hx hb d_M_beat_36 rfl (lv_at hl 2 rfl) ?_
      refine lv_iadd hx hb d_M_beat_37 ?_
      refine r_zald C hs d_M_beat_38 hf (fun v14 hf => ?_)
      refine lv_if_ne (tgt := 48) hx hb d_M_beat_39 (by decide) (fun q15 => ?_) (fun q15 => ?_)
      · have hf := ifn q15 hf
        refine lv_iload_n hx hb d_M_beat_48 rfl (lv_at hl 3 rfl) ?_
        refine lv_aload_n hx hb d_M_beat_49 rfl (lv_at hl 0 rfl) ?_
        refine r_getR C hs fl_M_55 d_M_beat_50 hf (fun v16 hf => ?_)
        refine lv_iload_n hx hb d_M_beat_53 rfl (lv_at hl 1 rfl) ?_
        refine r_iald C hs d_M_beat_54 hf (fun v17 hf => ?_)
        refine lv_icmp_eq (tgt := 64) hx hb d_M_beat_55 (by decide) (fun q18 => ?_) (fun q18 => ?_)
        · have hf := ifp q18 hf
          refine lv_aload_n hx hb d_M_beat_64 rfl (lv_at hl 0 rfl) ?_
          refine r_getR C hs fl_M_62 d_M_beat_65 hf (fun v19 hf => ?_)
          refine lv_iconst (v := 4) hx hb d_M_beat_68 (by decide) ?_
          refine lv_iload_n hx hb d_M_beat_69 rfl (lv_at hl 1 rfl) ?_
          refine lv_imul hx hb d_M_beat_70 ?_
          refine lv_iload_n hx hb d_M_beat_71 rfl (lv_at hl 2 rfl) ?_
          refine lv_iadd hx hb d_M_beat_72 ?_
          refine lv_aload_n hx hb d_M_beat_73 rfl (lv_at hl 0 rfl) ?_
          refine r_getI C hs fl_M_101 d_M_beat_74 hf (fun v20 hf => ?_)
          refine r_iast C hs d_M_beat_77 hf (fun h21 H locs hf hs => ?_)
          refine lv_iconst (v := 0) hx hb d_M_beat_78 (by decide) ?_
          refine lv_istore (lv' := [(4, .int 0), (0, .ref x0), (1, .int x1), (2, .int x2), (3, .int x3)]) hx hb d_M_beat_79 hl (by decide) rfl (fun ls hl => ?_)
          refine lv_iconst (v := 0) hx hb d_M_beat_81 (by decide) ?_
          refine lv_istore (lv' := [(5, .int 0), (4, .int 0), (0, .ref x0), (1, .int x1), (2, .int x2), (3, .int x3)]) hx hb d_M_beat_82 hl (by decide) rfl (fun ls hl => ?_)
          exact t_M_beat_L84 hl0 C hr hex FU _ _ _ _ _ _ _ hf _ _ _ _ _ hs (lv_sub hl [2, 3, 4, 1, 0] rfl)
        · have hf := ifn q18 hf
          refine lv_aload_n hx hb d_M_beat_58 rfl (lv_at hl 0 rfl) ?_
          refine lv_iconst (v := 3) hx hb d_M_beat_59 (by decide) ?_
          obtain ⟨_, ho, hf⟩ := bd hf
          refine k_I C hs hex hf (fun res e1 => iv_V (b := x0) (As := [.int 3]) (rest := []) C hs cv_M_86 (c_M_fail hl0 e1) (ci := 6) rfl rfl ho rfl hl.1 rfl (Nat.le_of_ble_eq_true rfl) d_M_beat_60 ⟨Nat.le_of_ble_eq_true rfl, Nat.le_of_ble_eq_true rfl⟩) (fun v28 h26 z27 H locs cells slots hf hs => ?_)
          exact r_ireturn C hs hr d_M_beat_63 hf
      · have hf := ifp q15 hf
        refine lv_aload_n hx hb d_M_beat_42 rfl (lv_at hl 0 rfl) ?_
        refine lv_iconst (v := 2) hx hb d_M_beat_43 (by decide) ?_
        obtain ⟨_, ho, hf⟩ := bd hf
        refine k_I C hs hex hf (fun res e1 => iv_V (b := x0) (As := [.int 2]) (rest := []) C hs cv_M_86 (c_M_fail hl0 e1) (ci := 6) rfl rfl ho rfl hl.1 rfl (Nat.le_of_ble_eq_true rfl) d_M_beat_44 ⟨Nat.le_of_ble_eq_true rfl, Nat.le_of_ble_eq_true rfl⟩) (fun v31 h29 z30 H locs cells slots hf hs => ?_)
        exact r_ireturn C hs hr d_M_beat_47 hf
    · have hf := ifn q12 hf
      refine lv_aload_n hx hb d_M_beat_23 rfl (lv_at hl 0 rfl) ?_
      refine lv_iconst (v := 1) hx hb d_M_beat_24 (by decide) ?_
      obtain ⟨_, ho, hf⟩ := bd hf
      refine k_I C hs hex hf (fun res e1 => iv_V (b := x0) (As := [.int 1]) (rest := []) C hs cv_M_86 (c_M_fail hl0 e1) (ci := 6) rfl rfl ho rfl hl.1 rfl (Nat.le_of_ble_eq_true rfl) d_M_beat_25 ⟨Nat.le_of_ble_eq_true rfl, Nat.le_of_ble_eq_true rfl⟩) (fun v34 h32 z33 H locs cells slots hf hs => ?_)
      exact r_ireturn C hs hr d_M_beat_28 hf
def f_M_mark (bs sE : Nat) (h : HH) (z : Z3) (x0 : Nat) (x1 : Int32) (x2 : Int32) (x3 : Int32) (x4 : Int32) (x5 : Int32) : Option RS :=
  (pV bs h x0 6 0 (.inl 0)).bind fun h1 =>
  (oK h1 x0 6).bind fun _ =>
  cI (f_M_out bs sE h1 z x0 x1 2) fun v4 h2 z3 =>
  if v4 = 0 then
    ((oK h2 x0 6).bind fun _ =>
    cI (f_M_out bs sE h2 z3 x0 x2 4) fun v11 h9 z10 =>
    if v11 = 0 then
      ((oK h9 x0 6).bind fun _ =>
      cI (f_M_out bs sE h9 z10 x0 x4 4) fun v18 h16 z17 =>
      if v18 = 0 then
        ((oK h16 x0 6).bind fun _ =>
        cI (f_M_out bs sE h16 z17 x0 x5 601) fun v25 h23 z24 =>
        if v25 = 0 then
          ((gR h23 x0 6 18).bind fun v27 =>
          (aI h23 v27 1 ((4 * x1) + x2)).bind fun v28 =>
          if v28 = 0 then
            ((oK h23 x0 6).bind fun _ =>
            cI (f_M_fail bs sE h23 z24 x0 2) fun v48 h46 z47 =>
            some (.inl (some (.int v48)), h46, z47))
          else
            ((gR h23 x0 6 17).bind fun v30 =>
            (aI h23 v30 0 x1).bind fun v31 =>
            if x3 = v31 then
              ((gR h23 x0 6 20).bind fun v33 =>
              (aI h23 v33 0 ((4 * x1) + x4)).bind fun v34 =>
              if v34 = x2 then
                ((gR h23 x0 6 21).bind fun v36 =>
                (aI h23 v36 0 ((4 * x1) + x4)).bind fun v37 =>
                (gR h23 x0 6 21).bind fun v38 =>
                (aIs bs h23 v38 0 ((4 * x1) + x4) x5).bind fun h39 =>
                some (.inl (some (.int v37)), h39, z24))
              else
                ((oK h23 x0 6).bind fun _ =>
                cI (f_M_fail bs sE h23 z24 x0 4) fun v42 h40 z41 =>
                some (.inl (some (.int v42)), h40, z41)))
            else
              ((oK h23 x0 6).bind fun _ =>
              cI (f_M_fail bs sE h23 z24 x0 3) fun v45 h43 z44 =>
              some (.inl (some (.int v45)), h43, z44))))
        else
          ((oK h23 x0 6).bind fun _ =>
          cI (f_M_fail bs sE h23 z24 x0 1) fun v51 h49 z50 =>
          some (.inl (some (.int v51)), h49, z50)))
      else
        ((oK h16 x0 6).bind fun _ =>
        cI (f_M_fail bs sE h16 z17 x0 1) fun v22 h20 z21 =>
        some (.inl (some (.int v22)), h20, z21)))
    else
      ((oK h9 x0 6).bind fun _ =>
      cI (f_M_fail bs sE h9 z10 x0 1) fun v15 h13 z14 =>
      some (.inl (some (.int v15)), h13, z14)))
  else
    ((oK h2 x0 6).bind fun _ =>
    cI (f_M_fail bs sE h2 z3 x0 1) fun v8 h6 z7 =>
    some (.inl (some (.int v8)), h6, z7))
set_option maxHeartbeats 4000000 in
set_option maxRecDepth 100000 in
theorem c_M_mark {G : EN} {l : Launch} (hl0 : l.stackTraces = false) {h : HH} {z : Z3} {x0 : Nat} {x1 : Int32} {x2 : Int32} {x3 : Int32} {x4 : Int32} {x5 : Int32} {r : RS} (hf : f_M_mark G.2.2.1 G.2.2.2 h z x0 x1 x2 x3 x4 x5 = some r) : CM G l y_M_mark (.code y_M_mark b_M_mark 7 (some .int)) 1 22 [.ref x0, .int x1, .int x2, .int x3, .int x4, .int x5] h z r := by
  refine CM.ofW hl0 rfl ?_
  intro p e s m below meth c C hr hex hin hs
  have hx := C.1
  have hb := C.2.1
  refine x_entry (n := 7) (Nat.le_of_ble_eq_true rfl) (fun ls hl => ?_)
  have hl : lv_has ls 7 [(0, .ref x0), (1, .int x1), (2, .int x2), (3, .int x3), (4, .int x4), (5, .int x5)] := hl
  unfold f_M_mark at hf
  refine lv_aload_n hx hb d_M_mark_0 rfl (lv_at hl 0 rfl) ?_
  refine lv_iconst (v := 0) hx hb d_M_mark_1 (by decide) ?_
  refine r_putV (v := (.inl 0)) C hs flp_M_71 rfl rfl d_M_mark_2 hf (fun h1 H locs hf hs => ?_)
  refine lv_aload_n hx hb d_M_mark_5 rfl (lv_at hl 0 rfl) ?_
  refine lv_iload_n hx hb d_M_mark_6 rfl (lv_at hl 1 rfl) ?_
  refine lv_iconst (v := 2) hx hb d_M_mark_7 (by decide) ?_
  obtain ⟨_, ho, hf⟩ := bd hf
  refine k_I C hs hex hf (fun res e1 => iv_V (b := x0) (As := [.int x1, .int 2]) (rest := []) C hs cv_M_83 (c_M_out hl0 e1) (ci := 6) rfl rfl ho rfl hl.1 rfl (Nat.le_of_ble_eq_true rfl) d_M_mark_8 ⟨Nat.le_of_ble_eq_true rfl, Nat.le_of_ble_eq_true rfl⟩) (fun v4 h2 z3 H locs cells slots hf hs => ?_)
  refine lv_if_ne (tgt := 45) hx hb d_M_mark_11 (by decide) (fun q5 => ?_) (fun q5 => ?_)
  · have hf := ifn q5 hf
    refine lv_aload_n hx hb d_M_mark_45 rfl (lv_at hl 0 rfl) ?_
    refine lv_iconst (v := 1) hx hb d_M_mark_46 (by decide) ?_
    obtain ⟨_, ho, hf⟩ := bd hf
    refine k_I C hs hex hf (fun res e1 => iv_V (b := x0) (As := [.int 1]) (rest := []) C hs cv_M_86 (c_M_fail hl0 e1) (ci := 6) rfl rfl ho rfl hl.1 rfl (Nat.le_of_ble_eq_true rfl) d_M_mark_47 ⟨Nat.le_of_ble_eq_true rfl, Nat.le_of_ble_eq_true rfl⟩) (fun v8 h6 z7 H locs cells slots hf hs => ?_)
    exact r_ireturn C hs hr d_M_mark_50 hf
  · have hf := ifp q5 hf
    refine lv_aload_n hx hb d_M_mark_14 rfl (lv_at hl 0 rfl) ?_
    refine lv_iload_n hx hb d_M_mark_15 rfl (lv_at hl 2 rfl) ?_
    refine lv_iconst (v := 4) hx hb d_M_mark_16 (by decide) ?_
    obtain ⟨_, ho, hf⟩ := bd hf
    refine k_I C hs hex hf (fun res e1 => iv_V (b := x0) (As := [.int x2, .int 4]) (rest := []) C hs cv_M_83 (c_M_out hl0 e1) (ci := 6) rfl rfl ho rfl hl.1 rfl (Nat.le_of_ble_eq_true rfl) d_M_mark_17 ⟨Nat.le_of_ble_eq_true rfl, Nat.le_of_ble_eq_true rfl⟩) (fun v11 h9 z10 H locs cells slots hf hs => ?_)
    refine lv_if_ne (tgt := 45) hx hb d_M_mark_20 (by decide) (fun q12 => ?_) (fun q12 => ?_)
    · have hf := ifn q12 hf
      refine lv_aload_n hx hb d_M_mark_45 rfl (lv_at hl 0 rfl) ?_
      refine lv_iconst (v := 1) hx hb d_M_mark_46 (by decide) ?_
      obtain ⟨_, ho, hf⟩ := bd hf
      refine k_I C hs hex hf (fun res e1 => iv_V (b := x0) (As := [.int 1]) (rest := []) C hs cv_M_86 (c_M_fail hl0 e1) (ci := 6) rfl rfl ho rfl hl.1 rfl (Nat.le_of_ble_eq_true rfl) d_M_mark_47 ⟨Nat.le_of_ble_eq_true rfl, Nat.le_of_ble_eq_true rfl⟩) (fun v15 h13 z14 H locs cells slots hf hs => ?_)
      exact r_ireturn C hs hr d_M_mark_50 hf
    · have hf := ifp q12 hf
      refine lv_aload_n hx hb d_M_mark_23 rfl (lv_at hl 0 rfl) ?_
      refine lv_iload hx hb d_M_mark_24 (lv_at hl 4 rfl) ?_
      refine lv_iconst (v := 4) hx hb d_M_mark_26 (by decide) ?_
      obtain ⟨_, ho, hf⟩ := bd hf
      refine k_I C hs hex hf (fun res e1 => iv_V (b := x0) (As := [.int x4, .int 4]) (rest := []) C hs cv_M_83 (c_M_out hl0 e1) (ci := 6) rfl rfl ho rfl hl.1 rfl (Nat.le_of_ble_eq_true rfl) d_M_mark_27 ⟨Nat.le_of_ble_eq_true rfl, Nat.le_of_ble_eq_true rfl⟩) (fun v18 h16 z17 H locs cells slots hf hs => ?_)
      refine lv_if_ne (tgt := 45) hx hb d_M_mark_30 (by decide) (fun q19 => ?_) (fun q19 => ?_)
      · have hf := ifn q19 hf
        refine lv_aload_n hx hb d_M_mark_45 rfl (lv_at hl 0 rfl) ?_
        refine lv_iconst (v := 1) hx hb d_M_mark_46 (by decide) ?_
        obtain ⟨_, ho, hf⟩ := bd hf
        refine k_I C hs hex hf (fun res e1 => iv_V (b := x0) (As := [.int 1]) (rest := []) C hs cv_M_86 (c_M_fail hl0 e1) (ci := 6) rfl rfl ho rfl hl.1 rfl (Nat.le_of_ble_eq_true rfl) d_M_mark_47 ⟨Nat.le_of_ble_eq_true rfl, Nat.le_of_ble_eq_true rfl⟩) (fun v22 h20 z21 H locs cells slots hf hs => ?_)
        exact r_ireturn C hs hr d_M_mark_50 hf
      · have hf := ifp q19 hf
        refine lv_aload_n hx hb d_M_mark_33 rfl (lv_at hl 0 rfl) ?_
        refine lv_iload hx hb d_M_mark_34 (lv_at hl 5 rfl) ?_
        refine lv_sipush (v := 601) hx hb d_M_mark_36 (by decide) ?_
        obtain ⟨_, ho, hf⟩ := bd hf
        refine k_I C hs hex hf (fun res e1 => iv_V (b := x0) (As := [.int x5, .int 601]) (rest := []) C hs cv_M_83 (c_M_out hl0 e1) (ci := 6) rfl rfl ho rfl hl.1 rfl (Nat.le_of_ble_eq_true rfl) d_M_mark_39 ⟨Nat.le_of_ble_eq_true rfl, Nat.le_of_ble_eq_true rfl⟩) (fun v25 h23 z24 H locs cells slots hf hs => ?_)
        refine lv_if_eq (tgt := 51) hx hb d_M_mark_42 (by decide) (fun q26 => ?_) (fun q26 => ?_)
        · have hf := ifp q26 hf
          refine lv_aload_n hx hb d_M_mark_51 rfl (lv_at hl 0 rfl) ?_
          refine r_getR C hs fl_M_58 d_M_mark_52 hf (fun v27 hf => ?_)
          refine lv_iconst (v := 4) hx hb d_M_mark_55 (by decide) ?_
          refine lv_iload_n hx hb d_M_mark_56 rfl (lv_at hl 1 rfl) ?_
          refine lv_imul hx hb d_M_mark_57 ?_
          refine lv_iload_n hx hb d_M_mark_58 rfl (lv_at hl 2 rfl) ?_
          refine lv_iadd hx hb d_M_mark_59 ?_
          refine r_zald C hs d_M_mark_60 hf (fun v28 hf => ?_)
          refine lv_if_ne (tgt := 70) hx hb d_M_mark_61 (by decide) (fun q29 => ?_) (fun q29 => ?_)
          · have hf := ifn q29 hf
            refine lv_iload_n hx hb d_M_mark_70 rfl (lv_at hl 3 rfl) ?_
            refine lv_aload_n hx hb d_M_mark_71 rfl (lv_at hl 0 rfl) ?_
            refine r_getR C hs fl_M_55 d_M_mark_72 hf (fun v30 hf => ?_)
            refine lv_iload_n hx hb d_M_mark_75 rfl (lv_at hl 1 rfl) ?_
            refine r_iald C hs d_M_mark_76 hf (fun v31 hf => ?_)
            refine lv_icmp_eq (tgt := 86) hx hb d_M_mark_77 (by decide) (fun q32 => ?_) (fun q32 => ?_)
            · have hf := ifp q32 hf
              refine lv_aload_n hx hb d_M_mark_86 rfl (lv_at hl 0 rfl) ?_
              refine r_getR C hs fl_M_65 d_M_mark_87 hf (fun v33 hf => ?_)
              refine lv_iconst (v := 4) hx hb d_M_mark_90 (by decide) ?_
              refine lv_iload_n hx hb d_M_mark_91 rfl (lv_at hl 1 rfl) ?_
              refine lv_imul hx hb d_M_mark_92 ?_
              refine lv_iload hx hb d_M_mark_93 (lv_at hl 4 rfl) ?_
              refine lv_iadd hx hb d_M_mark_95 ?_
              refine r_iald C hs d_M_mark_96 hf (fun v34 hf => ?_)
              refine lv_iload_n hx hb d_M_mark_97 rfl (lv_at hl 2 rfl) ?_
              refine lv_icmp_eq (tgt := 107) hx hb d_M_mark_98 (by decide) (fun q35 => ?_) (fun q35 => ?_)
              · have hf := ifp q35 hf
                refine lv_aload_n hx hb d_M_mark_107 rfl (lv_at hl 0 rfl) ?_
                refine r_getR C hs fl_M_68 d_M_mark_108 hf (fun v36 hf => ?_)
                refine lv_iconst (v := 4) hx hb d_M_mark_111 (by decide) ?_
                refine lv_iload_n hx hb d_M_mark_112 rfl (lv_at hl 1 rfl) ?_
                refine lv_imul hx hb d_M_mark_113 ?_
                refine lv_iload hx hb d_M_mark_114 (lv_at hl 4 rfl) ?_
                refine lv_iadd hx hb d_M_mark_116 ?_
                refine r_iald C hs d_M_mark_117 hf (fun v37 hf => ?_)
                refine lv_istore (lv' := [(6, .int v37), (0, .ref x0), (1, .int x1), (2, .int x2), (3, .int x3), (4, .int x4), (5, .int x5)]) hx hb d_M_mark_118 hl (by decide) rfl (fun ls hl => ?_)
                refine lv_aload_n hx hb d_M_mark_120 rfl (lv_at hl 1 rfl) ?_
                refine r_getR C hs fl_M_68 d_M_mark_121 hf (fun v38 hf => ?_)
                refine lv_iconst (v := 4) hx hb d_M_mark_124 (by decide) ?_
                refine lv_iload_n hx hb d_M_mark_125 rfl (lv_at hl 2 rfl) ?_
                refine lv_imul hx hb d_M_mark_126 ?_
                refine lv_iload hx hb d_M_mark_127 (lv_at hl 5 rfl) ?_
                refine lv_iadd hx hb d_M_mark_129 ?_
                refine lv_iload hx hb d_M_mark_130 (lv_at hl 6 rfl) ?_
                refine r_iast C hs d_M_mark_132 hf (fun h39 H locs hf hs => ?_)
                refine lv_iload hx hb d_M_mark_133 (lv_at hl 0 rfl) ?_
                exact r_ireturn C hs hr d_M_mark_135 hf
              · have hf := ifn q35 hf
                refine lv_aload_n hx hb d_M_mark_101 rfl (lv_at hl 0 rfl) ?_
                refine lv_iconst (v := 4) hx hb d_M_mark_102 (by decide) ?_
                obtain ⟨_, ho, hf⟩ := bd hf
                refine k_I C hs hex hf (fun res e1 => iv_V (b := x0) (As := [.int 4]) (rest := []) C hs cv_M_86 (c_M_fail hl0 e1) (ci := 6) rfl rfl ho rfl hl.1 rfl (Nat.le_of_ble_eq_true rfl) d_M_mark_103 ⟨Nat.le_of_ble_eq_true rfl, Nat.le_of_ble_eq_true rfl⟩) (fun v42 h40 z41 H locs cells slots hf hs => ?_)
                exact r_ireturn C hs hr d_M_mark_106 hf
            · have hf := ifn q32 hf
              refine lv_aload_n hx hb d_M_mark_80 rfl (lv_at hl 0 rfl) ?_
              refine lv_iconst (v := 3) hx hb d_M_mark_81 (by decide) ?_
              obtain ⟨_, ho, hf⟩ := bd hf
              refine k_I C hs hex hf (fun res e1 => iv_V (b := x0) (As := [.int 3]) (rest := []) C hs cv_M_86 (c_M_fail hl0 e1) (ci := 6) rfl rfl ho rfl hl.1 rfl (Nat.le_of_ble_eq_true rfl) d_M_mark_82 ⟨Nat.le_of_ble_eq_true rfl, Nat.le_of_ble_eq_true rfl⟩) (fun v45 h43 z44 H locs cells slots hf hs => ?_)
              exact r_ireturn C hs hr d_M_mark_85 hf
          · have hf := ifp q29 hf
            refine lv_aload_n hx hb d_M_mark_64 rfl (lv_at hl 0 rfl) ?_
            refine lv_iconst (v := 2) hx hb d_M_mark_65 (by decide) ?_
            obtain ⟨_, ho, hf⟩ := bd hf
            refine k_I C hs hex hf (fun res e1 => iv_V (b := x0) (As := [.int 2]) (rest := []) C hs cv_M_86 (c_M_fail hl0 e1) (ci := 6) rfl rfl ho rfl hl.1 rfl (Nat.le_of_ble_eq_true rfl) d_M_mark_66 ⟨Nat.le_of_ble_eq_true rfl, Nat.le_of_ble_eq_true rfl⟩) (fun v48 h46 z47 H locs cells slots hf hs => ?_)
            exact r_ireturn C hs hr d_M_mark_69 hf
        · have hf := ifn q26 hf
          refine lv_aload_n hx hb d_M_mark_45 rfl (lv_at hl 0 rfl) ?_
          refine lv_iconst (v := 1) hx hb d_M_mark_46 (by decide) ?_
          obtain ⟨_, ho, hf⟩ := bd hf
          refine k_I C hs hex hf (fun res e1 => iv_V (b := x0) (As := [.int 1]) (rest := []) C hs cv_M_86 (c_M_fail hl0 e1) (ci := 6) rfl rfl ho rfl hl.1 rfl (Nat.le_of_ble_eq_true rfl) d_M_mark_47 ⟨Nat.le_of_ble_eq_true rfl, Nat.le_of_ble_eq_true rfl⟩) (fun v51 h49 z50 H locs cells slots hf hs => ?_)
          exact r_ireturn C hs hr d_M_mark_50 hf
def fb_M_tick_L95 (bs sE : Nat) (K149 : HH → Z3 → Nat → Int32 → Int32 → Int32 → Option RS) (REC : HH → Z3 → Nat → Int32 → Int32 → Int32 → Int32 → Option RS) (h : HH) (z : Z3) (x0 : Nat) (x2 : Int32) (x3 : Int32) (x4 : Int32) (x5 : Int32) : Option RS :=
  if ((4 * x3) + 4) ≤ x5 then
    (K149 h z x0 x2 x3 x4)
  else
    ((gR h x0 6 18).bind fun v11 =>
    (aI h v11 1 x5).bind fun v12 =>
    if v12 = 0 then
      (REC h z x0 x2 x3 x4 (x5 + 1))
    else
      ((gR h x0 6 19).bind fun v14 =>
      (aI h v14 0 x5).bind fun v15 =>
      (gI h x0 6 22).bind fun v16 =>
      if v16 < (v15 + 20) then
        (REC h z x0 x2 x3 x4 (x5 + 1))
      else
        ((gR h x0 6 18).bind fun v18 =>
        (aIs bs h v18 1 x5 (vp_nar .boolean 0)).bind fun h19 =>
        REC h19 z x0 x2 x3 (x4 + 1) (x5 + 1))))
def f_M_tick_L95 (bs sE : Nat) (K149 : HH → Z3 → Nat → Int32 → Int32 → Int32 → Option RS) : Nat → HH → Z3 → Nat → Int32 → Int32 → Int32 → Int32 → Option RS
  | 0 => fun _ _ _ _ _ _ _ => none
  | n + 1 => fb_M_tick_L95 bs sE K149 (f_M_tick_L95 bs sE K149 n)
set_option maxHeartbeats 4000000 in
set_option maxRecDepth 100000 in
theorem t_M_tick_L95 {G : EN} {p : Program} {l : Launch} {e : Env} {s : State} {m : MethodId} {args : Array Value} {below : List Frame} {meth : Method} {c : Code} {z0 : Z3} (hl0 : l.stackTraces = false) (C : CX G p l s m meth c b_M_tick 6 y_M_tick.cls) (hr : meth.sig.returnType = (some .int)) (hex : c.exceptionTable.toList = []) {r : RS} {K149 : HH → Z3 → Nat → Int32 → Int32 → Int32 → Option RS}
    (hK149 : ∀ (h : HH) (z : Z3) (y0 : Nat) (y1 : Int32) (y2 : Int32) (y3 : Int32), K149 h z y0 y1 y2 y3 = some r → ∀ (H : Heap) (locs : List Loc) (cells slots : Nat) (ls : Array Slot), ST G (RM 3 75 z0) s h z H locs cells slots → lv_has ls 6 [(0, .ref y0), (2, .int y1), (3, .int y2), (4, .int y3)] → W p l e (RM 3 75 z0) s m args below meth c H locs cells slots (MX G below s r (RM 3 75 z0).cells (RM 3 75 z0).slots) (F0 m 149 ls [])) :
    ∀ (n : Nat) (h : HH) (z : Z3) (x0 : Nat) (x2 : Int32) (x3 : Int32) (x4 : Int32) (x5 : Int32), f_M_tick_L95 G.2.2.1 G.2.2.2 K149 n h z x0 x2 x3 x4 x5 = some r → ∀ (H : Heap) (locs : List Loc) (cells slots : Nat) (ls : Array Slot), ST G (RM 3 75 z0) s h z H locs cells slots → lv_has ls 6 [(0, .ref x0), (2, .int x2), (3, .int x3), (4, .int x4), (5, .int x5)] → W p l e (RM 3 75 z0) s m args below meth c H locs cells slots (MX G below s r (RM 3 75 z0).cells (RM 3 75 z0).slots) (F0 m 95 ls []) := by
  have hx := C.1
  have hb := C.2.1
  intro n
  induction n with
  | zero => intro h z x0 x2 x3 x4 x5 hf; exact nomatch (show (none : Option RS) = some r from hf)
  | succ n ih =>
    intro h z x0 x2 x3 x4 x5 hf H locs cells slots ls hs hl
    have hf : fb_M_tick_L95 G.2.2.1 G.2.2.2 K149 (f_M_tick_L95 G.2.2.1 G.2.2.2 K149 n) h z x0 x2 x3 x4 x5 = some r := hf
    unfold fb_M_tick_L95 at hf
    refine lv_iload hx hb d_M_tick_95 (lv_at hl 4 rfl) ?_
    refine lv_iconst (v := 4) hx hb d_M_tick_97 (by decide) ?_
    refine lv_iload_n hx hb d_M_tick_98 rfl (lv_at hl 2 rfl) ?_
    refine lv_imul hx hb d_M_tick_99 ?_
    refine lv_iconst (v := 4) hx hb d_M_tick_100 (by decide) ?_
    refine lv_iadd hx hb d_M_tick_101 ?_
    refine lv_icmp_ge (tgt := 149) hx hb d_M_tick_102 (by decide) (fun q10 => ?_) (fun q10 => ?_)
    · have hf := ifp q10 hf
      exact hK149 _ _ _ _ _ _ hf _ _ _ _ _ hs (lv_sub hl [0, 1, 2, 3] rfl)
    · have hf := ifn q10 hf
      refine lv_aload_n hx hb d_M_tick_105 rfl (lv_at hl 0 rfl) ?_
      refine r_getR C hs fl_M_58 d_M_tick_106 hf (fun v11 hf => ?_)
      refine lv_iload hx hb d_M_tick_109 (lv_at hl 4 rfl) ?_
      refine r_zald C hs d_M_tick_111 hf (fun v12 hf => ?_)
      refine lv_if_eq (tgt := 143) hx hb d_M_tick_112 (by decide) (fun q13 => ?_) (fun q13 => ?_)
      · have hf := ifp q13 hf
        refine lv_iinc (v := x5 + 1) (lv' := [(5, .int (x5 + 1)), (0, .ref x0), (2, .int x2), (3, .int x3), (4, .int x4)]) hx hb d_M_tick_143 hl (k := 4) rfl rfl (by decide) rfl (fun ls hl => ?_)
        refine lv_goto (tgt := 95) hx hb d_M_tick_146 (by decide) ?_
        exact ih _ _ _ _ _ _ _ hf _ _ _ _ _ hs (lv_sub hl [1, 2, 3, 4, 0] rfl)
      · have hf := ifn q13 hf
        refine lv_aload_n hx hb d_M_tick_115 rfl (lv_at hl 0 rfl) ?_
        refine r_getR C hs fl_M_62 d_M_tick_116 hf (fun v14 hf => ?_)
        refine lv_iload hx hb d_M_tick_119 (lv_at hl 4 rfl) ?_
        refine r_iald C hs d_M_tick_121 hf (fun v15 hf => ?_)
        refine lv_bipush (v := 20) hx hb d_M_tick_122 (by decide) ?_
        refine lv_iadd hx hb d_M_tick_124 ?_
        refine lv_aload_n hx hb d_M_tick_125 rfl (lv_at hl 0 rfl) ?_
        refine r_getI C hs fl_M_101 d_M_tick_126 hf (fun v16 hf => ?_)
        refine lv_icmp_gt (tgt := 143) hx hb d_M_tick_129 (by decide) (fun q17 => ?_) (fun q17 => ?_)
        · have hf := ifp q17 hf
          refine lv_iinc (v := x5 + 1) (lv' := [(5, .int (x5 + 1)), (0, .ref x0), (2, .int x2), (3, .int x3), (4, .int x4)]) hx hb d_M_tick_143 hl (k := 4) rfl rfl (by decide) rfl (fun ls hl => ?_)
          refine lv_goto (tgt := 95) hx hb d_M_tick_146 (by decide) ?_
          exact ih _ _ _ _ _ _ _ hf _ _ _ _ _ hs (lv_sub hl [1, 2, 3, 4, 0] rfl)
        · have hf := ifn q17 hf
          refine lv_aload_n hx hb d_M_tick_132 rfl (lv_at hl 0 rfl) ?_
          refine r_getR C hs fl_M_58 d_M_tick_133 hf (fun v18 hf => ?_)
          refine lv_iload hx hb d_M_tick_136 (lv_at hl 4 rfl) ?_
          refine lv_iconst (v := 0) hx hb d_M_tick_138 (by decide) ?_
          refine r_zast C hs d_M_tick_139 hf (fun h19 H locs hf hs => ?_)
          refine lv_iinc (v := x4 + 1) (lv' := [(4, .int (x4 + 1)), (0, .ref x0), (2, .int x2), (3, .int x3), (5, .int x5)]) hx hb d_M_tick_140 hl (k := 3) rfl rfl (by decide) rfl (fun ls hl => ?_)
          refine lv_iinc (v := x5 + 1) (lv' := [(5, .int (x5 + 1)), (4, .int (x4 + 1)), (0, .ref x0), (2, .int x2), (3, .int x3)]) hx hb d_M_tick_143 hl (k := 4) rfl rfl (by decide) rfl (fun ls hl => ?_)
          refine lv_goto (tgt := 95) hx hb d_M_tick_146 (by decide) ?_
          exact ih _ _ _ _ _ _ _ hf _ _ _ _ _ hs (lv_sub hl [2, 3, 4, 1, 0] rfl)
def fb_M_tick_L82 (bs sE : Nat) (REC : HH → Z3 → Nat → Int32 → Int32 → Option RS) (h : HH) (z : Z3) (x0 : Nat) (x2 : Int32) (x3 : Int32) : Option RS :=
  if 2 ≤ x3 then
    (some (.inl (some (.int x2)), h, z))
  else
    (f_M_tick_L95 bs sE (fun h20 z21 x0_149 x2_149 x3_149 x4_149 =>
      if x4_149 ≤ 0 then
        (REC h20 z21 x0_149 (x2_149 + x4_149) (x3_149 + 1))
      else
        ((oK h20 x0_149 6).bind fun _ =>
        cV (f_M_share bs sE h20 z21 x0_149 x3_149) fun h23 z24 =>
        REC h23 z24 x0_149 (x2_149 + x4_149) (x3_149 + 1))) FU h z x0 x2 x3 0 (4 * x3))
def f_M_tick_L82 (bs sE : Nat) : Nat → HH → Z3 → Nat → Int32 → Int32 → Option RS
  | 0 => fun _ _ _ _ _ => none
  | n + 1 => fb_M_tick_L82 bs sE (f_M_tick_L82 bs sE n)
set_option maxHeartbeats 4000000 in
set_option maxRecDepth 100000 in
theorem t_M_tick_L82 {G : EN} {p : Program} {l : Launch} {e : Env} {s : State} {m : MethodId} {args : Array Value} {below : List Frame} {meth : Method} {c : Code} {z0 : Z3} (hl0 : l.stackTraces = false) (C : CX G p l s m meth c b_M_tick 6 y_M_tick.cls) (hr : meth.sig.returnType = (some .int)) (hex : c.exceptionTable.toList = []) {r : RS} :
    ∀ (n : Nat) (h : HH) (z : Z3) (x0 : Nat) (x2 : Int32) (x3 : Int32), f_M_tick_L82 G.2.2.1 G.2.2.2 n h z x0 x2 x3 = some r → ∀ (H : Heap) (locs : List Loc) (cells slots : Nat) (ls : Array Slot), ST G (RM 3 75 z0) s h z H locs cells slots → lv_has ls 6 [(0, .ref x0), (2, .int x2), (3, .int x3)] → W p l e (RM 3 75 z0) s m args below meth c H locs cells slots (MX G below s r (RM 3 75 z0).cells (RM 3 75 z0).slots) (F0 m 82 ls []) := by
  have hx := C.1
  have hb := C.2.1
  intro n
  induction n with
  | zero => intro h z x0 x2 x3 hf; exact nomatch (show (none : Option RS) = some r from hf)
  | succ n ih =>
    intro h z x0 x2 x3 hf H locs cells slots ls hs hl
    have hf : fb_M_tick_L82 G.2.2.1 G.2.2.2 (f_M_tick_L82 G.2.2.1 G.2.2.2 n) h z x0 x2 x3 = some r := hf
    unfold fb_M_tick_L82 at hf
    refine lv_iload_n hx hb d_M_tick_82 rfl (lv_at hl 2 rfl) ?_
    refine lv_iconst (v := 2) hx hb d_M_tick_83 (by decide) ?_
    refine lv_icmp_ge (tgt := 170) hx hb d_M_tick_84 (by decide) (fun q9 => ?_) (fun q9 => ?_)
    · have hf := ifp q9 hf
      refine lv_iload_n hx hb d_M_tick_170 rfl (lv_at hl 1 rfl) ?_
      exact r_ireturn C hs hr d_M_tick_171 hf
    · have hf := ifn q9 hf
      refine lv_iconst (v := 0) hx hb d_M_tick_87 (by decide) ?_
      refine lv_istore (lv' := [(4, .int 0), (0, .ref x0), (2, .int x2), (3, .int x3)]) hx hb d_M_tick_88 hl (by decide) rfl (fun ls hl => ?_)
      refine lv_iconst (v := 4) hx hb d_M_tick_90 (by decide) ?_
      refine lv_iload_n hx hb d_M_tick_91 rfl (lv_at hl 3 rfl) ?_
      refine lv_imul hx hb d_M_tick_92 ?_
      refine lv_istore (lv' := [(5, .int (4 * x3)), (4, .int 0), (0, .ref x0), (2, .int x2), (3, .int x3)]) hx hb d_M_tick_93 hl (by decide) rfl (fun ls hl => ?_)
      refine t_M_tick_L95 hl0 C hr hex ?_ FU _ _ _ _ _ _ _ hf _ _ _ _ _ hs (lv_sub hl [2, 3, 4, 1, 0] rfl)
      · intro h20 z21 x0_149 x2_149 x3_149 x4_149 hf H locs cells slots ls hs hl
        refine lv_iload hx hb d_M_tick_149 (lv_at hl 3 rfl) ?_
        refine lv_if_le (tgt := 159) hx hb d_M_tick_151 (by decide) (fun q22 => ?_) (fun q22 => ?_)
        · have hf := ifp q22 hf
          refine lv_iload_n hx hb d_M_tick_159 rfl (lv_at hl 1 rfl) ?_
          refine lv_iload hx hb d_M_tick_160 (lv_at hl 3 rfl) ?_
          refine lv_iadd hx hb d_M_tick_162 ?_
          refine lv_istore_n (lv' := [(2, .int (x2_149 + x4_149)), (0, .ref x0_149), (3, .int x3_149), (4, .int x4_149)]) hx hb d_M_tick_163 rfl hl (by decide) rfl (fun ls hl => ?_)
          refine lv_iinc (v := x3_149 + 1) (lv' := [(3, .int (x3_149 + 1)), (2, .int (x2_149 + x4_149)), (0, .ref x0_149), (4, .int x4_149)]) hx hb d_M_tick_164 hl (k := 2) rfl rfl (by decide) rfl (fun ls hl => ?_)
          refine lv_goto (tgt := 82) hx hb d_M_tick_167 (by decide) ?_
          exact ih _ _ _ _ _ hf _ _ _ _ _ hs (lv_sub hl [2, 1, 0] rfl)
        · have hf := ifn q22 hf
          refine lv_aload_n hx hb d_M_tick_154 rfl (lv_at hl 0 rfl) ?_
          refine lv_iload_n hx hb d_M_tick_155 rfl (lv_at hl 2 rfl) ?_
          obtain ⟨_, ho, hf⟩ := bd hf
          refine k_V C hs hex hf (fun res e1 => iv_V (b := x0_149) (As := [.int x3_149]) (rest := []) C hs cv_M_137 (c_M_share hl0 e1) (ci := 6) rfl rfl ho rfl hl.1 rfl (Nat.le_of_ble_eq_true rfl) d_M_tick_156 ⟨Nat.le_of_ble_eq_true rfl, Nat.le_of_ble_eq_true rfl⟩) (fun h23 z24 H locs cells slots hf hs => ?_)
          refine lv_iload_n hx hb d_M_tick_159 rfl (lv_at hl 1 rfl) ?_
          refine lv_iload hx hb d_M_tick_160 (lv_at hl 3 rfl) ?_
          refine lv_iadd hx hb d_M_tick_162 ?_
          refine lv_istore_n (lv' := [(2, .int (x2_149 + x4_149)), (0, .ref x0_149), (3, .int x3_149), (4, .int x4_149)]) hx hb d_M_tick_163 rfl hl (by decide) rfl (fun ls hl => ?_)
          refine lv_iinc (v := x3_149 + 1) (lv' := [(3, .int (x3_149 + 1)), (2, .int (x2_149 + x4_149)), (0, .ref x0_149), (4, .int x4_149)]) hx hb d_M_tick_164 hl (k := 2) rfl rfl (by decide) rfl (fun ls hl => ?_)
          refine lv_goto (tgt := 82) hx hb d_M_tick_167 (by decide) ?_
          exact ih _ _ _ _ _ hf _ _ _ _ _ hs (lv_sub hl [2, 1, 0] rfl)
def fb_M_tick_L35 (bs sE : Nat) (REC : HH → Z3 → Nat → Int32 → Int32 → Option RS) (h : HH) (z : Z3) (x0 : Nat) (x2 : Int32) (x3 : Int32) : Option RS :=
  if 4 ≤ x3 then
    (f_M_tick_L82 bs sE FU h z x0 x2 0)
  else
    ((gR h x0 6 10).bind fun v26 =>
    (aI h v26 0 x3).bind fun v27 =>
    if v27 = 1 then
      ((gR h x0 6 14).bind fun v29 =>
      (aI h v29 0 x3).bind fun v30 =>
      (gI h x0 6 22).bind fun v31 =>
      if v31 < (v30 + 30) then
        (REC h z x0 x2 (x3 + 1))
      else
        ((oK h x0 6).bind fun _ =>
        cV (f_M_abort bs sE h z x0 x3) fun h33 z34 =>
        REC h33 z34 x0 (x2 + 1) (x3 + 1)))
    else
      (REC h z x0 x2 (x3 + 1)))
def f_M_tick_L35 (bs sE : Nat) : Nat → HH → Z3 → Nat → Int32 → Int32 → Option RS
  | 0 => fun _ _ _ _ _ => none
  | n + 1 => fb_M_tick_L35 bs sE (f_M_tick_L35 bs sE n)
set_option maxHeartbeats 4000000 in
set_option maxRecDepth 100000 in
theorem t_M_tick_L35 {G : EN} {p : Program} {l : Launch} {e : Env} {s : State} {m : MethodId} {args : Array Value} {below : List Frame} {meth : Method} {c : Code} {z0 : Z3} (hl0 : l.stackTraces = false) (C : CX G p l s m meth c b_M_tick 6 y_M_tick.cls) (hr : meth.sig.returnType = (some .int)) (hex : c.exceptionTable.toList = []) {r : RS} :
    ∀ (n : Nat) (h : HH) (z : Z3) (x0 : Nat) (x2 : Int32) (x3 : Int32), f_M_tick_L35 G.2.2.1 G.2.2.2 n h z x0 x2 x3 = some r → ∀ (H : Heap) (locs : List Loc) (cells slots : Nat) (ls : Array Slot), ST G (RM 3 75 z0) s h z H locs cells slots → lv_has ls 6 [(0, .ref x0), (2, .int x2), (3, .int x3)] → W p l e (RM 3 75 z0) s m args below meth c H locs cells slots (MX G below s r (RM 3 75 z0).cells (RM 3 75 z0).slots) (F0 m 35 ls []) := by
  have hx := C.1
  have hb := C.2.1
  intro n
  induction n with
  | zero => intro h z x0 x2 x3 hf; exact nomatch (show (none : Option RS) = some r from hf)
  | succ n ih =>
    intro h z x0 x2 x3 hf H locs cells slots ls hs hl
    have hf : fb_M_tick_L35 G.2.2.1 G.2.2.2 (f_M_tick_L35 G.2.2.1 G.2.2.2 n) h z x0 x2 x3 = some r := hf
    unfold fb_M_tick_L35 at hf
    refine lv_iload_n hx hb d_M_tick_35 rfl (lv_at hl 2 rfl) ?_
    refine lv_iconst (v := 4) hx hb d_M_tick_36 (by decide) ?_
    refine lv_icmp_ge (tgt := 80) hx hb d_M_tick_37 (by decide) (fun q8 => ?_) (fun q8 => ?_)
    · have hf := ifp q8 hf
      refine lv_iconst (v := 0) hx hb d_M_tick_80 (by decide) ?_
      refine lv_istore_n (lv' := [(3, .int 0), (0, .ref x0), (2, .int x2)]) hx hb d_M_tick_81 rfl hl (by decide) rfl (fun ls hl => ?_)
      exact t_M_tick_L82 hl0 C hr hex FU _ _ _ _ _ hf _ _ _ _ _ hs (lv_sub hl [1, 2, 0] rfl)
    · have hf := ifn q8 hf
      refine lv_aload_n hx hb d_M_tick_40 rfl (lv_at hl 0 rfl) ?_
      refine r_getR C hs fl_M_37 d_M_tick_41 hf (fun v26 hf => ?_)
      refine lv_iload_n hx hb d_M_tick_44 rfl (lv_at hl 2 rfl) ?_
      refine r_iald C hs d_M_tick_45 hf (fun v27 hf => ?_)
      refine lv_iconst (v := 1) hx hb d_M_tick_46 (by decide) ?_
      refine lv_icmp_ne (tgt := 74) hx hb d_M_tick_47 (by decide) (fun q28 => ?_) (fun q28 => ?_)
      · have hf := ifn q28 hf
        refine lv_iinc (v := x3 + 1) (lv' := [(3, .int (x3 + 1)), (0, .ref x0), (2, .int x2)]) hx hb d_M_tick_74 hl (k := 2) rfl rfl (by decide) rfl (fun ls hl => ?_)
        refine lv_goto (tgt := 35) hx hb d_M_tick_77 (by decide) ?_
        exact ih _ _ _ _ _ hf _ _ _ _ _ hs (lv_sub hl [1, 2, 0] rfl)
      · have hf := ifp q28 hf
        refine lv_aload_n hx hb d_M_tick_50 rfl (lv_at hl 0 rfl) ?_
        refine r_getR C hs fl_M_49 d_M_tick_51 hf (fun v29 hf => ?_)
        refine lv_iload_n hx hb d_M_tick_54 rfl (lv_at hl 2 rfl) ?_
        refine r_iald C hs d_M_tick_55 hf (fun v30 hf => ?_)
        refine lv_bipush (v := 30) hx hb d_M_tick_56 (by decide) ?_
        refine lv_iadd hx hb d_M_tick_58 ?_
        refine lv_aload_n hx hb d_M_tick_59 rfl (lv_at hl 0 rfl) ?_
        refine r_getI C hs fl_M_101 d_M_tick_60 hf (fun v31 hf => ?_)
        refine lv_icmp_gt (tgt := 74) hx hb d_M_tick_63 (by decide) (fun q32 => ?_) (fun q32 => ?_)
        · have hf := ifp q32 hf
          refine lv_iinc (v := x3 + 1) (lv' := [(3, .int (x3 + 1)), (0, .ref x0), (2, .int x2)]) hx hb d_M_tick_74 hl (k := 2) rfl rfl (by decide) rfl (fun ls hl => ?_)
          refine lv_goto (tgt := 35) hx hb d_M_tick_77 (by decide) ?_
          exact ih _ _ _ _ _ hf _ _ _ _ _ hs (lv_sub hl [1, 2, 0] rfl)
        · have hf := ifn q32 hf
          refine lv_aload_n hx hb d_M_tick_66 rfl (lv_at hl 0 rfl) ?_
          refine lv_iload_n hx hb d_M_tick_67 rfl (lv_at hl 2 rfl) ?_
          obtain ⟨_, ho, hf⟩ := bd hf
          refine k_V C hs hex hf (fun res e1 => iv_V (b := x0) (As := [.int x3]) (rest := []) C hs cv_M_90 (c_M_abort hl0 e1) (ci := 6) rfl rfl ho rfl hl.1 rfl (Nat.le_of_ble_eq_true rfl) d_M_tick_68 ⟨Nat.le_of_ble_eq_true rfl, Nat.le_of_ble_eq_true rfl⟩) (fun h33 z34 H locs cells slots hf hs => ?_)
          refine lv_iinc (v := x2 + 1) (lv' := [(2, .int (x2 + 1)), (0, .ref x0), (3, .int x3)]) hx hb d_M_tick_71 hl (k := 1) rfl rfl (by decide) rfl (fun ls hl => ?_)
          refine lv_iinc (v := x3 + 1) (lv' := [(3, .int (x3 + 1)), (2, .int (x2 + 1)), (0, .ref x0)]) hx hb d_M_tick_74 hl (k := 2) rfl rfl (by decide) rfl (fun ls hl => ?_)
          refine lv_goto (tgt := 35) hx hb d_M_tick_77 (by decide) ?_
          exact ih _ _ _ _ _ hf _ _ _ _ _ hs (lv_sub hl [2, 1, 0] rfl)
def f_M_tick (bs sE : Nat) (h : HH) (z : Z3) (x0 : Nat) (x1 : Int32) : Option RS :=
  (pV bs h x0 6 0 (.inl 0)).bind fun h1 =>
  (oK h1 x0 6).bind fun _ =>
  cI (f_M_out bs sE h1 z x0 x1 31) fun v4 h2 z3 =>
  if v4 = 0 then
    ((gI h2 x0 6 22).bind fun v6 =>
    (pV bs h2 x0 6 22 (.inl (v6 + x1))).bind fun h7 =>
    f_M_tick_L35 bs sE FU h7 z3 x0 0 0)
  else
    ((oK h2 x0 6).bind fun _ =>
    cI (f_M_fail bs sE h2 z3 x0 1) fun v38 h36 z37 =>
    some (.inl (some (.int v38)), h36, z37))
set_option maxHeartbeats 4000000 in
set_option maxRecDepth 100000 in
theorem c_M_tick {G : EN} {l : Launch} (hl0 : l.stackTraces = false) {h : HH} {z : Z3} {x0 : Nat} {x1 : Int32} {r : RS} (hf : f_M_tick G.2.2.1 G.2.2.2 h z x0 x1 = some r) : CM G l y_M_tick (.code y_M_tick b_M_tick 6 (some .int)) 3 75 [.ref x0, .int x1] h z r := by
  refine CM.ofW hl0 rfl ?_
  intro p e s m below meth c C hr hex hin hs
  have hx := C.1
  have hb := C.2.1
  refine x_entry (n := 6) (Nat.le_of_ble_eq_true rfl) (fun ls hl => ?_)
  have hl : lv_has ls 6 [(0, .ref x0), (1, .int x1)] := hl
  unfold f_M_tick at hf
  refine lv_aload_n hx hb d_M_tick_0 rfl (lv_at hl 0 rfl) ?_
  refine lv_iconst (v := 0) hx hb d_M_tick_1 (by decide) ?_
  refine r_putV (v := (.inl 0)) C hs flp_M_71 rfl rfl d_M_tick_2 hf (fun h1 H locs hf hs => ?_)
  refine lv_aload_n hx hb d_M_tick_5 rfl (lv_at hl 0 rfl) ?_
  refine lv_iload_n hx hb d_M_tick_6 rfl (lv_at hl 1 rfl) ?_
  refine lv_bipush (v := 31) hx hb d_M_tick_7 (by decide) ?_
  obtain ⟨_, ho, hf⟩ := bd hf
  refine k_I C hs hex hf (fun res e1 => iv_V (b := x0) (As := [.int x1, .int 31]) (rest := []) C hs cv_M_83 (c_M_out hl0 e1) (ci := 6) rfl rfl ho rfl hl.1 rfl (Nat.le_of_ble_eq_true rfl) d_M_tick_9 ⟨Nat.le_of_ble_eq_true rfl, Nat.le_of_ble_eq_true rfl⟩) (fun v4 h2 z3 H locs cells slots hf hs => ?_)
  refine lv_if_eq (tgt := 21) hx hb d_M_tick_12 (by decide) (fun q5 => ?_) (fun q5 => ?_)
  · have hf := ifp q5 hf
    refine lv_aload_n hx hb d_M_tick_21 rfl (lv_at hl 0 rfl) ?_
    refine lv_dup hx hb d_M_tick_22 rfl ?_
    refine r_getI C hs fl_M_101 d_M_tick_23 hf (fun v6 hf => ?_)
    refine lv_iload_n hx hb d_M_tick_26 rfl (lv_at hl 1 rfl) ?_
    refine lv_iadd hx hb d_M_tick_27 ?_
    refine r_putV (v := (.inl (v6 + x1))) C hs flp_M_101 rfl rfl d_M_tick_28 hf (fun h7 H locs hf hs => ?_)
    refine lv_iconst (v := 0) hx hb d_M_tick_31 (by decide) ?_
    refine lv_istore_n (lv' := [(2, .int 0), (0, .ref x0), (1, .int x1)]) hx hb d_M_tick_32 rfl hl (by decide) rfl (fun ls hl => ?_)
    refine lv_iconst (v := 0) hx hb d_M_tick_33 (by decide) ?_
    refine lv_istore_n (lv' := [(3, .int 0), (2, .int 0), (0, .ref x0), (1, .int x1)]) hx hb d_M_tick_34 rfl hl (by decide) rfl (fun ls hl => ?_)
    exact t_M_tick_L35 hl0 C hr hex FU _ _ _ _ _ hf _ _ _ _ _ hs (lv_sub hl [2, 1, 0] rfl)
  · have hf := ifn q5 hf
    refine lv_aload_n hx hb d_M_tick_15 rfl (lv_at hl 0 rfl) ?_
    refine lv_iconst (v := 1) hx hb d_M_tick_16 (by decide) ?_
    obtain ⟨_, ho, hf⟩ := bd hf
    refine k_I C hs hex hf (fun res e1 => iv_V (b := x0) (As := [.int 1]) (rest := []) C hs cv_M_86 (c_M_fail hl0 e1) (ci := 6) rfl rfl ho rfl hl.1 rfl (Nat.le_of_ble_eq_true rfl) d_M_tick_17 ⟨Nat.le_of_ble_eq_true rfl, Nat.le_of_ble_eq_true rfl⟩) (fun v38 h36 z37 H locs cells slots hf hs => ?_)
    exact r_ireturn C hs hr d_M_tick_20 hf
def f_M_edge (bs sE : Nat) (h : HH) (z : Z3) (x0 : Nat) (x1 : Int32) (x2 : Int32) : Option RS :=
  (pV bs h x0 6 0 (.inl 0)).bind fun h1 =>
  (oK h1 x0 6).bind fun _ =>
  cI (f_M_out bs sE h1 z x0 x1 4) fun v4 h2 z3 =>
  if v4 = 0 then
    ((oK h2 x0 6).bind fun _ =>
    cI (f_M_out bs sE h2 z3 x0 x2 6) fun v11 h9 z10 =>
    if v11 = 0 then
      (if x2 = 0 then
        ((gR h9 x0 6 8).bind fun v14 =>
        (aI h9 v14 0 x1).bind fun v15 =>
        some (.inl (some (.int v15)), h9, z10))
      else
      if x2 = 1 then
        ((oK h9 x0 6).bind fun _ =>
        cI (f_M_stable bs sE h9 z10 x0 x1) fun v19 h17 z18 =>
        some (.inl (some (.int v19)), h17, z18))
      else
      if x2 = 2 then
        ((gR h9 x0 6 9).bind fun v21 =>
        (aI h9 v21 0 x1).bind fun v22 =>
        some (.inl (some (.int v22)), h9, z10))
      else
      if x2 = 3 then
        ((gR h9 x0 6 7).bind fun v24 =>
        (aI h9 v24 0 x1).bind fun v25 =>
        some (.inl (some (.int v25)), h9, z10))
      else
      ((gR h9 x0 6 21).bind fun v26 =>
      (aI h9 v26 0 ((4 * (x2 - 4)) + x1)).bind fun v27 =>
      some (.inl (some (.int v27)), h9, z10)))
    else
      ((oK h9 x0 6).bind fun _ =>
      cI (f_M_fail bs sE h9 z10 x0 1) fun v30 h28 z29 =>
      some (.inl (some (.int v30)), h28, z29)))
  else
    ((oK h2 x0 6).bind fun _ =>
    cI (f_M_fail bs sE h2 z3 x0 1) fun v8 h6 z7 =>
    some (.inl (some (.int v8)), h6, z7))
set_option maxHeartbeats 4000000 in
set_option maxRecDepth 100000 in
theorem c_M_edge {G : EN} {l : Launch} (hl0 : l.stackTraces = false) {h : HH} {z : Z3} {x0 : Nat} {x1 : Int32} {x2 : Int32} {r : RS} (hf : f_M_edge G.2.2.1 G.2.2.2 h z x0 x1 x2 = some r) : CM G l y_M_edge (.code y_M_edge b_M_edge 3 (some .int)) 2 48 [.ref x0, .int x1, .int x2] h z r := by
  refine CM.ofW hl0 rfl ?_
  intro p e s m below meth c C hr hex hin hs
  have hx := C.1
  have hb := C.2.1
  refine x_entry (n := 3) (Nat.le_of_ble_eq_true rfl) (fun ls hl => ?_)
  have hl : lv_has ls 3 [(0, .ref x0), (1, .int x1), (2, .int x2)] := hl
  unfold f_M_edge at hf
  refine lv_aload_n hx hb d_M_edge_0 rfl (lv_at hl 0 rfl) ?_
  refine lv_iconst (v := 0) hx hb d_M_edge_1 (by decide) ?_
  refine r_putV (v := (.inl 0)) C hs flp_M_71 rfl rfl d_M_edge_2 hf (fun h1 H locs hf hs => ?_)
  refine lv_aload_n hx hb d_M_edge_5 rfl (lv_at hl 0 rfl) ?_
  refine lv_iload_n hx hb d_M_edge_6 rfl (lv_at hl 1 rfl) ?_
  refine lv_iconst (v := 4) hx hb d_M_edge_7 (by decide) ?_
  obtain ⟨_, ho, hf⟩ := bd hf
  refine k_I C hs hex hf (fun res e1 => iv_V (b := x0) (As := [.int x1, .int 4]) (rest := []) C hs cv_M_83 (c_M_out hl0 e1) (ci := 6) rfl rfl ho rfl hl.1 rfl (Nat.le_of_ble_eq_true rfl) d_M_edge_8 ⟨Nat.le_of_ble_eq_true rfl, Nat.le_of_ble_eq_true rfl⟩) (fun v4 h2 z3 H locs cells slots hf hs => ?_)
  refine lv_if_ne (tgt := 24) hx hb d_M_edge_11 (by decide) (fun q5 => ?_) (fun q5 => ?_)
  · have hf := ifn q5 hf
    refine lv_aload_n hx hb d_M_edge_24 rfl (lv_at hl 0 rfl) ?_
    refine lv_iconst (v := 1) hx hb d_M_edge_25 (by decide) ?_
    obtain ⟨_, ho, hf⟩ := bd hf
    refine k_I C hs hex hf (fun res e1 => iv_V (b := x0) (As := [.int 1]) (rest := []) C hs cv_M_86 (c_M_fail hl0 e1) (ci := 6) rfl rfl ho rfl hl.1 rfl (Nat.le_of_ble_eq_true rfl) d_M_edge_26 ⟨Nat.le_of_ble_eq_true rfl, Nat.le_of_ble_eq_true rfl⟩) (fun v8 h6 z7 H locs cells slots hf hs => ?_)
    exact r_ireturn C hs hr d_M_edge_29 hf
  · have hf := ifp q5 hf
    refine lv_aload_n hx hb d_M_edge_14 rfl (lv_at hl 0 rfl) ?_
    refine lv_iload_n hx hb d_M_edge_15 rfl (lv_at hl 2 rfl) ?_
    refine lv_bipush (v := 6) hx hb d_M_edge_16 (by decide) ?_
    obtain ⟨_, ho, hf⟩ := bd hf
    refine k_I C hs hex hf (fun res e1 => iv_V (b := x0) (As := [.int x2, .int 6]) (rest := []) C hs cv_M_83 (c_M_out hl0 e1) (ci := 6) rfl rfl ho rfl hl.1 rfl (Nat.le_of_ble_eq_true rfl) d_M_edge_18 ⟨Nat.le_of_ble_eq_true rfl, Nat.le_of_ble_eq_true rfl⟩) (fun v11 h9 z10 H locs cells slots hf hs => ?_)
    refine lv_if_eq (tgt := 30) hx hb d_M_edge_21 (by decide) (fun q12 => ?_) (fun q12 => ?_)
    · have hf := ifp q12 hf
      refine lv_iload_n hx hb d_M_edge_30 rfl (lv_at hl 2 rfl) ?_
      by_cases q13 : x2 = 0
      · have hf := ifp q13 hf
        refine lv_tableIn (tgt := 60) (off := 29) hx hb d_M_edge_31 (by rw [q13]; decide) (by rw [q13]; decide) (by rw [q13]; rfl) (by decide) ?_
        refine lv_aload_n hx hb d_M_edge_60 rfl (lv_at hl 0 rfl) ?_
        refine r_getR C hs fl_M_31 d_M_edge_61 hf (fun v14 hf => ?_)
        refine lv_iload_n hx hb d_M_edge_64 rfl (lv_at hl 1 rfl) ?_
        refine r_iald C hs d_M_edge_65 hf (fun v15 hf => ?_)
        exact r_ireturn C hs hr d_M_edge_66 hf
      have hf := ifn q13 hf
      by_cases q16 : x2 = 1
      · have hf := ifp q16 hf
        refine lv_tableIn (tgt := 67) (off := 36) hx hb d_M_edge_31 (by rw [q16]; decide) (by rw [q16]; decide) (by rw [q16]; rfl) (by decide) ?_
        refine lv_aload_n hx hb d_M_edge_67 rfl (lv_at hl 0 rfl) ?_
        refine lv_iload_n hx hb d_M_edge_68 rfl (lv_at hl 1 rfl) ?_
        obtain ⟨_, ho, hf⟩ := bd hf
        refine k_I C hs hex hf (fun res e1 => iv_V (b := x0) (As := [.int x1]) (rest := []) C hs cv_M_125 (c_M_stable hl0 e1) (ci := 6) rfl rfl ho rfl hl.1 rfl (Nat.le_of_ble_eq_true rfl) d_M_edge_69 ⟨Nat.le_of_ble_eq_true rfl, Nat.le_of_ble_eq_true rfl⟩) (fun v19 h17 z18 H locs cells slots hf hs => ?_)
        exact r_ireturn C hs hr d_M_edge_72 hf
      have hf := ifn q16 hf
      by_cases q20 : x2 = 2
      · have hf := ifp q20 hf
        refine lv_tableIn (tgt := 73) (off := 42) hx hb d_M_edge_31 (by rw [q20]; decide) (by rw [q20]; decide) (by rw [q20]; rfl) (by decide) ?_
        refine lv_aload_n hx hb d_M_edge_73 rfl (lv_at hl 0 rfl) ?_
        refine r_getR C hs fl_M_34 d_M_edge_74 hf (fun v21 hf => ?_)
        refine lv_iload_n hx hb d_M_edge_77 rfl (lv_at hl 1 rfl) ?_
        refine r_iald C hs d_M_edge_78 hf (fun v22 hf => ?_)
        exact r_ireturn C hs hr d_M_edge_79 hf
      have hf := ifn q20 hf
      by_cases q23 : x2 = 3
      · have hf := ifp q23 hf
        refine lv_tableIn (tgt := 80) (off := 49) hx hb d_M_edge_31 (by rw [q23]; decide) (by rw [q23]; decide) (by rw [q23]; rfl) (by decide) ?_
        refine lv_aload_n hx hb d_M_edge_80 rfl (lv_at hl 0 rfl) ?_
        refine r_getR C hs fl_M_28 d_M_edge_81 hf (fun v24 hf => ?_)
        refine lv_iload_n hx hb d_M_edge_84 rfl (lv_at hl 1 rfl) ?_
        refine r_iald C hs d_M_edge_85 hf (fun v25 hf => ?_)
        exact r_ireturn C hs hr d_M_edge_86 hf
      have hf := ifn q23 hf
      refine lv_tableOut (tgt := 87) hx hb d_M_edge_31 (tab_out4 q13 q16 q20 q23) (by decide) ?_
      refine lv_aload_n hx hb d_M_edge_87 rfl (lv_at hl 0 rfl) ?_
      refine r_getR C hs fl_M_68 d_M_edge_88 hf (fun v26 hf => ?_)
      refine lv_iconst (v := 4) hx hb d_M_edge_91 (by decide) ?_
      refine lv_iload_n hx hb d_M_edge_92 rfl (lv_at hl 2 rfl) ?_
      refine lv_iconst (v := 4) hx hb d_M_edge_93 (by decide) ?_
      refine lv_isub hx hb d_M_edge_94 ?_
      refine lv_imul hx hb d_M_edge_95 ?_
      refine lv_iload_n hx hb d_M_edge_96 rfl (lv_at hl 1 rfl) ?_
      refine lv_iadd hx hb d_M_edge_97 ?_
      refine r_iald C hs d_M_edge_98 hf (fun v27 hf => ?_)
      exact r_ireturn C hs hr d_M_edge_99 hf
    · have hf := ifn q12 hf
      refine lv_aload_n hx hb d_M_edge_24 rfl (lv_at hl 0 rfl) ?_
      refine lv_iconst (v := 1) hx hb d_M_edge_25 (by decide) ?_
      obtain ⟨_, ho, hf⟩ := bd hf
      refine k_I C hs hex hf (fun res e1 => iv_V (b := x0) (As := [.int 1]) (rest := []) C hs cv_M_86 (c_M_fail hl0 e1) (ci := 6) rfl rfl ho rfl hl.1 rfl (Nat.le_of_ble_eq_true rfl) d_M_edge_26 ⟨Nat.le_of_ble_eq_true rfl, Nat.le_of_ble_eq_true rfl⟩) (fun v30 h28 z29 H locs cells slots hf hs => ?_)
      exact r_ireturn C hs hr d_M_edge_29 hf
def f_M_fact_B43 (bs sE : Nat) (h : HH) (z : Z3) (x0 : Nat) (x1 : Int32) (x2 : Int32) : Option RS :=
  if x2 = 0 then
    ((gR h x0 6 10).bind fun v15 =>
    (aI h v15 0 x1).bind fun v16 =>
    some (.inl (some (.int v16)), h, z))
  else
    (some (.inl (some (.int (-1))), h, z))
set_option maxHeartbeats 4000000 in
set_option maxRecDepth 100000 in
theorem t_M_fact_B43 {G : EN} {p : Program} {l : Launch} {e : Env} {s : State} {m : MethodId} {args : Array Value} {below : List Frame} {meth : Method} {c : Code} {z0 : Z3} (hl0 : l.stackTraces = false) (C : CX G p l s m meth c b_M_fact 3 y_M_fact.cls) (hr : meth.sig.returnType = (some .int)) (hex : c.exceptionTable.toList = []) {r : RS} :
    ∀ (h : HH) (z : Z3) (x0 : Nat) (x1 : Int32) (x2 : Int32), f_M_fact_B43 G.2.2.1 G.2.2.2 h z x0 x1 x2 = some r → ∀ (H : Heap) (locs : List Loc) (cells slots : Nat) (ls : Array Slot), ST G (RM 2 46 z0) s h z H locs cells slots → lv_has ls 3 [(0, .ref x0), (1, .int x1), (2, .int x2)] → W p l e (RM 2 46 z0) s m args below meth c H locs cells slots (MX G below s r (RM 2 46 z0).cells (RM 2 46 z0).slots) (F0 m 43 ls []) := by
  have hx := C.1
  have hb := C.2.1
  intro h z x0 x1 x2 hf H locs cells slots ls hs hl
  unfold f_M_fact_B43 at hf
  refine lv_iload_n hx hb d_M_fact_43 rfl (lv_at hl 2 rfl) ?_
  refine lv_if_ne (tgt := 56) hx hb d_M_fact_44 (by decide) (fun q14 => ?_) (fun q14 => ?_)
  · have hf := ifn q14 hf
    refine lv_iconst (v := (-1)) hx hb d_M_fact_56 (by decide) ?_
    exact r_ireturn C hs hr d_M_fact_57 hf
  · have hf := ifp q14 hf
    refine lv_aload_n hx hb d_M_fact_47 rfl (lv_at hl 0 rfl) ?_
    refine r_getR C hs fl_M_37 d_M_fact_48 hf (fun v15 hf => ?_)
    refine lv_iload_n hx hb d_M_fact_51 rfl (lv_at hl 1 rfl) ?_
    refine r_iald C hs d_M_fact_52 hf (fun v16 hf => ?_)
    refine lv_goto (tgt := 57) hx hb d_M_fact_53 (by decide) ?_
    exact r_ireturn C hs hr d_M_fact_57 hf
def f_M_fact (bs sE : Nat) (h : HH) (z : Z3) (x0 : Nat) (x1 : Int32) (x2 : Int32) : Option RS :=
  (pV bs h x0 6 0 (.inl 0)).bind fun h1 =>
  (oK h1 x0 6).bind fun _ =>
  cI (f_M_out bs sE h1 z x0 x1 4) fun v4 h2 z3 =>
  if v4 = 0 then
    ((oK h2 x0 6).bind fun _ =>
    cI (f_M_out bs sE h2 z3 x0 x2 8) fun v11 h9 z10 =>
    if v11 = 0 then
      (if x2 = 0 then
        (f_M_fact_B43 bs sE h9 z10 x0 x1 x2)
      else
        ((gR h9 x0 6 10).bind fun v17 =>
        (aI h9 v17 0 x1).bind fun v18 =>
        if 0 ≤ v18 then
          (if x2 = 1 then
            ((gR h9 x0 6 11).bind fun v33 =>
            (aI h9 v33 0 x1).bind fun v34 =>
            some (.inl (some (.int v34)), h9, z10))
          else
            (if 4 ≤ x2 then
              ((oK h9 x0 6).bind fun _ =>
              cI (f_M_next bs sE h9 z10 x0 x1 (x2 - 4)) fun v24 h22 z23 =>
              some (.inl (some (.int v24)), h22, z23))
            else
              ((gR h9 x0 6 10).bind fun v25 =>
              (aI h9 v25 0 x1).bind fun v26 =>
              if v26 = 0 then
                (some (.inl (some (.int 0)), h9, z10))
              else
                (if x2 = 2 then
                  ((gR h9 x0 6 12).bind fun v31 =>
                  (aI h9 v31 0 x1).bind fun v32 =>
                  some (.inl (some (.int v32)), h9, z10))
                else
                  ((gR h9 x0 6 13).bind fun v29 =>
                  (aI h9 v29 0 x1).bind fun v30 =>
                  some (.inl (some (.int v30)), h9, z10))))))
        else
          (f_M_fact_B43 bs sE h9 z10 x0 x1 x2)))
    else
      ((oK h9 x0 6).bind fun _ =>
      cI (f_M_fail bs sE h9 z10 x0 1) fun v37 h35 z36 =>
      some (.inl (some (.int v37)), h35, z36)))
  else
    ((oK h2 x0 6).bind fun _ =>
    cI (f_M_fail bs sE h2 z3 x0 1) fun v8 h6 z7 =>
    some (.inl (some (.int v8)), h6, z7))
set_option maxHeartbeats 4000000 in
set_option maxRecDepth 100000 in
theorem c_M_fact {G : EN} {l : Launch} (hl0 : l.stackTraces = false) {h : HH} {z : Z3} {x0 : Nat} {x1 : Int32} {x2 : Int32} {r : RS} (hf : f_M_fact G.2.2.1 G.2.2.2 h z x0 x1 x2 = some r) : CM G l y_M_fact (.code y_M_fact b_M_fact 3 (some .int)) 2 46 [.ref x0, .int x1, .int x2] h z r := by
  refine CM.ofW hl0 rfl ?_
  intro p e s m below meth c C hr hex hin hs
  have hx := C.1
  have hb := C.2.1
  refine x_entry (n := 3) (Nat.le_of_ble_eq_true rfl) (fun ls hl => ?_)
  have hl : lv_has ls 3 [(0, .ref x0), (1, .int x1), (2, .int x2)] := hl
  unfold f_M_fact at hf
  refine lv_aload_n hx hb d_M_fact_0 rfl (lv_at hl 0 rfl) ?_
  refine lv_iconst (v := 0) hx hb d_M_fact_1 (by decide) ?_
  refine r_putV (v := (.inl 0)) C hs flp_M_71 rfl rfl d_M_fact_2 hf (fun h1 H locs hf hs => ?_)
  refine lv_aload_n hx hb d_M_fact_5 rfl (lv_at hl 0 rfl) ?_
  refine lv_iload_n hx hb d_M_fact_6 rfl (lv_at hl 1 rfl) ?_
  refine lv_iconst (v := 4) hx hb d_M_fact_7 (by decide) ?_
  obtain ⟨_, ho, hf⟩ := bd hf
  refine k_I C hs hex hf (fun res e1 => iv_V (b := x0) (As := [.int x1, .int 4]) (rest := []) C hs cv_M_83 (c_M_out hl0 e1) (ci := 6) rfl rfl ho rfl hl.1 rfl (Nat.le_of_ble_eq_true rfl) d_M_fact_8 ⟨Nat.le_of_ble_eq_true rfl, Nat.le_of_ble_eq_true rfl⟩) (fun v4 h2 z3 H locs cells slots hf hs => ?_)
  refine lv_if_ne (tgt := 24) hx hb d_M_fact_11 (by decide) (fun q5 => ?_) (fun q5 => ?_)
  · have hf := ifn q5 hf
    refine lv_aload_n hx hb d_M_fact_24 rfl (lv_at hl 0 rfl) ?_
    refine lv_iconst (v := 1) hx hb d_M_fact_25 (by decide) ?_
    obtain ⟨_, ho, hf⟩ := bd hf
    refine k_I C hs hex hf (fun res e1 => iv_V (b := x0) (As := [.int 1]) (rest := []) C hs cv_M_86 (c_M_fail hl0 e1) (ci := 6) rfl rfl ho rfl hl.1 rfl (Nat.le_of_ble_eq_true rfl) d_M_fact_26 ⟨Nat.le_of_ble_eq_true rfl, Nat.le_of_ble_eq_true rfl⟩) (fun v8 h6 z7 H locs cells slots hf hs => ?_)
    exact r_ireturn C hs hr d_M_fact_29 hf
  · have hf := ifp q5 hf
    refine lv_aload_n hx hb d_M_fact_14 rfl (lv_at hl 0 rfl) ?_
    refine lv_iload_n hx hb d_M_fact_15 rfl (lv_at hl 2 rfl) ?_
    refine lv_bipush (v := 8) hx hb d_M_fact_16 (by decide) ?_
    obtain ⟨_, ho, hf⟩ := bd hf
    refine k_I C hs hex hf (fun res e1 => iv_V (b := x0) (As := [.int x2, .int 8]) (rest := []) C hs cv_M_83 (c_M_out hl0 e1) (ci := 6) rfl rfl ho rfl hl.1 rfl (Nat.le_of_ble_eq_true rfl) d_M_fact_18 ⟨Nat.le_of_ble_eq_true rfl, Nat.le_of_ble_eq_true rfl⟩) (fun v11 h9 z10 H locs cells slots hf hs => ?_)
    refine lv_if_eq (tgt := 30) hx hb d_M_fact_21 (by decide) (fun q12 => ?_) (fun q12 => ?_)
    · have hf := ifp q12 hf
      refine lv_iload_n hx hb d_M_fact_30 rfl (lv_at hl 2 rfl) ?_
      refine lv_if_eq (tgt := 43) hx hb d_M_fact_31 (by decide) (fun q13 => ?_) (fun q13 => ?_)
      · have hf := ifp q13 hf
        exact t_M_fact_B43 hl0 C hr hex _ _ _ _ _ hf _ _ _ _ _ hs (lv_sub hl [0, 1, 2] rfl)
      · have hf := ifn q13 hf
        refine lv_aload_n hx hb d_M_fact_34 rfl (lv_at hl 0 rfl) ?_
        refine r_getR C hs fl_M_37 d_M_fact_35 hf (fun v17 hf => ?_)
        refine lv_iload_n hx hb d_M_fact_38 rfl (lv_at hl 1 rfl) ?_
        refine r_iald C hs d_M_fact_39 hf (fun v18 hf => ?_)
        refine lv_if_ge (tgt := 58) hx hb d_M_fact_40 (by decide) (fun q19 => ?_) (fun q19 => ?_)
        · have hf := ifp q19 hf
          refine lv_iload_n hx hb d_M_fact_58 rfl (lv_at hl 2 rfl) ?_
          refine lv_iconst (v := 1) hx hb d_M_fact_59 (by decide) ?_
          refine lv_icmp_ne (tgt := 70) hx hb d_M_fact_60 (by decide) (fun q20 => ?_) (fun q20 => ?_)
          · have hf := ifn q20 hf
            refine lv_iload_n hx hb d_M_fact_70 rfl (lv_at hl 2 rfl) ?_
            refine lv_iconst (v := 4) hx hb d_M_fact_71 (by decide) ?_
            refine lv_icmp_ge (tgt := 109) hx hb d_M_fact_72 (by decide) (fun q21 => ?_) (fun q21 => ?_)
            · have hf := ifp q21 hf
              refine lv_aload_n hx hb d_M_fact_109 rfl (lv_at hl 0 rfl) ?_
              refine lv_iload_n hx hb d_M_fact_110 rfl (lv_at hl 1 rfl) ?_
              refine lv_iload_n hx hb d_M_fact_111 rfl (lv_at hl 2 rfl) ?_
              refine lv_iconst (v := 4) hx hb d_M_fact_112 (by decide) ?_
              refine lv_isub hx hb d_M_fact_113 ?_
              obtain ⟨_, ho, hf⟩ := bd hf
              refine k_I C hs hex hf (fun res e1 => iv_V (b := x0) (As := [.int x1, .int (x2 - 4)]) (rest := []) C hs cv_M_107 (c_M_next hl0 e1) (ci := 6) rfl rfl ho rfl hl.1 rfl (Nat.le_of_ble_eq_true rfl) d_M_fact_114 ⟨Nat.le_of_ble_eq_true rfl, Nat.le_of_ble_eq_true rfl⟩) (fun v24 h22 z23 H locs cells slots hf hs => ?_)
              exact r_ireturn C hs hr d_M_fact_117 hf
            · have hf := ifn q21 hf
              refine lv_aload_n hx hb d_M_fact_75 rfl (lv_at hl 0 rfl) ?_
              refine r_getR C hs fl_M_37 d_M_fact_76 hf (fun v25 hf => ?_)
              refine lv_iload_n hx hb d_M_fact_79 rfl (lv_at hl 1 rfl) ?_
              refine r_iald C hs d_M_fact_80 hf (fun v26 hf => ?_)
              refine lv_if_ne (tgt := 88) hx hb d_M_fact_81 (by decide) (fun q27 => ?_) (fun q27 => ?_)
              · have hf := ifn q27 hf
                refine lv_iload_n hx hb d_M_fact_88 rfl (lv_at hl 2 rfl) ?_
                refine lv_iconst (v := 2) hx hb d_M_fact_89 (by decide) ?_
                refine lv_icmp_ne (tgt := 102) hx hb d_M_fact_90 (by decide) (fun q28 => ?_) (fun q28 => ?_)
                · have hf := ifn q28 hf
                  refine lv_aload_n hx hb d_M_fact_102 rfl (lv_at hl 0 rfl) ?_
                  refine r_getR C hs fl_M_46 d_M_fact_103 hf (fun v29 hf => ?_)
                  refine lv_iload_n hx hb d_M_fact_106 rfl (lv_at hl 1 rfl) ?_
                  refine r_iald C hs d_M_fact_107 hf (fun v30 hf => ?_)
                  exact r_ireturn C hs hr d_M_fact_108 hf
                · have hf := ifp q28 hf
                  refine lv_aload_n hx hb d_M_fact_93 rfl (lv_at hl 0 rfl) ?_
                  refine r_getR C hs fl_M_43 d_M_fact_94 hf (fun v31 hf => ?_)
                  refine lv_iload_n hx hb d_M_fact_97 rfl (lv_at hl 1 rfl) ?_
                  refine r_iald C hs d_M_fact_98 hf (fun v32 hf => ?_)
                  refine lv_goto (tgt := 108) hx hb d_M_fact_99 (by decide) ?_
                  exact r_ireturn C hs hr d_M_fact_108 hf
              · have hf := ifp q27 hf
                refine lv_iconst (v := 0) hx hb d_M_fact_84 (by decide) ?_
                refine lv_goto (tgt := 108) hx hb d_M_fact_85 (by decide) ?_
                exact r_ireturn C hs hr d_M_fact_108 hf
          · have hf := ifp q20 hf
            refine lv_aload_n hx hb d_M_fact_63 rfl (lv_at hl 0 rfl) ?_
            refine r_getR C hs fl_M_40 d_M_fact_64 hf (fun v33 hf => ?_)
            refine lv_iload_n hx hb d_M_fact_67 rfl (lv_at hl 1 rfl) ?_
            refine r_iald C hs d_M_fact_68 hf (fun v34 hf => ?_)
            exact r_ireturn C hs hr d_M_fact_69 hf
        · have hf := ifn q19 hf
          exact t_M_fact_B43 hl0 C hr hex _ _ _ _ _ hf _ _ _ _ _ hs (lv_sub hl [0, 1, 2] rfl)
    · have hf := ifn q12 hf
      refine lv_aload_n hx hb d_M_fact_24 rfl (lv_at hl 0 rfl) ?_
      refine lv_iconst (v := 1) hx hb d_M_fact_25 (by decide) ?_
      obtain ⟨_, ho, hf⟩ := bd hf
      refine k_I C hs hex hf (fun res e1 => iv_V (b := x0) (As := [.int 1]) (rest := []) C hs cv_M_86 (c_M_fail hl0 e1) (ci := 6) rfl rfl ho rfl hl.1 rfl (Nat.le_of_ble_eq_true rfl) d_M_fact_26 ⟨Nat.le_of_ble_eq_true rfl, Nat.le_of_ble_eq_true rfl⟩) (fun v37 h35 z36 H locs cells slots hf hs => ?_)
      exact r_ireturn C hs hr d_M_fact_29 hf
end
