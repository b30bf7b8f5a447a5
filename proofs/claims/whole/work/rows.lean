section
-- ===== PART A: goes FIRST, ahead of the names: the tables' words, and 'selects' of the private methods out of them =====
/-- a private method of a class that the tables say can be made, by its rows of tables_1 -/
def lw_okq (q : MethodName × Nat) : Prop := (q.1.cls ≠ "java/lang/invoke/MethodHandle" ∧ q.1.cls ≠ "java/lang/invoke/VarHandle") ∧ Cond.instantiable q.1.cls q.2 ∈ tables_1 ∧ Cond.privateMethod q.1 ∈ tables_1 ∧ Cond.instanceMethod q.1 ∈ tables_1
theorem lw_p0 : lw_okq (⟨"FencedBroker", "advance", "(LFencedBroker$Producer;)I"⟩, 6) := ⟨⟨by decide +kernel, by decide +kernel⟩, List.mem_of_getElem? (i := 26) (by decide +kernel), List.mem_of_getElem? (i := 176) (by decide +kernel), List.mem_of_getElem? (i := 177) (by decide +kernel)⟩
theorem lw_p1 : lw_okq (⟨"FencedBroker", "endTransaction", "(LFencedBroker$Producer;)V"⟩, 6) := ⟨⟨by decide +kernel, by decide +kernel⟩, List.mem_of_getElem? (i := 26) (by decide +kernel), List.mem_of_getElem? (i := 184) (by decide +kernel), List.mem_of_getElem? (i := 185) (by decide +kernel)⟩
theorem lw_p2 : lw_okq (⟨"FencedBroker", "advanceIn", "(LFencedBroker$Producer;I)I"⟩, 6) := ⟨⟨by decide +kernel, by decide +kernel⟩, List.mem_of_getElem? (i := 26) (by decide +kernel), List.mem_of_getElem? (i := 203) (by decide +kernel), List.mem_of_getElem? (i := 204) (by decide +kernel)⟩
theorem lw_p3 : lw_okq (⟨"java/util/ArrayList", "add", "(Ljava/lang/Object;[Ljava/lang/Object;I)V"⟩, 3) := ⟨⟨by decide +kernel, by decide +kernel⟩, List.mem_of_getElem? (i := 45) (by decide +kernel), List.mem_of_getElem? (i := 264) (by decide +kernel), List.mem_of_getElem? (i := 265) (by decide +kernel)⟩
theorem lw_p4 : lw_okq (⟨"java/util/ArrayList", "grow", "()[Ljava/lang/Object;"⟩, 3) := ⟨⟨by decide +kernel, by decide +kernel⟩, List.mem_of_getElem? (i := 45) (by decide +kernel), List.mem_of_getElem? (i := 268) (by decide +kernel), List.mem_of_getElem? (i := 269) (by decide +kernel)⟩
theorem lw_p5 : lw_okq (⟨"java/util/ArrayList", "grow", "(I)[Ljava/lang/Object;"⟩, 3) := ⟨⟨by decide +kernel, by decide +kernel⟩, List.mem_of_getElem? (i := 45) (by decide +kernel), List.mem_of_getElem? (i := 272) (by decide +kernel), List.mem_of_getElem? (i := 273) (by decide +kernel)⟩
theorem lw_p6 : lw_okq (⟨"java/lang/Throwable", "fillInStackTrace", "(I)Ljava/lang/Throwable;"⟩, 6) := ⟨⟨by decide +kernel, by decide +kernel⟩, List.mem_of_getElem? (i := 383) (by decide +kernel), List.mem_of_getElem? (i := 381) (by decide +kernel), List.mem_of_getElem? (i := 382) (by decide +kernel)⟩
theorem lw_p7 : lw_okq (⟨"FencedBroker", "knownProducer", "(II)LFencedBroker$Producer;"⟩, 6) := ⟨⟨by decide +kernel, by decide +kernel⟩, List.mem_of_getElem? (i := 26) (by decide +kernel), List.mem_of_getElem? (i := 450) (by decide +kernel), List.mem_of_getElem? (i := 451) (by decide +kernel)⟩
theorem lw_p8 : lw_okq (⟨"FencedBroker", "openProducer", "(II)LFencedBroker$Producer;"⟩, 6) := ⟨⟨by decide +kernel, by decide +kernel⟩, List.mem_of_getElem? (i := 26) (by decide +kernel), List.mem_of_getElem? (i := 493) (by decide +kernel), List.mem_of_getElem? (i := 494) (by decide +kernel)⟩
theorem lw_p9 : lw_okq (⟨"FencedBroker", "hasUncopied", "(I)Z"⟩, 6) := ⟨⟨by decide +kernel, by decide +kernel⟩, List.mem_of_getElem? (i := 26) (by decide +kernel), List.mem_of_getElem? (i := 578) (by decide +kernel), List.mem_of_getElem? (i := 579) (by decide +kernel)⟩
theorem lw_p10 : lw_okq (⟨"java/util/ArrayList", "fastRemove", "([Ljava/lang/Object;I)V"⟩, 3) := ⟨⟨by decide +kernel, by decide +kernel⟩, List.mem_of_getElem? (i := 45) (by decide +kernel), List.mem_of_getElem? (i := 638) (by decide +kernel), List.mem_of_getElem? (i := 639) (by decide +kernel)⟩
theorem lw_p11 : lw_okq (⟨"FencedBroker$Log", "isUnended", "(LFencedBroker$Entry;)Z"⟩, 4) := ⟨⟨by decide +kernel, by decide +kernel⟩, List.mem_of_getElem? (i := 39) (by decide +kernel), List.mem_of_getElem? (i := 675) (by decide +kernel), List.mem_of_getElem? (i := 676) (by decide +kernel)⟩
theorem lw_p12 : lw_okq (⟨"FencedBroker$Log", "isAborted", "(I)Z"⟩, 4) := ⟨⟨by decide +kernel, by decide +kernel⟩, List.mem_of_getElem? (i := 39) (by decide +kernel), List.mem_of_getElem? (i := 680) (by decide +kernel), List.mem_of_getElem? (i := 681) (by decide +kernel)⟩
theorem lw_p13 : lw_okq (⟨"FencedBroker$Group", "countMembers", "()I"⟩, 5) := ⟨⟨by decide +kernel, by decide +kernel⟩, List.mem_of_getElem? (i := 126) (by decide +kernel), List.mem_of_getElem? (i := 722) (by decide +kernel), List.mem_of_getElem? (i := 723) (by decide +kernel)⟩
theorem lw_p14 : lw_okq (⟨"FencedBroker$Group", "takeSurplus", "(II)V"⟩, 5) := ⟨⟨by decide +kernel, by decide +kernel⟩, List.mem_of_getElem? (i := 126) (by decide +kernel), List.mem_of_getElem? (i := 726) (by decide +kernel), List.mem_of_getElem? (i := 727) (by decide +kernel)⟩
theorem lw_p15 : lw_okq (⟨"FencedBroker$Group", "giveUnowned", "()V"⟩, 5) := ⟨⟨by decide +kernel, by decide +kernel⟩, List.mem_of_getElem? (i := 126) (by decide +kernel), List.mem_of_getElem? (i := 735) (by decide +kernel), List.mem_of_getElem? (i := 736) (by decide +kernel)⟩
def lw_privs_1 : List (MethodName × Nat) := [(⟨"FencedBroker", "advance", "(LFencedBroker$Producer;)I"⟩, 6), (⟨"FencedBroker", "endTransaction", "(LFencedBroker$Producer;)V"⟩, 6), (⟨"FencedBroker", "advanceIn", "(LFencedBroker$Producer;I)I"⟩, 6), (⟨"java/util/ArrayList", "add", "(Ljava/lang/Object;[Ljava/lang/Object;I)V"⟩, 3), (⟨"java/util/ArrayList", "grow", "()[Ljava/lang/Object;"⟩, 3), (⟨"java/util/ArrayList", "grow", "(I)[Ljava/lang/Object;"⟩, 3), (⟨"java/lang/Throwable", "fillInStackTrace", "(I)Ljava/lang/Throwable;"⟩, 6), (⟨"FencedBroker", "knownProducer", "(II)LFencedBroker$Producer;"⟩, 6), (⟨"FencedBroker", "openProducer", "(II)LFencedBroker$Producer;"⟩, 6), (⟨"FencedBroker", "hasUncopied", "(I)Z"⟩, 6), (⟨"java/util/ArrayList", "fastRemove", "([Ljava/lang/Object;I)V"⟩, 3), (⟨"FencedBroker$Log", "isUnended", "(LFencedBroker$Entry;)Z"⟩, 4), (⟨"FencedBroker$Log", "isAborted", "(I)Z"⟩, 4), (⟨"FencedBroker$Group", "countMembers", "()I"⟩, 5), (⟨"FencedBroker$Group", "takeSurplus", "(II)V"⟩, 5), (⟨"FencedBroker$Group", "giveUnowned", "()V"⟩, 5)]
theorem lw_r1 : ∀ q ∈ lw_privs_1, lw_okq q := List.forall_mem_cons.mpr ⟨lw_p0, List.forall_mem_cons.mpr ⟨lw_p1, List.forall_mem_cons.mpr ⟨lw_p2, List.forall_mem_cons.mpr ⟨lw_p3, List.forall_mem_cons.mpr ⟨lw_p4, List.forall_mem_cons.mpr ⟨lw_p5, List.forall_mem_cons.mpr ⟨lw_p6, List.forall_mem_cons.mpr ⟨lw_p7, List.forall_mem_cons.mpr ⟨lw_p8, List.forall_mem_cons.mpr ⟨lw_p9, List.forall_mem_cons.mpr ⟨lw_p10, List.forall_mem_cons.mpr ⟨lw_p11, List.forall_mem_cons.mpr ⟨lw_p12, List.forall_mem_cons.mpr ⟨lw_p13, List.forall_mem_cons.mpr ⟨lw_p14, List.forall_mem_cons.mpr ⟨lw_p15, fun _ h => absurd h List.not_mem_nil⟩⟩⟩⟩⟩⟩⟩⟩⟩⟩⟩⟩⟩⟩⟩⟩
theorem lw_p16 : lw_okq (⟨"FencedBroker$Group", "poorestMember", "()I"⟩, 5) := ⟨⟨by decide +kernel, by decide +kernel⟩, List.mem_of_getElem? (i := 126) (by decide +kernel), List.mem_of_getElem? (i := 739) (by decide +kernel), List.mem_of_getElem? (i := 740) (by decide +kernel)⟩
theorem lw_p17 : lw_okq (⟨"FencedBroker$Group", "isOwned", "(I)Z"⟩, 5) := ⟨⟨by decide +kernel, by decide +kernel⟩, List.mem_of_getElem? (i := 126) (by decide +kernel), List.mem_of_getElem? (i := 743) (by decide +kernel), List.mem_of_getElem? (i := 744) (by decide +kernel)⟩
theorem lw_p18 : lw_okq (⟨"FencedBroker", "groupWith", "(II)LFencedBroker$Group;"⟩, 6) := ⟨⟨by decide +kernel, by decide +kernel⟩, List.mem_of_getElem? (i := 26) (by decide +kernel), List.mem_of_getElem? (i := 754) (by decide +kernel), List.mem_of_getElem? (i := 755) (by decide +kernel)⟩
theorem lw_p19 : lw_okq (⟨"FencedBroker", "groupAt", "(III)LFencedBroker$Group;"⟩, 6) := ⟨⟨by decide +kernel, by decide +kernel⟩, List.mem_of_getElem? (i := 26) (by decide +kernel), List.mem_of_getElem? (i := 770) (by decide +kernel), List.mem_of_getElem? (i := 771) (by decide +kernel)⟩
theorem lw_p20 : lw_okq (⟨"FencedBrokerModel", "out", "(II)Z"⟩, 24) := ⟨⟨by decide +kernel, by decide +kernel⟩, List.mem_of_getElem? (i := 812) (by decide +kernel), List.mem_of_getElem? (i := 899) (by decide +kernel), List.mem_of_getElem? (i := 900) (by decide +kernel)⟩
theorem lw_p21 : lw_okq (⟨"FencedBrokerModel", "fail", "(I)I"⟩, 24) := ⟨⟨by decide +kernel, by decide +kernel⟩, List.mem_of_getElem? (i := 812) (by decide +kernel), List.mem_of_getElem? (i := 903) (by decide +kernel), List.mem_of_getElem? (i := 904) (by decide +kernel)⟩
theorem lw_p22 : lw_okq (⟨"FencedBrokerModel", "abort", "(I)V"⟩, 24) := ⟨⟨by decide +kernel, by decide +kernel⟩, List.mem_of_getElem? (i := 812) (by decide +kernel), List.mem_of_getElem? (i := 907) (by decide +kernel), List.mem_of_getElem? (i := 908) (by decide +kernel)⟩
theorem lw_p23 : lw_okq (⟨"FencedBrokerModel", "check", "(III)I"⟩, 24) := ⟨⟨by decide +kernel, by decide +kernel⟩, List.mem_of_getElem? (i := 812) (by decide +kernel), List.mem_of_getElem? (i := 915) (by decide +kernel), List.mem_of_getElem? (i := 916) (by decide +kernel)⟩
theorem lw_p24 : lw_okq (⟨"FencedBrokerModel", "recent", "(III)I"⟩, 24) := ⟨⟨by decide +kernel, by decide +kernel⟩, List.mem_of_getElem? (i := 812) (by decide +kernel), List.mem_of_getElem? (i := 923) (by decide +kernel), List.mem_of_getElem? (i := 924) (by decide +kernel)⟩
theorem lw_p25 : lw_okq (⟨"FencedBrokerModel", "ofProducer", "(II)Z"⟩, 24) := ⟨⟨by decide +kernel, by decide +kernel⟩, List.mem_of_getElem? (i := 812) (by decide +kernel), List.mem_of_getElem? (i := 927) (by decide +kernel), List.mem_of_getElem? (i := 928) (by decide +kernel)⟩
theorem lw_p26 : lw_okq (⟨"FencedBrokerModel", "next", "(II)I"⟩, 24) := ⟨⟨by decide +kernel, by decide +kernel⟩, List.mem_of_getElem? (i := 812) (by decide +kernel), List.mem_of_getElem? (i := 931) (by decide +kernel), List.mem_of_getElem? (i := 932) (by decide +kernel)⟩
theorem lw_p27 : lw_okq (⟨"FencedBrokerModel", "full", "(I)Z"⟩, 24) := ⟨⟨by decide +kernel, by decide +kernel⟩, List.mem_of_getElem? (i := 812) (by decide +kernel), List.mem_of_getElem? (i := 935) (by decide +kernel), List.mem_of_getElem? (i := 936) (by decide +kernel)⟩
theorem lw_p28 : lw_okq (⟨"FencedBrokerModel", "put", "(IIIII)I"⟩, 24) := ⟨⟨by decide +kernel, by decide +kernel⟩, List.mem_of_getElem? (i := 812) (by decide +kernel), List.mem_of_getElem? (i := 939) (by decide +kernel), List.mem_of_getElem? (i := 940) (by decide +kernel)⟩
theorem lw_p29 : lw_okq (⟨"FencedBrokerModel", "ones", "(I)I"⟩, 24) := ⟨⟨by decide +kernel, by decide +kernel⟩, List.mem_of_getElem? (i := 812) (by decide +kernel), List.mem_of_getElem? (i := 951) (by decide +kernel), List.mem_of_getElem? (i := 952) (by decide +kernel)⟩
theorem lw_p30 : lw_okq (⟨"FencedBrokerModel", "stepOf", "(I)I"⟩, 24) := ⟨⟨by decide +kernel, by decide +kernel⟩, List.mem_of_getElem? (i := 812) (by decide +kernel), List.mem_of_getElem? (i := 959) (by decide +kernel), List.mem_of_getElem? (i := 960) (by decide +kernel)⟩
theorem lw_p31 : lw_okq (⟨"FencedBrokerModel", "marked", "(IIIZ)Z"⟩, 24) := ⟨⟨by decide +kernel, by decide +kernel⟩, List.mem_of_getElem? (i := 812) (by decide +kernel), List.mem_of_getElem? (i := 963) (by decide +kernel), List.mem_of_getElem? (i := 964) (by decide +kernel)⟩
def lw_privs_2 : List (MethodName × Nat) := [(⟨"FencedBroker$Group", "poorestMember", "()I"⟩, 5), (⟨"FencedBroker$Group", "isOwned", "(I)Z"⟩, 5), (⟨"FencedBroker", "groupWith", "(II)LFencedBroker$Group;"⟩, 6), (⟨"FencedBroker", "groupAt", "(III)LFencedBroker$Group;"⟩, 6), (⟨"FencedBrokerModel", "out", "(II)Z"⟩, 24), (⟨"FencedBrokerModel", "fail", "(I)I"⟩, 24), (⟨"FencedBrokerModel", "abort", "(I)V"⟩, 24), (⟨"FencedBrokerModel", "check", "(III)I"⟩, 24), (⟨"FencedBrokerModel", "recent", "(III)I"⟩, 24), (⟨"FencedBrokerModel", "ofProducer", "(II)Z"⟩, 24), (⟨"FencedBrokerModel", "next", "(II)I"⟩, 24), (⟨"FencedBrokerModel", "full", "(I)Z"⟩, 24), (⟨"FencedBrokerModel", "put", "(IIIII)I"⟩, 24), (⟨"FencedBrokerModel", "ones", "(I)I"⟩, 24), (⟨"FencedBrokerModel", "stepOf", "(I)I"⟩, 24), (⟨"FencedBrokerModel", "marked", "(IIIZ)Z"⟩, 24)]
theorem lw_r2 : ∀ q ∈ lw_privs_2, lw_okq q := List.forall_mem_cons.mpr ⟨lw_p16, List.forall_mem_cons.mpr ⟨lw_p17, List.forall_mem_cons.mpr ⟨lw_p18, List.forall_mem_cons.mpr ⟨lw_p19, List.forall_mem_cons.mpr ⟨lw_p20, List.forall_mem_cons.mpr ⟨lw_p21, List.forall_mem_cons.mpr ⟨lw_p22, List.forall_mem_cons.mpr ⟨lw_p23, List.forall_mem_cons.mpr ⟨lw_p24, List.forall_mem_cons.mpr ⟨lw_p25, List.forall_mem_cons.mpr ⟨lw_p26, List.forall_mem_cons.mpr ⟨lw_p27, List.forall_mem_cons.mpr ⟨lw_p28, List.forall_mem_cons.mpr ⟨lw_p29, List.forall_mem_cons.mpr ⟨lw_p30, List.forall_mem_cons.mpr ⟨lw_p31, fun _ h => absurd h List.not_mem_nil⟩⟩⟩⟩⟩⟩⟩⟩⟩⟩⟩⟩⟩⟩⟩⟩
theorem lw_p32 : lw_okq (⟨"FencedBrokerModel", "stable", "(I)I"⟩, 24) := ⟨⟨by decide +kernel, by decide +kernel⟩, List.mem_of_getElem? (i := 812) (by decide +kernel), List.mem_of_getElem? (i := 983) (by decide +kernel), List.mem_of_getElem? (i := 984) (by decide +kernel)⟩
theorem lw_p33 : lw_okq (⟨"FencedBrokerModel", "share", "(I)V"⟩, 24) := ⟨⟨by decide +kernel, by decide +kernel⟩, List.mem_of_getElem? (i := 812) (by decide +kernel), List.mem_of_getElem? (i := 999) (by decide +kernel), List.mem_of_getElem? (i := 1000) (by decide +kernel)⟩
theorem lw_p34 : lw_okq (⟨"FencedBrokerModel", "has", "(II)I"⟩, 24) := ⟨⟨by decide +kernel, by decide +kernel⟩, List.mem_of_getElem? (i := 812) (by decide +kernel), List.mem_of_getElem? (i := 1003) (by decide +kernel), List.mem_of_getElem? (i := 1004) (by decide +kernel)⟩
theorem lw_p35 : lw_okq (⟨"FencedBrokerModel", "fewest", "(I)I"⟩, 24) := ⟨⟨by decide +kernel, by decide +kernel⟩, List.mem_of_getElem? (i := 812) (by decide +kernel), List.mem_of_getElem? (i := 1007) (by decide +kernel), List.mem_of_getElem? (i := 1008) (by decide +kernel)⟩
def lw_privs_3 : List (MethodName × Nat) := [(⟨"FencedBrokerModel", "stable", "(I)I"⟩, 24), (⟨"FencedBrokerModel", "share", "(I)V"⟩, 24), (⟨"FencedBrokerModel", "has", "(II)I"⟩, 24), (⟨"FencedBrokerModel", "fewest", "(I)I"⟩, 24)]
theorem lw_r3 : ∀ q ∈ lw_privs_3, lw_okq q := List.forall_mem_cons.mpr ⟨lw_p32, List.forall_mem_cons.mpr ⟨lw_p33, List.forall_mem_cons.mpr ⟨lw_p34, List.forall_mem_cons.mpr ⟨lw_p35, fun _ h => absurd h List.not_mem_nil⟩⟩⟩⟩
def lw_privs : List (MethodName × Nat) := lw_privs_1 ++ (lw_privs_2 ++ (lw_privs_3))
def lw_tbl : List Cond := k2_sels lw_privs ++ tables_1
theorem lw_privs_ok : ∀ q ∈ lw_privs, lw_okq q := by
  show ∀ q ∈ lw_privs_1 ++ (lw_privs_2 ++ (lw_privs_3)), lw_okq q
  exact List.forall_mem_append.mpr ⟨lw_r1, List.forall_mem_append.mpr ⟨lw_r2, lw_r3⟩⟩
end
section
/-! The heap as a mathematical value: cells by their addresses; a field is an int or a reference (maybe null). -/
abbrev HV : Type := Int32 ⊕ Option Nat
abbrev HA : Type := (Nat → Int32) ⊕ ((Nat → Int64) ⊕ (Nat → Option Nat))
abbrev HC : Type := (Nat × List HV) ⊕ (Nat × Nat × HA)
abbrev HH : Type := Nat → Option HC
def hv_v : HV → Value
  | .inl x => .int x
  | .inr r => va_rf r
def ha_a (n : Nat) : HA → vp_A
  | .inl f => (n, .inl f)
  | .inr (.inl f) => (n, .inr (.inl f))
  | .inr (.inr f) => (n, .inr (.inr (.inr (.inr f))))
/-- words that stay when the tables grow warmer -/
def okw (w : Cond) : Bool := match w with
  | .fieldLinkNest .. => true
  | .methodLinkNest .. => true
  | .castable .. => true
  | .declares .. => true
  | .privateMethod .. => true
  | .stringRef .. => true
  | .arrayOver (.object _) => true
  | w => goodWord w
theorem okw_move {w : Cond} (hw : okw w = true) {s U : State} (hW : s.WarmedH U.vm) {a a' : Array Value} (h : w.before a s = true) : w.before a' U = true := by
  unfold okw at hw
  split at hw
  · exact va_Nw.use rfl (va_Nw.warmF hW (va_Nw.of rfl h))
  · exact va_Nw.use rfl (va_Nw.warmM hW (va_Nw.of rfl h))
  · exact va_Nw.use rfl (va_Nw.warmC hW (va_Nw.of rfl h))
  · exact va_Nw.use rfl (va_Nw.warmD hW (va_Nw.of rfl h))
  · exact va_tabs rfl (rfl : (s.setVm U.vm).vm = U.vm) (by rw [Cond.privateMethod_setVm hW.alike]; exact h)
  · have h1 := Cond.stringRef_warmed (args := a) hW h
    simp only [Cond.before, Cond.holds, Cond.value, State.names, State.poolOf?, State.resolvedAt?, State.vm_setVm] at h1 ⊢
    exact h1
  · exact va_AO.use (va_AO.moved hW.alike (va_AO.of h))
  · exact word_at hW (good_of_word hw) h
def TW (U : State) : Prop := ∀ w ∈ lw_tbl, okw w = true → w.before #[] U = true
theorem TW.use {s : State} (h : TW s) {w : Cond} (hm : w ∈ lw_tbl) (hw : okw w = true) {args : Array Value} : w.before args s = true := okw_move hw (State.WarmedH.refl s) (h w hm hw)
theorem TW.move {s U : State} (h : TW s) (hW : s.WarmedH U.vm) : TW U := fun w hm hw => okw_move hw hW (h w hm hw)
/-! the classes of the objects: their fields in the order of the slots -/
def q_Entry : u_T := fun k => match k with
  | 0 => ("FencedBroker$Entry", "kind", "I", true)
  | 1 => ("FencedBroker$Entry", "transaction", "I", true)
  | 2 => ("FencedBroker$Entry", "name", "I", true)
  | 3 => ("FencedBroker$Entry", "age", "I", true)
  | 4 => ("FencedBroker$Entry", "sequence", "I", true)
  | _ => ("FencedBroker$Entry", "value", "I", true)
def q_Group : u_T := fun k => match k with
  | 0 => ("FencedBroker$Group", "generation", "I", false)
  | 1 => ("FencedBroker$Group", "members", "[Z", true)
  | 2 => ("FencedBroker$Group", "heardAt", "[I", true)
  | 3 => ("FencedBroker$Group", "owned", "[I", true)
  | _ => ("FencedBroker$Group", "committed", "[I", true)
def q_Log : u_T := fun k => match k with
  | 0 => ("FencedBroker$Log", "entries", "Ljava/util/ArrayList;", true)
  | 1 => ("FencedBroker$Log", "markerAt", "[I", true)
  | 2 => ("FencedBroker$Log", "start", "I", false)
  | _ => ("FencedBroker$Log", "high", "I", false)
def q_Producer : u_T := fun k => match k with
  | 0 => ("FencedBroker$Producer", "name", "I", true)
  | 1 => ("FencedBroker$Producer", "state", "I", false)
  | 2 => ("FencedBroker$Producer", "age", "I", false)
  | 3 => ("FencedBroker$Producer", "transaction", "I", false)
  | 4 => ("FencedBroker$Producer", "begunAt", "I", false)
  | 5 => ("FencedBroker$Producer", "touched", "I", false)
  | _ => ("FencedBroker$Producer", "pending", "[I", true)
def q_Broker : u_T := fun k => match k with
  | 0 => ("FencedBroker", "logs", "[LFencedBroker$Log;", true)
  | 1 => ("FencedBroker", "producers", "[LFencedBroker$Producer;", true)
  | 2 => ("FencedBroker", "groups", "[LFencedBroker$Group;", true)
  | 3 => ("FencedBroker", "transactions", "I", false)
  | 4 => ("FencedBroker", "time", "I", false)
  | _ => ("FencedBroker", "lastValue", "I", false)
def q_List : u_T := fun k => match k with
  | 0 => ("java/util/AbstractList", "modCount", "I", false)
  | 1 => ("java/util/ArrayList", "elementData", "[Ljava/lang/Object;", false)
  | _ => ("java/util/ArrayList", "size", "I", false)
def q_Model : u_T := fun k => match k with
  | 0 => ("FencedBrokerModel", "failed", "I", false)
  | 1 => ("FencedBrokerModel", "kind", "[I", true)
  | 2 => ("FencedBrokerModel", "value", "[I", true)
  | 3 => ("FencedBrokerModel", "by", "[I", true)
  | 4 => ("FencedBrokerModel", "byAge", "[I", true)
  | 5 => ("FencedBrokerModel", "sequence", "[I", true)
  | 6 => ("FencedBrokerModel", "transaction", "[I", true)
  | 7 => ("FencedBrokerModel", "length", "[I", true)
  | 8 => ("FencedBrokerModel", "start", "[I", true)
  | 9 => ("FencedBrokerModel", "high", "[I", true)
  | 10 => ("FencedBrokerModel", "status", "[I", true)
  | 11 => ("FencedBrokerModel", "age", "[I", true)
  | 12 => ("FencedBrokerModel", "current", "[I", true)
  | 13 => ("FencedBrokerModel", "touched", "[I", true)
  | 14 => ("FencedBrokerModel", "begun", "[I", true)
  | 15 => ("FencedBrokerModel", "pending", "[I", true)
  | 16 => ("FencedBrokerModel", "transactions", "I", false)
  | 17 => ("FencedBrokerModel", "generation", "[I", true)
  | 18 => ("FencedBrokerModel", "member", "[Z", true)
  | 19 => ("FencedBrokerModel", "heard", "[I", true)
  | 20 => ("FencedBrokerModel", "holder", "[I", true)
  | 21 => ("FencedBrokerModel", "committed", "[I", true)
  | 22 => ("FencedBrokerModel", "time", "I", false)
  | _ => ("FencedBrokerModel", "last", "I", false)
def ccl : List vw_C := [("FencedBroker$Entry", q_Entry, 6), ("FencedBroker$Group", q_Group, 5), ("FencedBroker$Log", q_Log, 4), ("FencedBroker$Producer", q_Producer, 7), ("FencedBroker", q_Broker, 6), ("java/util/ArrayList", q_List, 3), ("FencedBrokerModel", q_Model, 24)]
theorem ccl_in : ∀ q ∈ ccl, ∀ w ∈ u_ws q.1 q.2.1 q.2.2, w ∈ lw_tbl := by decide +kernel
theorem ccl_nm : ∀ q ∈ ccl, ∀ a, a < q.2.2 → ∀ b, b < q.2.2 → a ≠ b → (q.2.1 a).2.1 ≠ (q.2.1 b).2.1 := by decide +kernel
def tyk (k : Nat) : FieldType := match k with
  | 0 => .int
  | 1 => .boolean
  | 2 => .long
  | 3 => .object "java/lang/Object"
  | 4 => .object "FencedBroker$Log"
  | 5 => .object "FencedBroker$Producer"
  | _ => .object "FencedBroker$Group"
/-- what stays fixed: the classes' numbers, the arrays' classes, from where on cells may be written, ArrayList's empty array -/
abbrev EN : Type := va_G × (Nat → ClassId) × Nat × Nat
def tyl (G : EN) : List (ClassId × FieldType) := (List.range 7).map (fun k => (G.2.1 k, tyk k))
def AG (G : EN) : Nat → Prop := fun q => G.2.2.1 ≤ q
def hp_at (G : EN) (a : Nat) (c : HC) (H : Heap) : Prop := match c with
  | .inl (ci, fs) => va_at G.1 ccl (a, .inr (ci, fs.map hv_v)) H
  | .inr (k, n, x) => k < 7 ∧ va_at G.1 ccl (a, .inl (G.2.1 k, ha_a n x)) H
def HP (G : EN) (h : HH) (H : Heap) : Prop := ∀ (a : Nat) (c : HC), h a = some c → hp_at G a c H
theorem hp_at.kept {G : EN} {a : Nat} {c : HC} {H H1 : Heap} (h : hp_at G a c H) (hq : H1[a]? = H[a]?) : hp_at G a c H1 := by
  rcases c with ⟨ci, fs⟩ | ⟨k, n, x⟩
  · exact va_at.kept (q := (a, .inr (ci, fs.map hv_v))) h hq
  · exact ⟨h.1, va_at.kept (q := (a, .inl (G.2.1 k, ha_a n x))) h.2 hq⟩
theorem hp_at.lt {G : EN} {a : Nat} {c : HC} {H : Heap} (h : hp_at G a c H) : a < H.size := by
  rcases c with ⟨ci, fs⟩ | ⟨k, n, x⟩
  · exact va_at.lt (q := (a, .inr (ci, fs.map hv_v))) h
  · exact va_at.lt (q := (a, .inl (G.2.1 k, ha_a n x))) h.2
theorem HP.up {G : EN} {h : HH} {H H1 : Heap} {a : Nat} {c : HC} (hh : HP G h H) (hq : ∀ q : Nat, q ≠ a → H1[q]? = H[q]?) (hc : hp_at G a c H1) : HP G (va_up h a (some c)) H1 := by
  intro b d hb
  by_cases e : b = a
  · subst e
    simp [va_up] at hb
    subst hb
    exact hc
  · simp [va_up, e] at hb
    exact (hh b d hb).kept (hq b e)
theorem HP.push {G : EN} {h : HH} {H H1 : Heap} {z : Nat} {c : HC} (hh : HP G h H) (hz : H.size = z) (hq : ∀ q : Nat, q < z → H1[q]? = H[q]?) (hc : hp_at G z c H1) : HP G (va_up h z (some c)) H1 := by
  intro b d hb
  by_cases e : b = z
  · subst e
    simp [va_up] at hb
    subst hb
    exact hc
  · simp [va_up, e] at hb
    exact (hh b d hb).kept (hq b (by have := (hh b d hb).lt; omega))
/-- a later state: the tables warmer, the old cells as they were -/
def Later (bs : Nat) (U V : State) : Prop := U.WarmedH V.vm ∧ bs ≤ V.heap.size ∧ ∀ q : Nat, q < bs → V.heap[q]? = U.heap[q]?
/-- the words on heap cells that a 'throw' needs -/
def thr_ws : List Cond := [.isRef (.static "java/lang/Throwable" "UNASSIGNED_STACK" "[Ljava/lang/StackTraceElement;"), .isRef (.static "java/lang/Throwable" "SUPPRESSED_SENTINEL" "Ljava/util/List;"), .laysStatic "java/lang/Throwable" "UNASSIGNED_STACK" "[Ljava/lang/StackTraceElement;", .laysStatic "java/lang/Throwable" "SUPPRESSED_SENTINEL" "Ljava/util/List;"]
def GX (G : EN) (V : State) : Prop := TW V ∧ va_K G.1 ccl (tyl G) V ∧ va_Z "java/util/ArrayList" "DEFAULTCAPACITY_EMPTY_ELEMENTDATA" "[Ljava/lang/Object;" (.ref G.2.2.2) (AG G) V V.heap ∧ ∀ w ∈ thr_ws, w.before #[] V = true
def GW (G : EN) (U : State) : Prop := ∀ V : State, Later G.2.2.1 U V → GX G V
theorem Later.trans {bs : Nat} {U V X : State} (h : Later bs U V) (h2 : Later bs V X) : Later bs U X := ⟨State.WarmedH.trans h.1 h2.1, h2.2.1, fun q hq => (h2.2.2 q hq).trans (h.2.2 q hq)⟩
theorem GW.move {G : EN} {U V : State} (h : GW G U) (hl : Later G.2.2.1 U V) : GW G V := fun X hX => h X (hl.trans hX)
end
