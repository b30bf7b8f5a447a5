/-! methods with an exception table: their contract, the call of them, the catch in them; and the law's own calls -/
def mkE (t : Nat × Nat × Nat × Nat) : ExceptionTableEntry := ⟨t.1, t.2.1, t.2.2.1, t.2.2.2⟩
theorem mkE_of {L : List ExceptionTableEntry} {hh : List (Nat × Nat × Nat × Nat)} (h : L.map (fun h => (h.startPc, h.endPc, h.handlerPc, h.catchType)) = hh) : L = hh.map mkE := by
  subst h
  rw [List.map_map]
  have : (mkE ∘ fun h : ExceptionTableEntry => (h.startPc, h.endPc, h.handlerPc, h.catchType)) = id := by
    funext x
    cases x
    rfl
  rw [this, List.map_id]
theorem CM.ofWH {G : EN} {l : Launch} {y : MethodName} {cc : ByteArray} {maxL : Nat} {ret : Option FieldType} {hh : List (Nat × Nat × Nat × Nat)} {fr lo : Nat} {As : List Value} {h : HH} {z : Z3} {res : RS} (hl : l.stackTraces = false) (hy : plainName y.cls = true)
    (body : ∀ (p : Program) (e : Env) (s : State) (m : MethodId) (below : List Frame) (meth : Method) (c : Code), CX G p l s m meth c cc maxL y.cls → meth.sig.returnType = ret → c.exceptionTable.toList = hh.map mkE → ST G (RM fr lo z) s h z s.heap [] 0 0 →
      W p l e (RM fr lo z) s m As.toArray below meth c s.heap [] 0 0 (MX G below s res z.2.1 z.2.2) (entryFrame m As.toArray maxL)) : CM G l y (.codeWith y cc maxL ret hh) fr lo As h z res := by
  refine MetFree.of_bodyS (code := cc) (maxLocals := maxL) (ret := ret) hy ?_ ?_
  · intro args s m h hn
    obtain ⟨m9, meth, c, hn9, h1, h2, h3, h4, -, h5, h6, -⟩ := Cond.codeWith_spec (atoms_spec (ws := [.codeWith y cc maxL ret hh]) h _ List.mem_cons_self)
    cases hn.symm.trans hn9
    exact ⟨meth, c, h1, h2, h3, h4, h5, h6⟩
  · intro p e s m args below meth c s₁ B hml hP _
    obtain ⟨rfl, hh0, hz, hG, hbs⟩ := hP
    have hcd : (Cond.codeWith y cc maxL ret hh).before As.toArray s = true := atoms_spec (ws := [.codeWith y cc maxL ret hh]) B.pre _ List.mem_cons_self
    obtain ⟨m9, meth9, c9, hn9, h1, h2, h3, h4, h7, h5, h6, -⟩ := Cond.codeWith_spec hcd
    cases B.named.symm.trans hn9
    cases B.method.symm.trans h1
    have X := Stand.of_body B
    cases X.code.symm.trans h2
    have hh1 : s₁.heap = s.heap := by rw [B.state]; rfl
    have hown : s.vm.findClass y.cls = some m.cls := findClass_of_methodNamed B.named
    obtain ⟨t, a1, o, b1, b2, b3⟩ := body p e s m below meth c ⟨B.exec, B.bytes, h4, hown, B.notSynchronized, hG, hbs, hl⟩ B.returns (mkE_of h7) ⟨hh0, hz, va_S.rf, by show 0 + z.2.1 ≤ z.2.1; omega, by show 0 + z.2.2 ≤ z.2.2; omega⟩ s₁ hh1 X
    exact ⟨t, o, a1, b1, b2, b3⟩
def CSW (own : String) (index : Nat) (y : MethodName) (cc : ByteArray) (maxL : Nat) (ret : Option FieldType) (hh : List (Nat × Nat × Nat × Nat)) (n : Nat) : Prop := Cond.initialized y.cls ∈ lw_tbl ∧ Cond.codeWith y cc maxL ret hh ∈ lw_tbl ∧ (y.cls ≠ "java/lang/invoke/MethodHandle" ∧ y.cls ≠ "java/lang/invoke/VarHandle") ∧ (parseMethodDescriptor y.desc).map (fun d => d.parameters.length) = some n ∧ Cond.methodLink own index y ∈ lw_tbl ∧ Cond.static y ∈ lw_tbl
/-- an answer, or an exception that is caught -/
def cX (x : Option RS) (K : Int32 → HH → Z3 → Option RS) (KX : String → HH → Z3 → Option RS) : Option RS := match x with
  | some (.inl (some (.int v)), h, z) => K v h z
  | some (.inr E, h, z) => KX E h z
  | _ => none
theorem cX_at {x : Option RS} {K : Int32 → HH → Z3 → Option RS} {KX : String → HH → Z3 → Option RS} {r : RS} (hf : cX x K KX = some r) : ∃ res, x = some res ∧ (∀ v h1 z1, res = (.inl v, h1, z1) → ∃ i : Int32, v = some (.int i) ∧ K i h1 z1 = some r) ∧ ∀ E h1 z1, res = (.inr E, h1, z1) → KX E h1 z1 = some r := by
  unfold cX at hf
  split at hf
  · rename_i v h z
    exact ⟨_, rfl, fun v1 h1 z1 e => by cases e; exact ⟨v, rfl, hf⟩, fun E h1 z1 e => by cases e⟩
  · rename_i E h z
    exact ⟨_, rfl, fun v1 h1 z1 e => (by cases e), fun E1 h1 z1 e => by cases e; exact hf⟩
  · cases hf
section KW
variable {G : EN} {p : Program} {l : Launch} {e : Env} {R : Room} {s : State} {m : MethodId} {args : Array Value} {below : List Frame} {meth : Method} {c : Code} {H : Heap} {locs : List Loc} {cells slots : Nat}
variable {cc bc : ByteArray} {pc nL : Nat} {own : String} {ls : Array Slot} {rest st0 : List Value} {h : HH} {z : Z3} {x : Option RS} {r : RS} {y : MethodName} {fr lo : Nat} {As : List Value} {res : RS} {maxL n index : Nat} {ret : Option FieldType} {hh : List (Nat × Nat × Nat × Nat)}
theorem iv_SW (C : CX G p l s m meth c cc nL own) (hs : ST G R s h z H locs cells slots) (hV : CSW own index y bc maxL ret hh n) (hM : CM G l y (.codeWith y bc maxL ret hh) fr lo As h z res) (hn : As.length = n) (hsize : ls.size = nL) (hstack : st0 = As.reverse ++ rest) (hW : (rest.map fun v => v.category).sum ≤ 8) (hdg : decode cc pc = .ok (.invokestatic index, 3)) (hR : fr + 1 ≤ R.frames ∧ 8 + (maxL + 11) + lo ≤ R.locals) :
    ∀ T : State, T.heap = H → Stand p l e R s m args below meth c T locs cells slots → Out G p l e R s m args below meth c H locs cells slots z res T (F0 m pc ls st0) 3 rest := by
  intro T hT X
  obtain ⟨hi, hcw, hy, hdn, hl, hstt⟩ := hV
  obtain ⟨hx, hb, hml, hown, -, hG, hbs, -⟩ := id C
  obtain ⟨hTW, hK, -⟩ := hG.here hbs
  obtain ⟨mk, methM, cM, hnamed, hmethM, hcM, -, hlM, -, -, -, hsigM⟩ := Cond.codeWith_spec (hTW.use (args := args) hcw rfl)
  have hstatic : methM.isStatic = true := Cond.static_spec hnamed hmethM (hTW.use (args := args) hstt rfl)
  obtain ⟨kP, hkP, -⟩ := className_of_methodNamed hnamed
  have hinitP : kP.init = .initialized := Cond.initialized_spec (findClass_of_methodNamed hnamed) hkP (hTW.use (args := args) hi rfl)
  obtain ⟨vm₁, X₁, hstep₁⟩ := X.invokestatic hx hown (hTW.use (args := args) hl rfl) hnamed hmethM hstatic hkP hinitP hy (g := F0 m pc ls st0) rfl (argsL := As) (rest := rest) (hn.trans (cb_len hdn _ hsigM)) hstack (by rw [hb]; exact hdg)
  have hp := pre_at (vm₁ := vm₁) C hs hT X₁.warmed
  have hTW1 : TW (T.setVm vm₁) := (hp.2.2.1.here hp.2.2.2).1
  have hcd : (Cond.codeWith y bc maxL ret hh).before As.toArray (T.setVm vm₁) = true := hTW1.use hcw rfl
  have hn1 : (T.setVm vm₁).methodNamed? y = some mk := X₁.named hnamed
  obtain ⟨mk2, methY, cY, hn2, hmY, hcY, -, hlY, -, -, -, -⟩ := Cond.codeWith_spec hcd
  cases hn1.symm.trans hn2
  rcases ko_out (g := F0 m pc ls rest) (ig := .invokestatic index) (len := 3) hM X₁ rfl (hsize.trans hml.symm) (by rw [hb]; exact hdg) (lv_room (ls := ls) (rest := rest) (m := m) (pc := pc) hW) hn1 hcd ⟨methY, cY, hmY, hcY, hlY⟩ (hTW1.use hi rfl) hR.1 hR.2 hs.2.2.2.1 hs.2.2.2.2 hp with ⟨v, h1, z1, V, L, e1, Y, hk1, hk2, hL, hh1, hz, hF, hst⟩ | ⟨E, h1, z1, V, L, q, ce, e1, Y, hk1, hk2, hL, hh1, hz, hF, hce, hcv, hcl, hst⟩
  · refine Or.inl ⟨v, h1, z1, V, L, e1, Y, hk1, hk2, hL, hh1, hz, ?_, fun tg ht => hstep₁ _ fun acts => by rw [doInvoke_state]; exact hst.trans ht⟩
    obtain ⟨f1, f2⟩ := hF
    exact ⟨by rw [← hT]; exact f1, fun q h1 h2 => by rw [← hT]; exact f2 q (by show q < T.heap.size; rw [hT]; exact h1) h2⟩
  · refine Or.inr ⟨E, h1, z1, V, L, q, ce, e1, Y, hk1, hk2, hL, hh1, hz, ?_, hce, hcv, ?_, hstep₁ _ fun acts => by rw [doInvoke_state]; exact hst⟩
    · obtain ⟨f1, f2⟩ := hF
      exact ⟨by rw [← hT]; exact f1, fun q h1 h2 => by rw [← hT]; exact f2 q (by show q < T.heap.size; rw [hT]; exact h1) h2⟩
    · have h9 : vm₁.findClass E = some ce.cls := hcl
      rw [← h9]
      exact (X₁.warmed.alike.findClass E _).symm
/-- behind a call in a method that catches: which row of the table takes the class E -/
theorem k_X {Q : State → Prop} (C : CX G p l s m meth c cc nL own) (hs : ST G R s h z H locs cells slots) {K : Int32 → HH → Z3 → Option RS} {KX : String → HH → Z3 → Option RS} (hf : cX x K KX = some r) (hO : IV G p l e R s m args below meth c H locs cells slots z x pc ls st0 rest)
    (kk : ∀ (v : Int32) (h1 : HH) (z1 : Z3) (H1 : Heap) (locs1 : List Loc) (cells1 slots1 : Nat), K v h1 z1 = some r → ST G R s h1 z1 H1 locs1 cells1 slots1 → W p l e R s m args below meth c H1 locs1 cells1 slots1 Q (F0 m (pc + 3) ls (.int v :: rest)))
    (kx : ∀ (E : String) (h1 : HH) (z1 : Z3), KX E h1 z1 = some r → ∃ (pre : List ExceptionTableEntry) (row : ExceptionTableEntry) (suf : List ExceptionTableEntry), c.exceptionTable.toList = pre ++ row :: suf ∧ (∀ y ∈ pre, covers y pc = true ∧ y.catchType ≠ 0 ∧ ∃ nm, Cond.classLink own y.catchType nm ∈ lw_tbl ∧ va_Nc E nm s) ∧ covers row pc = true ∧ row.catchType ≠ 0 ∧ Cond.classLink own row.catchType E ∈ lw_tbl ∧ Cond.castable E E ∈ lw_tbl ∧
      ∀ (q : Nat) (H1 : Heap) (locs1 : List Loc) (cells1 slots1 : Nat), ST G R s h1 z1 H1 locs1 cells1 slots1 → W p l e R s m args below meth c H1 locs1 cells1 slots1 Q (F0 m row.handlerPc ls [.ref q])) : W p l e R s m args below meth c H locs cells slots Q (F0 m pc ls st0) := by
  obtain ⟨res, e1, h1, h2⟩ := cX_at hf
  obtain ⟨-, -, hS, hr1, hr2⟩ := hs
  obtain ⟨hx, hb, -, hown, -, hG, hbs, -⟩ := C
  obtain ⟨hTW, -⟩ := hG.here hbs
  intro T hT X
  rcases hO res e1 T hT X with ⟨v, h3, z3, V, L, e3, Y, hk1, hk2, hL, hh, hz, ⟨f1, f2⟩, st⟩ | ⟨E, h3, z3, V, L, q, ce, e3, Y, hk1, hk2, hL, hh, hz, ⟨f1, f2⟩, hce, hcv, hcl, st⟩
  · have hS1 : va_S (AG G) s.heap V.heap (locs ++ L) := ⟨Nat.le_trans hS.1 f1, fun q g1 g2 => (f2 q (Nat.lt_of_lt_of_le g1 hS.1) g2).trans (hS.2.1 q g1 g2), fun q hq => (List.mem_append.mp hq).elim (hS.2.2 q) (hL q)⟩
    obtain ⟨i, rfl, h4⟩ := h1 v h3 z3 e3
    obtain ⟨t, a1, b1⟩ := kk i h3 z3 V.heap (locs ++ L) _ _ h4 ⟨hh, hz, hS1, by omega, by omega⟩ V rfl Y
    exact ⟨t, st t a1, b1⟩
  · have hS1 : va_S (AG G) s.heap V.heap (locs ++ L) := ⟨Nat.le_trans hS.1 f1, fun q g1 g2 => (f2 q (Nat.lt_of_lt_of_le g1 hS.1) g2).trans (hS.2.1 q g1 g2), fun q hq => (List.mem_append.mp hq).elim (hS.2.2 q) (hL q)⟩
    obtain ⟨pre, row, suf, t1, t2, t3, t4, t5, t6, kw⟩ := kx E h3 z3 (h2 E h3 z3 e3)
    obtain ⟨vm1, Y1, st1⟩ := catch_at Y hown hTW hce hcv hcl (g := F0 m pc ls rest) rfl pre row suf t1 t2 t3 t4 t5 t6
    obtain ⟨t, a1, b1⟩ := kw q V.heap (locs ++ L) _ _ ⟨hh, hz, hS1, by omega, by omega⟩ (V.setVm vm1) rfl Y1
    exact ⟨t, st.trans (st1 t a1), b1⟩
/-- a call where nothing is thrown, since the end is an answer -/
theorem kl_fin {Q : State → Prop} (hs : ST G R s h z H locs cells slots) (hno : ∀ E h1 z1, r ≠ (.inr E, h1, z1))
    (hO : ∀ T : State, T.heap = H → Stand p l e R s m args below meth c T locs cells slots → Out G p l e R s m args below meth c H locs cells slots z res T (F0 m pc ls st0) 3 rest)
    (kk : ∀ (v : Option Value) (h1 : HH) (z1 : Z3), res = (.inl v, h1, z1) → ∀ (H1 : Heap) (locs1 : List Loc) (cells1 slots1 : Nat), ST G R s h1 z1 H1 locs1 cells1 slots1 → W p l e R s m args below meth c H1 locs1 cells1 slots1 Q (F0 m (pc + 3) ls (v.toList ++ rest)))
    (kx : ∀ (E : String) (h1 : HH) (z1 : Z3), res = (.inr E, h1, z1) → r = (.inr E, h1, z1)) :
    W p l e R s m args below meth c H locs cells slots Q (F0 m pc ls st0) := by
  intro T hT X
  obtain ⟨-, -, hS, hr1, hr2⟩ := hs
  rcases hO T hT X with ⟨v, h1, z1, V, L, e1, Y, hk1, hk2, hL, hh, hz, ⟨f1, f2⟩, st⟩ | ⟨E, h1, z1, V, L, q, ce, e1, Y, hk1, hk2, hL, hh, hz, ⟨f1, f2⟩, hce, hcv, hcl, st⟩
  · have hS1 : va_S (AG G) s.heap V.heap (locs ++ L) := ⟨Nat.le_trans hS.1 f1, fun q g1 g2 => (f2 q (Nat.lt_of_lt_of_le g1 hS.1) g2).trans (hS.2.1 q g1 g2), fun q hq => (List.mem_append.mp hq).elim (hS.2.2 q) (hL q)⟩
    obtain ⟨t, a1, b1⟩ := kk v h1 z1 e1 V.heap (locs ++ L) _ _ ⟨hh, hz, hS1, by omega, by omega⟩ V rfl Y
    exact ⟨t, st t a1, b1⟩
  · exact absurd (kx E h1 z1 e1) (hno E h1 z1)
theorem kl_I {Q : State → Prop} (C : CX G p l s m meth c cc nL own) (hs : ST G R s h z H locs cells slots) (hno : ∀ E h1 z1, r ≠ (.inr E, h1, z1)) {K : Int32 → HH → Z3 → Option RS} (hf : cI x K = some r) (hO : IV G p l e R s m args below meth c H locs cells slots z x pc ls st0 rest)
    (kk : ∀ (v : Int32) (h1 : HH) (z1 : Z3) (H1 : Heap) (locs1 : List Loc) (cells1 slots1 : Nat), K v h1 z1 = some r → ST G R s h1 z1 H1 locs1 cells1 slots1 → W p l e R s m args below meth c H1 locs1 cells1 slots1 Q (F0 m (pc + 3) ls (.int v :: rest))) : W p l e R s m args below meth c H locs cells slots Q (F0 m pc ls st0) := by
  obtain ⟨res, e1, h1, h2⟩ := cI_at hf
  refine kl_fin hs hno (hO res e1) (fun v h3 z3 e3 H1 locs1 cells1 slots1 hs1 => ?_) h2
  obtain ⟨i, rfl, h4⟩ := h1 v h3 z3 e3
  exact kk i h3 z3 H1 locs1 cells1 slots1 h4 hs1
theorem kl_V {Q : State → Prop} (C : CX G p l s m meth c cc nL own) (hs : ST G R s h z H locs cells slots) (hno : ∀ E h1 z1, r ≠ (.inr E, h1, z1)) {K : HH → Z3 → Option RS} (hf : cV x K = some r) (hO : IV G p l e R s m args below meth c H locs cells slots z x pc ls st0 rest)
    (kk : ∀ (h1 : HH) (z1 : Z3) (H1 : Heap) (locs1 : List Loc) (cells1 slots1 : Nat), K h1 z1 = some r → ST G R s h1 z1 H1 locs1 cells1 slots1 → W p l e R s m args below meth c H1 locs1 cells1 slots1 Q (F0 m (pc + 3) ls rest)) : W p l e R s m args below meth c H locs cells slots Q (F0 m pc ls st0) := by
  obtain ⟨res, e1, h1, h2⟩ := cV_at hf
  refine kl_fin hs hno (hO res e1) (fun v h3 z3 e3 H1 locs1 cells1 slots1 hs1 => ?_) h2
  obtain ⟨rfl, h4⟩ := h1 v h3 z3 e3
  exact kk h3 z3 H1 locs1 cells1 slots1 h4 hs1
end KW
