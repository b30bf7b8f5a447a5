/-! what a call asks of the tables -/
def CB (y : MethodName) (cc : ByteArray) (maxL : Nat) (ret : Option FieldType) (n : Nat) : Prop := Cond.initialized y.cls ∈ lw_tbl ∧ Cond.code y cc maxL ret ∈ lw_tbl ∧ (y.cls ≠ "java/lang/invoke/MethodHandle" ∧ y.cls ≠ "java/lang/invoke/VarHandle") ∧ (parseMethodDescriptor y.desc).map (fun d => d.parameters.length) = some n
def CV (own : String) (index : Nat) (y : MethodName) (cc : ByteArray) (maxL : Nat) (ret : Option FieldType) (n : Nat) : Prop := CB y cc maxL ret n ∧ Cond.methodLink own index y ∈ lw_tbl ∧ Cond.instanceMethod y ∈ lw_tbl ∧ Cond.selects y.cls y y ∈ lw_tbl
def CS (own : String) (index : Nat) (y : MethodName) (cc : ByteArray) (maxL : Nat) (ret : Option FieldType) (n : Nat) : Prop := CB y cc maxL ret n ∧ (Cond.methodLink own index y ∈ lw_tbl ∨ ∃ host, Cond.methodLinkNest own index y host ∈ lw_tbl) ∧ Cond.static y ∈ lw_tbl
def CI (own : String) (index : Nat) (y : MethodName) (cc : ByteArray) (maxL : Nat) (n : Nat) : Prop := CB y cc maxL none n ∧ Cond.methodLink own index y ∈ lw_tbl ∧ Cond.instanceMethod y ∈ lw_tbl ∧ y.name = "<init>"
theorem cb_len {y : MethodName} {n : Nat} (h : (parseMethodDescriptor y.desc).map (fun d => d.parameters.length) = some n) : ∀ sig, parseMethodDescriptor y.desc = some sig → n = sig.parameters.length := by
  intro sig h1
  rw [h1] at h
  exact (Option.some.inj h).symm
section KC
variable {G : EN} {p : Program} {l : Launch} {e : Env} {R : Room} {s : State} {m : MethodId} {args : Array Value} {below : List Frame} {meth : Method} {c : Code} {H : Heap} {locs : List Loc} {cells slots : Nat}
variable {cc bc : ByteArray} {pc nL : Nat} {own : String} {ls : Array Slot} {rest st0 : List Value} {h : HH} {z : Z3} {b : Nat} {y : MethodName} {fr lo : Nat} {As : List Value} {res : RS} {maxL n index : Nat} {ret : Option FieldType}
/-- the precondition at the call -/
theorem pre_at {T : State} {vm₁ : Vm} (C : CX G p l s m meth c cc nL own) (hs : ST G R s h z H locs cells slots) (hT : T.heap = H) (hW : s.WarmedH vm₁) : PRE G h z (T.setVm vm₁) := by
  obtain ⟨-, -, -, -, -, hG, hbs, -⟩ := C
  have hb2 : G.2.2.1 ≤ (T.setVm vm₁).heap.size := by
    show G.2.2.1 ≤ T.heap.size
    rw [hT]
    exact Nat.le_trans hbs hs.2.2.1.1
  refine ⟨by show HP G h T.heap; rw [hT]; exact hs.1, by show T.heap.size = z.1; rw [hT]; exact hs.2.1, hG.move ⟨hW, hb2, fun q hq => ?_⟩, hb2⟩
  show T.heap[q]? = _
  rw [hT]
  exact hs.2.2.1.2.1 q (Nat.lt_of_lt_of_le hq hbs) (fun h9 => absurd (show G.2.2.1 ≤ q from h9) (by omega))
theorem out_of {T : State} {vm₁ : Vm} {g : JFrame} {ig : Instr} {mk : MethodId} (C : CX G p l s m meth c cc nL own) (hs : ST G R s h z H locs cells slots) (hT : T.heap = H) (X₁ : Stand p l e R s m args below meth c (T.setVm vm₁) locs cells slots) (hM : CM G l y (.code y bc maxL ret) fr lo As h z res) (hB : CB y bc maxL ret n) (hg : g.method = m) (hsize : g.locals.size = nL) (hdg : decode c.code g.pc = .ok (ig, 3))
    (hW : 2 * g.monitorRoom + (rest.map fun v => v.category).sum ≤ 8) (hn : (T.setVm vm₁).methodNamed? y = some mk) (hR : fr + 1 ≤ R.frames ∧ 8 + (maxL + 11) + lo ≤ R.locals)
    (st : ∀ tg, Steps p.tables e below (doInvoke e ((T.setVm vm₁).setTop { g with stack := rest }) [] mk As.toArray).1 tg → Steps p.tables e below (T.setTop g) tg) : Out G p l e R s m args below meth c H locs cells slots z res T g 3 rest := by
  have hp := pre_at (vm₁ := vm₁) C hs hT X₁.warmed
  have hTW : TW (T.setVm vm₁) := (hp.2.2.1.here hp.2.2.2).1
  have hcd : (Cond.code y bc maxL ret).before As.toArray (T.setVm vm₁) = true := hTW.use hB.2.1 rfl
  obtain ⟨methY, cY, hmY, hcY, -, hlY, -, -, -, -⟩ := Cond.code_spec hn hcd
  have hml : c.maxLocals = nL := C.2.2.1
  rcases ko_out (g := { g with stack := rest }) hM X₁ hg (hsize.trans hml.symm) hdg hW hn hcd ⟨methY, cY, hmY, hcY, hlY⟩ (hTW.use hB.1 rfl) hR.1 hR.2 hs.2.2.2.1 hs.2.2.2.2 hp with ⟨v, h1, z1, V, L, e1, Y, hk1, hk2, hL, hh, hz, hF, hst⟩ | ⟨E, h1, z1, V, L, q, ce, e1, Y, hk1, hk2, hL, hh, hz, hF, hce, hcv, hcl, hst⟩
  · refine Or.inl ⟨v, h1, z1, V, L, e1, Y, hk1, hk2, hL, hh, hz, ?_, fun tg ht => st tg (hst.trans ht)⟩
    obtain ⟨f1, f2⟩ := hF
    exact ⟨by rw [← hT]; exact f1, fun q h1 h2 => by rw [← hT]; exact f2 q (by show q < T.heap.size; rw [hT]; exact h1) h2⟩
  · refine Or.inr ⟨E, h1, z1, V, L, q, ce, e1, Y, hk1, hk2, hL, hh, hz, ?_, hce, hcv, ?_, st _ hst⟩
    · obtain ⟨f1, f2⟩ := hF
      exact ⟨by rw [← hT]; exact f1, fun q h1 h2 => by rw [← hT]; exact f2 q (by show q < T.heap.size; rw [hT]; exact h1) h2⟩
    · have h9 : vm₁.findClass E = some ce.cls := hcl
      rw [← h9]
      exact (X₁.warmed.alike.findClass E _).symm
theorem iv_V (C : CX G p l s m meth c cc nL own) (hs : ST G R s h z H locs cells slots) (hV : CV own index y bc maxL ret n) (hM : CM G l y (.code y bc maxL ret) fr lo (.ref b :: As) h z res) {ci : Nat} {q : vw_C} (hcl : ccl[ci]? = some q) (hq : q.1 = y.cls) (ho : oK h b ci = some ()) (hn : As.length = n) (hsize : ls.size = nL) (hstack : st0 = As.reverse ++ .ref b :: rest) (hW : (rest.map fun v => v.category).sum ≤ 8) (hdg : decode cc pc = .ok (.invokevirtual index, 3)) (hR : fr + 1 ≤ R.frames ∧ 8 + (maxL + 11) + lo ≤ R.locals) :
    ∀ T : State, T.heap = H → Stand p l e R s m args below meth c T locs cells slots → Out G p l e R s m args below meth c H locs cells slots z res T (F0 m pc ls st0) 3 rest := by
  intro T hT X
  obtain ⟨hB, hl, hin, hse⟩ := id hV
  obtain ⟨hx, hb, hml, hown, -, hG, hbs, -⟩ := id C
  obtain ⟨hTW, hK, -⟩ := hG.here hbs
  obtain ⟨mk, methM, hnamed, hmethM, hstM, habM⟩ := Cond.instanceMethod_spec (hTW.use (args := args) hin rfl)
  obtain ⟨methM', cM, hmethM', -, -, -, -, -, -, hsigM⟩ := Cond.code_spec hnamed (hTW.use (args := args) hB.2.1 rfl)
  cases hmethM.symm.trans hmethM'
  obtain ⟨fs, ha⟩ := oK_at ho
  obtain ⟨cellB, hcB, hoB, hclB⟩ := va_recv (q0 := 0) (fs := fs.map hv_v) hK (vP1 (D := G.1) (cl := ccl) (a := b) (x := .inr (ci, fs.map hv_v)) (H := H) (hs.1 b _ ha)) hcl rfl
  rw [hq] at hclB
  obtain ⟨c2, r2, m2, q1, q2, q3, q4, kP, hkP, hkPi⟩ := Cond.selects_spec (hTW.use (args := args) hse rfl)
  cases hclB.symm.trans q1
  cases (State.methodFound?_of_named hnamed hB.2.2.1).symm.trans q2
  cases hnamed.symm.trans q3
  have hselP : selectMethod e.platform s.vm cellB.cls mk = .method mk := by rw [Launch.admits_selectMethod X.admits]; exact q4
  obtain ⟨vm₁, X₁, hstep₁⟩ := X.invokevirtual hx hown (hTW.use (args := args) hl rfl) hnamed hmethM hstM hkP hkPi hB.2.2.1 (a := b) (cell := cellB) (by rw [hT]; exact hcB)
    (fun z h => by rw [h] at hoB; cases hoB) hselP hmethM habM hkP hkPi (g := F0 m pc ls st0) rfl (argsL := As) (rest := rest) (hn.trans (cb_len hB.2.2.2 _ hsigM)) hstack (by rw [hb]; exact hdg)
  exact out_of C hs hT X₁ hM hB rfl hsize (by rw [hb]; exact hdg) (lv_room (ls := ls) (rest := st0) (m := m) (pc := pc) hW) (X₁.named hnamed) hR (fun tg ht => hstep₁ _ fun acts => by rw [doInvoke_state]; exact ht)
theorem iv_S (C : CX G p l s m meth c cc nL own) (hs : ST G R s h z H locs cells slots) (hV : CS own index y bc maxL ret n) (hM : CM G l y (.code y bc maxL ret) fr lo As h z res) (hn : As.length = n) (hsize : ls.size = nL) (hstack : st0 = As.reverse ++ rest) (hW : (rest.map fun v => v.category).sum ≤ 8) (hdg : decode cc pc = .ok (.invokestatic index, 3)) (hR : fr + 1 ≤ R.frames ∧ 8 + (maxL + 11) + lo ≤ R.locals) :
    ∀ T : State, T.heap = H → Stand p l e R s m args below meth c T locs cells slots → Out G p l e R s m args below meth c H locs cells slots z res T (F0 m pc ls st0) 3 rest := by
  intro T hT X
  obtain ⟨hB, hl, hstt⟩ := id hV
  obtain ⟨hx, hb, hml, hown, -, hG, hbs, -⟩ := id C
  obtain ⟨hTW, hK, -⟩ := hG.here hbs
  obtain ⟨mk, hnamed⟩ := Cond.code_named (hTW.use (args := args) hB.2.1 rfl)
  obtain ⟨methM, cM, hmethM, -, -, -, -, -, -, hsigM⟩ := Cond.code_spec hnamed (hTW.use (args := args) hB.2.1 rfl)
  have hstatic : methM.isStatic = true := Cond.static_spec hnamed hmethM (hTW.use (args := args) hstt rfl)
  obtain ⟨kP, hkP, -⟩ := className_of_methodNamed hnamed
  have hinitP : kP.init = .initialized := Cond.initialized_spec (findClass_of_methodNamed hnamed) hkP (hTW.use (args := args) hB.1 rfl)
  rcases hl with hl | ⟨host, hl⟩
  · obtain ⟨vm₁, X₁, hstep₁⟩ := X.invokestatic hx hown (hTW.use (args := args) hl rfl) hnamed hmethM hstatic hkP hinitP hB.2.2.1 (g := F0 m pc ls st0) rfl (argsL := As) (rest := rest) (hn.trans (cb_len hB.2.2.2 _ hsigM)) hstack (by rw [hb]; exact hdg)
    exact out_of C hs hT X₁ hM hB rfl hsize (by rw [hb]; exact hdg) (lv_room (ls := ls) (rest := st0) (m := m) (pc := pc) hW) (X₁.named hnamed) hR (fun tg ht => hstep₁ _ fun acts => by rw [doInvoke_state]; exact ht)
  · obtain ⟨vm₁, X₁, hstep₁⟩ := X.invokestaticNest hx hown (hTW.use (args := args) hl rfl) hnamed hmethM hstatic hkP hinitP hB.2.2.1 (g := F0 m pc ls st0) rfl (argsL := As) (rest := rest) (hn.trans (cb_len hB.2.2.2 _ hsigM)) hstack (by rw [hb]; exact hdg)
    exact out_of C hs hT X₁ hM hB rfl hsize (by rw [hb]; exact hdg) (lv_room (ls := ls) (rest := st0) (m := m) (pc := pc) hW) (X₁.named hnamed) hR (fun tg ht => hstep₁ _ fun acts => by rw [doInvoke_state]; exact ht)
theorem iv_I (C : CX G p l s m meth c cc nL own) (hs : ST G R s h z H locs cells slots) (hV : CI own index y bc maxL n) (hM : CM G l y (.code y bc maxL none) fr lo (.ref b :: As) h z res) (hn : As.length = n) (hsize : ls.size = nL) (hstack : st0 = As.reverse ++ .ref b :: rest) (hW : (rest.map fun v => v.category).sum ≤ 8) (hdg : decode cc pc = .ok (.invokespecial index, 3)) (hR : fr + 1 ≤ R.frames ∧ 8 + (maxL + 11) + lo ≤ R.locals) :
    ∀ T : State, T.heap = H → Stand p l e R s m args below meth c T locs cells slots → Out G p l e R s m args below meth c H locs cells slots z res T (F0 m pc ls st0) 3 rest := by
  intro T hT X
  obtain ⟨hB, hl, hin, hy1⟩ := id hV
  obtain ⟨hx, hb, hml, hown, -, hG, hbs, -⟩ := id C
  obtain ⟨hTW, hK, -⟩ := hG.here hbs
  have hpl : e.platform.magicAccessors = ({} : Platform).magicAccessors := by rw [X.admits.platform]
  obtain ⟨mk, methM, cM, kP, vm₁, hnamed, hmethM, hcodeM, -, hlocalsM, -, hkP, -, hW₁, hstep₁⟩ := Steps.initColdArgs (e := e) (f := F0 m pc ls st0) (argsL := As) (rest := rest) (a := b) X.here hx X.warmed hpl hown hy1 hB.2.2.1 (hTW.use (args := args) hl rfl) (hTW.use (args := args) hin rfl) (hTW.use (args := args) hB.2.1 rfl) rfl (fun sig h9 => hn.trans (cb_len hB.2.2.2 _ h9)) hstack (by rw [hb]; exact hdg)
  have X₁ := X.noted hW₁
  exact out_of C hs hT X₁ hM hB rfl hsize (by rw [hb]; exact hdg) (lv_room (ls := ls) (rest := st0) (m := m) (pc := pc) hW) (X₁.named hnamed) hR (fun tg ht => hstep₁ _ fun acts => by rw [doInvoke_state]; exact ht)
/-- behind a call, in a method that catches nothing -/
theorem k_fin (C : CX G p l s m meth c cc nL own) (hs : ST G R s h z H locs cells slots) (hex : c.exceptionTable.toList = []) {r : RS}
    (hO : ∀ T : State, T.heap = H → Stand p l e R s m args below meth c T locs cells slots → Out G p l e R s m args below meth c H locs cells slots z res T (F0 m pc ls st0) 3 rest)
    (kk : ∀ (v : Option Value) (h1 : HH) (z1 : Z3), res = (.inl v, h1, z1) → ∀ (H1 : Heap) (locs1 : List Loc) (cells1 slots1 : Nat), ST G R s h1 z1 H1 locs1 cells1 slots1 → W p l e R s m args below meth c H1 locs1 cells1 slots1 (MX G below s r R.cells R.slots) (F0 m (pc + 3) ls (v.toList ++ rest)))
    (kx : ∀ (E : String) (h1 : HH) (z1 : Z3), res = (.inr E, h1, z1) → r = (.inr E, h1, z1)) :
    W p l e R s m args below meth c H locs cells slots (MX G below s r R.cells R.slots) (F0 m pc ls st0) := by
  intro T hT X
  obtain ⟨-, -, hS, hr1, hr2⟩ := hs
  rcases hO T hT X with ⟨v, h1, z1, V, L, e1, Y, hk1, hk2, hL, hh, hz, ⟨f1, f2⟩, st⟩ | ⟨E, h1, z1, V, L, q, ce, e1, Y, hk1, hk2, hL, hh, hz, ⟨f1, f2⟩, hce, hcv, hcl, st⟩
  · have hS1 : va_S (AG G) s.heap V.heap (locs ++ L) := ⟨Nat.le_trans hS.1 f1, fun q g1 g2 => (f2 q (Nat.lt_of_lt_of_le g1 hS.1) g2).trans (hS.2.1 q g1 g2), fun q hq => (List.mem_append.mp hq).elim (hS.2.2 q) (hL q)⟩
    obtain ⟨t, a1, b1⟩ := kk v h1 z1 e1 V.heap (locs ++ L) _ _ ⟨hh, hz, hS1, by omega, by omega⟩ V rfl Y
    exact ⟨t, st t a1, b1⟩
  · have hS1 : va_S (AG G) s.heap V.heap (locs ++ L) := ⟨Nat.le_trans hS.1 f1, fun q g1 g2 => (f2 q (Nat.lt_of_lt_of_le g1 hS.1) g2).trans (hS.2.1 q g1 g2), fun q hq => (List.mem_append.mp hq).elim (hS.2.2 q) (hL q)⟩
    have hlocks : meth.locks = false := C.2.2.2.2.1
    obtain ⟨hwalk, hrun, hend, hWt, hsame⟩ := Y.leaveThrown q (g := F0 m pc ls rest) rfl rfl rfl (fun x hx => by rw [hex] at hx; cases hx) hlocks
    rw [kx E h1 z1 e1]
    refine ⟨V.setFrames (.throwing q :: below), st.trans hwalk, .threw q, hrun, hend, ⟨q, ce, rfl, hh, hz, hce, hcv, hcl⟩, hS1.F rfl, by show z1.2.1 ≤ _; omega, by show z1.2.2 ≤ _; omega, locs ++ L, ⟨hWt, hsame.mono (by show _ ≤ R.cells - z1.2.1; omega) (by show _ ≤ R.slots - z1.2.2; omega)⟩, hS1.2.2⟩
end KC
