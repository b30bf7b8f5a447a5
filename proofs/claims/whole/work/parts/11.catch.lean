/-! an exception that a callee has thrown, caught by its class's name -/
section CT
variable {p : Program} {l : Launch} {e : Env} {R : Room} {s : State} {m : MethodId} {args : Array Value} {below : List Frame} {meth : Method} {c : Code} {T : State} {locs : List Loc} {cells slots : Nat}
/-- a row of the table that covers the place and names the class k: it catches, or the search goes on; the class is resolved -/
theorem fh_row {Q : Handler → Pre} {E : CtlPost} {d : Bool} {acts : List Action} {S : State} {f : JFrame} {q : Addr} {x : ExceptionTableEntry} {t : List ExceptionTableEntry} {k : ClassId} {ce : Cell} (hx : covers x f.pc = true) (h0 : x.catchType ≠ 0) (hl : S.vm.ClassLinks e.platform f.method.cls x.catchType k) (hce : S.heap[q]? = some ce) (hcv : ce.vm = .none) (h1 : ∃ w, S.vm.classes[ce.cls]? = some w) (h2 : ∃ w, S.vm.classes[k]? = some w) :
    wp (findHandler.go f q (x :: t)) Q E e d acts S ↔ if S.vm.assignable ce.cls k = true then Q (.found x.handlerPc) d acts (S.setVm (S.vm.noted f.method.cls x.catchType (.cls k))) else wp (findHandler.go f q t) Q E e d acts (S.setVm (S.vm.noted f.method.cls x.catchType (.cls k))) := by
  have hal : S.vm.Alike (S.vm.noted f.method.cls x.catchType (.cls k)) := (Vm.Alike.refl S.vm).noted _ _ _
  obtain ⟨w1, hw1⟩ := h1
  obtain ⟨w2, hw2⟩ := h2
  obtain ⟨v1, hv1, -⟩ := hal.2.2 _ _ hw1
  obtain ⟨v2, hv2, -⟩ := hal.2.2 _ _ hw2
  obtain ⟨ha, ht⟩ := (resolveClass_links e.toSetting hl).op (op := VmOp.resolveClass f.method.cls x.catchType) rfl
  have hobj : ∀ k, ce.vm ≠ .statics k := fun k h => by rw [hcv] at h; cases h
  simp only [covers] at hx
  by_cases hf : S.vm.assignable ce.cls k = true
  · have hf' : (S.vm.noted f.method.cls x.catchType (.cls k)).assignable ce.cls k = true := by rw [hal.assignable]; exact hf
    rw [if_pos hf]
    simp [findHandler.go, hx, h0, ha, ht, hce, hobj, hv1, hv2, hf', VmOp.dirties, VmOp.acts]
  · have hf' : (S.vm.noted f.method.cls x.catchType (.cls k)).assignable ce.cls k = false := by rw [hal.assignable]; simpa using hf
    rw [if_neg hf]
    simp [findHandler.go, hx, h0, ha, ht, hce, hobj, hv1, hv2, hf', VmOp.dirties, VmOp.acts]
theorem fh_all {f : JFrame} {q : Addr} {ce : Cell} (hcv : ce.vm = .none) (hc0 : ∃ w, s.vm.classes[ce.cls]? = some w) {x : ExceptionTableEntry} {suf : List ExceptionTableEntry} (hx : covers x f.pc = true) (h0 : x.catchType ≠ 0) {k : ClassId} (hl : s.vm.ClassLinks e.platform f.method.cls x.catchType k) (hk : s.vm.assignable ce.cls k = true) :
    ∀ (pre : List ExceptionTableEntry) (S : State), s.WarmedH S.vm → S.heap[q]? = some ce → (∀ y ∈ pre, covers y f.pc = true ∧ y.catchType ≠ 0 ∧ ∃ k2, s.vm.ClassLinks e.platform f.method.cls y.catchType k2 ∧ s.vm.assignable ce.cls k2 = false) →
      ∃ vm1, s.WarmedH vm1 ∧ ∀ (Q : Handler → Pre) (E : CtlPost) (d : Bool) (acts : List Action), wp (findHandler.go f q (pre ++ x :: suf)) Q E e d acts S ↔ Q (.found x.handlerPc) d acts (S.setVm vm1) := by
  have hmove : ∀ {S : State} {j : Nat}, s.WarmedH S.vm → (∃ w, s.vm.classes[j]? = some w) → ∃ w, S.vm.classes[j]? = some w := fun hW ⟨w, hw⟩ => by
    obtain ⟨v, hv, -⟩ := hW.alike.2.2 _ _ hw
    exact ⟨v, hv⟩
  intro pre
  induction pre with
  | nil =>
    intro S hW hce _
    obtain ⟨dk, _, _, kt, hd, _, _, _, _, hkt, _, hop⟩ := hl.here
    refine ⟨_, hW.noted hd hop (State.rightAt_cls hl), fun Q E d acts => ?_⟩
    rw [List.nil_append, fh_row hx h0 (hW.classLinks hl) hce hcv (hmove hW hc0) (hmove hW ⟨kt, hkt⟩), if_pos (by rw [hW.alike.assignable]; exact hk)]
  | cons y ys ih =>
    intro S hW hce hp
    obtain ⟨hy, hy0, k2, hl2, hno⟩ := hp y List.mem_cons_self
    obtain ⟨dk, _, _, kt, hd, _, _, _, _, hkt, _, hop⟩ := hl2.here
    obtain ⟨vm1, hW1, hq⟩ := ih (S.setVm (S.vm.noted f.method.cls y.catchType (.cls k2))) (hW.noted hd hop (State.rightAt_cls hl2)) hce (fun w hw => hp w (List.mem_cons_of_mem _ hw))
    refine ⟨vm1, hW1, fun Q E d acts => ?_⟩
    rw [List.cons_append, fh_row hy hy0 (hW.classLinks hl2) hce hcv (hmove hW hc0) (hmove hW ⟨kt, hkt⟩), if_neg (by rw [hW.alike.assignable, hno]; decide)]
    exact hq Q E d acts
theorem catch_at (X : Stand p l e R s m args below meth c T locs cells slots) {own : String} (hown : s.vm.findClass own = some m.cls) (hTW : TW s) {q : Addr} {ce : Cell} (hce : T.heap[q]? = some ce) (hcv : ce.vm = .none) {E : String} (hE : s.vm.findClass E = some ce.cls) {g : JFrame} (hg : g.method = m)
    (pre : List ExceptionTableEntry) (x : ExceptionTableEntry) (suf : List ExceptionTableEntry) (htab : c.exceptionTable.toList = pre ++ x :: suf) (hpre : ∀ y ∈ pre, covers y g.pc = true ∧ y.catchType ≠ 0 ∧ ∃ nm, Cond.classLink own y.catchType nm ∈ lw_tbl ∧ va_Nc E nm s) (hx : covers x g.pc = true) (h0 : x.catchType ≠ 0) (hl : Cond.classLink own x.catchType E ∈ lw_tbl) (hself : Cond.castable E E ∈ lw_tbl) :
    ∃ vm1, Stand p l e R s m args below meth c (T.setVm vm1) locs cells slots ∧ ∀ tg, Steps p.tables e below ((T.setVm vm1).setTop { g with pc := x.handlerPc, stack := [.ref q] }) tg → Steps p.tables e below ((T.setTop g).pushFrame (.throwing q)) tg := by
  subst hg
  have hpl : e.platform.magicAccessors = ({} : Platform).magicAccessors := by rw [X.admits.platform]
  obtain ⟨k, hkf, hkl⟩ := Cond.classLink_spec hown (hTW.use (args := args) hl rfl) e.platform hpl
  obtain ⟨c3, c4, hc3, hc4, hasg⟩ := Cond.castable_spec (hTW.use (args := args) hself rfl)
  cases hc3.symm.trans hE
  cases hc4.symm.trans hkf
  obtain ⟨w0, hw0, -⟩ := Vm.findClass_spec hE
  obtain ⟨vm1, hW1, hq⟩ := fh_all (e := e) (s := s) (f := g) (q := q) hcv ⟨w0, hw0⟩ (suf := suf) hx h0 hkl hasg pre ((T.setTop g).pushFrame (.throwing q)) X.warmed hce (fun y hy => by
    obtain ⟨a1, a2, nm, a3, c5, c6, a4, a5, a6⟩ := hpre y hy
    obtain ⟨k2, hk2, hl2⟩ := Cond.classLink_spec hown (hTW.use (args := args) a3 rfl) e.platform hpl
    cases a4.symm.trans hE
    cases a5.symm.trans hk2
    exact ⟨a1, a2, _, hl2, a6⟩)
  refine ⟨vm1, X.noted hW1, fun tg hrest => ?_⟩
  have hstep : (stepThrowing e ((T.setTop g).pushFrame (.throwing q)) q (.java g :: T.frames.tail)).Is ((((T.setTop g).pushFrame (.throwing q)).setVm vm1).setFrames (.java { g with pc := x.handlerPc, stack := [.ref q] } :: T.frames.tail)) [] := by
    simp only [stepThrowing, searchFrame, vmDo]
    generalize hr : Sem.go _ e false [] ((T.setTop g).pushFrame (.throwing q)) = res
    have hfh : ∀ (Q : Handler → Pre) (E : CtlPost) (d : Bool) (acts : List Action), wp (findHandler g q) Q E e d acts ((T.setTop g).pushFrame (.throwing q)) ↔ Q (.found x.handlerPc) d acts (((T.setTop g).pushFrame (.throwing q)).setVm vm1) := fun Q E d acts => by
      rw [W.findHandler_eq (show ((T.setTop g).pushFrame (.throwing q)).vm.method? g.method = some meth from X.method') X.code, htab]
      exact hq Q E d acts
    obtain ⟨as, rfl, ha⟩ := Sem.eq_ok_of hr (a := Handler.found x.handlerPc) (s' := ((T.setTop g).pushFrame (.throwing q)).setVm vm1) (acts' := []) (by simp [hfh _ _ _ _])
    exact ⟨rfl, ha⟩
  have hat := X.here
  obtain ⟨hgo, hw⟩ := hat.throwing q
  refine Steps.head hgo hw ?_
  obtain ⟨g₀, hg0⟩ := Option.isSome_iff_exists.mp hat.top
  obtain ⟨rr, hr⟩ := State.topJava?_eq_some.mp hg0
  rw [stepThread_throwing (frames_entered hat.top _), hstep.1]
  have hr' : (T.setVm vm1).frames = .java g₀ :: rr := hr
  rw [State.setTop_of_frames _ hr'] at hrest
  have e1 : (((T.setTop g).pushFrame (.throwing q)).setVm vm1).setFrames (.java { g with pc := x.handlerPc, stack := [.ref q] } :: T.frames.tail) = (T.setVm vm1).setFrames (.java { g with pc := x.handlerPc, stack := [.ref q] } :: rr) := by
    have h9 : ∀ (U : State) (F F2 : List Frame), ((U.setFrames F).setVm vm1).setFrames F2 = (U.setVm vm1).setFrames F2 := fun U F F2 => by
      have h8 : (U.setFrames F).setVm vm1 = (U.setVm vm1).setFrames F := rfl
      rw [h8, State.setFrames_setFrames]
    rw [hr, List.tail_cons, State.pushFrame, h9, State.setTop_of_frames _ hr, h9]
  rw [e1]
  exact hrest
end CT
