/-! A method's contract: from the heap h of size z it comes to 'res': what it answers or throws, the heap behind it. -/
abbrev RS : Type := (Option Value ⊕ String) × HH × Z3
def PQ (G : EN) (res : RS) (st : State) (o : Outcome) (t : State) : Prop := match res with
  | (.inl v, h1, z1) => o = .returned v ∧ HP G h1 t.heap ∧ t.heap.size = z1.1
  | (.inr E, h1, z1) => ∃ (q : Addr) (ce : Cell), o = .threw q ∧ HP G h1 t.heap ∧ t.heap.size = z1.1 ∧ t.heap[q]? = some ce ∧ ce.vm = .none ∧ st.vm.findClass E = some ce.cls
def FE (st t : State) (L : List Loc) (k n : Nat) : Prop := st.WarmedH t.vm ∧ st.sameButNew ({ t with vm := st.vm } : State) L k n
def PRE (G : EN) (h : HH) (z : Z3) (U : State) : Prop := HP G h U.heap ∧ U.heap.size = z.1 ∧ GW G U ∧ G.2.2.1 ≤ U.heap.size
def PX (G : EN) (res : RS) (mc ms : Nat) (st : State) (o : Outcome) (t : State) : Prop := PQ G res st o t ∧ va_F (AG G) st t ∧ res.2.2.2.1 ≤ mc ∧ res.2.2.2.2 ≤ ms ∧ ∃ L, FE st t L (mc - res.2.2.2.1) (ms - res.2.2.2.2) ∧ ∀ q ∈ L, G.2.2.1 ≤ q.base
abbrev RM (fr lo : Nat) (z : Z3) : Room := { frames := fr, cells := z.2.1, slots := z.2.2, locals := lo }
def CM (G : EN) (l : Launch) (y : MethodName) (cd : Cond) (fr lo : Nat) (As : List Value) (h : HH) (z : Z3) (res : RS) : Prop :=
  MetFree l y (headSpec [cd] (RM fr lo z)) (fun a U => a = As.toArray ∧ PRE G h z U) (fun _ _ _ _ _ => True) (fun _ st o t => PX G res z.2.1 z.2.2 st o t)
def MX (G : EN) (below : List Frame) (s : State) (res : RS) (mc ms : Nat) : State → Prop := fun t => ∃ o, t.status = .running ∧ Ended t below o ∧ PX G res mc ms s o t
theorem CM.ofW {G : EN} {l : Launch} {y : MethodName} {cc : ByteArray} {maxL : Nat} {ret : Option FieldType} {fr lo : Nat} {As : List Value} {h : HH} {z : Z3} {res : RS} (hl : l.stackTraces = false) (hy : plainName y.cls = true)
    (body : ∀ (p : Program) (e : Env) (s : State) (m : MethodId) (below : List Frame) (meth : Method) (c : Code), CX G p l s m meth c cc maxL y.cls → meth.sig.returnType = ret → c.exceptionTable.toList = [] → meth.name = y.name → ST G (RM fr lo z) s h z s.heap [] 0 0 →
      W p l e (RM fr lo z) s m As.toArray below meth c s.heap [] 0 0 (MX G below s res z.2.1 z.2.2) (entryFrame m As.toArray maxL)) : CM G l y (.code y cc maxL ret) fr lo As h z res := by
  refine MetFree.of_bodyS (code := cc) (maxLocals := maxL) (ret := ret) hy ?_ ?_
  · intro args s m h hn
    obtain ⟨meth, c, h1, h2, h3, h4, h5, h6, -, -⟩ := Cond.code_spec hn (atoms_spec (ws := [.code y cc maxL ret]) h _ List.mem_cons_self)
    exact ⟨meth, c, h1, h2, h3, h4, h5, h6⟩
  · intro p e s m args below meth c s₁ B hml hP _
    obtain ⟨rfl, hh, hz, hG, hbs⟩ := hP
    have hcd : (Cond.code y cc maxL ret).before As.toArray s = true := atoms_spec (ws := [.code y cc maxL ret]) B.pre _ List.mem_cons_self
    have hh0 : s₁.heap = s.heap := by rw [B.state]; rfl
    have hml' : c.maxLocals = maxL := B.maxLocals_eq hcd
    have hex : c.exceptionTable.toList = [] := by
      have h1 := B.noHandlers hcd
      have h2 : c.exceptionTable = #[] := by simpa using h1
      rw [h2]
    have hown : s.vm.findClass y.cls = some m.cls := findClass_of_methodNamed B.named
    obtain ⟨t, a1, o, b1, b2, b3⟩ := body p e s m below meth c ⟨B.exec, B.bytes, hml', hown, B.notSynchronized, hG, hbs, hl⟩ B.returns hex (name_of_methodNamed B.named B.method).1 ⟨hh, hz, va_S.rf, by show 0 + z.2.1 ≤ z.2.1; omega, by show 0 + z.2.2 ≤ z.2.2; omega⟩ s₁ hh0 (Stand.of_body B)
    exact ⟨t, o, a1, b1, b2, b3⟩
section KO
variable {G : EN} {p : Program} {l : Launch} {e : Env} {R : Room} {s : State} {m : MethodId} {args : Array Value} {below : List Frame} {meth : Method} {c : Code} {U : State} {locs : List Loc} {cells slots : Nat}
/-- where a called method has come -/
def Out (G : EN) (p : Program) (l : Launch) (e : Env) (R : Room) (s : State) (m : MethodId) (args : Array Value) (below : List Frame) (meth : Method) (c : Code) (H : Heap) (locs : List Loc) (cells slots : Nat) (z : Z3) (res : RS) (T : State) (g : JFrame) (len : Nat) (rest : List Value) : Prop :=
  (∃ (v : Option Value) (h1 : HH) (z1 : Z3) (V : State) (L : List Loc), res = (.inl v, h1, z1) ∧ Stand p l e R s m args below meth c V (locs ++ L) (cells + (z.2.1 - z1.2.1)) (slots + (z.2.2 - z1.2.2)) ∧ z1.2.1 ≤ z.2.1 ∧ z1.2.2 ≤ z.2.2 ∧ (∀ q ∈ L, G.2.2.1 ≤ q.base) ∧ HP G h1 V.heap ∧ V.heap.size = z1.1 ∧ (H.size ≤ V.heap.size ∧ ∀ q : Nat, q < H.size → ¬ AG G q → V.heap[q]? = H[q]?) ∧
    ∀ tg, Steps p.tables e below (V.setTop { g with pc := g.pc + len, stack := v.toList ++ rest }) tg → Steps p.tables e below (T.setTop g) tg) ∨
  (∃ (E : String) (h1 : HH) (z1 : Z3) (V : State) (L : List Loc) (q : Addr) (ce : Cell), res = (.inr E, h1, z1) ∧ Stand p l e R s m args below meth c V (locs ++ L) (cells + (z.2.1 - z1.2.1)) (slots + (z.2.2 - z1.2.2)) ∧ z1.2.1 ≤ z.2.1 ∧ z1.2.2 ≤ z.2.2 ∧ (∀ q ∈ L, G.2.2.1 ≤ q.base) ∧ HP G h1 V.heap ∧ V.heap.size = z1.1 ∧ (H.size ≤ V.heap.size ∧ ∀ q : Nat, q < H.size → ¬ AG G q → V.heap[q]? = H[q]?) ∧
    V.heap[q]? = some ce ∧ ce.vm = .none ∧ s.vm.findClass E = some ce.cls ∧ Steps p.tables e below (T.setTop g) ((V.setTop { g with stack := rest }).pushFrame (.throwing q)))
theorem ko_out {y : MethodName} {cd : Cond} {fr lo : Nat} {As : List Value} {h : HH} {z : Z3} {res : RS} (hM : CM G l y cd fr lo As h z res) (X : Stand p l e R s m args below meth c U locs cells slots) {g : JFrame} (hg : g.method = m) (hsize : g.locals.size = c.maxLocals) {ig : Instr} {len : Nat} (hdg : decode c.code g.pc = .ok (ig, len))
    (hW : 2 * g.monitorRoom + (g.stack.map fun v => v.category).sum ≤ 8) {mk : MethodId} (hn : U.methodNamed? y = some mk) {maxL : Nat} (hcd : cd.before As.toArray U = true) (hY : ∃ methY cY, U.vm.method? mk = some methY ∧ methY.code = some cY ∧ cY.maxLocals = maxL) (hini : (Cond.initialized y.cls).before As.toArray U = true)
    (hframes : fr + 1 ≤ R.frames) (hlocals : 8 + (maxL + 11) + lo ≤ R.locals) (hcells : cells + z.2.1 ≤ R.cells) (hslots : slots + z.2.2 ≤ R.slots) (hP : PRE G h z U) :
    (∃ (v : Option Value) (h1 : HH) (z1 : Z3) (V : State) (L : List Loc), res = (.inl v, h1, z1) ∧ Stand p l e R s m args below meth c V (locs ++ L) (cells + (z.2.1 - z1.2.1)) (slots + (z.2.2 - z1.2.2)) ∧ z1.2.1 ≤ z.2.1 ∧ z1.2.2 ≤ z.2.2 ∧ (∀ q ∈ L, G.2.2.1 ≤ q.base) ∧ HP G h1 V.heap ∧ V.heap.size = z1.1 ∧ va_F (AG G) U V ∧
      Steps p.tables e below (doInvoke e (U.setTop g) [] mk As.toArray).1 (V.setTop { g with pc := g.pc + len, stack := v.toList ++ g.stack })) ∨
    (∃ (E : String) (h1 : HH) (z1 : Z3) (V : State) (L : List Loc) (q : Addr) (ce : Cell), res = (.inr E, h1, z1) ∧ Stand p l e R s m args below meth c V (locs ++ L) (cells + (z.2.1 - z1.2.1)) (slots + (z.2.2 - z1.2.2)) ∧ z1.2.1 ≤ z.2.1 ∧ z1.2.2 ≤ z.2.2 ∧ (∀ q ∈ L, G.2.2.1 ≤ q.base) ∧ HP G h1 V.heap ∧ V.heap.size = z1.1 ∧ va_F (AG G) U V ∧
      V.heap[q]? = some ce ∧ ce.vm = .none ∧ U.vm.findClass E = some ce.cls ∧ Steps p.tables e below (doInvoke e (U.setTop g) [] mk As.toArray).1 ((V.setTop g).pushFrame (.throwing q))) := by
  obtain ⟨methY, cY, hmY, hcY, hlY⟩ := hY
  obtain ⟨kY, hkY, -⟩ := className_of_methodNamed hn
  have hinitY : kY.init = .initialized := Cond.initialized_spec (findClass_of_methodNamed hn) hkY hini
  have hat : At U g.method c below := by rw [hg]; exact X.here
  have hpre : (headSpec [cd] (RM fr lo z)).pre.before As.toArray U = true := atoms_intro fun w hw => by
    rw [List.mem_singleton.mp hw]
    exact hcd
  have happ : (headSpec [cd] (RM fr lo z)).appliesLoose y e.platform (U.calling g mk As.toArray) = true :=
    Spec.appliesLoose_calling (g := g) hat hdg hn hkY hinitY
      (X.room_calling (g := g) (R' := (headSpec [cd] (RM fr lo z)).room) hsize hmY hcY hframes (by rw [hlY]; have : (headSpec [cd] (RM fr lo z)).room.locals = lo := rfl; omega) hcells hslots) hpre
  obtain ⟨mid, hmid⟩ := hat.above
  have hfr : (U.setTop g).frames = (.java g :: mid) ++ below := by rw [State.frames_setTop' g hat.top, hmid]; rfl
  have hPc : As.toArray = As.toArray ∧ PRE G h z (U.calling g mk As.toArray) := by
    refine ⟨rfl, hP.1, hP.2.1, fun V hV => hP.2.2.1 V ⟨hV.1, hV.2.1, hV.2.2⟩, hP.2.2.2⟩
  obtain ⟨o, t, hsteps, -, hend, hq⟩ := Steps.callFree hM p X.admits X.cas X.clock (acts := []) hfr happ hPc trivial
  have hq' : PX G res z.2.1 z.2.2 (U.calling g mk As.toArray) o t := hq
  obtain ⟨hq1, hF, hk1, hk2, L, ⟨hWt, hsm⟩, hL⟩ := hq'
  rw [State.frames_setTop' g hat.top] at hend
  obtain ⟨g₀, hg0⟩ := Option.isSome_iff_exists.mp hat.top
  obtain ⟨rr, hr⟩ := State.topJava?_eq_some.mp hg0
  have hr' : (({ U with heap := t.heap, slotsUsed := t.slotsUsed } : State).setVm t.vm).frames = .java g₀ :: rr := hr
  have hWU : U.WarmedH t.vm := hWt
  obtain ⟨e2, q2, q3, q4, q5, q6⟩ := id hsm
  have e3 : t = ({ (U.calling g mk As.toArray).setFrames t.frames with heap := t.heap, slotsUsed := t.slotsUsed } : State).setVm t.vm := by
    have : t = ({ t with vm := (U.calling g mk As.toArray).vm } : State).setVm t.vm := rfl
    rw [e2] at this
    exact this
  have hsame : U.sameButNew ({ U with heap := t.heap, slotsUsed := t.slotsUsed } : State) L (z.2.1 - res.2.2.2.1) (z.2.2 - res.2.2.2.2) := by
    refine ⟨?_, q2, q3, q4, q5, q6⟩
    obtain ⟨t0, ht0, -⟩ := State.frames_cons hr
    show ({ U with heap := t.heap, slotsUsed := t.slotsUsed } : State) = { U.setFrames U.frames with heap := t.heap, slotsUsed := t.slotsUsed }
    rw [State.setFrames_self ht0]
  have Y : Stand p l e R s m args below meth c (({ U with heap := t.heap, slotsUsed := t.slotsUsed } : State).setVm t.vm) (locs ++ L) (cells + (z.2.1 - res.2.2.2.1)) (slots + (z.2.2 - res.2.2.2.2)) :=
    ⟨X.admits, X.cas, X.clock, X.frames, X.room, X.hears, X.method, X.code, (X.here.setHeapUsed t.heap t.slotsUsed).setVm hWU.alike, X.tail, State.WarmedH.trans X.warmed hWU, X.limits, X.bytes, X.same.trans (hsame.setVm s.vm)⟩
  subst hg
  rcases res with ⟨v | E, h1, z1⟩
  · obtain ⟨rfl, hh1, hz1⟩ := hq1
    obtain ⟨c₂, i₂, len₂, hc₂, hd₂, hf₂⟩ := hend
    have hcc : c₂ = c := by
      have h1 : t.code? g.method = U.code? g.method := by
        rw [State.code?_eq, State.code?_eq, hWU.alike.method?]
      exact Option.some.inj (hc₂.symm.trans (h1.trans hat.code))
    subst hcc
    have hlen : len₂ = len := by rw [hdg] at hd₂; cases hd₂; rfl
    subst hlen
    refine Or.inl ⟨v, h1, z1, _, L, rfl, Y, hk1, hk2, hL, hh1, hz1, hF, ?_⟩
    have hs₂ : t = (({ U with heap := t.heap, slotsUsed := t.slotsUsed } : State).setVm t.vm).setTop { g with pc := g.pc + len₂, stack := v.toList ++ g.stack } := by
      refine e3.trans ?_
      rw [hf₂, State.calling_eq hat.top, State.setFrames_setFrames, State.setTop_of_frames _ hr', hr]
      rfl
    rw [← hs₂]
    exact hsteps
  · obtain ⟨q, ce, rfl, hh1, hz1, hce, hcv, hcl⟩ := hq1
    have hf₂ : t.frames = .throwing q :: .java g :: U.frames.tail := hend
    refine Or.inr ⟨E, h1, z1, _, L, q, ce, rfl, Y, hk1, hk2, hL, hh1, hz1, hF, hce, hcv, hcl, ?_⟩
    have hs₂ : t = ((({ U with heap := t.heap, slotsUsed := t.slotsUsed } : State).setVm t.vm).setTop g).pushFrame (.throwing q) := by
      refine e3.trans ?_
      rw [hf₂, State.calling_eq hat.top, State.setFrames_setFrames, State.pushFrame, State.frames_setTop _ hr', State.setTop_of_frames _ hr', State.setFrames_setFrames, hr]
      rfl
    rw [← hs₂]
    exact hsteps
end KO
