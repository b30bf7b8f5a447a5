/-! 'throw new E("text")' in a launch without stack traces -/
def tO (h : HH) (z : Z3) (E : String) : Option RS := (nO z 6).bind fun _ => some (.inr E, h, nZ z 6)
def thN : List String := ["java/lang/RuntimeException", "java/lang/Exception"]
def TH (own : String) (ik ic : Nat) (cls : String) : Prop := Cond.classLink own ik cls ∈ lw_tbl ∧ Cond.initialized cls ∈ lw_tbl ∧ Cond.instantiable cls 6 ∈ lw_tbl ∧ (((∀ w ∈ Bundle.ownAtoms own ic cls thN, (w ∈ lw_tbl ∧ okw w = true) ∨ w ∈ thr_ws) ∧ Bundle.fit cls = true) ∨ (cls = nsN ∧ ∀ w ∈ nsL own ic, (w ∈ lw_tbl ∧ okw w = true) ∨ w ∈ thr_ws))
section RT
variable {G : EN} {p : Program} {l : Launch} {e : Env} {R : Room} {s : State} {m : MethodId} {args : Array Value} {below : List Frame} {meth : Method} {c : Code} {H : Heap} {locs : List Loc} {cells slots : Nat}
variable {cc : ByteArray} {pc nL : Nat} {own : String} {ls : Array Slot} {rest : List Value} {h : HH} {z : Z3} {r : RS}
/-- the walk from here on, as if the method had begun at this heap -/
theorem st_again {T : State} (X : Stand p l e R s m args below meth c T locs cells slots) (hc : cells + 1 ≤ R.cells) (hs : slots + 6 ≤ R.slots) :
    Stand p l e { frames := R.frames, locals := R.locals, cells := 1, slots := 6 } ((T.setVm s.vm).setFrames (.invoking m args :: below)) m args below meth c T [] 0 0 := by
  have htop : (T.setVm s.vm).topJava?.isSome := X.here.top
  have hF := State.frames_setFrames (s := T.setVm s.vm) (.invoking m args :: below) (State.cur_lt_of_top htop)
  have hn : (T.heap.toList.drop T.heap.size) = [] := List.drop_eq_nil_of_le (Nat.le_of_eq Array.length_toList)
  have hR := X.room
  have hloc : ((T.setVm s.vm).setFrames (.invoking m args :: below)).localsInUse = s.localsInUse := by
    rw [State.localsInUse_invoking hF (meth := meth) (c := c) X.method X.code, State.localsInUse_invoking X.frames X.method X.code]
  constructor
  case admits => exact X.admits
  case cas => exact X.cas
  case clock => exact X.clock
  case frames => exact hF
  case hears => exact X.hears
  case method => exact X.method
  case code => exact X.code
  case here => exact X.here
  case tail => exact X.tail
  case warmed => exact X.warmed
  case limits => rw [State.stackLimits_setFrames]; rfl
  case bytes => rw [State.stackBytes_setFrames]; rfl
  case room =>
    have e1 : e.platform.stackLimits (T.setVm s.vm).me = e.platform.stackLimits s.me := X.limits
    have e2 : (T.setVm s.vm).me.stackBytes = s.me.stackBytes := X.bytes
    have e3 := X.heapSize
    have e4 := X.used
    simp only [State.hasRoom, Bool.and_eq_true, decide_eq_true_eq] at hR ⊢
    obtain ⟨⟨⟨⟨a1, a2, a3, a4, a5, a6⟩, a7⟩, a8⟩, a9⟩ := hR
    rw [X.frames, List.length_cons] at a2 a3
    simp only [hF, hloc, List.length_cons, State.stackLimits_setFrames, State.stackBytes_setFrames, e1, e2]
    have b7 : T.heap.size + 1 ≤ e.platform.maxCells := by omega
    have b8 : T.slotsUsed + 6 ≤ e.platform.maxSlots := by omega
    exact ⟨⟨⟨⟨by omega, by omega, by omega, by omega, by omega, a6⟩, b7⟩, b8⟩, X.book⟩
  case same =>
    obtain ⟨g₀, hg0⟩ := Option.isSome_iff_exists.mp htop
    obtain ⟨rr, hr⟩ := State.topJava?_eq_some.mp hg0
    obtain ⟨t, ht, -⟩ := State.frames_cons hr
    refine ⟨?_, Nat.le_refl _, Nat.le_refl _, ?_, ?_, fun a c9 h9 => ⟨c9, h9, rfl, rfl, fun _ _ => rfl⟩⟩
    · show T.setVm s.vm = { ((T.setVm s.vm).setFrames (.invoking m args :: below)).setFrames (T.setVm s.vm).frames with heap := T.heap, slotsUsed := T.slotsUsed }
      rw [State.setFrames_setFrames, State.setFrames_self ht]
      rfl
    · show T.slotsUsed = T.slotsUsed + ((T.heap.toList.drop T.heap.size).map (·.slots.size)).sum
      rw [hn]
      rfl
    · show ((T.heap.toList.drop T.heap.size).map (·.slots.size)).sum ≤ 0
      rw [hn]
      exact Nat.le_refl _
theorem r_thr0 (C : CX G p l s m meth c cc nL own) (hs : ST G R s h z H locs cells slots) (hex : c.exceptionTable.toList = []) (hsize : ls.size = nL) {ik is ic : Nat} {cls text : String} (hT : TH own ik ic cls) (hstr : Cond.stringRef own is text ∈ lw_tbl) (hR : 5 < R.frames ∧ (rest.map fun v => v.category).sum + 82 ≤ R.locals) {n : Nat}
    (d0 : decode cc pc = .ok (.new ik, 3)) (d3 : decode cc (pc + 3) = .ok (.dup, 1)) (d4 : ∀ (T : State) (sa : Addr) (s' : State), Stand p l e { frames := R.frames, locals := R.locals, cells := 1, slots := 6 } s' m args below meth c T [] 1 6 → s'.vm.findClass own = some m.cls → (Cond.stringRef own is text).before args s' = true → (Term.string own is).eval args s' none [] s' = some (.ref sa) → ∀ (st : List Value) (tg : State), Steps p.tables e below (T.setTop (F0 m n ls (.ref sa :: st))) tg → Steps p.tables e below (T.setTop (F0 m (pc + 4) ls st)) tg)
    (d6 : decode cc n = .ok (.invokespecial ic, 3)) (d9 : decode cc (n + 3) = .ok (.athrow, 1)) (hf : tO h z cls = some r) : W p l e R s m args below meth c H locs cells slots (MX G below s r R.cells R.slots) (F0 m pc ls rest) := by
  obtain ⟨u, h0, hf⟩ := bd hf
  cases hf
  have hz := nO_at h0
  obtain ⟨hx, hb, hml, hown, hlocks, hG, hbs, hl⟩ := id C
  obtain ⟨hk, hini, hins0, hat⟩ := hT
  obtain ⟨hh, hsz, hS, hr1, hr2⟩ := hs
  intro T hTH X
  have htr : e.platform.stackTraces = false := (show e.platform.stackTraces = l.stackTraces by rw [X.admits.platform]).trans hl
  have Y := st_again X (by omega) (by omega)
  generalize hA : (T.setVm s.vm).setFrames (.invoking m args :: below) = s' at Y
  have hvm : s'.vm = s.vm := by rw [← hA]; rfl
  have hhp : s'.heap = H := by rw [← hA]; exact hTH
  have hLt : Later G.2.2.1 s s' := by
    refine ⟨by rw [hvm]; exact State.WarmedH.refl s, by rw [hhp]; exact Nat.le_trans hbs hS.1, fun q hq => ?_⟩
    rw [hhp]
    exact hS.2.1 q (Nat.lt_of_lt_of_le hq hbs) (fun h9 => absurd (show G.2.2.1 ≤ q from h9) (by omega))
  obtain ⟨hTW, -, -, -, hthr, -⟩ := hG s' hLt
  have hown' : s'.vm.findClass own = some m.cls := by rw [hvm]; exact hown
  have hwd : ∀ w : Cond, ((w ∈ lw_tbl ∧ okw w = true) ∨ w ∈ thr_ws) → w.before args s' = true := by
    intro w hw
    rcases hw with ⟨h1, h2⟩ | h1
    · exact hTW.use h1 h2
    · have h2 := hthr w h1
      simp only [thr_ws, List.mem_cons, List.not_mem_nil, or_false] at h1
      rcases h1 with rfl | rfl | rfl | rfl <;> exact h2
  have hins : (Cond.instantiable cls 6).before args s' = true := hTW.use hins0 rfl
  obtain ⟨vm₁, cX, kX, hfX, hkX, -, -, X₁, st1⟩ := Y.newCold hx (own := own) (C := cls) (index := ik) (n := 6) hown' (hTW.use hk rfl) hins (hTW.use hini rfl) (g := F0 m pc ls rest) rfl (by rw [hb]; exact d0) (Nat.le_refl _) (Nat.le_refl _)
  generalize hT1 : (T.setVm vm₁).pushCell { cls := cX, slots := kX.instanceTypes.map defaultValue, vm := .none } = T1 at X₁ st1
  have hcellA : T1.heap[T.heap.size]? = some (freshCell cX kX) := by rw [← hT1]; exact State.heap_pushCell_size _ _
  have hst9 := hTW.use (args := args) hstr rfl
  obtain ⟨-, -, -, sa, -, -, -, -, -, hev⟩ := Cond.stringRef_spec hown' hst9
  have hcat : (Value.ref T.heap.size).category = 1 := rfl
  have hex9 : ∀ x ∈ c.exceptionTable.toList, covers x (n + 3) = false := fun x hx => by rw [hex] at hx; cases hx
  have hlo9 : 2 * (F0 m n ls (.ref sa :: .ref T.heap.size :: .ref T.heap.size :: rest)).monitorRoom + ((Value.ref T.heap.size :: rest).map fun v => v.category).sum + 81 ≤ R.locals := by
    have h2 := hR.2
    simp only [List.map_cons, List.sum_cons, hcat, JFrame.monitorRoom]
    simp
    omega
  obtain ⟨U, hsteps, hrun, hend, hWU, hsame, ce, hce, hOc, hOv⟩ : ∃ U : State, Steps p.tables e below (T1.setTop (F0 m n ls (.ref sa :: .ref T.heap.size :: .ref T.heap.size :: rest))) U ∧ U.status = .running ∧ Ended U below (.threw T.heap.size) ∧ s'.WarmedH U.vm ∧ s'.sameButNew ({ U with vm := s'.vm } : State) [] (0 + 1) (0 + 6) ∧ ∃ ce, U.heap[T.heap.size]? = some ce ∧ s'.vm.findClass cls = some ce.cls ∧ ce.vm = .none := by
    rcases hat with ⟨hat, hfit⟩ | ⟨rfl, hat⟩
    · obtain ⟨U, g1, g2, g3, g4, g5, ce, g6, hO⟩ := X₁.ctorThrowS hx htr (own := own) (cls := cls) (names := thN) (ic := ic) hown' hfit (by decide) (fun w hw => hwd w (hat w hw)) (fun x hx => nomatch hx) hfX hkX hcellA (by rw [hhp, hTH]; exact Nat.le_refl _) (msg := .ref sa) rfl
        (g := F0 m n ls (.ref sa :: .ref T.heap.size :: .ref T.heap.size :: rest)) rfl (by rw [hml]; exact hsize) rfl rfl (rest := rest) rfl
        (by rw [hb]; exact d6) (by rw [hb]; exact d9) hex9 hR.1 hlo9 hlocks
      exact ⟨U, g1, g2, g3, g4, g5, ce, g6, hO.cls, hO.vm⟩
    · obtain ⟨U, g1, g2, g3, g4, g5, ce, g6, g7, g8⟩ := ns_throw X₁ hx htr (own := own) (ic := ic) hown' (fun w hw => hwd w (hat w hw)) hfX hkX hcellA (by rw [hhp, hTH]; exact Nat.le_refl _) (msg := .ref sa) rfl
        (g := F0 m n ls (.ref sa :: .ref T.heap.size :: .ref T.heap.size :: rest)) rfl (by rw [hml]; exact hsize) rfl rfl (rest := rest) rfl
        (by rw [hb]; exact d6) (by rw [hb]; exact d9) hex9 hR.1 hlo9 hlocks
      exact ⟨U, g1, g2, g3, g4, g5, ce, g6, by rw [g7]; exact hfX, g8⟩
  have hWs : s.WarmedH U.vm := State.WarmedH.trans hLt.1 hWU
  have hfr : H.size ≤ U.heap.size ∧ ∀ q : Nat, q < H.size → U.heap[q]? = H[q]? := by
    obtain ⟨e1, e2, e3, e4, e5, e6⟩ := hsame
    rw [hhp] at e2 e6
    refine ⟨e2, fun q hq => ?_⟩
    obtain ⟨cq, hcq⟩ : ∃ cq, H[q]? = some cq := ⟨H[q], Array.getElem?_eq_getElem hq⟩
    obtain ⟨c9, h9, f1, f2, f3⟩ := e6 q cq hcq
    have h8 : U.heap[q]? = some c9 := h9
    have hsl : c9.slots = cq.slots := Array.ext_getElem? (fun i => f3 i (by simp))
    rw [hcq, h8, f1, hsl]
  have hsm : s.sameButNew ({ U with vm := s.vm } : State) locs (cells + 1) (slots + 6) := by
    subst hA
    obtain ⟨e1, e2⟩ := hsame
    rw [State.setFrames_setFrames] at e1
    have h2 : (T.setVm s.vm).sameButNew ({ U with vm := s.vm } : State) [] (0 + 1) (0 + 6) := ⟨e1, e2⟩
    have h3 := X.same.trans h2
    rw [List.append_nil] at h3
    exact h3
  have hcl : s.vm.findClass cls = some ce.cls := by
    rw [← hvm]
    exact hOc
  have hz9 : U.heap.size = z.1 + 1 := by
    have h1 : T.heap.size < U.heap.size := (Array.getElem?_eq_some_iff.mp hce).1
    have h2 : U.heap.size ≤ s'.heap.size + (0 + 1) := hsame.2.2.1
    rw [hhp, hsz] at h2
    rw [hTH, hsz] at h1
    omega
  have hS2 : va_S (AG G) s.heap U.heap locs := ⟨Nat.le_trans hS.1 hfr.1, fun q g1 g2 => (hfr.2 q (Nat.lt_of_lt_of_le g1 hS.1)).trans (hS.2.1 q g1 g2), hS.2.2⟩
  refine ⟨U, ?_, .threw T.heap.size, hrun, hend, ⟨T.heap.size, ce, rfl, fun a c9 h9 => (hh a c9 h9).kept (hfr.2 a (hh a c9 h9).lt), hz9, hce, hOv, hcl⟩, hS2.F rfl, by show z.2.1 - 1 ≤ _; omega, by show z.2.2 - 6 ≤ _; omega, locs, ⟨hWs, hsm.mono (by show _ ≤ R.cells - (z.2.1 - 1); omega) (by show _ ≤ R.slots - (z.2.2 - 6); omega)⟩, hS.2.2⟩
  refine st1 _ ?_
  show Steps p.tables e below (T1.setTop { method := m, pc := pc + 3, locals := ls, stack := .ref T.heap.size :: rest, locked := none }) _
  have d3' : decode c.code (pc + 3) = .ok (.dup, 1) := by rw [hb]; exact d3
  jvm_step X₁.here [X₁.here.top, hx, d3', Value.category]
  exact d4 T1 sa s' X₁ hown' hst9 hev _ _ hsteps
theorem r_throw (C : CX G p l s m meth c cc nL own) (hs : ST G R s h z H locs cells slots) (hex : c.exceptionTable.toList = []) (hsize : ls.size = nL) {ik is ic : Nat} {cls text : String} (hT : TH own ik ic cls) (hstr : Cond.stringRef own is text ∈ lw_tbl) (hR : 5 < R.frames ∧ (rest.map fun v => v.category).sum + 82 ≤ R.locals)
    (d0 : decode cc pc = .ok (.new ik, 3)) (d3 : decode cc (pc + 3) = .ok (.dup, 1)) (d4 : decode cc (pc + 4) = .ok (.ldc is, 2)) (d6 : decode cc (pc + 6) = .ok (.invokespecial ic, 3)) (d9 : decode cc (pc + 9) = .ok (.athrow, 1)) (hf : tO h z cls = some r) : W p l e R s m args below meth c H locs cells slots (MX G below s r R.cells R.slots) (F0 m pc ls rest) := by
  have hx := C.1
  have hb := C.2.1
  exact r_thr0 C hs hex hsize hT hstr hR (n := pc + 6) d0 d3 (fun T sa s' X₁ h1 h2 h3 st tg h4 => X₁.ldcString hx h1 h2 h3 (g := F0 m (pc + 4) ls st) rfl (by rw [hb]; exact d4) tg h4) d6 d9 hf
theorem r_throwW (C : CX G p l s m meth c cc nL own) (hs : ST G R s h z H locs cells slots) (hex : c.exceptionTable.toList = []) (hsize : ls.size = nL) {ik is ic : Nat} {cls text : String} (hT : TH own ik ic cls) (hstr : Cond.stringRef own is text ∈ lw_tbl) (hR : 5 < R.frames ∧ (rest.map fun v => v.category).sum + 82 ≤ R.locals)
    (d0 : decode cc pc = .ok (.new ik, 3)) (d3 : decode cc (pc + 3) = .ok (.dup, 1)) (d4 : decode cc (pc + 4) = .ok (.ldc_w is, 3)) (d6 : decode cc (pc + 7) = .ok (.invokespecial ic, 3)) (d9 : decode cc (pc + 10) = .ok (.athrow, 1)) (hf : tO h z cls = some r) : W p l e R s m args below meth c H locs cells slots (MX G below s r R.cells R.slots) (F0 m pc ls rest) := by
  have hx := C.1
  have hb := C.2.1
  exact r_thr0 C hs hex hsize hT hstr hR (n := pc + 7) d0 d3 (fun T sa s' X₁ h1 h2 h3 st tg h4 => X₁.ldcStringW hx h1 h2 h3 (g := F0 m (pc + 4) ls st) rfl (by rw [hb]; exact d4) tg h4) d6 d9 hf
end RT
