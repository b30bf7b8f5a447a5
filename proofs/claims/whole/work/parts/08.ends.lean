/-! what comes behind a call: an int, a reference, nothing; an exception goes on -/
def cI (x : Option RS) (K : Int32 → HH → Z3 → Option RS) : Option RS := match x with
  | some (.inl (some (.int v)), h, z) => K v h z
  | some (.inr E, h, z) => some (.inr E, h, z)
  | _ => none
def cR (x : Option RS) (K : Nat → HH → Z3 → Option RS) : Option RS := match x with
  | some (.inl (some (.ref v)), h, z) => K v h z
  | some (.inr E, h, z) => some (.inr E, h, z)
  | _ => none
def cV (x : Option RS) (K : HH → Z3 → Option RS) : Option RS := match x with
  | some (.inl none, h, z) => K h z
  | some (.inr E, h, z) => some (.inr E, h, z)
  | _ => none
theorem cI_at {x : Option RS} {K : Int32 → HH → Z3 → Option RS} {r : RS} (hf : cI x K = some r) : ∃ res, x = some res ∧ (∀ v h1 z1, res = (.inl v, h1, z1) → ∃ i : Int32, v = some (.int i) ∧ K i h1 z1 = some r) ∧ ∀ E h1 z1, res = (.inr E, h1, z1) → r = (.inr E, h1, z1) := by
  unfold cI at hf
  split at hf
  · rename_i v h z
    exact ⟨_, rfl, fun v1 h1 z1 e => by cases e; exact ⟨v, rfl, hf⟩, fun E h1 z1 e => by cases e⟩
  · rename_i E h z
    exact ⟨_, rfl, fun v1 h1 z1 e => (by cases e), fun E1 h1 z1 e => by cases e; exact (Option.some.inj hf).symm⟩
  · cases hf
theorem cR_at {x : Option RS} {K : Nat → HH → Z3 → Option RS} {r : RS} (hf : cR x K = some r) : ∃ res, x = some res ∧ (∀ v h1 z1, res = (.inl v, h1, z1) → ∃ i : Nat, v = some (.ref i) ∧ K i h1 z1 = some r) ∧ ∀ E h1 z1, res = (.inr E, h1, z1) → r = (.inr E, h1, z1) := by
  unfold cR at hf
  split at hf
  · rename_i v h z
    exact ⟨_, rfl, fun v1 h1 z1 e => by cases e; exact ⟨v, rfl, hf⟩, fun E h1 z1 e => by cases e⟩
  · rename_i E h z
    exact ⟨_, rfl, fun v1 h1 z1 e => (by cases e), fun E1 h1 z1 e => by cases e; exact (Option.some.inj hf).symm⟩
  · cases hf
theorem cV_at {x : Option RS} {K : HH → Z3 → Option RS} {r : RS} (hf : cV x K = some r) : ∃ res, x = some res ∧ (∀ v h1 z1, res = (.inl v, h1, z1) → v = none ∧ K h1 z1 = some r) ∧ ∀ E h1 z1, res = (.inr E, h1, z1) → r = (.inr E, h1, z1) := by
  unfold cV at hf
  split at hf
  · rename_i h z
    exact ⟨_, rfl, fun v1 h1 z1 e => by cases e; exact ⟨rfl, hf⟩, fun E h1 z1 e => by cases e⟩
  · rename_i E h z
    exact ⟨_, rfl, fun v1 h1 z1 e => (by cases e), fun E1 h1 z1 e => by cases e; exact (Option.some.inj hf).symm⟩
  · cases hf
def bz (v : Int32) : Option Unit := if v = 0 ∨ v = 1 then some () else none
theorem bz_at {v : Int32} {u : Unit} (h : bz v = some u) : narrow .boolean (.int v) = .int v := by
  unfold bz at h
  split at h
  · rename_i hc
    rcases hc with rfl | rfl <;> rfl
  · cases h
/-- what an invocation gives -/
abbrev IV (G : EN) (p : Program) (l : Launch) (e : Env) (R : Room) (s : State) (m : MethodId) (args : Array Value) (below : List Frame) (meth : Method) (c : Code) (H : Heap) (locs : List Loc) (cells slots : Nat) (z : Z3) (x : Option RS) (pc : Nat) (ls : Array Slot) (st0 rest : List Value) : Prop :=
  ∀ res, x = some res → ∀ T : State, T.heap = H → Stand p l e R s m args below meth c T locs cells slots → Out G p l e R s m args below meth c H locs cells slots z res T (F0 m pc ls st0) 3 rest
section KE
variable {G : EN} {p : Program} {l : Launch} {e : Env} {R : Room} {s : State} {m : MethodId} {args : Array Value} {below : List Frame} {meth : Method} {c : Code} {H : Heap} {locs : List Loc} {cells slots : Nat}
variable {cc : ByteArray} {pc nL : Nat} {own : String} {ls : Array Slot} {rest st0 : List Value} {h : HH} {z : Z3} {x : Option RS} {r : RS}
theorem k_I (C : CX G p l s m meth c cc nL own) (hs : ST G R s h z H locs cells slots) (hex : c.exceptionTable.toList = []) {K : Int32 → HH → Z3 → Option RS} (hf : cI x K = some r) (hO : IV G p l e R s m args below meth c H locs cells slots z x pc ls st0 rest)
    (kk : ∀ (v : Int32) (h1 : HH) (z1 : Z3) (H1 : Heap) (locs1 : List Loc) (cells1 slots1 : Nat), K v h1 z1 = some r → ST G R s h1 z1 H1 locs1 cells1 slots1 → W p l e R s m args below meth c H1 locs1 cells1 slots1 (MX G below s r R.cells R.slots) (F0 m (pc + 3) ls (.int v :: rest))) : W p l e R s m args below meth c H locs cells slots (MX G below s r R.cells R.slots) (F0 m pc ls st0) := by
  obtain ⟨res, e1, h1, h2⟩ := cI_at hf
  refine k_fin C hs hex (hO res e1) (fun v h3 z3 e3 H1 locs1 cells1 slots1 hs1 => ?_) h2
  obtain ⟨i, rfl, h4⟩ := h1 v h3 z3 e3
  exact kk i h3 z3 H1 locs1 cells1 slots1 h4 hs1
theorem k_R (C : CX G p l s m meth c cc nL own) (hs : ST G R s h z H locs cells slots) (hex : c.exceptionTable.toList = []) {K : Nat → HH → Z3 → Option RS} (hf : cR x K = some r) (hO : IV G p l e R s m args below meth c H locs cells slots z x pc ls st0 rest)
    (kk : ∀ (v : Nat) (h1 : HH) (z1 : Z3) (H1 : Heap) (locs1 : List Loc) (cells1 slots1 : Nat), K v h1 z1 = some r → ST G R s h1 z1 H1 locs1 cells1 slots1 → W p l e R s m args below meth c H1 locs1 cells1 slots1 (MX G below s r R.cells R.slots) (F0 m (pc + 3) ls (.ref v :: rest))) : W p l e R s m args below meth c H locs cells slots (MX G below s r R.cells R.slots) (F0 m pc ls st0) := by
  obtain ⟨res, e1, h1, h2⟩ := cR_at hf
  refine k_fin C hs hex (hO res e1) (fun v h3 z3 e3 H1 locs1 cells1 slots1 hs1 => ?_) h2
  obtain ⟨i, rfl, h4⟩ := h1 v h3 z3 e3
  exact kk i h3 z3 H1 locs1 cells1 slots1 h4 hs1
theorem k_V (C : CX G p l s m meth c cc nL own) (hs : ST G R s h z H locs cells slots) (hex : c.exceptionTable.toList = []) {K : HH → Z3 → Option RS} (hf : cV x K = some r) (hO : IV G p l e R s m args below meth c H locs cells slots z x pc ls st0 rest)
    (kk : ∀ (h1 : HH) (z1 : Z3) (H1 : Heap) (locs1 : List Loc) (cells1 slots1 : Nat), K h1 z1 = some r → ST G R s h1 z1 H1 locs1 cells1 slots1 → W p l e R s m args below meth c H1 locs1 cells1 slots1 (MX G below s r R.cells R.slots) (F0 m (pc + 3) ls rest)) : W p l e R s m args below meth c H locs cells slots (MX G below s r R.cells R.slots) (F0 m pc ls st0) := by
  obtain ⟨res, e1, h1, h2⟩ := cV_at hf
  refine k_fin C hs hex (hO res e1) (fun v h3 z3 e3 H1 locs1 cells1 slots1 hs1 => ?_) h2
  obtain ⟨rfl, h4⟩ := h1 v h3 z3 e3
  exact kk h3 z3 H1 locs1 cells1 slots1 h4 hs1
/-- ends -/
theorem x_end {v : Option Value} {g : JFrame} (hs : ST G R s h z H locs cells slots) (hf : some ((.inl v, h, z) : RS) = some r)
    (k : W p l e R s m args below meth c H locs cells slots (MQ below (fun _ st o t => PQ G (.inl v, h, z) st o t ∧ va_F (AG G) st t) args s cells slots (AG G)) g) : W p l e R s m args below meth c H locs cells slots (MX G below s r R.cells R.slots) g := by
  intro T hT X
  obtain ⟨t, a1, o, b1, b2, ⟨b3, b4⟩, L, ⟨b5, b6, b7⟩, b8⟩ := k T hT X
  cases hf
  obtain ⟨-, -, -, hr1, hr2⟩ := hs
  exact ⟨t, a1, o, b1, b2, b3, b4, by show z.2.1 ≤ _; omega, by show z.2.2 ≤ _; omega, L, ⟨b6, b7.mono (by show cells ≤ R.cells - z.2.1; omega) (by show slots ≤ R.slots - z.2.2; omega)⟩, b8⟩
theorem r_ireturn (C : CX G p l s m meth c cc nL own) (hs : ST G R s h z H locs cells slots) (hr : meth.sig.returnType = some .int) {v : Int32} (hdg : decode cc pc = .ok (.ireturn, 1)) (hf : some ((.inl (some (.int v)), h, z) : RS) = some r) : W p l e R s m args below meth c H locs cells slots (MX G below s r R.cells R.slots) (F0 m pc ls [.int v]) :=
  x_end hs hf (W.iret C.1 C.2.1 hr (fun t ht hW => ⟨⟨rfl, by rw [ht]; exact hs.1, by rw [ht]; exact hs.2.1⟩, hs.2.2.1.F ht⟩) hs.2.2.1.2.2 hdg C.2.2.2.2.1)
theorem r_zreturn (C : CX G p l s m meth c cc nL own) (hs : ST G R s h z H locs cells slots) (hr : meth.sig.returnType = some .boolean) {v : Int32} (hdg : decode cc pc = .ok (.ireturn, 1)) (hf : ((bz v).bind fun _ => some ((.inl (some (.int v)), h, z) : RS)) = some r) : W p l e R s m args below meth c H locs cells slots (MX G below s r R.cells R.slots) (F0 m pc ls [.int v]) := by
  obtain ⟨u, h1, hf⟩ := bd hf
  exact x_end hs hf (W.zret C.1 C.2.1 hr (bz_at h1) (fun t ht hW => ⟨⟨rfl, by rw [ht]; exact hs.1, by rw [ht]; exact hs.2.1⟩, hs.2.2.1.F ht⟩) hs.2.2.1.2.2 hdg C.2.2.2.2.1)
theorem r_areturn (C : CX G p l s m meth c cc nL own) (hs : ST G R s h z H locs cells slots) {rt : FieldType} (hr : meth.sig.returnType = some rt) (hrt : (∃ n, rt = .object n) ∨ ∃ t, rt = .array t) {v : Nat} (hdg : decode cc pc = .ok (.areturn, 1)) (hf : some ((.inl (some (.ref v)), h, z) : RS) = some r) : W p l e R s m args below meth c H locs cells slots (MX G below s r R.cells R.slots) (F0 m pc ls [.ref v]) :=
  x_end hs hf (W.aret C.1 C.2.1 hr hrt (Or.inr ⟨v, rfl⟩) (fun t ht hW => ⟨⟨rfl, by rw [ht]; exact hs.1, by rw [ht]; exact hs.2.1⟩, hs.2.2.1.F ht⟩) hs.2.2.1.2.2 hdg C.2.2.2.2.1)
theorem r_vreturn (C : CX G p l s m meth c cc nL own) (hs : ST G R s h z H locs cells slots) (hr : meth.sig.returnType = none) (hdg : decode cc pc = .ok (.return_, 1)) (hf : some ((.inl none, h, z) : RS) = some r) : W p l e R s m args below meth c H locs cells slots (MX G below s r R.cells R.slots) (F0 m pc ls []) :=
  x_end hs hf (W.vret C.1 C.2.1 hr (fun t ht hW => ⟨⟨rfl, by rw [ht]; exact hs.1, by rw [ht]; exact hs.2.1⟩, hs.2.2.1.F ht⟩) hs.2.2.1.2.2 hdg C.2.2.2.2.1)
/-- the start: the locals -/
theorem x_entry {As : List Value} {Q : State → Prop} {n : Nat} (hn : (lg_sl As).length ≤ n) (k : ∀ ls : Array Slot, lv_has ls n (lv_args 0 As) → W p l e R s m args below meth c H locs cells slots Q (F0 m 0 ls [])) : W p l e R s m args below meth c H locs cells slots Q (entryFrame m As.toArray n) := by
  have hl := lv_entry As (n := n) hn
  rw [lg_entry_eq]
  exact k _ hl
theorem r_objInit (C : CX G p l s m meth c cc nL own) {Q : State → Prop} {index a : Nat} (hsize : ls.size = nL) (hl : Cond.methodLink own index objectInit ∈ lw_tbl) (h2 : Cond.instanceMethod objectInit ∈ lw_tbl) (h3 : Cond.code objectInit ⟨#[0xb1]⟩ 1 none ∈ lw_tbl) (hdg : decode cc pc = .ok (.invokespecial index, 3)) (hR : 1 ≤ R.frames ∧ (rest.map fun v => v.category).sum + 12 ≤ R.locals)
    (kk : W p l e R s m args below meth c H locs cells slots Q (F0 m (pc + 3) ls rest)) : W p l e R s m args below meth c H locs cells slots Q (F0 m pc ls (.ref a :: rest)) := by
  obtain ⟨hx, hb, hml, hown, -, hG, hbs, -⟩ := C
  obtain ⟨hTW, -⟩ := hG.here hbs
  exact W.objInit hx hb hown (hTW.use hl rfl) (hTW.use h2 rfl) (hTW.use h3 rfl) rfl (by rw [hml]; exact hsize) rfl hdg hR.1 (by have := hR.2; simp [JFrame.monitorRoom]; omega) kk
end KE
