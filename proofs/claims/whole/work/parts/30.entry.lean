/-! the law's entry: what the Statement gives of the start -/
theorem stat_later {C n d : String} {s V : State} {args : Array Value} {v : Value} (hl : (Cond.laysStatic C n d).before args s = true) (hv : (Term.static C n d).eval args s none [] s = some v) (hV : Later s.heap.size s V) : (Cond.laysStatic C n d).before #[] V = true ∧ (Term.static C n d).eval #[] V none [] V = some v := by
  obtain ⟨c, k, i, f, a, cell, hc, hi, hst, ha, hcell, hs, hcls, hlt, hty⟩ := Cond.laysStatic_spec hl
  obtain ⟨hst', a', cell', ha', hcell', -, hslot⟩ := Term.static_spec hi hv
  cases ha.symm.trans ha'
  cases hcell.symm.trans hcell'
  obtain ⟨k', hi', he⟩ := State.fieldFound?_setVm hV.1.alike hi
  have hi2 : V.fieldFound? C n d = some (c, k', i, f) := hi'
  have hcV : V.vm.findClass C = some c := by rw [hV.1.alike.findClass]; exact hc
  have hcellV : V.heap[a]? = some cell := by rw [hV.2.2 a (Array.getElem?_eq_some_iff.mp hcell).1]; exact hcell
  have haV : k'.statics = some a := by rw [he]; exact ha
  have htyV : k'.staticTypes[f.slot]? = some f.type := by rw [he]; exact hty
  constructor
  · show (Cond.laysStatic C n d).holds #[] V none V [] = true
    simp [Cond.holds, Cond.value, hcV, hi2, haV, hcellV, hst, hs, hcls, hlt, htyV]
  · simp [Term.eval, State.fieldNamed?, hi2, hst, haV, hcellV, hs, hslot]
theorem isRef_later {C n d : String} {s V : State} {args : Array Value} (hl : (Cond.laysStatic C n d).before args s = true) (hr : (Cond.isRef (.static C n d)).before args s = true) (hV : Later s.heap.size s V) : (Cond.isRef (.static C n d)).before #[] V = true ∧ (Cond.laysStatic C n d).before #[] V = true := by
  obtain ⟨v, hv, hv2⟩ := Cond.isRef_spec hr
  obtain ⟨h1, h2⟩ := stat_later hl hv hV
  refine ⟨?_, h1⟩
  simp only [Cond.before, Cond.holds, Cond.value, h2]
  simp only [Cond.before, Cond.holds, Cond.value, hv] at hr
  exact hr
/-- the heap at the start: the script, and ArrayList's empty array -/
def h0 (b L : Nat) (xs : Nat → Int32) (sE n8 : Nat) : HH := va_up (va_up (fun _ => none) sE (some (.inr (8, n8, .inr (.inr (fun _ => none)))))) b (some (.inr (7, L, .inl xs)))
theorem ccl_inst : ∀ q ∈ ccl, Cond.instantiable q.1 q.2.2 ∈ lw_tbl := by decide +kernel
theorem arr_known {s : State} (hT : TW s) : ∀ k, k < 7 → ∃ cA : ClassId, ArrOfT s cA (tyk k) ∧ va_RA s cA (tyk k) := by
  have hp : ∀ ty : FieldType, (∀ C, ty ≠ .object C) → (Cond.arrayClass ty).before #[] s = true → ∃ cA : ClassId, ArrOfT s cA ty ∧ s.vm.findClass ("[" ++ ty.toString) = some cA := by
    intro ty _ h
    obtain ⟨cA, kA, comp, h1, h2, h3⟩ := Cond.arrayClass_spec h
    exact ⟨cA, fun n z => ⟨fun k h => (by cases h), kA, h2, comp, h3⟩, h1⟩
  have ho : ∀ C : String, (Cond.arrayOver (.object C)).before #[] s = true → ∃ cA : ClassId, ArrOfT s cA (.object C) ∧ va_RA s cA (.object C) := by
    intro C h
    obtain ⟨comp, cA, kA, h1, -, h3, h4, h5⟩ := Cond.arrayOver_spec h
    exact ⟨cA, fun n z => ⟨fun k h => (by cases h), kA, h3, comp, h4⟩, kA, comp, h3, h4, h1, h5⟩
  intro k hk
  rcases (show k = 0 ∨ k = 1 ∨ k = 2 ∨ k = 3 ∨ k = 4 ∨ k = 5 ∨ k = 6 by omega) with rfl | rfl | rfl | rfl | rfl | rfl | rfl
  · obtain ⟨cA, h1, h2⟩ := hp .int (fun C h => by cases h) (hT.use (w := .arrayClass .int) (tm (i := 88) (by decide +kernel)) rfl)
    exact ⟨cA, h1, h2⟩
  · obtain ⟨cA, h1, h2⟩ := hp .boolean (fun C h => by cases h) (hT.use (w := .arrayClass .boolean) (tm (i := 151) (by decide +kernel)) rfl)
    exact ⟨cA, h1, h2⟩
  · obtain ⟨cA, h1, h2⟩ := hp .long (fun C h => by cases h) (hT.use (w := .arrayClass .long) (tm (i := 1034) (by decide +kernel)) rfl)
    exact ⟨cA, h1, h2⟩
  · exact ho "java/lang/Object" (hT.use (w := .arrayOver (.object "java/lang/Object")) (tm (i := 308) (by decide +kernel)) rfl)
  · exact ho "FencedBroker$Log" (hT.use (w := .arrayOver (.object "FencedBroker$Log")) (tm (i := 34) (by decide +kernel)) rfl)
  · exact ho "FencedBroker$Producer" (hT.use (w := .arrayOver (.object "FencedBroker$Producer")) (tm (i := 36) (by decide +kernel)) rfl)
  · exact ho "FencedBroker$Group" (hT.use (w := .arrayOver (.object "FencedBroker$Group")) (tm (i := 38) (by decide +kernel)) rfl)
theorem K_start {s : State} (hT : TW s) (c7 c8 : ClassId) : ∃ (D : va_G) (dA : Nat → ClassId), dA 7 = c7 ∧ dA 8 = c8 ∧ ∀ n : Nat × (Nat × Nat), va_K D ccl (tyl (D, dA, n)) s := by
  have hcls : ∀ k : Nat, ∃ (cC : ClassId) (iS : Nat → Nat), ∀ q : vw_C, ccl[k]? = some q → u_Kn s q.1 q.2.1 q.2.2 cC iS := by
    intro k
    cases hq : ccl[k]? with
    | none => exact ⟨0, fun _ => 0, fun q h => by cases h⟩
    | some q =>
      obtain ⟨cC, iS, h⟩ := u_known (C := q.1) (T := q.2.1) (N := q.2.2) (n := q.2.2) (ws_ts (args := #[]) hT (show ccl[k]? = some (q.1, q.2.1, q.2.2) from hq)) (fun w hw => hw) (hT.use (args := #[]) (ccl_inst q (mem_ccl hq)) rfl)
      exact ⟨cC, iS, fun q2 h2 => by cases h2; exact h⟩
  have harr : ∀ k : Nat, ∃ cA : ClassId, k < 7 → ArrOfT s cA (tyk k) ∧ va_RA s cA (tyk k) := by
    intro k
    by_cases hk : k < 7
    · obtain ⟨cA, h⟩ := arr_known hT k hk
      exact ⟨cA, fun _ => h⟩
    · exact ⟨0, fun h => absurd h hk⟩
  obtain ⟨dC, hdC⟩ := Classical.axiomOfChoice hcls
  obtain ⟨dI, hdI⟩ := Classical.axiomOfChoice hdC
  obtain ⟨dA, hdA⟩ := Classical.axiomOfChoice harr
  refine ⟨(dC, dI), fun k => if k = 7 then c7 else if k = 8 then c8 else dA k, by simp, by simp, fun n => ⟨fun k q hq => hdI k q hq, fun k q hq => ?_⟩⟩
  simp only [tyl, List.getElem?_map, List.getElem?_range] at hq
  by_cases hk : k < 7
  · simp [hk] at hq
    subst hq
    have h1 : k ≠ 7 := by omega
    have h2 : k ≠ 8 := by omega
    simp only [h1, h2, if_false]
    exact hdA k hk
  · simp [hk] at hq

def sAL : Term := .static "java/util/ArrayList" "DEFAULTCAPACITY_EMPTY_ELEMENTDATA" "[Ljava/lang/Object;"
theorem fl_arr : Cond.arrayOf sAL (.object "java/lang/Object") ∈ flatC (Jvm.Cond.and given_1 narrow_1) := by decide +kernel
theorem fl_len : Cond.eq (.length sAL) (.int 0) ∈ flatC (Jvm.Cond.and given_1 narrow_1) := by decide +kernel
theorem fl_mir : Cond.isRef (.mirror "[Ljava/lang/Object;") ∈ flatC (Jvm.Cond.and given_1 narrow_1) := by decide +kernel
theorem fl_us : Cond.isRef (.static "java/lang/Throwable" "UNASSIGNED_STACK" "[Ljava/lang/StackTraceElement;") ∈ flatC (Jvm.Cond.and given_1 narrow_1) := by decide +kernel
theorem fl_ss : Cond.isRef (.static "java/lang/Throwable" "SUPPRESSED_SENTINEL" "Ljava/util/List;") ∈ flatC (Jvm.Cond.and given_1 narrow_1) := by decide +kernel
theorem fl_nc : ∀ E ∈ exL, ∀ E2 ∈ exL, E ≠ E2 → Cond.not (.castable E E2) ∈ flatC (Jvm.Cond.and given_1 narrow_1) := by decide +kernel
theorem gw_start {p : Program} {s : State} {m : MethodId} {meth : Method} {c : Code} {b L : Nat} {xs : Nat → Int32} (C0 : lw_At p s m meth c b L xs) :
    ∃ (G : EN) (n8 : Nat), G.2.2.1 = s.heap.size ∧ GW G s ∧ HP G (h0 b L xs G.2.2.2.1 n8) s.heap ∧ b ≠ G.2.2.2.1 ∧ b < s.heap.size ∧ G.2.2.2.1 < s.heap.size ∧ Int32.ofNat n8 = 0 := by
  obtain ⟨hx, hb, hr, hml, hown, hts, hX, hbl, hlocks, hgv⟩ := C0
  have hTW : TW s := fun w hm hw => okw_move hw (State.WarmedH.refl s) (hts w hm)
  have hfl := flat_of_before _ hgv
  obtain ⟨scr, x1, x2, x3, x4, x5⟩ := hX
  obtain ⟨mi, hmi⟩ := va_Mi.of (hfl _ fl_mir)
  have hlen := va_eqt (hfl _ fl_len)
  obtain ⟨t8, cell8, ht8, hat8, hv8⟩ := Term.length_spec hlen
  obtain ⟨hc8, hk8, -, -⟩ := State.arrayAt?_spec hat8
  obtain ⟨ho8, -⟩ := Cond.arrayOf_spec (hfl _ fl_arr) ht8 hc8
  obtain ⟨D, dA, e7, e8, hK⟩ := K_start hTW scr.cls cell8.cls
  have hlAL : (Cond.laysStatic "java/util/ArrayList" "DEFAULTCAPACITY_EMPTY_ELEMENTDATA" "[Ljava/lang/Object;").before #[Value.ref b] s = true := hts _ (tm (i := 57) (by decide +kernel))
  have hlU : (Cond.laysStatic "java/lang/Throwable" "UNASSIGNED_STACK" "[Ljava/lang/StackTraceElement;").before #[Value.ref b] s = true := hts _ (tm (i := 369) (by decide +kernel))
  have hlS : (Cond.laysStatic "java/lang/Throwable" "SUPPRESSED_SENTINEL" "Ljava/util/List;").before #[Value.ref b] s = true := hts _ (tm (i := 371) (by decide +kernel))
  have hAr7 : ArrOfT s scr.cls .int := fun n z => ⟨fun k h => (by cases h), x2.2⟩
  have hAr8 : ArrOfT s cell8.cls (.object "java/lang/Object") := fun n z => ⟨fun k h => (by cases h), ho8.2⟩
  have hl8 : t8 < s.heap.size := (Array.getElem?_eq_some_iff.mp hc8).1
  have hne : b ≠ t8 := by
    intro h9
    subst h9
    cases x1.symm.trans hc8
    obtain ⟨-, k1, g1, c1, g2⟩ := x2
    obtain ⟨-, k2, g3, c2, g4⟩ := ho8
    cases g1.symm.trans g3
    rw [g2] at g4
    cases g4
  have hZ : va_Z "java/util/ArrayList" "DEFAULTCAPACITY_EMPTY_ELEMENTDATA" "[Ljava/lang/Object;" (.ref t8) (fun q : Nat => s.heap.size ≤ q) s s.heap := va_Zof hlAL (hts (.initialized "java/util/ArrayList") (tm (i := 5) (by decide +kernel))) ht8 (fun a ha h9 => absurd (show s.heap.size ≤ a from h9) (by omega))
  refine ⟨(D, dA, s.heap.size, (t8, mi)), cell8.slots.size, rfl, ?_, ?_, hne, hbl, hl8, ?_⟩
  · intro V hV
    have hV' : Later s.heap.size s V := hV
    refine ⟨hTW.move hV.1, va_K.moved hV.1.alike (hK _), ?_, hmi.moved hV.1.alike, ?_, ?_, ?_, ?_⟩
    · exact (hZ.kept (fun a ha _ => hV'.2.2 a ha)).moved hV.1.alike
    · intro w hw
      simp only [thr_ws, List.mem_cons, List.not_mem_nil, or_false] at hw
      rcases hw with rfl | rfl | rfl | rfl
      · exact (isRef_later hlU (hfl _ fl_us) hV').1
      · exact (isRef_later hlS (hfl _ fl_ss) hV').1
      · exact (isRef_later hlU (hfl _ fl_us) hV').2
      · exact (isRef_later hlS (hfl _ fl_ss) hV').2
    · intro E hE E2 hE2 hne2
      exact (va_Nc.of (hfl _ (fl_nc E hE E2 hE2 hne2))).moved hV.1.alike
    · show ArrOfT V (dA 7) .int
      rw [e7]
      exact arrOfT_moved hV.1.alike hAr7
    · show ArrOfT V (dA 8) _
      rw [e8]
      exact arrOfT_moved hV.1.alike hAr8
  · intro a d hd
    unfold h0 at hd
    by_cases ha : a = b
    · subst ha
      simp [va_up] at hd
      subst hd
      exact Or.inr ⟨by decide, scr, x1, e7.symm, x2.1, x3, x4, fun f hf j hj => by cases hf; exact x5 j hj⟩
    · by_cases ha2 : a = t8
      · subst ha2
        simp [va_up, ha] at hd
        subst hd
        exact Or.inr ⟨by decide, cell8, hc8, e8.symm, ho8.1, hk8, rfl, fun f hf => by cases hf⟩
      · simp [va_up, ha, ha2] at hd
  · have h9 := Value.int.inj hv8
    exact h9.symm

/-- what is left: mathematics -/
def PURE : Prop := ∀ (bs b sE mi L n8 : Nat) (xs : Nat → Int32), L ≤ 3072 → b < bs → sE < bs → b ≠ sE → Int32.ofNat n8 = 0 → ∃ (h' : HH) (z' : Z3), f_W_law bs (sE, mi) (h0 b L xs sE n8) (bs, 601024, 7293034) b = some (.inl (some (.int 1)), h', z')
theorem whole_start0 {p : Program} {e : Env} {s : State} {m : MethodId} {below : List Frame} {meth : Method} {c : Code} (l : Launch) (hl0 : l.stackTraces = false) {b L : Nat} {xs : Nat → Int32} (C0 : lw_At p s m meth c b L xs) {G : EN} {n8 : Nat} (e1 : G.2.2.1 = s.heap.size) (hGW : GW G s) (hHP : HP G (h0 b L xs G.2.2.2.1 n8) s.heap) (cN sN : Nat) {h' : HH} {z' : Z3} (hf : f_W_law G.2.2.1 G.2.2.2 (h0 b L xs G.2.2.2.1 n8) (G.2.2.1, cN, sN) b = some (.inl (some (.int 1)), h', z')) : W p l e (RM 14 532 (0, cN, sN)) s m #[Value.ref b] below meth c s.heap [] 0 0 (fun t => ∃ o, t.status = .running ∧ Ended t below o ∧ o = .returned (some (.int 1)) ∧ Framed s o t [] cN sN) (entryFrame m ([Value.ref b] : List Value).toArray 7) := by
  obtain ⟨hx, hb, hr, hml, hown, hts, hX, hbl2, hlocks, hgv⟩ := C0
  have C : CX G p l s m meth c b_W_law 7 y_W_law.cls := ⟨hx, hb, hml, hown, hlocks, hGW, by rw [e1]; exact Nat.le_refl _, hl0⟩
  have hs : ST G (RM 14 532 (0, cN, sN)) s (h0 b L xs G.2.2.2.1 n8) (G.2.2.1, cN, sN) s.heap [] 0 0 := ⟨hHP, e1.symm, va_S.rf, Nat.le_of_eq (Nat.zero_add _), Nat.le_of_eq (Nat.zero_add _)⟩
  have K := t_W_law (p := p) (e := e) (m := m) (meth := meth) (c := c) (z0 := (0, cN, sN)) (args := #[Value.ref b]) (below := below) hl0 C hr (fun E h1 z1 h9 => by cases h9) hf hs
  intro T hT X
  obtain ⟨t, a1, o, b1, b2, hpq, hF, k1, k2, L9, ⟨hW, hsm⟩, hL9⟩ := K T hT X
  have ho : o = .returned (some (.int 1)) := hpq.1
  refine ⟨t, a1, o, b1, b2, ho, ⟨_, ho⟩, hW, hsm.weaken (fun y hy hlt => absurd hlt ?_) (Nat.sub_le _ _) (Nat.sub_le _ _)⟩
  have h9 := hL9 y hy
  rw [e1] at h9
  exact Nat.not_lt.mpr h9
theorem whole_start (hP : PURE) {p : Program} {e : Env} {s : State} {m : MethodId} {below : List Frame} {meth : Method} {c : Code} (l : Launch) (hl0 : l.stackTraces = false) {b L : Nat} {xs : Nat → Int32} (hL : L ≤ 3072) (C0 : lw_At p s m meth c b L xs) : W p l e room_1 s m #[Value.ref b] below meth c s.heap [] 0 0 (lw_Z below #[Value.ref b] s) (entryFrame m ([Value.ref b] : List Value).toArray 7) := by
  obtain ⟨G, n8, e1, hGW, hHP, hne, hbl, h8, hn8⟩ := gw_start C0
  obtain ⟨h', z', hf⟩ := hP G.2.2.1 b G.2.2.2.1 G.2.2.2.2 L n8 xs hL (by rw [e1]; exact hbl) (by rw [e1]; exact h8) hne hn8
  exact whole_start0 l hl0 C0 e1 hGW hHP 601024 7293034 hf
