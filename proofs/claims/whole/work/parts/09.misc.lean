def FU : Nat := 1000
theorem tm {w : Cond} {i : Nat} (h : tables_1[i]? = some w) : w ∈ lw_tbl := List.mem_append_right _ (List.mem_of_getElem? h)
theorem i32_of_toInt {x : Int32} {n : Int} (h : x.toInt = n) : x = Int32.ofInt n := by
  rw [← h, Int32.ofInt_toInt]
theorem tab_out4 {x : Int32} (h0 : ¬ x = 0) (h1 : ¬ x = 1) (h2 : ¬ x = 2) (h3 : ¬ x = 3) : x.toInt < 0 ∨ 3 < x.toInt := by
  by_cases h : x.toInt < 0
  · exact Or.inl h
  by_cases h' : 3 < x.toInt
  · exact Or.inr h'
  exfalso
  rcases (show x.toInt = 0 ∨ x.toInt = 1 ∨ x.toInt = 2 ∨ x.toInt = 3 by omega) with e | e | e | e
  · exact h0 (i32_of_toInt e)
  · exact h1 (i32_of_toInt e)
  · exact h2 (i32_of_toInt e)
  · exact h3 (i32_of_toInt e)
def aK3 (h : HH) (a : Nat) : Option Unit := match h a with
  | some (.inr (3, _, .inr (.inr _))) => some ()
  | _ => none
theorem aK3_at {h : HH} {a : Nat} {u : Unit} (e : aK3 h a = some u) : ∃ n f, h a = some (.inr (3, n, .inr (.inr f))) := by
  unfold aK3 at e
  split at e
  · rename_i n f h2
    exact ⟨n, f, h2⟩
  · cases e
def entOk (h : HH) (x : Option Nat) : Bool := match x with
  | none => true
  | some y => (oK h y 0).isSome
def aCp (bs : Nat) (h : HH) (a0 : Nat) (sp : Int32) (a : Nat) (dp n : Int32) : Option HH := match h a0, h a with
  | some (.inr (3, n0, .inr (.inr f))), some (.inr (3, n1, .inr (.inr g))) =>
    if ¬ sp < 0 ∧ ¬ dp < 0 ∧ ¬ n < 0 ∧ sp.toNatClampNeg + n.toNatClampNeg ≤ n0 ∧ dp.toNatClampNeg + n.toNatClampNeg ≤ n1 ∧ (List.range n.toNatClampNeg).all (fun i => entOk h (f (sp.toNatClampNeg + i))) = true ∧ bs ≤ a
    then some (va_up h a (some (.inr (3, n1, .inr (.inr (va_cpy f g sp.toNatClampNeg dp.toNatClampNeg n.toNatClampNeg)))))) else none
  | _, _ => none
theorem aCp_at {bs : Nat} {h h1 : HH} {a0 a : Nat} {sp dp n : Int32} (e : aCp bs h a0 sp a dp n = some h1) : ∃ n0 f n1 g, h a0 = some (.inr (3, n0, .inr (.inr f))) ∧ h a = some (.inr (3, n1, .inr (.inr g))) ∧ ¬ sp < 0 ∧ ¬ dp < 0 ∧ ¬ n < 0 ∧ sp.toNatClampNeg + n.toNatClampNeg ≤ n0 ∧ dp.toNatClampNeg + n.toNatClampNeg ≤ n1 ∧ (∀ i, i < n.toNatClampNeg → ∀ y, f (sp.toNatClampNeg + i) = some y → ∃ fs, h y = some (.inl (0, fs))) ∧ bs ≤ a ∧ h1 = va_up h a (some (.inr (3, n1, .inr (.inr (va_cpy f g sp.toNatClampNeg dp.toNatClampNeg n.toNatClampNeg))))) := by
  unfold aCp at e
  split at e
  · rename_i n0 f n1 g e1 e2
    split at e
    · rename_i hc
      obtain ⟨c1, c2, c3, c4, c5, c6, c7⟩ := hc
      cases e
      refine ⟨n0, f, n1, g, e1, e2, c1, c2, c3, c4, c5, fun i hi y hy => ?_, c7, rfl⟩
      have h9 := List.all_eq_true.mp c6 i (List.mem_range.mpr hi)
      rw [hy] at h9
      obtain ⟨u, hu⟩ := Option.isSome_iff_exists.mp (show (oK h y 0).isSome = true from h9)
      exact oK_at hu
    · cases e
  · cases e
section RM9
variable {G : EN} {p : Program} {l : Launch} {e : Env} {R : Room} {s : State} {m : MethodId} {args : Array Value} {below : List Frame} {meth : Method} {c : Code} {H : Heap} {locs : List Loc} {cells slots : Nat} {Q : State → Prop}
variable {cc : ByteArray} {pc nL : Nat} {own : String} {ls : Array Slot} {rest : List Value} {h : HH} {z : Z3} {a : Nat}
theorem r_cast (C : CX G p l s m meth c cc nL own) (hs : ST G R s h z H locs cells slots) {index ci : Nat} {Cn : String} {T : u_T} {N : Nat} (hc : ccl[ci]? = some (Cn, T, N)) (hl : Cond.classLink own index Cn ∈ lw_tbl) (hl2 : Cond.castable Cn Cn ∈ lw_tbl) (hdg : decode cc pc = .ok (.checkcast index, 3)) {β : Type} {K : Unit → Option β} {r : β} (hf : (oK h a ci).bind K = some r)
    (kk : K () = some r → W p l e R s m args below meth c H locs cells slots Q (F0 m (pc + 3) ls (.ref a :: rest))) : W p l e R s m args below meth c H locs cells slots Q (F0 m pc ls (.ref a :: rest)) := by
  obtain ⟨u, h1, hf⟩ := bd hf
  obtain ⟨fs, ha⟩ := oK_at h1
  obtain ⟨hx, hb, -, hown, -, hG, hbs, -⟩ := C
  obtain ⟨hT, hK, -⟩ := hG.here hbs
  have hr := va_recv (q0 := 0) (fs := fs.map hv_v) hK (vP1 (D := G.1) (cl := ccl) (a := a) (x := .inr (ci, fs.map hv_v)) (H := H) (hs.1 a _ ha)) hc rfl
  exact va_castY (C := Cn) (nm := Cn) hx hb hown (hT.use hl rfl) (va_Nw.of rfl (hT.use (args := args) hl2 rfl)) hr hdg (kk hf)
theorem r_gets (C : CX G p l s m meth c cc nL own) (hs : ST G R s h z H locs cells slots) {index : Nat} (hl : Cond.fieldLink own index "java/util/ArrayList" "DEFAULTCAPACITY_EMPTY_ELEMENTDATA" "[Ljava/lang/Object;" ∈ lw_tbl) (hdg : decode cc pc = .ok (.getstatic index, 3))
    (kk : W p l e R s m args below meth c H locs cells slots Q (F0 m (pc + 3) ls (.ref G.2.2.2.1 :: rest))) : W p l e R s m args below meth c H locs cells slots Q (F0 m pc ls rest) := by
  obtain ⟨hx, hb, -, hown, -, hG, hbs, -⟩ := C
  obtain ⟨hT, hK, hZ, -⟩ := hG.here hbs
  exact va_gets hx hb hZ hs.2.2.1 hown (hT.use hl rfl) (fun _ h9 => h9) hdg kk
theorem r_ldcM (C : CX G p l s m meth c cc nL own) {index : Nat} (hl : Cond.classLink own index "[Ljava/lang/Object;" ∈ lw_tbl) (hdg : decode cc pc = .ok (.ldc index, 2))
    (kk : W p l e R s m args below meth c H locs cells slots Q (F0 m (pc + 2) ls (.ref G.2.2.2.2 :: rest))) : W p l e R s m args below meth c H locs cells slots Q (F0 m pc ls rest) := by
  obtain ⟨hx, hb, -, hown, -, hG, hbs, -⟩ := C
  obtain ⟨hT, hK, -, hM, -⟩ := hG.here hbs
  exact va_ldcM hx hb hown (hT.use hl rfl) hM hdg kk
/-- getClass of an array of Objects -/
theorem r_getC (C : CX G p l s m meth c cc nL own) (hs : ST G R s h z H locs cells slots) (hsize : ls.size = nL) {index : Nat} (hl : Cond.methodLink own index ⟨"java/lang/Object", "getClass", "()Ljava/lang/Class;"⟩ ∈ lw_tbl) (h2 : Cond.declares ⟨"java/lang/Object", "getClass", "()Ljava/lang/Class;"⟩ ∈ lw_tbl) (h3 : Cond.selects "[Ljava/lang/Object;" ⟨"java/lang/Object", "getClass", "()Ljava/lang/Class;"⟩ ⟨"java/lang/Object", "getClass", "()Ljava/lang/Class;"⟩ ∈ lw_tbl) (h4 : Cond.instanceMethod ⟨"java/lang/Object", "getClass", "()Ljava/lang/Class;"⟩ ∈ lw_tbl) (h5 : Cond.native ⟨"java/lang/Object", "getClass", "()Ljava/lang/Class;"⟩ ∈ lw_tbl)
    (hR : 1 ≤ R.frames ∧ (rest.map fun v => v.category).sum + 14 ≤ R.locals) (hdg : decode cc pc = .ok (.invokevirtual index, 3)) {β : Type} {K : Unit → Option β} {r : β} (hf : (aK3 h a).bind K = some r)
    (kk : K () = some r → W p l e R s m args below meth c H locs cells slots Q (F0 m (pc + 3) ls (.ref G.2.2.2.2 :: rest))) : W p l e R s m args below meth c H locs cells slots Q (F0 m pc ls (.ref a :: rest)) := by
  obtain ⟨u, h1, hf⟩ := bd hf
  obtain ⟨n, f, ha⟩ := aK3_at h1
  obtain ⟨hx, hb, hml, hown, -, hG, hbs, -⟩ := C
  obtain ⟨hT, hK, -, hM, -⟩ := hG.here hbs
  have h9 := hs.1 a _ ha
  obtain ⟨kA, comp, g1, g2, g3, g4⟩ : va_RA s (G.2.1 3) (.object "java/lang/Object") := (hK.2 3 _ (tyl_at (by decide))).2
  exact va_getC (C := "[Ljava/lang/Object;") hx hb (by rw [hml, hsize]) hown (hT.use hl rfl) (hT.use h2 rfl) (hT.use h3 rfl) (hT.use h4 rfl) (hT.use h5 rfl) hM ⟨_, hp_ex h9 (by decide), rfl, g4⟩ hR.1 hR.2 hdg (kk hf)
/-- System.arraycopy between two arrays of Objects whose elements are Entries -/
theorem r_acp (C : CX G p l s m meth c cc nL own) (hs : ST G R s h z H locs cells slots) (hsize : ls.size = nL) {index a0 : Nat} {sp dp n : Int32} (hl : Cond.methodLink own index arraycopyName ∈ lw_tbl) (h2 : Cond.native arraycopyName ∈ lw_tbl) (h3 : Cond.static arraycopyName ∈ lw_tbl) (h4 : Cond.initialized "java/lang/System" ∈ lw_tbl) (h5 : Cond.castable "FencedBroker$Entry" "java/lang/Object" ∈ lw_tbl)
    (hR : 1 ≤ R.frames ∧ (rest.map fun v => v.category).sum + (nativeFrameWords "java/lang/System" "arraycopy" 5 + 11) ≤ R.locals) (hdg : decode cc pc = .ok (.invokestatic index, 3)) {β : Type} {K : HH → Option β} {r : β} (hf : (aCp G.2.2.1 h a0 sp a dp n).bind K = some r)
    (kk : ∀ (h1 : HH) (H1 : Heap) (locs1 : List Loc), K h1 = some r → ST G R s h1 z H1 locs1 cells slots → W p l e R s m args below meth c H1 locs1 cells slots Q (F0 m (pc + 3) ls rest)) : W p l e R s m args below meth c H locs cells slots Q (F0 m pc ls (.int n :: .int dp :: .ref a :: .int sp :: .ref a0 :: rest)) := by
  obtain ⟨h1, hcp, hf⟩ := bd hf
  obtain ⟨n0, f, n1, g, ha0, ha1, k1, k2, k3, k4, k5, hel, hba, rfl⟩ := aCp_at hcp
  obtain ⟨hx, hb, hml, hown, -, hG, hbs, -⟩ := C
  obtain ⟨hTW, hK, -⟩ := hG.here hbs
  have nn : ∀ z : Int32, ¬ z < 0 → z.toInt = (z.toNatClampNeg : Int) := by
    intro z hz
    have hz0 : (0 : Int) ≤ z.toInt := by
      have := Int32.not_lt.mp hz
      simpa using Int32.le_iff_toInt_le.mp this
    show z.toInt = ((z.toInt.toNat : Nat) : Int)
    omega
  have hc0 : H[a0]? = some (vp_cell (G.2.1 3) (n0, .inr (.inr (.inr (.inr f))))) := hp_ex (hs.1 a0 _ ha0) (by decide)
  have hc1 : H[a]? = some (vp_cell (G.2.1 3) (n1, .inr (.inr (.inr (.inr g))))) := hp_ex (hs.1 a _ ha1) (by decide)
  have hK3 := hK.2 3 _ (tyl_at (by decide))
  obtain ⟨-, q0, hq0, cm0, hkk0⟩ := hK3.1 n0 (fun j => va_rf (f j))
  obtain ⟨kA, comp, r1, r2, r3, -⟩ : va_RA s (G.2.1 3) (.object "java/lang/Object") := hK3.2
  obtain ⟨c0, t1, f1, f2, f3⟩ := Cond.castable_spec (hTW.use (args := args) h5 rfl)
  have hcls := (hK.1 0 _ (show ccl[0]? = some ("FencedBroker$Entry", q_Entry, 6) from rfl)).2.1
  intro T hT X
  obtain ⟨vm', X', step⟩ := X.arraycopy hx hown (hTW.use hl rfl) (hTW.use h2 rfl) (hTW.use h3 rfl) (hTW.use h4 rfl) (src := a0) (dst := a) (cs := vp_cell (G.2.1 3) (n0, .inr (.inr (.inr (.inr f))))) (cd := vp_cell (G.2.1 3) (n1, .inr (.inr (.inr (.inr g))))) (srcPos := sp) (destPos := dp) (n := n) (by rw [hT]; exact hc0) (by rw [hT]; exact hc1)
    (fun _ h => by cases h) (fun _ h => by cases h) (fun h => by cases h) (fun h => by cases h) hq0 r1 hkk0 r2 rfl k1 k2 k3
    (by rw [nn sp k1, nn n k3]; show ¬ _ > ((arrV _ n0 (fun j => va_rf (f j))).slots.size : Int); rw [arrV_size]; omega)
    (by rw [nn dp k2, nn n k3]; show ¬ _ > ((arrV _ n1 (fun j => va_rf (g j))).slots.size : Int); rw [arrV_size]; omega)
    (fun vm₁ hal i hi => by
      have e9 : (vp_cell (G.2.1 3) (n0, .inr (.inr (.inr (.inr f))))).slots.getD (sp.toNatClampNeg + i) .null = va_rf (f (sp.toNatClampNeg + i)) := by
        show (arrV _ n0 (fun j => va_rf (f j))).slots.getD _ _ = _
        rw [Array.getD_eq_getD_getElem?, arrV_read _ _ (by omega)]
        rfl
      rw [e9]
      cases hy : f (sp.toNatClampNeg + i) with
      | none => exact ⟨rfl, trivial⟩
      | some y =>
        obtain ⟨fs, hyc⟩ := hel i hi y hy
        obtain ⟨r', hr', cellV, g1, g2, g3, -⟩ : va_at G.1 ccl (y, .inr (0, fs.map hv_v)) H := hs.1 y _ hyc
        have hcV : s.vm.findClass "FencedBroker$Entry" = some cellV.cls := by rw [g2]; exact hcls
        cases f1.symm.trans hcV
        cases f2.symm.trans r3
        obtain ⟨kC, hkC, -⟩ := Vm.findClass_spec hcV
        obtain ⟨kE, hkE, -⟩ := Vm.findClass_spec r3
        obtain ⟨kC', hkC', -⟩ := hal.2.2 _ _ hkC
        obtain ⟨kE', hkE', -⟩ := hal.2.2 _ _ hkE
        refine ⟨rfl, cellV, (show T.heap[y]? = some cellV by rw [hT]; exact g1), (fun q h => by rw [g3] at h; cases h), ⟨kC', hkC'⟩, ⟨kE', hkE'⟩, ?_⟩
        show vm₁.assignable _ _ = true
        rw [hal.assignable]
        exact f3)
    (g := F0 m pc ls (.int n :: .int dp :: .ref a :: .int sp :: .ref a0 :: rest)) rfl (by rw [hml]; exact hsize) (rest := rest) rfl (by rw [hb]; exact hdg) hR.1 (by show 2 * 0 + _ + _ ≤ _; have := hR.2; omega)
  have e1 : copied (vp_cell (G.2.1 3) (n0, .inr (.inr (.inr (.inr f))))) (vp_cell (G.2.1 3) (n1, .inr (.inr (.inr (.inr g))))) sp dp n = vp_cell (G.2.1 3) (n1, .inr (.inr (.inr (.inr (va_cpy f g sp.toNatClampNeg dp.toNatClampNeg n.toNatClampNeg))))) := by
    rw [vp_cell_q, vp_cell_q, vp_cell_q]
    exact va_copied (fun z => va_rf z) _ _ f g k4
  rw [e1] at X' step
  have hl9 : a < H.size := (Array.getElem?_eq_some_iff.mp hc1).1
  generalize hnew : vp_cell (G.2.1 3) (n1, .inr (.inr (.inr (.inr (va_cpy f g sp.toNatClampNeg dp.toNatClampNeg n.toNatClampNeg))))) = nw at X' step
  have hheap : ((T.setVm vm').setCell a nw).heap = H.setIfInBounds a nw := by rw [← hT]; rfl
  have oq : ∀ q : Nat, q ≠ a → (H.setIfInBounds a nw)[q]? = H[q]? := fun q hq => by simp [Array.getElem?_setIfInBounds, Ne.symm hq]
  have hs1 := hs.put (k := 0) (x := .inr (3, n1, .inr (.inr (va_cpy f g sp.toNatClampNeg dp.toNatClampNeg n.toNatClampNeg)))) (a := a) (H1 := H.setIfInBounds a nw) (by simp) oq hba (Or.inl ⟨by decide, by
    show (H.setIfInBounds a nw)[a]? = some (vp_cell _ (n1, .inr (.inr (.inr (.inr _)))))
    rw [hnew]
    simp [Array.getElem?_setIfInBounds, hl9]⟩)
  obtain ⟨s1, s2, s3, s4⟩ := hs1
  obtain ⟨t, a1, b1⟩ := kk _ _ _ hf ⟨s1, s2, ⟨s3.1, s3.2.1, fun q hq => by
      rcases List.mem_append.mp hq with h | h
      · exact hs.2.2.1.2.2 q h
      · obtain ⟨z, -, hz⟩ := List.mem_map.mp h
        rw [← hz]
        exact hba⟩, s4⟩ _ hheap X'
  exact ⟨t, step t a1, b1⟩
theorem r_mmax (C : CX G p l s m meth c cc nL own) (hs : ST G R s h z H locs cells slots) (hsize : ls.size = nL) {index : Nat} (hl : Cond.methodLink own index Lib.Math.max.name ∈ lw_tbl) (h2 : Cond.static Lib.Math.max.name ∈ lw_tbl) (h3 : Cond.initialized "java/lang/Math" ∈ lw_tbl) (h4 : Cond.code Lib.Math.max.name Lib.Math.max.code 2 (some .int) ∈ lw_tbl) (hR : 1 ≤ R.frames ∧ (rest.map fun v => v.category).sum + 13 ≤ R.locals) {x y : Int32} (hdg : decode cc pc = .ok (.invokestatic index, 3))
    (kk : W p l e R s m args below meth c H locs cells slots Q (F0 m (pc + 3) ls (.int (if x < y then y else x) :: rest))) : W p l e R s m args below meth c H locs cells slots Q (F0 m pc ls (.int y :: .int x :: rest)) := by
  obtain ⟨hx, hb, hml, hown, -, hG, hbs, -⟩ := C
  obtain ⟨hT, -⟩ := hG.here hbs
  have hr1 := hs.2.2.2.1
  have hr2 := hs.2.2.2.2
  exact va_mmax hx hb (by rw [hml, hsize]) hown (hT.use hl rfl) (hT.use h2 rfl) (hT.use h3 rfl) (hT.use h4 rfl) hR.1 hR.2 (by omega) (by omega) hdg kk
theorem r_mmin (C : CX G p l s m meth c cc nL own) (hs : ST G R s h z H locs cells slots) (hsize : ls.size = nL) {index : Nat} (hl : Cond.methodLink own index Lib.Math.min.name ∈ lw_tbl) (h2 : Cond.static Lib.Math.min.name ∈ lw_tbl) (h3 : Cond.initialized "java/lang/Math" ∈ lw_tbl) (h4 : Cond.code Lib.Math.min.name Lib.Math.min.code 2 (some .int) ∈ lw_tbl) (hR : 1 ≤ R.frames ∧ (rest.map fun v => v.category).sum + 13 ≤ R.locals) {x y : Int32} (hdg : decode cc pc = .ok (.invokestatic index, 3))
    (kk : W p l e R s m args below meth c H locs cells slots Q (F0 m (pc + 3) ls (.int (if y < x then y else x) :: rest))) : W p l e R s m args below meth c H locs cells slots Q (F0 m pc ls (.int y :: .int x :: rest)) := by
  obtain ⟨hx, hb, hml, hown, -, hG, hbs, -⟩ := C
  obtain ⟨hT, -⟩ := hG.here hbs
  have hr1 := hs.2.2.2.1
  have hr2 := hs.2.2.2.2
  exact va_mmin hx hb (by rw [hml, hsize]) hown (hT.use hl rfl) (hT.use h2 rfl) (hT.use h3 rfl) (hT.use h4 rfl) hR.1 hR.2 (by omega) (by omega) hdg kk
end RM9
