def dflV (ty : FieldType) : HV := match ty with
  | .object _ => .inr none
  | .array _ => .inr none
  | _ => .inl 0
def dfl (ci : Nat) : List HV := match ccl[ci]? with
  | some q => (List.range q.2.2).map (fun k => dflV ((parseFieldDescriptor (q.2.1 k).2.2.1).getD .int))
  | none => []
theorem dfl_ok : ∀ q ∈ ccl, ∀ k, k < q.2.2 → defaultValue ((parseFieldDescriptor (q.2.1 k).2.2.1).getD .int) = hv_v (dflV ((parseFieldDescriptor (q.2.1 k).2.2.1).getD .int)) := by
  have h1 : ∀ q ∈ ccl, ∀ k, k < q.2.2 → ((parseFieldDescriptor (q.2.1 k).2.2.1).getD .int) = .int ∨ (∃ n, ((parseFieldDescriptor (q.2.1 k).2.2.1).getD .int) = .object n) ∨ ∃ n, ((parseFieldDescriptor (q.2.1 k).2.2.1).getD .int) = .array n := by
    intro q hq k hk
    have h2 : ((parseFieldDescriptor (q.2.1 k).2.2.1).getD .int) ∈ [FieldType.int, .object "java/util/ArrayList", .array .int, .array .boolean, .array (.object "java/lang/Object"), .array (.object "FencedBroker$Log"), .array (.object "FencedBroker$Producer"), .array (.object "FencedBroker$Group")] := by
      revert q k
      decide +kernel
    simp only [List.mem_cons, List.not_mem_nil, or_false] at h2
    rcases h2 with h | h | h | h | h | h | h | h
    · exact Or.inl h
    · exact Or.inr (Or.inl ⟨_, h⟩)
    all_goals exact Or.inr (Or.inr ⟨_, h⟩)
  intro q hq k hk
  rcases h1 q hq k hk with h | ⟨n, h⟩ | ⟨n, h⟩ <;> rw [h] <;> rfl
section RW3
variable {G : EN} {p : Program} {l : Launch} {e : Env} {R : Room} {s : State} {m : MethodId} {args : Array Value} {below : List Frame} {meth : Method} {c : Code} {H : Heap} {locs : List Loc} {cells slots : Nat} {Q : State → Prop}
variable {cc : ByteArray} {pc nL : Nat} {own : String} {ls : Array Slot} {rest : List Value} {h : HH} {z : Z3} {a : Nat}
/-- room for one cell of N slots -/
def nO (z : Z3) (N : Nat) : Option Unit := if 1 ≤ z.2.1 ∧ N ≤ z.2.2 then some () else none
def nZ (z : Z3) (N : Nat) : Z3 := (z.1 + 1, z.2.1 - 1, z.2.2 - N)
theorem nO_at {z : Z3} {N : Nat} {u : Unit} (h : nO z N = some u) : 1 ≤ z.2.1 ∧ N ≤ z.2.2 := by
  unfold nO at h
  split at h
  · assumption
  · cases h
theorem ST.new {H1 : Heap} {x : HC} {N N0 : Nat} (hs : ST G R s h z H locs cells slots) (hN : N0 ≤ N) (hz : 1 ≤ z.2.1 ∧ N ≤ z.2.2) (z1 : H1.size = H.size + 1) (oq : ∀ q : Nat, q < H.size → H1[q]? = H[q]?) (hc : hp_at G z.1 x H1) : ST G R s (va_up h z.1 (some x)) (nZ z N) H1 locs (cells + 1) (slots + N0) := by
  obtain ⟨h1, h2, h3, h4, h5⟩ := hs
  refine ⟨h1.push h2 (fun q hq => oq q (by omega)) hc, by show H1.size = z.1 + 1; omega, ⟨by rw [z1]; exact Nat.le_trans h3.1 (Nat.le_succ _), fun q hq hA => ?_, h3.2.2⟩, by show cells + 1 + (z.2.1 - 1) ≤ _; omega, by show slots + N0 + (z.2.2 - N) ≤ _; omega⟩
  rw [oq q (Nat.lt_of_lt_of_le hq h3.1)]
  exact h3.2.1 q hq hA
theorem r_iast (C : CX G p l s m meth c cc nL own) (hs : ST G R s h z H locs cells slots) {i x : Int32} (hdg : decode cc pc = .ok (.iastore, 1)) {β : Type} {K : HH → Option β} {r : β} (hf : (aIs G.2.2.1 h a 0 i x).bind K = some r)
    (kk : ∀ (h1 : HH) (H1 : Heap) (locs1 : List Loc), K h1 = some r → ST G R s h1 z H1 locs1 cells slots → W p l e R s m args below meth c H1 locs1 cells slots Q (F0 m (pc + 1) ls rest)) : W p l e R s m args below meth c H locs cells slots Q (F0 m pc ls (.int x :: .int i :: .ref a :: rest)) := by
  obtain ⟨v, h1, hf⟩ := bd hf
  obtain ⟨n, f, ha, hin, hba, rfl⟩ := aIs_at h1
  obtain ⟨hx, hb, -, hown, -, hG, hbs, -⟩ := C
  obtain ⟨hT, hK, -⟩ := hG.here hbs
  refine W.iast hx hb (hp_ex (hs.1 a _ ha) (by decide)) ((hK.2 0 _ (tyl_at (by decide))).1 n (fun j => .int (f j))) (fun q => by cases q) (by show ¬ (i < 0 ∨ (arrV _ _ _).slots.size ≤ _); rw [arrV_size]; exact hin) rfl rfl hdg fun H1 e1 z1 oq => ?_
  refine kk _ H1 _ hf (hs.put z1 oq hba (Or.inl ⟨by decide, ?_⟩))
  show H1[a]? = some (vp_cell (G.2.1 0) (n, .inl (upd f i.toNatClampNeg x)))
  rw [e1]
  show some ((vp_cell (G.2.1 0) (n, .inl f)).setSlot _ _) = _
  rw [vp_cell_i, vp_cell_i, arrV_store]
  congr 2
  funext q
  by_cases hq : q = i.toNatClampNeg
  · subst hq
    simp [updV, upd]
  · simp [updV, upd, hq]
theorem r_zast (C : CX G p l s m meth c cc nL own) (hs : ST G R s h z H locs cells slots) {i x : Int32} (hdg : decode cc pc = .ok (.bastore, 1)) {β : Type} {K : HH → Option β} {r : β} (hf : (aIs G.2.2.1 h a 1 i (vp_nar .boolean x)).bind K = some r)
    (kk : ∀ (h1 : HH) (H1 : Heap) (locs1 : List Loc), K h1 = some r → ST G R s h1 z H1 locs1 cells slots → W p l e R s m args below meth c H1 locs1 cells slots Q (F0 m (pc + 1) ls rest)) : W p l e R s m args below meth c H locs cells slots Q (F0 m pc ls (.int x :: .int i :: .ref a :: rest)) := by
  obtain ⟨v, h1, hf⟩ := bd hf
  obtain ⟨n, f, ha, hin, hba, rfl⟩ := aIs_at h1
  obtain ⟨hx, hb, -, hown, -, hG, hbs, -⟩ := C
  obtain ⟨hT, hK, -⟩ := hG.here hbs
  refine W.zast hx hb (hp_ex (hs.1 a _ ha) (by decide)) ((hK.2 1 _ (tyl_at (by decide))).1 n (fun j => .int (f j))) (fun q => by cases q) (by show ¬ (i < 0 ∨ (arrV _ _ _).slots.size ≤ _); rw [arrV_size]; exact hin) rfl rfl hdg fun H1 e1 z1 oq => ?_
  refine kk _ H1 _ hf (hs.put z1 oq hba (Or.inl ⟨by decide, ?_⟩))
  show H1[a]? = some (vp_cell (G.2.1 1) (n, .inl (upd f i.toNatClampNeg (vp_nar .boolean x))))
  rw [e1]
  show some ((vp_cell (G.2.1 1) (n, .inl f)).setSlot _ _) = _
  rw [vp_cell_i, vp_cell_i, arrV_store]
  congr 2
  funext q
  by_cases hq : q = i.toNatClampNeg
  · subst hq
    simp [updV, upd, vp_nar]
    try rfl
  · simp [updV, upd, hq]
theorem r_last (C : CX G p l s m meth c cc nL own) (hs : ST G R s h z H locs cells slots) {i : Int32} {x : Int64} (hdg : decode cc pc = .ok (.lastore, 1)) {β : Type} {K : HH → Option β} {r : β} (hf : (aJs G.2.2.1 h a 2 i x).bind K = some r)
    (kk : ∀ (h1 : HH) (H1 : Heap) (locs1 : List Loc), K h1 = some r → ST G R s h1 z H1 locs1 cells slots → W p l e R s m args below meth c H1 locs1 cells slots Q (F0 m (pc + 1) ls rest)) : W p l e R s m args below meth c H locs cells slots Q (F0 m pc ls (.long x :: .int i :: .ref a :: rest)) := by
  obtain ⟨v, h1, hf⟩ := bd hf
  obtain ⟨n, f, ha, hin, hba, rfl⟩ := aJs_at h1
  obtain ⟨hx, hb, -, hown, -, hG, hbs, -⟩ := C
  obtain ⟨hT, hK, -⟩ := hG.here hbs
  refine W.last hx hb (hp_ex (hs.1 a _ ha) (by decide)) ((hK.2 2 _ (tyl_at (by decide))).1 n (fun j => .long (f j))) (fun q => by cases q) (by show ¬ (i < 0 ∨ (arrV _ _ _).slots.size ≤ _); rw [arrV_size]; exact hin) rfl rfl hdg fun H1 e1 z1 oq => ?_
  refine kk _ H1 _ hf (hs.put z1 oq hba (Or.inl ⟨by decide, ?_⟩))
  show H1[a]? = some (vp_cell (G.2.1 2) (n, .inr (.inl (vp_updL f i.toNatClampNeg x))))
  rw [e1]
  show some ((vp_cell (G.2.1 2) (n, .inr (.inl f))).setSlot _ _) = _
  rw [vp_cell_l, vp_cell_l, arrV_store]
  congr 2
  funext q
  by_cases hq : q = i.toNatClampNeg
  · subst hq
    simp [updV, vp_updL]
  · simp [updV, vp_updL, hq]
theorem aQs_cell {n : Nat} {f : Nat → Option Nat} {H1 : Heap} {cA : ClassId} {i : Int32} {x : Option Nat} (e1 : H1[a]? = some ((vp_cell cA (n, .inr (.inr (.inr (.inr f))))).setSlot i.toNatClampNeg (va_rf x))) : H1[a]? = some (vp_cell cA (n, .inr (.inr (.inr (.inr (va_up f i.toNatClampNeg x)))))) := by
  rw [e1, vp_cell_q, vp_cell_q, arrV_store]
  congr 2
  funext q
  by_cases hq : q = i.toNatClampNeg
  · subst hq
    simp [updV, va_up]
  · simp [updV, va_up, hq]
/-- a reference is put into an array of references: the value's class ci, castable to the array's -/
theorem r_aast (C : CX G p l s m meth c cc nL own) (hs : ST G R s h z H locs cells slots) {i : Int32} {kd ci v : Nat} {E Cn : String} {T : u_T} {N : Nat} (hE : tyk kd = .object E) (hc : ccl[ci]? = some (Cn, T, N)) (hca : Cn = E ∨ Cond.castable Cn E ∈ lw_tbl) (hdg : decode cc pc = .ok (.aastore, 1)) {β : Type} {K : HH → Option β} {r : β} (hf : ((oK h v ci).bind fun _ => (aQs G.2.2.1 h a kd i (some v)).bind K) = some r)
    (kk : ∀ (h1 : HH) (H1 : Heap) (locs1 : List Loc), K h1 = some r → ST G R s h1 z H1 locs1 cells slots → W p l e R s m args below meth c H1 locs1 cells slots Q (F0 m (pc + 1) ls rest)) : W p l e R s m args below meth c H locs cells slots Q (F0 m pc ls (.ref v :: .int i :: .ref a :: rest)) := by
  obtain ⟨u, h0, hf⟩ := bd hf
  obtain ⟨h2, h1, hf⟩ := bd hf
  obtain ⟨fs, hv⟩ := oK_at h0
  obtain ⟨n, f, ha, hin, hba, h7, rfl⟩ := aQs_at h1
  obtain ⟨hx, hb, -, hown, -, hG, hbs, -⟩ := C
  obtain ⟨hT, hK, -⟩ := hG.here hbs
  have hlt : i.toNatClampNeg < n := Nat.not_le.mp fun q => hin (Or.inr q)
  have h0 : ¬ i < 0 := fun q => hin (Or.inl q)
  obtain ⟨r', hr', cellV, g1, g2, g3, -⟩ : va_at G.1 ccl (v, .inr (ci, fs.map hv_v)) H := hs.1 v _ hv
  have hcls := (hK.1 ci _ hc).2
  have ht := tyl_at (G := G) h7
  rw [hE] at ht
  obtain ⟨kA, comp, k1, k2, k3, -⟩ := (hK.2 kd _ ht).2
  obtain ⟨kE, hkE, -⟩ := Vm.findClass_spec k3
  obtain ⟨kC, hkC, -⟩ := hcls.2
  have hasg : s.vm.assignable (G.1.1 ci) comp = true := by
    rcases hca with e1 | hca
    · subst e1
      have : comp = G.1.1 ci := Option.some.inj (k3.symm.trans hcls.1)
      rw [this]
      exact va_assign hcls
    · obtain ⟨c0, t1, f1, f2, f3⟩ := Cond.castable_spec (hT.use (args := args) hca rfl)
      cases hcls.1.symm.trans f1
      cases k3.symm.trans f2
      exact f3
  refine W.aast hx hb (hp_ex (hs.1 a _ ha) h7) (fun q h => by cases h) (fun h => by cases h) k1 k2 rfl hkE ⟨h0, by show _ < (arrV _ _ _).slots.size; rw [arrV_size]; exact hlt⟩ g1 (fun q h => by rw [g3] at h; cases h) (by rw [g2]; exact hkC) (by rw [g2]; exact hasg) rfl rfl hdg fun H1 e1 z1 oq => ?_
  exact kk _ H1 _ hf (hs.put z1 oq hba (Or.inl ⟨h7, aQs_cell (x := some v) e1⟩))
theorem r_aastN (C : CX G p l s m meth c cc nL own) (hs : ST G R s h z H locs cells slots) {i : Int32} {kd : Nat} {E : String} (hE : tyk kd = .object E) (hdg : decode cc pc = .ok (.aastore, 1)) {β : Type} {K : HH → Option β} {r : β} (hf : (aQs G.2.2.1 h a kd i none).bind K = some r)
    (kk : ∀ (h1 : HH) (H1 : Heap) (locs1 : List Loc), K h1 = some r → ST G R s h1 z H1 locs1 cells slots → W p l e R s m args below meth c H1 locs1 cells slots Q (F0 m (pc + 1) ls rest)) : W p l e R s m args below meth c H locs cells slots Q (F0 m pc ls (.null :: .int i :: .ref a :: rest)) := by
  obtain ⟨h2, h1, hf⟩ := bd hf
  obtain ⟨n, f, ha, hin, hba, h7, rfl⟩ := aQs_at h1
  obtain ⟨hx, hb, -, hown, -, hG, hbs, -⟩ := C
  obtain ⟨hT, hK, -⟩ := hG.here hbs
  have ht := tyl_at (G := G) h7
  rw [hE] at ht
  refine va_WaastN (C := E) hx hb (hp_ex (hs.1 a _ ha) h7) ((hK.2 kd _ ht).1 n (fun j => va_rf (f j))) (fun h => by cases h) (by show ¬ (i < 0 ∨ (arrV _ _ _).slots.size ≤ _); rw [arrV_size]; exact hin) rfl rfl hdg fun H1 e1 z1 oq => ?_
  exact kk _ H1 _ hf (hs.put z1 oq hba (Or.inl ⟨h7, aQs_cell (x := none) e1⟩))
theorem r_new (C : CX G p l s m meth c cc nL own) (hs : ST G R s h z H locs cells slots) {index ci : Nat} {Cn : String} {T : u_T} {N : Nat} (hc : ccl[ci]? = some (Cn, T, N)) (hl : Cond.classLink own index Cn ∈ lw_tbl) (hi : Cond.instantiable Cn N ∈ lw_tbl) (hi2 : Cond.initialized Cn ∈ lw_tbl) (hdg : decode cc pc = .ok (.new index, 3)) {β : Type} {K : Unit → Option β} {r : β} (hf : (nO z N).bind K = some r)
    (kk : ∀ (H1 : Heap), K () = some r → ST G R s (va_up h z.1 (some (.inl (ci, dfl ci)))) (nZ z N) H1 locs (cells + 1) (slots + N) → W p l e R s m args below meth c H1 locs (cells + 1) (slots + N) Q (F0 m (pc + 3) ls (.ref z.1 :: rest))) : W p l e R s m args below meth c H locs cells slots Q (F0 m pc ls rest) := by
  obtain ⟨u, h0, hf⟩ := bd hf
  have hz := nO_at h0
  obtain ⟨hx, hb, -, hown, -, hG, hbs, -⟩ := C
  obtain ⟨hT, hK, -⟩ := hG.here hbs
  have hin : ∀ w ∈ u_ws Cn T N, w ∈ (u_ws Cn T N) := fun w hw => hw
  have hts : ∀ w ∈ u_ws Cn T N, w.before args s = true := ws_ts hT hc
  have hKn := hK.1 ci _ hc
  have hr1 := hs.2.2.2.1
  have hr2 := hs.2.2.2.2
  refine W.newcK hx hb hown (hT.use hl rfl) (hT.use hi rfl) (hT.use hi2 rfl) rfl hdg (by omega) (by omega) hKn.2.1 hs.2.1 fun H1 kC hkC e1 z1 o1 => ?_
  refine kk H1 hf (hs.new (Nat.le_refl N) hz (by rw [z1, hs.2.1]) (fun q hq => o1 q (by rw [← hs.2.1]; exact hq)) ?_)
  show va_at G.1 ccl (z.1, .inr (ci, (dfl ci).map hv_v)) H1
  refine ⟨_, hc, (u_born _ hts hin hKn hkC e1 (ccl_ty _ (mem_ccl hc))).to ?_⟩
  intro j hj
  show _ = vp_V ((dfl ci).map hv_v) j
  have hj' : j < N := hj
  rw [dfl_ok _ (mem_ccl hc) j hj]
  simp [vp_V, dfl, hc, hj']
/-- the length of a new array is a number that the room allows; NB: a bound of it -/
def nA (n : Int32) (NB : Nat) : Option Unit := if ¬ n < 0 ∧ n.toNatClampNeg ≤ NB ∧ NB ≤ 5000 then some () else none
theorem nA_at {n : Int32} {NB : Nat} {u : Unit} (h : nA n NB = some u) : ¬ n < 0 ∧ n.toNatClampNeg ≤ NB ∧ NB ≤ 5000 := by
  unfold nA at h
  split at h
  · assumption
  · cases h
theorem r_newa (C : CX G p l s m meth c cc nL own) (hs : ST G R s h z H locs cells slots) {atype : ArrayType} {kd : Nat} (hk : kd < 2) (hty : newarray.typeOf atype = tyk kd) (hl : Cond.arrayClass (newarray.typeOf atype) ∈ lw_tbl) {n : Int32} {NB : Nat} (hdg : decode cc pc = .ok (.newarray atype, 2)) {β : Type} {K : Unit → Option β} {r : β} (hf : ((nA n NB).bind fun _ => (nO z NB).bind K) = some r)
    (kk : ∀ (H1 : Heap) (slots1 : Nat), K () = some r → ST G R s (va_up h z.1 (some (.inr (kd, n.toNatClampNeg, .inl (fun _ => 0))))) (nZ z NB) H1 locs (cells + 1) slots1 → W p l e R s m args below meth c H1 locs (cells + 1) slots1 Q (F0 m (pc + 2) ls (.ref z.1 :: rest))) : W p l e R s m args below meth c H locs cells slots Q (F0 m pc ls (.int n :: rest)) := by
  obtain ⟨u, h0, hf⟩ := bd hf
  obtain ⟨u2, h00, hf⟩ := bd hf
  have hz := nO_at h00
  obtain ⟨hn0, hnb, hb5⟩ := nA_at h0
  obtain ⟨hx, hb, -, hown, -, hG, hbs, -⟩ := C
  obtain ⟨hT, hK, -⟩ := hG.here hbs
  have hr1 := hs.2.2.2.1
  have hr2 := hs.2.2.2.2
  have h7 : kd < 7 := by omega
  have hcb : componentBytes (newarray.typeOf atype) ≤ 8 := by rw [hty]; rcases (show kd = 0 ∨ kd = 1 by omega) with rfl | rfl <;> decide
  have hbytes : n.toNatClampNeg * componentBytes (newarray.typeOf atype) ≤ 536870912 := Nat.le_trans (Nat.mul_le_mul (Nat.le_trans hnb hb5) hcb) (by decide)
  refine va_newaK hx hb (hT.use hl rfl) rfl hdg rfl hn0 rfl hbytes (by omega) (by omega) hs.2.1 fun H1 cA e1 z1 o1 hAr hNm => ?_
  have hcA : cA = G.2.1 kd := by
    have h9 := (hK.2 kd _ (tyl_at h7)).2
    rw [hty] at hNm
    rcases (show kd = 0 ∨ kd = 1 by omega) with rfl | rfl
    · exact Option.some.inj (hNm.symm.trans h9)
    · exact Option.some.inj (hNm.symm.trans h9)
  subst hcA
  refine kk H1 _ hf (hs.new hnb hz (by rw [z1, hs.2.1]) (fun q hq => o1 q (by rw [← hs.2.1]; exact hq)) (Or.inl ⟨h7, ?_⟩))
  show H1[z.1]? = some (vp_cell _ (_, .inl _))
  rw [e1, vp_cell_i, hty]
  rcases (show kd = 0 ∨ kd = 1 by omega) with rfl | rfl <;> rfl
theorem r_newl (C : CX G p l s m meth c cc nL own) (hs : ST G R s h z H locs cells slots) {atype : ArrayType} (hty : newarray.typeOf atype = .long) (hl : Cond.arrayClass (newarray.typeOf atype) ∈ lw_tbl) {n : Int32} {NB : Nat} (hdg : decode cc pc = .ok (.newarray atype, 2)) {β : Type} {K : Unit → Option β} {r : β} (hf : ((nA n NB).bind fun _ => (nO z NB).bind K) = some r)
    (kk : ∀ (H1 : Heap) (slots1 : Nat), K () = some r → ST G R s (va_up h z.1 (some (.inr (2, n.toNatClampNeg, .inr (.inl (fun _ => 0)))))) (nZ z NB) H1 locs (cells + 1) slots1 → W p l e R s m args below meth c H1 locs (cells + 1) slots1 Q (F0 m (pc + 2) ls (.ref z.1 :: rest))) : W p l e R s m args below meth c H locs cells slots Q (F0 m pc ls (.int n :: rest)) := by
  obtain ⟨u, h0, hf⟩ := bd hf
  obtain ⟨u2, h00, hf⟩ := bd hf
  have hz := nO_at h00
  obtain ⟨hn0, hnb, hb5⟩ := nA_at h0
  obtain ⟨hx, hb, -, hown, -, hG, hbs, -⟩ := C
  obtain ⟨hT, hK, -⟩ := hG.here hbs
  have hr1 := hs.2.2.2.1
  have hr2 := hs.2.2.2.2
  have hcb : componentBytes (newarray.typeOf atype) ≤ 8 := by rw [hty]; decide
  have hbytes : n.toNatClampNeg * componentBytes (newarray.typeOf atype) ≤ 536870912 := Nat.le_trans (Nat.mul_le_mul (Nat.le_trans hnb hb5) hcb) (by decide)
  refine va_newaK hx hb (hT.use hl rfl) rfl hdg rfl hn0 rfl hbytes (by omega) (by omega) hs.2.1 fun H1 cA e1 z1 o1 hAr hNm => ?_
  have hcA : cA = G.2.1 2 := by
    have h9 : va_RA s (G.2.1 2) .long := (hK.2 2 _ (tyl_at (by decide))).2
    rw [hty] at hNm
    exact Option.some.inj (hNm.symm.trans h9)
  subst hcA
  refine kk H1 _ hf (hs.new hnb hz (by rw [z1, hs.2.1]) (fun q hq => o1 q (by rw [← hs.2.1]; exact hq)) (Or.inl ⟨by decide, ?_⟩))
  have hd : ∀ j : Nat, defaultValue .long = Value.long ((fun _ : Nat => (0 : Int64)) j) := fun j => by simp only [defaultValue]
  rw [hty, funext hd] at e1
  show H1[z.1]? = some (vp_cell _ (_, .inr (.inl _)))
  rw [vp_cell_l]
  exact e1
theorem r_anew (C : CX G p l s m meth c cc nL own) (hs : ST G R s h z H locs cells slots) {kd index : Nat} {E : String} (hE : tyk kd = .object E) (h7 : kd < 7) (hl : Cond.classLink own index E ∈ lw_tbl) (hl2 : Cond.arrayOver (.object E) ∈ lw_tbl) {n : Int32} {NB : Nat} (hdg : decode cc pc = .ok (.anewarray index, 3)) {β : Type} {K : Unit → Option β} {r : β} (hf : ((nA n NB).bind fun _ => (nO z NB).bind K) = some r)
    (kk : ∀ (H1 : Heap) (slots1 : Nat), K () = some r → ST G R s (va_up h z.1 (some (.inr (kd, n.toNatClampNeg, .inr (.inr (fun _ => none)))))) (nZ z NB) H1 locs (cells + 1) slots1 → W p l e R s m args below meth c H1 locs (cells + 1) slots1 Q (F0 m (pc + 3) ls (.ref z.1 :: rest))) : W p l e R s m args below meth c H locs cells slots Q (F0 m pc ls (.int n :: rest)) := by
  obtain ⟨u, h0, hf⟩ := bd hf
  obtain ⟨u2, h00, hf⟩ := bd hf
  have hz := nO_at h00
  obtain ⟨hn0, hnb, hb5⟩ := nA_at h0
  obtain ⟨hx, hb, -, hown, -, hG, hbs, -⟩ := C
  obtain ⟨hT, hK, -⟩ := hG.here hbs
  have hr1 := hs.2.2.2.1
  have hr2 := hs.2.2.2.2
  refine W.anew hx hb hown (hT.use hl rfl) (hT.use hl2 rfl) rfl hdg rfl hn0 (Nat.le_trans (Nat.mul_le_mul (Nat.le_trans hnb hb5) (Nat.le_refl 4)) (by decide)) (by omega) (by omega) fun cA kA comp f1 f2 f3 f4 => ?_
  generalize hH1 : H.push ({ cls := cA, slots := Array.replicate n.toNatClampNeg .null, vm := .none } : Cell) = H1
  have z1 : H1.size = H.size + 1 := by rw [← hH1, Array.size_push]
  have e1 : H1[H.size]? = some (arrV cA n.toNatClampNeg (fun _ => .null)) := by rw [← hH1, Array.getElem?_push_size, ← arrV_new]
  have o1 : ∀ q : Nat, q < H.size → H1[q]? = H[q]? := fun q hq => by rw [← hH1, Array.getElem?_push, if_neg (Nat.ne_of_lt hq)]
  have hcA : cA = G.2.1 kd := by
    have ht := tyl_at (G := G) h7
    rw [hE] at ht
    obtain ⟨kA', comp', -, -, -, g4⟩ := (hK.2 kd _ ht).2
    exact Option.some.inj (f1.symm.trans g4)
  subst hcA
  rw [hs.2.1] at e1 ⊢
  refine kk H1 _ hf (hs.new hnb hz z1 o1 (Or.inl ⟨h7, ?_⟩))
  show H1[z.1]? = some (vp_cell _ (_, .inr (.inr (.inr (.inr _)))))
  rw [vp_cell_q]
  exact e1
end RW3
