/-! pure reads and writes of the heap; nothing where the machine itself would throw -/
def gV (h : HH) (a ci k : Nat) : Option HV := match h a with
  | some (.inl (c, fs)) => if c = ci then fs[k]? else none
  | _ => none
def gI (h : HH) (a ci k : Nat) : Option Int32 := match gV h a ci k with
  | some (.inl x) => some x
  | _ => none
def gR (h : HH) (a ci k : Nat) : Option Nat := match gV h a ci k with
  | some (.inr (some q)) => some q
  | _ => none
def pV (bs : Nat) (h : HH) (a ci k : Nat) (v : HV) : Option HH := match h a with
  | some (.inl (c, fs)) => if c = ci ∧ k < fs.length ∧ bs ≤ a then some (va_up h a (some (.inl (ci, fs.set k v)))) else none
  | _ => none
def inr_ (i : Int32) (n : Nat) : Bool := !(decide (i < 0) || decide (n ≤ i.toNatClampNeg))
def aI (h : HH) (a kd : Nat) (i : Int32) : Option Int32 := match h a with
  | some (.inr (k, n, .inl f)) => if k = kd ∧ inr_ i n = true then some (f i.toNatClampNeg) else none
  | _ => none
def aIs (bs : Nat) (h : HH) (a kd : Nat) (i x : Int32) : Option HH := match h a with
  | some (.inr (k, n, .inl f)) => if k = kd ∧ inr_ i n = true ∧ bs ≤ a then some (va_up h a (some (.inr (kd, n, .inl (upd f i.toNatClampNeg x))))) else none
  | _ => none
def aJ (h : HH) (a kd : Nat) (i : Int32) : Option Int64 := match h a with
  | some (.inr (k, n, .inr (.inl f))) => if k = kd ∧ inr_ i n = true then some (f i.toNatClampNeg) else none
  | _ => none
def aJs (bs : Nat) (h : HH) (a kd : Nat) (i : Int32) (x : Int64) : Option HH := match h a with
  | some (.inr (k, n, .inr (.inl f))) => if k = kd ∧ inr_ i n = true ∧ bs ≤ a then some (va_up h a (some (.inr (kd, n, .inr (.inl (vp_updL f i.toNatClampNeg x)))))) else none
  | _ => none
def aQ (h : HH) (a kd : Nat) (i : Int32) : Option (Option Nat) := match h a with
  | some (.inr (k, n, .inr (.inr f))) => if k = kd ∧ inr_ i n = true ∧ k < 7 then some (f i.toNatClampNeg) else none
  | _ => none
def aR (h : HH) (a kd : Nat) (i : Int32) : Option Nat := (aQ h a kd i).bind id
def aQs (bs : Nat) (h : HH) (a kd : Nat) (i : Int32) (x : Option Nat) : Option HH := match h a with
  | some (.inr (k, n, .inr (.inr f))) => if k = kd ∧ inr_ i n = true ∧ bs ≤ a ∧ k < 7 then some (va_up h a (some (.inr (kd, n, .inr (.inr (va_up f i.toNatClampNeg x)))))) else none
  | _ => none
def aN (h : HH) (a : Nat) : Option Int32 := match h a with
  | some (.inr (k, n, _)) => if k < 9 then some (Int32.ofNat n) else none
  | _ => none
/-- the object is of this class -/
def oK (h : HH) (a ci : Nat) : Option Unit := match h a with
  | some (.inl (c, _)) => if c = ci then some () else none
  | _ => none
def ass (c : Bool) : Option Unit := if c = true then some () else none
theorem bd {α β : Type} {x : Option α} {K : α → Option β} {r : β} (h : x.bind K = some r) : ∃ v, x = some v ∧ K v = some r := by
  cases x with
  | none => cases h
  | some v => exact ⟨v, rfl, h⟩
theorem ifp {α : Type} {c : Prop} [Decidable c] {A B r : α} (h : c) (hf : (if c then A else B) = r) : A = r := by rw [if_pos h] at hf; exact hf
theorem ifn {α : Type} {c : Prop} [Decidable c] {A B r : α} (h : ¬ c) (hf : (if c then A else B) = r) : B = r := by rw [if_neg h] at hf; exact hf
theorem ass_t {c : Bool} {u : Unit} (h : ass c = some u) : c = true := by
  unfold ass at h
  split at h
  · assumption
  · cases h
theorem inr_in {i : Int32} {n : Nat} (h : inr_ i n = true) : vp_in i n := by
  intro q
  simp only [inr_, Bool.not_eq_true', Bool.or_eq_false_iff, decide_eq_false_iff_not] at h
  rcases q with q | q
  · exact h.1 q
  · exact h.2 q
theorem gI_at {h : HH} {a ci k : Nat} {x : Int32} (e : gI h a ci k = some x) : ∃ fs, h a = some (.inl (ci, fs)) ∧ fs[k]? = some (.inl x) := by
  unfold gI gV at e
  split at e
  · rename_i y h1
    cases e
    split at h1
    · rename_i c fs h2
      split at h1
      · rename_i hc
        subst hc
        exact ⟨fs, h2, h1⟩
      · cases h1
    · cases h1
  · cases e
theorem gR_at {h : HH} {a ci k : Nat} {x : Nat} (e : gR h a ci k = some x) : ∃ fs, h a = some (.inl (ci, fs)) ∧ fs[k]? = some (.inr (some x)) := by
  unfold gR gV at e
  split at e
  · rename_i y h1
    cases e
    split at h1
    · rename_i c fs h2
      split at h1
      · rename_i hc
        subst hc
        exact ⟨fs, h2, h1⟩
      · cases h1
    · cases h1
  · cases e
theorem pV_at {bs : Nat} {h h' : HH} {a ci k : Nat} {v : HV} (e : pV bs h a ci k v = some h') : ∃ fs, h a = some (.inl (ci, fs)) ∧ k < fs.length ∧ bs ≤ a ∧ h' = va_up h a (some (.inl (ci, fs.set k v))) := by
  unfold pV at e
  split at e
  · rename_i c fs h2
    split at e
    · rename_i hc
      obtain ⟨rfl, h3, h4⟩ := hc
      cases e
      exact ⟨fs, h2, h3, h4, rfl⟩
    · cases e
  · cases e
theorem aI_at {h : HH} {a kd : Nat} {i x : Int32} (e : aI h a kd i = some x) : ∃ n f, h a = some (.inr (kd, n, .inl f)) ∧ vp_in i n ∧ x = f i.toNatClampNeg := by
  unfold aI at e
  split at e
  · rename_i k n f h2
    split at e
    · rename_i hc
      obtain ⟨rfl, h3⟩ := hc
      cases e
      exact ⟨n, f, h2, inr_in h3, rfl⟩
    · cases e
  · cases e
theorem aIs_at {bs : Nat} {h h' : HH} {a kd : Nat} {i x : Int32} (e : aIs bs h a kd i x = some h') : ∃ n f, h a = some (.inr (kd, n, .inl f)) ∧ vp_in i n ∧ bs ≤ a ∧ h' = va_up h a (some (.inr (kd, n, .inl (upd f i.toNatClampNeg x)))) := by
  unfold aIs at e
  split at e
  · rename_i k n f h2
    split at e
    · rename_i hc
      obtain ⟨rfl, h3, h4⟩ := hc
      cases e
      exact ⟨n, f, h2, inr_in h3, h4, rfl⟩
    · cases e
  · cases e
theorem aJ_at {h : HH} {a kd : Nat} {i : Int32} {x : Int64} (e : aJ h a kd i = some x) : ∃ n f, h a = some (.inr (kd, n, .inr (.inl f))) ∧ vp_in i n ∧ x = f i.toNatClampNeg := by
  unfold aJ at e
  split at e
  · rename_i k n f h2
    split at e
    · rename_i hc
      obtain ⟨rfl, h3⟩ := hc
      cases e
      exact ⟨n, f, h2, inr_in h3, rfl⟩
    · cases e
  · cases e
theorem aJs_at {bs : Nat} {h h' : HH} {a kd : Nat} {i : Int32} {x : Int64} (e : aJs bs h a kd i x = some h') : ∃ n f, h a = some (.inr (kd, n, .inr (.inl f))) ∧ vp_in i n ∧ bs ≤ a ∧ h' = va_up h a (some (.inr (kd, n, .inr (.inl (vp_updL f i.toNatClampNeg x))))) := by
  unfold aJs at e
  split at e
  · rename_i k n f h2
    split at e
    · rename_i hc
      obtain ⟨rfl, h3, h4⟩ := hc
      cases e
      exact ⟨n, f, h2, inr_in h3, h4, rfl⟩
    · cases e
  · cases e
theorem aQ_at {h : HH} {a kd : Nat} {i : Int32} {x : Option Nat} (e : aQ h a kd i = some x) : ∃ n f, h a = some (.inr (kd, n, .inr (.inr f))) ∧ vp_in i n ∧ x = f i.toNatClampNeg ∧ kd < 7 := by
  unfold aQ at e
  split at e
  · rename_i k n f h2
    split at e
    · rename_i hc
      obtain ⟨rfl, h3, h4⟩ := hc
      cases e
      exact ⟨n, f, h2, inr_in h3, rfl, h4⟩
    · cases e
  · cases e
theorem aR_at {h : HH} {a kd : Nat} {i : Int32} {x : Nat} (e : aR h a kd i = some x) : aQ h a kd i = some (some x) := by
  unfold aR at e
  cases h1 : aQ h a kd i with
  | none => rw [h1] at e; cases e
  | some y =>
    rw [h1] at e
    exact congrArg some e
theorem aQs_at {bs : Nat} {h h' : HH} {a kd : Nat} {i : Int32} {x : Option Nat} (e : aQs bs h a kd i x = some h') : ∃ n f, h a = some (.inr (kd, n, .inr (.inr f))) ∧ vp_in i n ∧ bs ≤ a ∧ kd < 7 ∧ h' = va_up h a (some (.inr (kd, n, .inr (.inr (va_up f i.toNatClampNeg x))))) := by
  unfold aQs at e
  split at e
  · rename_i k n f h2
    split at e
    · rename_i hc
      obtain ⟨rfl, h3, h4, h5⟩ := hc
      cases e
      exact ⟨n, f, h2, inr_in h3, h4, h5, rfl⟩
    · cases e
  · cases e
theorem aN_at {h : HH} {a : Nat} {x : Int32} (e : aN h a = some x) : ∃ k n f, h a = some (.inr (k, n, f)) ∧ x = Int32.ofNat n := by
  unfold aN at e
  split at e
  · rename_i k n f h2
    split at e
    · cases e
      exact ⟨k, n, f, h2, rfl⟩
    · cases e
  · cases e
theorem oK_at {h : HH} {a ci : Nat} {u : Unit} (e : oK h a ci = some u) : ∃ fs, h a = some (.inl (ci, fs)) := by
  unfold oK at e
  split at e
  · rename_i c fs h2
    split at e
    · rename_i hc
      subst hc
      exact ⟨fs, h2⟩
    · cases e
  · cases e
theorem vP1 {D : va_G} {cl : List vw_C} {a : Nat} {x : va_E} {H : Heap} (h : va_at D cl (a, x) H) : va_P D cl [(a, x)] H := fun k q hk => by
  match k, hk with
  | 0, hk => cases hk; exact h
  | k + 1, hk => simp at hk
theorem tyl_at {G : EN} {k : Nat} (h : k < 7) : (tyl G)[k]? = some (G.2.1 k, tyk k) := by simp [tyl, h]
theorem ccl_ty : ∀ q ∈ ccl, ∀ k, k < q.2.2 → parseFieldDescriptor (q.2.1 k).2.2.1 = some ((parseFieldDescriptor (q.2.1 k).2.2.1).getD .int) := by decide +kernel
theorem cond_sf {ref owner n d : String} {args : Array Value} {s : State} (h : (Cond.sameField ref owner n d).before args s = true) : ∀ x, s.fieldFound? owner n d = some x → s.fieldFound? ref n d = some x := by
  intro x hx
  simp only [Cond.before, Cond.holds, Cond.value] at h
  cases hj : s.fieldFound? ref n d with
  | none => simp [hj] at h
  | some y =>
    have h2 := Cond.sameField_spec (owner := owner) (args := args) (first := s) (o := none) (idx := []) (c := y.1) (k := y.2.1) (i := y.2.2.1) (f := y.2.2.2) hj (by simpa [Cond.holds, Cond.value] using h)
    rw [hx] at h2
    exact h2.symm
/-- a field's entry in a class's pool: the field k of the class ci -/
def FL (own : String) (index ci k : Nat) : Prop := ∃ (Cn : String) (T : u_T) (N : Nat), ccl[ci]? = some (Cn, T, N) ∧ k < N ∧ ((Cond.fieldLink own index (T k).1 (T k).2.1 (T k).2.2.1 ∈ lw_tbl) ∨ (∃ host, Cond.fieldLinkNest own index (T k).1 (T k).2.1 (T k).2.2.1 host ∈ lw_tbl) ∨ ∃ ref, Cond.fieldLink own index ref (T k).2.1 (T k).2.2.1 ∈ lw_tbl ∧ Cond.sameField ref (T k).1 (T k).2.1 (T k).2.2.1 ∈ lw_tbl)
def FLP (own : String) (index ci k : Nat) (ty : FieldType) : Prop := FL own index ci k ∧ ∀ (Cn : String) (T : u_T) (N : Nat), ccl[ci]? = some (Cn, T, N) → (T k).2.2.2 = false ∧ parseFieldDescriptor (T k).2.2.1 = some ty
def FLF (own : String) (index ci k : Nat) (ty : FieldType) : Prop := ∀ (Cn : String) (T : u_T) (N : Nat), ccl[ci]? = some (Cn, T, N) → k < N ∧ (T k).2.2.2 = true ∧ (T k).1 = own ∧ parseFieldDescriptor (T k).2.2.1 = some ty ∧ Cond.fieldLink own index (T k).1 (T k).2.1 (T k).2.2.1 ∈ lw_tbl
/-- what stays in a walk -/
def CX (G : EN) (p : Program) (l : Launch) (s : State) (m : MethodId) (meth : Method) (c : Code) (cc : ByteArray) (nL : Nat) (own : String) : Prop :=
  p.tables.exec = Jvm.exec ∧ c.code = cc ∧ c.maxLocals = nL ∧ s.vm.findClass own = some m.cls ∧ meth.locks = false ∧ GW G s ∧ G.2.2.1 ≤ s.heap.size ∧ l.stackTraces = false
/-- what moves -/
abbrev Z3 : Type := Nat × Nat × Nat
/-- z: the heap's size, and how many cells and slots may still be made -/
def ST (G : EN) (R : Room) (s : State) (h : HH) (z : Z3) (H : Heap) (locs : List Loc) (cells slots : Nat) : Prop := HP G h H ∧ H.size = z.1 ∧ va_S (AG G) s.heap H locs ∧ cells + z.2.1 ≤ R.cells ∧ slots + z.2.2 ≤ R.slots
theorem GW.here {G : EN} {s : State} (h : GW G s) (hb : G.2.2.1 ≤ s.heap.size) : GX G s := h s ⟨State.WarmedH.refl s, hb, fun _ _ => rfl⟩
theorem mem_ccl {ci : Nat} {q : vw_C} (h : ccl[ci]? = some q) : q ∈ ccl := List.mem_of_getElem? h
section RW
variable {G : EN} {p : Program} {l : Launch} {e : Env} {R : Room} {s : State} {m : MethodId} {args : Array Value} {below : List Frame} {meth : Method} {c : Code} {H : Heap} {locs : List Loc} {cells slots : Nat} {Q : State → Prop}
variable {cc : ByteArray} {pc nL : Nat} {own : String} {ls : Array Slot} {rest : List Value} {h : HH} {z : Z3} {a : Nat}
theorem r_getV (C : CX G p l s m meth c cc nL own) (hs : ST G R s h z H locs cells slots) {index ci k : Nat} (hF : FL own index ci k) {fs : List HV} {v : HV} (ha : h a = some (.inl (ci, fs))) (hv : fs[k]? = some v) (hdg : decode cc pc = .ok (.getfield index, 3))
    (kk : W p l e R s m args below meth c H locs cells slots Q (F0 m (pc + 3) ls (hv_v v :: rest))) : W p l e R s m args below meth c H locs cells slots Q (F0 m pc ls (.ref a :: rest)) := by
  obtain ⟨hx, hb, -, hown, -, hG, hbs, -⟩ := C
  obtain ⟨hT, hK, -⟩ := hG.here hbs
  obtain ⟨Cn, T, N, hc, hk, hl⟩ := hF
  have hin : ∀ w ∈ u_ws Cn T N, w ∈ (u_ws Cn T N) := fun w hw => hw
  have hok : ∀ w ∈ u_ws Cn T N, okw w = true := by
    intro w hw
    unfold u_ws u_lay at hw
    obtain ⟨j, -, rfl⟩ := List.mem_map.mp hw
    split <;> rfl
  have hts : ∀ w ∈ u_ws Cn T N, w.before args s = true := fun w hw => hT.use (ccl_in _ (mem_ccl hc) w hw) (hok w hw)
  have hP := vP1 (D := G.1) (cl := ccl) (a := a) (x := .inr (ci, fs.map hv_v)) (H := H) (hs.1 a _ ha)
  have hv' : (fs.map hv_v)[k]? = some (hv_v v) := by simp [hv]
  rcases hl with hl | ⟨host, hl⟩ | ⟨ref, hl, hl2⟩
  · exact va_get (D := G.1) hx hb hts hin hown hK hP 0 rfl hc k hk (hT.use hl rfl) (fun _ h9 => h9) hv' hdg kk
  · exact va_getN (D := G.1) hx hb hts hin hown hK hP 0 rfl hc k hk (hT.use hl rfl) (fun _ h9 => h9) hv' hdg kk
  · exact va_get (D := G.1) hx hb hts hin hown hK hP 0 rfl hc k hk (hT.use hl rfl) (cond_sf (args := args) (hT.use hl2 rfl)) hv' hdg kk
theorem r_getI (C : CX G p l s m meth c cc nL own) (hs : ST G R s h z H locs cells slots) {index ci k : Nat} (hF : FL own index ci k) (hdg : decode cc pc = .ok (.getfield index, 3)) {β : Type} {K : Int32 → Option β} {r : β} (hf : (gI h a ci k).bind K = some r)
    (kk : ∀ v, K v = some r → W p l e R s m args below meth c H locs cells slots Q (F0 m (pc + 3) ls (.int v :: rest))) : W p l e R s m args below meth c H locs cells slots Q (F0 m pc ls (.ref a :: rest)) := by
  obtain ⟨v, h1, h2⟩ := bd hf
  obtain ⟨fs, h3, h4⟩ := gI_at h1
  exact r_getV C hs hF h3 h4 hdg (kk v h2)
theorem r_getR (C : CX G p l s m meth c cc nL own) (hs : ST G R s h z H locs cells slots) {index ci k : Nat} (hF : FL own index ci k) (hdg : decode cc pc = .ok (.getfield index, 3)) {β : Type} {K : Nat → Option β} {r : β} (hf : (gR h a ci k).bind K = some r)
    (kk : ∀ v, K v = some r → W p l e R s m args below meth c H locs cells slots Q (F0 m (pc + 3) ls (.ref v :: rest))) : W p l e R s m args below meth c H locs cells slots Q (F0 m pc ls (.ref a :: rest)) := by
  obtain ⟨v, h1, h2⟩ := bd hf
  obtain ⟨fs, h3, h4⟩ := gR_at h1
  exact r_getV C hs hF h3 h4 hdg (kk v h2)
end RW
