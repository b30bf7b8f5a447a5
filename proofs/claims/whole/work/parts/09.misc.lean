def FU : Nat := 1000
theorem tm {w : Cond} {i : Nat} (h : tables_1[i]? = some w) : w ∈ lw_tbl := List.mem_append_right _ (List.mem_of_getElem? h)
theorem i32_of_toInt {x : Int32} {n : Int} (h : x.toInt = n) : x = Int32.ofInt n := by
  rw [← h, Int32.ofInt_toInt]
theorem tab_out4 {x : Int32} (h0 : ¬ x = 0) (h1 : ¬ x = 1) (h2 : ¬ x = 2) (h3 : ¬ x = 3) : x.toInt < 0 ∨ 3 < x.toInt := by
  by_cases h : x.toInt < 0
  · exact Or.inl h
  by_cases h' : 3 < x.toInt
  · exact Or.inr h'
  exfalso
  rcases (show x.toInt = 0 ∨ x.toInt = 1 ∨ x.toInt = 2 ∨ x.toInt = 3 by omega) with e | e | e | e
  · exact h0 (i32_of_toInt e)
  · exact h1 (i32_of_toInt e)
  · exact h2 (i32_of_toInt e)
  · exact h3 (i32_of_toInt e)
section RM9
variable {G : EN} {p : Program} {l : Launch} {e : Env} {R : Room} {s : State} {m : MethodId} {args : Array Value} {below : List Frame} {meth : Method} {c : Code} {H : Heap} {locs : List Loc} {cells slots : Nat} {Q : State → Prop}
variable {cc : ByteArray} {pc nL : Nat} {own : String} {ls : Array Slot} {rest : List Value} {h : HH} {z : Z3} {a : Nat}
theorem r_cast (C : CX G p l s m meth c cc nL own) (hs : ST G R s h z H locs cells slots) {index ci : Nat} {Cn : String} {T : u_T} {N : Nat} (hc : ccl[ci]? = some (Cn, T, N)) (hl : Cond.classLink own index Cn ∈ lw_tbl) (hl2 : Cond.castable Cn Cn ∈ lw_tbl) (hdg : decode cc pc = .ok (.checkcast index, 3)) {β : Type} {K : Unit → Option β} {r : β} (hf : (oK h a ci).bind K = some r)
    (kk : K () = some r → W p l e R s m args below meth c H locs cells slots Q (F0 m (pc + 3) ls (.ref a :: rest))) : W p l e R s m args below meth c H locs cells slots Q (F0 m pc ls (.ref a :: rest)) := by
  obtain ⟨u, h1, hf⟩ := bd hf
  obtain ⟨fs, ha⟩ := oK_at h1
  obtain ⟨hx, hb, -, hown, -, hG, hbs, -⟩ := C
  obtain ⟨hT, hK, -⟩ := hG.here hbs
  have hr := va_recv (q0 := 0) (fs := fs.map hv_v) hK (vP1 (D := G.1) (cl := ccl) (a := a) (x := .inr (ci, fs.map hv_v)) (H := H) (hs.1 a _ ha)) hc rfl
  exact va_castY (C := Cn) (nm := Cn) hx hb hown (hT.use hl rfl) (va_Nw.of rfl (hT.use (args := args) hl2 rfl)) hr hdg (kk hf)
theorem r_gets (C : CX G p l s m meth c cc nL own) (hs : ST G R s h z H locs cells slots) {index : Nat} (hl : Cond.fieldLink own index "java/util/ArrayList" "DEFAULTCAPACITY_EMPTY_ELEMENTDATA" "[Ljava/lang/Object;" ∈ lw_tbl) (hdg : decode cc pc = .ok (.getstatic index, 3))
    (kk : W p l e R s m args below meth c H locs cells slots Q (F0 m (pc + 3) ls (.ref G.2.2.2 :: rest))) : W p l e R s m args below meth c H locs cells slots Q (F0 m pc ls rest) := by
  obtain ⟨hx, hb, -, hown, -, hG, hbs, -⟩ := C
  obtain ⟨hT, hK, hZ, -⟩ := hG.here hbs
  exact va_gets hx hb hZ hs.2.2.1 hown (hT.use hl rfl) (fun _ h9 => h9) hdg kk
end RM9
