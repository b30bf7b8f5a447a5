def fb_M_ctor_L183 (bs : Nat) (sE : Nat × Nat) (REC : HH → Z3 → Nat → Int32 → Option RS) (h : HH) (z : Z3) (x0 : Nat) (x1 : Int32) : Option RS :=
  if 8 ≤ x1 then
    (some (.inl none, h, z))
  else
    ((gR h x0 6 20).bind fun v63 =>
    (aIs bs h v63 0 x1 (-1)).bind fun h64 =>
    (gR h64 x0 6 21).bind fun v65 =>
    (aIs bs h64 v65 0 x1 (-1)).bind fun h66 =>
    REC h66 z x0 (x1 + 1))
def f_M_ctor_L183 (bs : Nat) (sE : Nat × Nat) : Nat → HH → Z3 → Nat → Int32 → Option RS
  | 0 => fun _ _ _ _ => none
  | n + 1 => fb_M_ctor_L183 bs sE (f_M_ctor_L183 bs sE n)
set_option maxHeartbeats 4000000 in
set_option maxRecDepth 100000 in
theorem t_M_ctor_L183 {G : EN} {p : Program} {l : Launch} {e : Env} {s : State} {m : MethodId} {args : Array Value} {below : List Frame} {meth : Method} {c : Code} {z0 : Z3} (hl0 : l.stackTraces = false) (C : CX G p l s m meth c b_M_ctor 2 y_M_ctor.cls) (hr : meth.sig.returnType = none) (hex : c.exceptionTable.toList = []) {r : RS} :
    ∀ (n : Nat) (h : HH) (z : Z3) (x0 : Nat) (x1 : Int32), f_M_ctor_L183 G.2.2.1 G.2.2.2 n h z x0 x1 = some r → ∀ (H : Heap) (locs : List Loc) (cells slots : Nat) (ls : Array Slot), ST G (RM 1 20 z0) s h z H locs cells slots → lv_has ls 2 [(0, .ref x0), (1, .int x1)] → W p l e (RM 1 20 z0) s m args below meth c H locs cells slots (MX G below s r (RM 1 20 z0).cells (RM 1 20 z0).slots) (F0 m 183 ls []) := by
  have hx := C.1
  have hb := C.2.1
  intro n
  induction n with
  | zero => intro h z x0 x1 hf; exact nomatch (show (none : Option RS) = some r from hf)
  | succ n ih =>
    intro h z x0 x1 hf H locs cells slots ls hs hl
    have hf : fb_M_ctor_L183 G.2.2.1 G.2.2.2 (f_M_ctor_L183 G.2.2.1 G.2.2.2 n) h z x0 x1 = some r := hf
    unfold fb_M_ctor_L183 at hf
    refine lv_iload_n hx hb d_M_ctor_183 rfl (lv_at hl 1 rfl) ?_
    refine lv_bipush (v := 8) hx hb d_M_ctor_184 (by decide) ?_
    refine lv_icmp_ge (tgt := 209) hx hb d_M_ctor_186 (by decide) (fun q62 => ?_) (fun q62 => ?_)
    · have hf := ifp q62 hf
      exact r_vreturn C hs hr d_M_ctor_209 hf
    · have hf := ifn q62 hf
      refine lv_aload_n hx hb d_M_ctor_189 rfl (lv_at hl 0 rfl) ?_
      refine r_getR C hs fl_M_65 d_M_ctor_190 hf (fun v63 hf => ?_)
      refine lv_iload_n hx hb d_M_ctor_193 rfl (lv_at hl 1 rfl) ?_
      refine lv_iconst (v := (-1)) hx hb d_M_ctor_194 (by decide) ?_
      refine r_iast C hs d_M_ctor_195 hf (fun h64 H locs hf hs => ?_)
      refine lv_aload_n hx hb d_M_ctor_196 rfl (lv_at hl 0 rfl) ?_
      refine r_getR C hs fl_M_68 d_M_ctor_197 hf (fun v65 hf => ?_)
      refine lv_iload_n hx hb d_M_ctor_200 rfl (lv_at hl 1 rfl) ?_
      refine lv_iconst (v := (-1)) hx hb d_M_ctor_201 (by decide) ?_
      refine r_iast C hs d_M_ctor_202 hf (fun h66 H locs hf hs => ?_)
      refine lv_iinc (v := x1 + 1) (lv' := [(1, .int (x1 + 1)), (0, .ref x0)]) hx hb d_M_ctor_203 hl (k := 1) rfl rfl (by decide) rfl (fun ls hl => ?_)
      refine lv_goto (tgt := 183) hx hb d_M_ctor_206 (by decide) ?_
      exact ih _ _ _ _ hf _ _ _ _ _ hs (lv_sub hl [1, 0] rfl)
def fb_M_ctor_L163 (bs : Nat) (sE : Nat × Nat) (REC : HH → Z3 → Nat → Int32 → Option RS) (h : HH) (z : Z3) (x0 : Nat) (x1 : Int32) : Option RS :=
  if 4 ≤ x1 then
    (f_M_ctor_L183 bs sE FU h z x0 0)
  else
    ((gR h x0 6 10).bind fun v67 =>
    (aIs bs h v67 0 x1 (-1)).bind fun h68 =>
    REC h68 z x0 (x1 + 1))
def f_M_ctor_L163 (bs : Nat) (sE : Nat × Nat) : Nat → HH → Z3 → Nat → Int32 → Option RS
  | 0 => fun _ _ _ _ => none
  | n + 1 => fb_M_ctor_L163 bs sE (f_M_ctor_L163 bs sE n)
set_option maxHeartbeats 4000000 in
set_option maxRecDepth 100000 in
theorem t_M_ctor_L163 {G : EN} {p : Program} {l : Launch} {e : Env} {s : State} {m : MethodId} {args : Array Value} {below : List Frame} {meth : Method} {c : Code} {z0 : Z3} (hl0 : l.stackTraces = false) (C : CX G p l s m meth c b_M_ctor 2 y_M_ctor.cls) (hr : meth.sig.returnType = none) (hex : c.exceptionTable.toList = []) {r : RS} :
    ∀ (n : Nat) (h : HH) (z : Z3) (x0 : Nat) (x1 : Int32), f_M_ctor_L163 G.2.2.1 G.2.2.2 n h z x0 x1 = some r → ∀ (H : Heap) (locs : List Loc) (cells slots : Nat) (ls : Array Slot), ST G (RM 1 20 z0) s h z H locs cells slots → lv_has ls 2 [(0, .ref x0), (1, .int x1)] → W p l e (RM 1 20 z0) s m args below meth c H locs cells slots (MX G below s r (RM 1 20 z0).cells (RM 1 20 z0).slots) (F0 m 163 ls []) := by
  have hx := C.1
  have hb := C.2.1
  intro n
  induction n with
  | zero => intro h z x0 x1 hf; exact nomatch (show (none : Option RS) = some r from hf)
  | succ n ih =>
    intro h z x0 x1 hf H locs cells slots ls hs hl
    have hf : fb_M_ctor_L163 G.2.2.1 G.2.2.2 (f_M_ctor_L163 G.2.2.1 G.2.2.2 n) h z x0 x1 = some r := hf
    unfold fb_M_ctor_L163 at hf
    refine lv_iload_n hx hb d_M_ctor_163 rfl (lv_at hl 1 rfl) ?_
    refine lv_iconst (v := 4) hx hb d_M_ctor_164 (by decide) ?_
    refine lv_icmp_ge (tgt := 181) hx hb d_M_ctor_165 (by decide) (fun q61 => ?_) (fun q61 => ?_)
    · have hf := ifp q61 hf
      refine lv_iconst (v := 0) hx hb d_M_ctor_181 (by decide) ?_
      refine lv_istore_n (lv' := [(1, .int 0), (0, .ref x0)]) hx hb d_M_ctor_182 rfl hl (by decide) rfl (fun ls hl => ?_)
      exact t_M_ctor_L183 hl0 C hr hex FU _ _ _ _ hf _ _ _ _ _ hs (lv_sub hl [1, 0] rfl)
    · have hf := ifn q61 hf
      refine lv_aload_n hx hb d_M_ctor_168 rfl (lv_at hl 0 rfl) ?_
      refine r_getR C hs fl_M_37 d_M_ctor_169 hf (fun v67 hf => ?_)
      refine lv_iload_n hx hb d_M_ctor_172 rfl (lv_at hl 1 rfl) ?_
      refine lv_iconst (v := (-1)) hx hb d_M_ctor_173 (by decide) ?_
      refine r_iast C hs d_M_ctor_174 hf (fun h68 H locs hf hs => ?_)
      refine lv_iinc (v := x1 + 1) (lv' := [(1, .int (x1 + 1)), (0, .ref x0)]) hx hb d_M_ctor_175 hl (k := 1) rfl rfl (by decide) rfl (fun ls hl => ?_)
      refine lv_goto (tgt := 163) hx hb d_M_ctor_178 (by decide) ?_
      exact ih _ _ _ _ hf _ _ _ _ _ hs (lv_sub hl [1, 0] rfl)
def f_M_ctor (bs : Nat) (sE : Nat × Nat) (h : HH) (z : Z3) (x0 : Nat) : Option RS :=
  (nA 2080 2080).bind fun _ =>
  (nO z 2080).bind fun _ =>
  (some (va_up h z.1 (some (.inr (0, (2080 : Int32).toNatClampNeg, .inl (fun _ => 0)))))).bind fun h1 =>
  (some (nZ z 2080)).bind fun z2 =>
  (pV bs h1 x0 6 1 (.inr (some z.1))).bind fun h3 =>
  (nA 2080 2080).bind fun _ =>
  (nO z2 2080).bind fun _ =>
  (some (va_up h3 z2.1 (some (.inr (0, (2080 : Int32).toNatClampNeg, .inl (fun _ => 0)))))).bind fun h4 =>
  (some (nZ z2 2080)).bind fun z5 =>
  (pV bs h4 x0 6 2 (.inr (some z2.1))).bind fun h6 =>
  (nA 2080 2080).bind fun _ =>
  (nO z5 2080).bind fun _ =>
  (some (va_up h6 z5.1 (some (.inr (0, (2080 : Int32).toNatClampNeg, .inl (fun _ => 0)))))).bind fun h7 =>
  (some (nZ z5 2080)).bind fun z8 =>
  (pV bs h7 x0 6 3 (.inr (some z5.1))).bind fun h9 =>
  (nA 2080 2080).bind fun _ =>
  (nO z8 2080).bind fun _ =>
  (some (va_up h9 z8.1 (some (.inr (0, (2080 : Int32).toNatClampNeg, .inl (fun _ => 0)))))).bind fun h10 =>
  (some (nZ z8 2080)).bind fun z11 =>
  (pV bs h10 x0 6 4 (.inr (some z8.1))).bind fun h12 =>
  (nA 2080 2080).bind fun _ =>
  (nO z11 2080).bind fun _ =>
  (some (va_up h12 z11.1 (some (.inr (0, (2080 : Int32).toNatClampNeg, .inl (fun _ => 0)))))).bind fun h13 =>
  (some (nZ z11 2080)).bind fun z14 =>
  (pV bs h13 x0 6 5 (.inr (some z11.1))).bind fun h15 =>
  (nA 2080 2080).bind fun _ =>
  (nO z14 2080).bind fun _ =>
  (some (va_up h15 z14.1 (some (.inr (0, (2080 : Int32).toNatClampNeg, .inl (fun _ => 0)))))).bind fun h16 =>
  (some (nZ z14 2080)).bind fun z17 =>
  (pV bs h16 x0 6 6 (.inr (some z14.1))).bind fun h18 =>
  (nA 4 4).bind fun _ =>
  (nO z17 4).bind fun _ =>
  (some (va_up h18 z17.1 (some (.inr (0, (4 : Int32).toNatClampNeg, .inl (fun _ => 0)))))).bind fun h19 =>
  (some (nZ z17 4)).bind fun z20 =>
  (pV bs h19 x0 6 7 (.inr (some z17.1))).bind fun h21 =>
  (nA 4 4).bind fun _ =>
  (nO z20 4).bind fun _ =>
  (some (va_up h21 z20.1 (some (.inr (0, (4 : Int32).toNatClampNeg, .inl (fun _ => 0)))))).bind fun h22 =>
  (some (nZ z20 4)).bind fun z23 =>
  (pV bs h22 x0 6 8 (.inr (some z20.1))).bind fun h24 =>
  (nA 4 4).bind fun _ =>
  (nO z23 4).bind fun _ =>
  (some (va_up h24 z23.1 (some (.inr (0, (4 : Int32).toNatClampNeg, .inl (fun _ => 0)))))).bind fun h25 =>
  (some (nZ z23 4)).bind fun z26 =>
  (pV bs h25 x0 6 9 (.inr (some z23.1))).bind fun h27 =>
  (nA 4 4).bind fun _ =>
  (nO z26 4).bind fun _ =>
  (some (va_up h27 z26.1 (some (.inr (0, (4 : Int32).toNatClampNeg, .inl (fun _ => 0)))))).bind fun h28 =>
  (some (nZ z26 4)).bind fun z29 =>
  (pV bs h28 x0 6 10 (.inr (some z26.1))).bind fun h30 =>
  (nA 4 4).bind fun _ =>
  (nO z29 4).bind fun _ =>
  (some (va_up h30 z29.1 (some (.inr (0, (4 : Int32).toNatClampNeg, .inl (fun _ => 0)))))).bind fun h31 =>
  (some (nZ z29 4)).bind fun z32 =>
  (pV bs h31 x0 6 11 (.inr (some z29.1))).bind fun h33 =>
  (nA 4 4).bind fun _ =>
  (nO z32 4).bind fun _ =>
  (some (va_up h33 z32.1 (some (.inr (0, (4 : Int32).toNatClampNeg, .inl (fun _ => 0)))))).bind fun h34 =>
  (some (nZ z32 4)).bind fun z35 =>
  (pV bs h34 x0 6 12 (.inr (some z32.1))).bind fun h36 =>
  (nA 4 4).bind fun _ =>
  (nO z35 4).bind fun _ =>
  (some (va_up h36 z35.1 (some (.inr (0, (4 : Int32).toNatClampNeg, .inl (fun _ => 0)))))).bind fun h37 =>
  (some (nZ z35 4)).bind fun z38 =>
  (pV bs h37 x0 6 13 (.inr (some z35.1))).bind fun h39 =>
  (nA 4 4).bind fun _ =>
  (nO z38 4).bind fun _ =>
  (some (va_up h39 z38.1 (some (.inr (0, (4 : Int32).toNatClampNeg, .inl (fun _ => 0)))))).bind fun h40 =>
  (some (nZ z38 4)).bind fun z41 =>
  (pV bs h40 x0 6 14 (.inr (some z38.1))).bind fun h42 =>
  (nA 32 32).bind fun _ =>
  (nO z41 32).bind fun _ =>
  (some (va_up h42 z41.1 (some (.inr (0, (32 : Int32).toNatClampNeg, .inl (fun _ => 0)))))).bind fun h43 =>
  (some (nZ z41 32)).bind fun z44 =>
  (pV bs h43 x0 6 15 (.inr (some z41.1))).bind fun h45 =>
  (nA 2 2).bind fun _ =>
  (nO z44 2).bind fun _ =>
  (some (va_up h45 z44.1 (some (.inr (0, (2 : Int32).toNatClampNeg, .inl (fun _ => 0)))))).bind fun h46 =>
  (some (nZ z44 2)).bind fun z47 =>
  (pV bs h46 x0 6 17 (.inr (some z44.1))).bind fun h48 =>
  (nA 8 8).bind fun _ =>
  (nO z47 8).bind fun _ =>
  (some (va_up h48 z47.1 (some (.inr (1, (8 : Int32).toNatClampNeg, .inl (fun _ => 0)))))).bind fun h49 =>
  (some (nZ z47 8)).bind fun z50 =>
  (pV bs h49 x0 6 18 (.inr (some z47.1))).bind fun h51 =>
  (nA 8 8).bind fun _ =>
  (nO z50 8).bind fun _ =>
  (some (va_up h51 z50.1 (some (.inr (0, (8 : Int32).toNatClampNeg, .inl (fun _ => 0)))))).bind fun h52 =>
  (some (nZ z50 8)).bind fun z53 =>
  (pV bs h52 x0 6 19 (.inr (some z50.1))).bind fun h54 =>
  (nA 8 8).bind fun _ =>
  (nO z53 8).bind fun _ =>
  (some (va_up h54 z53.1 (some (.inr (0, (8 : Int32).toNatClampNeg, .inl (fun _ => 0)))))).bind fun h55 =>
  (some (nZ z53 8)).bind fun z56 =>
  (pV bs h55 x0 6 20 (.inr (some z53.1))).bind fun h57 =>
  (nA 8 8).bind fun _ =>
  (nO z56 8).bind fun _ =>
  (some (va_up h57 z56.1 (some (.inr (0, (8 : Int32).toNatClampNeg, .inl (fun _ => 0)))))).bind fun h58 =>
  (some (nZ z56 8)).bind fun z59 =>
  (pV bs h58 x0 6 21 (.inr (some z56.1))).bind fun h60 =>
  f_M_ctor_L163 bs sE FU h60 z59 x0 0
set_option maxHeartbeats 4000000 in
set_option maxRecDepth 100000 in
theorem c_M_ctor {G : EN} {l : Launch} (hl0 : l.stackTraces = false) {h : HH} {z : Z3} {x0 : Nat} {r : RS} (hf : f_M_ctor G.2.2.1 G.2.2.2 h z x0 = some r) : CM G l y_M_ctor (.code y_M_ctor b_M_ctor 2 none) 1 20 [.ref x0] h z r := by
  refine CM.ofW hl0 rfl ?_
  intro p e s m below meth c C hr hex hin hs
  have hin : meth.name = "<init>" := hin
  have hx := C.1
  have hb := C.2.1
  refine x_entry (n := 2) (Nat.le_of_ble_eq_true rfl) (fun ls hl => ?_)
  have hl : lv_has ls 2 [(0, .ref x0)] := hl
  unfold f_M_ctor at hf
  refine lv_aload_n hx hb d_M_ctor_0 rfl (lv_at hl 0 rfl) ?_
  refine r_objInit C hl.1 (tm (i := 816) (by decide +kernel)) (tm (i := 31) (by decide +kernel)) (tm (i := 32) (by decide +kernel)) d_M_ctor_1 ⟨Nat.le_of_ble_eq_true rfl, Nat.le_of_ble_eq_true rfl⟩ ?_
  refine lv_aload_n hx hb d_M_ctor_4 rfl (lv_at hl 0 rfl) ?_
  refine lv_sipush (v := 2080) hx hb d_M_ctor_5 (by decide) ?_
  refine r_newa (kd := 0) (NB := 2080) C hs (by decide) rfl (tm (i := 88) (by decide +kernel)) d_M_ctor_8 hf (fun H slots hf hs => ?_)
  obtain ⟨h1, eh1, hf⟩ := bd hf
  obtain ⟨z2, ez2, hf⟩ := bd hf
  rw [Option.some.inj eh1, Option.some.inj ez2] at hs
  refine r_putF (v := (.inr (some z.1))) C hs hin flf_M_7 rfl rfl d_M_ctor_10 hf (fun h3 H locs hf hs => ?_)
  refine lv_aload_n hx hb d_M_ctor_13 rfl (lv_at hl 0 rfl) ?_
  refine lv_sipush (v := 2080) hx hb d_M_ctor_14 (by decide) ?_
  refine r_newa (kd := 0) (NB := 2080) C hs (by decide) rfl (tm (i := 88) (by decide +kernel)) d_M_ctor_17 hf (fun H slots hf hs => ?_)
  obtain ⟨h4, eh4, hf⟩ := bd hf
  obtain ⟨z5, ez5, hf⟩ := bd hf
  rw [Option.some.inj eh4, Option.some.inj ez5] at hs
  refine r_putF (v := (.inr (some z2.1))) C hs hin flf_M_13 rfl rfl d_M_ctor_19 hf (fun h6 H locs hf hs => ?_)
  refine lv_aload_n hx hb d_M_ctor_22 rfl (lv_at hl 0 rfl) ?_
  refine lv_sipush (v := 2080) hx hb d_M_ctor_23 (by decide) ?_
  refine r_newa (kd := 0) (NB := 2080) C hs (by decide) rfl (tm (i := 88) (by decide +kernel)) d_M_ctor_26 hf (fun H slots hf hs => ?_)
  obtain ⟨h7, eh7, hf⟩ := bd hf
  obtain ⟨z8, ez8, hf⟩ := bd hf
  rw [Option.some.inj eh7, Option.some.inj ez8] at hs
  refine r_putF (v := (.inr (some z5.1))) C hs hin flf_M_16 rfl rfl d_M_ctor_28 hf (fun h9 H locs hf hs => ?_)
  refine lv_aload_n hx hb d_M_ctor_31 rfl (lv_at hl 0 rfl) ?_
  refine lv_sipush (v := 2080) hx hb d_M_ctor_32 (by decide) ?_
  refine r_newa (kd := 0) (NB := 2080) C hs (by decide) rfl (tm (i := 88) (by decide +kernel)) d_M_ctor_35 hf (fun H slots hf hs => ?_)
  obtain ⟨h10, eh10, hf⟩ := bd hf
  obtain ⟨z11, ez11, hf⟩ := bd hf
  rw [Option.some.inj eh10, Option.some.inj ez11] at hs
  refine r_putF (v := (.inr (some z8.1))) C hs hin flf_M_19 rfl rfl d_M_ctor_37 hf (fun h12 H locs hf hs => ?_)
  refine lv_aload_n hx hb d_M_ctor_40 rfl (lv_at hl 0 rfl) ?_
  refine lv_sipush (v := 2080) hx hb d_M_ctor_41 (by decide) ?_
  refine r_newa (kd := 0) (NB := 2080) C hs (by decide) rfl (tm (i := 88) (by decide +kernel)) d_M_ctor_44 hf (fun H slots hf hs => ?_)
  obtain ⟨h13, eh13, hf⟩ := bd hf
  obtain ⟨z14, ez14, hf⟩ := bd hf
  rw [Option.some.inj eh13, Option.some.inj ez14] at hs
  refine r_putF (v := (.inr (some z11.1))) C hs hin flf_M_22 rfl rfl d_M_ctor_46 hf (fun h15 H locs hf hs => ?_)
  refine lv_aload_n hx hb d_M_ctor_49 rfl (lv_at hl 0 rfl) ?_
  refine lv_sipush (v := 2080) hx hb d_M_ctor_50 (by decide) ?_
  refine r_newa (kd := 0) (NB := 2080) C hs (by decide) rfl (tm (i := 88) (by decide +kernel)) d_M_ctor_53 hf (fun H slots hf hs => ?_)
  obtain ⟨h16, eh16, hf⟩ := bd hf
  obtain ⟨z17, ez17, hf⟩ := bd hf
  rw [Option.some.inj eh16, Option.some.inj ez17] at hs
  refine r_putF (v := (.inr (some z14.1))) C hs hin flf_M_25 rfl rfl d_M_ctor_55 hf (fun h18 H locs hf hs => ?_)
  refine lv_aload_n hx hb d_M_ctor_58 rfl (lv_at hl 0 rfl) ?_
  refine lv_iconst (v := 4) hx hb d_M_ctor_59 (by decide) ?_
  refine r_newa (kd := 0) (NB := 4) C hs (by decide) rfl (tm (i := 88) (by decide +kernel)) d_M_ctor_60 hf (fun H slots hf hs => ?_)
  obtain ⟨h19, eh19, hf⟩ := bd hf
  obtain ⟨z20, ez20, hf⟩ := bd hf
  rw [Option.some.inj eh19, Option.some.inj ez20] at hs
  refine r_putF (v := (.inr (some z17.1))) C hs hin flf_M_28 rfl rfl d_M_ctor_62 hf (fun h21 H locs hf hs => ?_)
  refine lv_aload_n hx hb d_M_ctor_65 rfl (lv_at hl 0 rfl) ?_
  refine lv_iconst (v := 4) hx hb d_M_ctor_66 (by decide) ?_
  refine r_newa (kd := 0) (NB := 4) C hs (by decide) rfl (tm (i := 88) (by decide +kernel)) d_M_ctor_67 hf (fun H slots hf hs => ?_)
  obtain ⟨h22, eh22, hf⟩ := bd hf
  obtain ⟨z23, ez23, hf⟩ := bd hf
  rw [Option.some.inj eh22, Option.some.inj ez23] at hs
  refine r_putF (v := (.inr (some z20.1))) C hs hin flf_M_31 rfl rfl d_M_ctor_69 hf (fun h24 H locs hf hs => ?_)
  refine lv_aload_n hx hb d_M_ctor_72 rfl (lv_at hl 0 rfl) ?_
  refine lv_iconst (v := 4) hx hb d_M_ctor_73 (by decide) ?_
  refine r_newa (kd := 0) (NB := 4) C hs (by decide) rfl (tm (i := 88) (by decide +kernel)) d_M_ctor_74 hf (fun H slots hf hs => ?_)
  obtain ⟨h25, eh25, hf⟩ := bd hf
  obtain ⟨z26, ez26, hf⟩ := bd hf
  rw [Option.some.inj eh25, Option.some.inj ez26] at hs
  refine r_putF (v := (.inr (some z23.1))) C hs hin flf_M_34 rfl rfl d_M_ctor_76 hf (fun h27 H locs hf hs => ?_)
  refine lv_aload_n hx hb d_M_ctor_79 rfl (lv_at hl 0 rfl) ?_
  refine lv_iconst (v := 4) hx hb d_M_ctor_80 (by decide) ?_
  refine r_newa (kd := 0) (NB := 4) C hs (by decide) rfl (tm (i := 88) (by decide +kernel)) d_M_ctor_81 hf (fun H slots hf hs => ?_)
  obtain ⟨h28, eh28, hf⟩ := bd hf
  obtain ⟨z29, ez29, hf⟩ := bd hf
  rw [Option.some.inj eh28, Option.some.inj ez29] at hs
  refine r_putF (v := (.inr (some z26.1))) C hs hin flf_M_37 rfl rfl d_M_ctor_83 hf (fun h30 H locs hf hs => ?_)
  refine lv_aload_n hx hb d_M_ctor_86 rfl (lv_at hl 0 rfl) ?_
  refine lv_iconst (v := 4) hx hb d_M_ctor_87 (by decide) ?_
  refine r_newa (kd := 0) (NB := 4) C hs (by decide) rfl (tm (i := 88) (by decide +kernel)) d_M_ctor_88 hf (fun H slots hf hs => ?_)
  obtain ⟨h31, eh31, hf⟩ := bd hf
  obtain ⟨z32, ez32, hf⟩ := bd hf
  rw [Option.some.inj eh31, Option.some.inj ez32] at hs
  refine r_putF (v := (.inr (some z29.1))) C hs hin flf_M_40 rfl rfl d_M_ctor_90 hf (fun h33 H locs hf hs => ?_)
  refine lv_aload_n hx hb d_M_ctor_93 rfl (lv_at hl 0 rfl) ?_
  refine lv_iconst (v := 4) hx hb d_M_ctor_94 (by decide) ?_
  refine r_newa (kd := 0) (NB := 4) C hs (by decide) rfl (tm (i := 88) (by decide +kernel)) d_M_ctor_95 hf (fun H slots hf hs => ?_)
  obtain ⟨h34, eh34, hf⟩ := bd hf
  obtain ⟨z35, ez35, hf⟩ := bd hf
  rw [Option.some.inj eh34, Option.some.inj ez35] at hs
  refine r_putF (v := (.inr (some z32.1))) C hs hin flf_M_43 rfl rfl d_M_ctor_97 hf (fun h36 H locs hf hs => ?_)
  refine lv_aload_n hx hb d_M_ctor_100 rfl (lv_at hl 0 rfl) ?_
  refine lv_iconst (v := 4) hx hb d_M_ctor_101 (by decide) ?_
  refine r_newa (kd := 0) (NB := 4) C hs (by decide) rfl (tm (i := 88) (by decide +kernel)) d_M_ctor_102 hf (fun H slots hf hs => ?_)
  obtain ⟨h37, eh37, hf⟩ := bd hf
  obtain ⟨z38, ez38, hf⟩ := bd hf
  rw [Option.some.inj eh37, Option.some.inj ez38] at hs
  refine r_putF (v := (.inr (some z35.1))) C hs hin flf_M_46 rfl rfl d_M_ctor_104 hf (fun h39 H locs hf hs => ?_)
  refine lv_aload_n hx hb d_M_ctor_107 rfl (lv_at hl 0 rfl) ?_
  refine lv_iconst (v := 4) hx hb d_M_ctor_108 (by decide) ?_
  refine r_newa (kd := 0) (NB := 4) C hs (by decide) rfl (tm (i := 88) (by decide +kernel)) d_M_ctor_109 hf (fun H slots hf hs => ?_)
  obtain ⟨h40, eh40, hf⟩ := bd hf
  obtain ⟨z41, ez41, hf⟩ := bd hf
  rw [Option.some.inj eh40, Option.some.inj ez41] at hs
  refine r_putF (v := (.inr (some z38.1))) C hs hin flf_M_49 rfl rfl d_M_ctor_111 hf (fun h42 H locs hf hs => ?_)
  refine lv_aload_n hx hb d_M_ctor_114 rfl (lv_at hl 0 rfl) ?_
  refine lv_bipush (v := 32) hx hb d_M_ctor_115 (by decide) ?_
  refine r_newa (kd := 0) (NB := 32) C hs (by decide) rfl (tm (i := 88) (by decide +kernel)) d_M_ctor_117 hf (fun H slots hf hs => ?_)
  obtain ⟨h43, eh43, hf⟩ := bd hf
  obtain ⟨z44, ez44, hf⟩ := bd hf
  rw [Option.some.inj eh43, Option.some.inj ez44] at hs
  refine r_putF (v := (.inr (some z41.1))) C hs hin flf_M_52 rfl rfl d_M_ctor_119 hf (fun h45 H locs hf hs => ?_)
  refine lv_aload_n hx hb d_M_ctor_122 rfl (lv_at hl 0 rfl) ?_
  refine lv_iconst (v := 2) hx hb d_M_ctor_123 (by decide) ?_
  refine r_newa (kd := 0) (NB := 2) C hs (by decide) rfl (tm (i := 88) (by decide +kernel)) d_M_ctor_124 hf (fun H slots hf hs => ?_)
  obtain ⟨h46, eh46, hf⟩ := bd hf
  obtain ⟨z47, ez47, hf⟩ := bd hf
  rw [Option.some.inj eh46, Option.some.inj ez47] at hs
  refine r_putF (v := (.inr (some z44.1))) C hs hin flf_M_55 rfl rfl d_M_ctor_126 hf (fun h48 H locs hf hs => ?_)
  refine lv_aload_n hx hb d_M_ctor_129 rfl (lv_at hl 0 rfl) ?_
  refine lv_bipush (v := 8) hx hb d_M_ctor_130 (by decide) ?_
  refine r_newa (kd := 1) (NB := 8) C hs (by decide) rfl (tm (i := 151) (by decide +kernel)) d_M_ctor_132 hf (fun H slots hf hs => ?_)
  obtain ⟨h49, eh49, hf⟩ := bd hf
  obtain ⟨z50, ez50, hf⟩ := bd hf
  rw [Option.some.inj eh49, Option.some.inj ez50] at hs
  refine r_putF (v := (.inr (some z47.1))) C hs hin flf_M_58 rfl rfl d_M_ctor_134 hf (fun h51 H locs hf hs => ?_)
  refine lv_aload_n hx hb d_M_ctor_137 rfl (lv_at hl 0 rfl) ?_
  refine lv_bipush (v := 8) hx hb d_M_ctor_138 (by decide) ?_
  refine r_newa (kd := 0) (NB := 8) C hs (by decide) rfl (tm (i := 88) (by decide +kernel)) d_M_ctor_140 hf (fun H slots hf hs => ?_)
  obtain ⟨h52, eh52, hf⟩ := bd hf
  obtain ⟨z53, ez53, hf⟩ := bd hf
  rw [Option.some.inj eh52, Option.some.inj ez53] at hs
  refine r_putF (v := (.inr (some z50.1))) C hs hin flf_M_62 rfl rfl d_M_ctor_142 hf (fun h54 H locs hf hs => ?_)
  refine lv_aload_n hx hb d_M_ctor_145 rfl (lv_at hl 0 rfl) ?_
  refine lv_bipush (v := 8) hx hb d_M_ctor_146 (by decide) ?_
  refine r_newa (kd := 0) (NB := 8) C hs (by decide) rfl (tm (i := 88) (by decide +kernel)) d_M_ctor_148 hf (fun H slots hf hs => ?_)
  obtain ⟨h55, eh55, hf⟩ := bd hf
  obtain ⟨z56, ez56, hf⟩ := bd hf
  rw [Option.some.inj eh55, Option.some.inj ez56] at hs
  refine r_putF (v := (.inr (some z53.1))) C hs hin flf_M_65 rfl rfl d_M_ctor_150 hf (fun h57 H locs hf hs => ?_)
  refine lv_aload_n hx hb d_M_ctor_153 rfl (lv_at hl 0 rfl) ?_
  refine lv_bipush (v := 8) hx hb d_M_ctor_154 (by decide) ?_
  refine r_newa (kd := 0) (NB := 8) C hs (by decide) rfl (tm (i := 88) (by decide +kernel)) d_M_ctor_156 hf (fun H slots hf hs => ?_)
  obtain ⟨h58, eh58, hf⟩ := bd hf
  obtain ⟨z59, ez59, hf⟩ := bd hf
  rw [Option.some.inj eh58, Option.some.inj ez59] at hs
  refine r_putF (v := (.inr (some z56.1))) C hs hin flf_M_68 rfl rfl d_M_ctor_158 hf (fun h60 H locs hf hs => ?_)
  refine lv_iconst (v := 0) hx hb d_M_ctor_161 (by decide) ?_
  refine lv_istore_n (lv' := [(1, .int 0), (0, .ref x0)]) hx hb d_M_ctor_162 rfl hl (by decide) rfl (fun ls hl => ?_)
  exact t_M_ctor_L163 hl0 C hr hex FU _ _ _ _ hf _ _ _ _ _ hs (lv_sub hl [1, 0] rfl)
def f_M_thrown (bs : Nat) (sE : Nat × Nat) (h : HH) (z : Z3) (x0 : Nat) : Option RS :=
  (gI h x0 6 0).bind fun v1 =>
  some (.inl (some (.int v1)), h, z)
set_option maxHeartbeats 4000000 in
set_option maxRecDepth 100000 in
theorem c_M_thrown {G : EN} {l : Launch} (hl0 : l.stackTraces = false) {h : HH} {z : Z3} {x0 : Nat} {r : RS} (hf : f_M_thrown G.2.2.1 G.2.2.2 h z x0 = some r) : CM G l y_M_thrown (.code y_M_thrown b_M_thrown 1 (some .int)) 0 0 [.ref x0] h z r := by
  refine CM.ofW hl0 rfl ?_
  intro p e s m below meth c C hr hex hin hs
  have hx := C.1
  have hb := C.2.1
  refine x_entry (n := 1) (Nat.le_of_ble_eq_true rfl) (fun ls hl => ?_)
  have hl : lv_has ls 1 [(0, .ref x0)] := hl
  unfold f_M_thrown at hf
  refine lv_aload_n hx hb d_M_thrown_0 rfl (lv_at hl 0 rfl) ?_
  refine r_getI C hs fl_M_71 d_M_thrown_1 hf (fun v1 hf => ?_)
  exact r_ireturn C hs hr d_M_thrown_4 hf
def f_M_out (bs : Nat) (sE : Nat × Nat) (h : HH) (z : Z3) (x0 : Nat) (x1 : Int32) (x2 : Int32) : Option RS :=
  if x1 < 0 then
    ((bz 1).bind fun _ =>
    some (.inl (some (.int 1)), h, z))
  else
    (if x1 < x2 then
      ((bz 0).bind fun _ =>
      some (.inl (some (.int 0)), h, z))
    else
      ((bz 1).bind fun _ =>
      some (.inl (some (.int 1)), h, z)))
set_option maxHeartbeats 4000000 in
set_option maxRecDepth 100000 in
theorem c_M_out {G : EN} {l : Launch} (hl0 : l.stackTraces = false) {h : HH} {z : Z3} {x0 : Nat} {x1 : Int32} {x2 : Int32} {r : RS} (hf : f_M_out G.2.2.1 G.2.2.2 h z x0 x1 x2 = some r) : CM G l y_M_out (.code y_M_out b_M_out 3 (some .boolean)) 0 0 [.ref x0, .int x1, .int x2] h z r := by
  refine CM.ofW hl0 rfl ?_
  intro p e s m below meth c C hr hex hin hs
  have hx := C.1
  have hb := C.2.1
  refine x_entry (n := 3) (Nat.le_of_ble_eq_true rfl) (fun ls hl => ?_)
  have hl : lv_has ls 3 [(0, .ref x0), (1, .int x1), (2, .int x2)] := hl
  unfold f_M_out at hf
  refine lv_iload_n hx hb d_M_out_0 rfl (lv_at hl 1 rfl) ?_
  refine lv_if_lt (tgt := 9) hx hb d_M_out_1 (by decide) (fun q1 => ?_) (fun q1 => ?_)
  · have hf := ifp q1 hf
    refine lv_iconst (v := 1) hx hb d_M_out_9 (by decide) ?_
    refine lv_goto (tgt := 14) hx hb d_M_out_10 (by decide) ?_
    exact r_zreturn C hs hr d_M_out_14 hf
  · have hf := ifn q1 hf
    refine lv_iload_n hx hb d_M_out_4 rfl (lv_at hl 1 rfl) ?_
    refine lv_iload_n hx hb d_M_out_5 rfl (lv_at hl 2 rfl) ?_
    refine lv_icmp_lt (tgt := 13) hx hb d_M_out_6 (by decide) (fun q2 => ?_) (fun q2 => ?_)
    · have hf := ifp q2 hf
      refine lv_iconst (v := 0) hx hb d_M_out_13 (by decide) ?_
      exact r_zreturn C hs hr d_M_out_14 hf
    · have hf := ifn q2 hf
      refine lv_iconst (v := 1) hx hb d_M_out_9 (by decide) ?_
      refine lv_goto (tgt := 14) hx hb d_M_out_10 (by decide) ?_
      exact r_zreturn C hs hr d_M_out_14 hf
def f_M_fail (bs : Nat) (sE : Nat × Nat) (h : HH) (z : Z3) (x0 : Nat) (x1 : Int32) : Option RS :=
  (pV bs h x0 6 0 (.inl x1)).bind fun h1 =>
  some (.inl (some (.int 0)), h1, z)
set_option maxHeartbeats 4000000 in
set_option maxRecDepth 100000 in
theorem c_M_fail {G : EN} {l : Launch} (hl0 : l.stackTraces = false) {h : HH} {z : Z3} {x0 : Nat} {x1 : Int32} {r : RS} (hf : f_M_fail G.2.2.1 G.2.2.2 h z x0 x1 = some r) : CM G l y_M_fail (.code y_M_fail b_M_fail 2 (some .int)) 0 0 [.ref x0, .int x1] h z r := by
  refine CM.ofW hl0 rfl ?_
  intro p e s m below meth c C hr hex hin hs
  have hx := C.1
  have hb := C.2.1
  refine x_entry (n := 2) (Nat.le_of_ble_eq_true rfl) (fun ls hl => ?_)
  have hl : lv_has ls 2 [(0, .ref x0), (1, .int x1)] := hl
  unfold f_M_fail at hf
  refine lv_aload_n hx hb d_M_fail_0 rfl (lv_at hl 0 rfl) ?_
  refine lv_iload_n hx hb d_M_fail_1 rfl (lv_at hl 1 rfl) ?_
  refine r_putV (v := (.inl x1)) C hs flp_M_71 rfl rfl d_M_fail_2 hf (fun h1 H locs hf hs => ?_)
  refine lv_iconst (v := 0) hx hb d_M_fail_5 (by decide) ?_
  exact r_ireturn C hs hr d_M_fail_6 hf
def f_M_abort (bs : Nat) (sE : Nat × Nat) (h : HH) (z : Z3) (x0 : Nat) (x1 : Int32) : Option RS :=
  (gR h x0 6 11).bind fun v1 =>
  (aI h v1 0 x1).bind fun v2 =>
  (aIs bs h v1 0 x1 (v2 + 1)).bind fun h3 =>
  (gR h3 x0 6 10).bind fun v4 =>
  (aIs bs h3 v4 0 x1 3).bind fun h5 =>
  some (.inl none, h5, z)
set_option maxHeartbeats 4000000 in
set_option maxRecDepth 100000 in
theorem c_M_abort {G : EN} {l : Launch} (hl0 : l.stackTraces = false) {h : HH} {z : Z3} {x0 : Nat} {x1 : Int32} {r : RS} (hf : f_M_abort G.2.2.1 G.2.2.2 h z x0 x1 = some r) : CM G l y_M_abort (.code y_M_abort b_M_abort 2 none) 0 0 [.ref x0, .int x1] h z r := by
  refine CM.ofW hl0 rfl ?_
  intro p e s m below meth c C hr hex hin hs
  have hx := C.1
  have hb := C.2.1
  refine x_entry (n := 2) (Nat.le_of_ble_eq_true rfl) (fun ls hl => ?_)
  have hl : lv_has ls 2 [(0, .ref x0), (1, .int x1)] := hl
  unfold f_M_abort at hf
  refine lv_aload_n hx hb d_M_abort_0 rfl (lv_at hl 0 rfl) ?_
  refine r_getR C hs fl_M_40 d_M_abort_1 hf (fun v1 hf => ?_)
  refine lv_iload_n hx hb d_M_abort_4 rfl (lv_at hl 1 rfl) ?_
  refine lv_dup2_11 hx hb d_M_abort_5 rfl rfl ?_
  refine r_iald C hs d_M_abort_6 hf (fun v2 hf => ?_)
  refine lv_iconst (v := 1) hx hb d_M_abort_7 (by decide) ?_
  refine lv_iadd hx hb d_M_abort_8 ?_
  refine r_iast C hs d_M_abort_9 hf (fun h3 H locs hf hs => ?_)
  refine lv_aload_n hx hb d_M_abort_10 rfl (lv_at hl 0 rfl) ?_
  refine r_getR C hs fl_M_37 d_M_abort_11 hf (fun v4 hf => ?_)
  refine lv_iload_n hx hb d_M_abort_14 rfl (lv_at hl 1 rfl) ?_
  refine lv_iconst (v := 3) hx hb d_M_abort_15 (by decide) ?_
  refine r_iast C hs d_M_abort_16 hf (fun h5 H locs hf hs => ?_)
  exact r_vreturn C hs hr d_M_abort_17 hf
def f_M_init_B74 (bs : Nat) (sE : Nat × Nat) (h : HH) (z : Z3) (x0 : Nat) (x1 : Int32) (w0 : Int32) (w1 : Int32) (w2 : Nat) : Option RS :=
  (aIs bs h w2 0 w1 w0).bind fun h21 =>
  (gR h21 x0 6 10).bind fun v22 =>
  (aIs bs h21 v22 0 x1 0).bind fun h23 =>
  (gR h23 x0 6 11).bind fun v24 =>
  (aI h23 v24 0 x1).bind fun v25 =>
  some (.inl (some (.int v25)), h23, z)
set_option maxHeartbeats 4000000 in
set_option maxRecDepth 100000 in
theorem t_M_init_B74 {G : EN} {p : Program} {l : Launch} {e : Env} {s : State} {m : MethodId} {args : Array Value} {below : List Frame} {meth : Method} {c : Code} {z0 : Z3} (hl0 : l.stackTraces = false) (C : CX G p l s m meth c b_M_init 2 y_M_init.cls) (hr : meth.sig.returnType = (some .int)) (hex : c.exceptionTable.toList = []) {r : RS} :
    ∀ (h : HH) (z : Z3) (x0 : Nat) (x1 : Int32) (w0 : Int32) (w1 : Int32) (w2 : Nat), f_M_init_B74 G.2.2.1 G.2.2.2 h z x0 x1 w0 w1 w2 = some r → ∀ (H : Heap) (locs : List Loc) (cells slots : Nat) (ls : Array Slot), ST G (RM 1 22 z0) s h z H locs cells slots → lv_has ls 2 [(0, .ref x0), (1, .int x1)] → W p l e (RM 1 22 z0) s m args below meth c H locs cells slots (MX G below s r (RM 1 22 z0).cells (RM 1 22 z0).slots) (F0 m 74 ls [.int w0, .int w1, .ref w2]) := by
  have hx := C.1
  have hb := C.2.1
  intro h z x0 x1 w0 w1 w2 hf H locs cells slots ls hs hl
  unfold f_M_init_B74 at hf
  refine r_iast C hs d_M_init_74 hf (fun h21 H locs hf hs => ?_)
  refine lv_aload_n hx hb d_M_init_75 rfl (lv_at hl 0 rfl) ?_
  refine r_getR C hs fl_M_37 d_M_init_76 hf (fun v22 hf => ?_)
  refine lv_iload_n hx hb d_M_init_79 rfl (lv_at hl 1 rfl) ?_
  refine lv_iconst (v := 0) hx hb d_M_init_80 (by decide) ?_
  refine r_iast C hs d_M_init_81 hf (fun h23 H locs hf hs => ?_)
  refine lv_aload_n hx hb d_M_init_82 rfl (lv_at hl 0 rfl) ?_
  refine r_getR C hs fl_M_40 d_M_init_83 hf (fun v24 hf => ?_)
  refine lv_iload_n hx hb d_M_init_86 rfl (lv_at hl 1 rfl) ?_
  refine r_iald C hs d_M_init_87 hf (fun v25 hf => ?_)
  exact r_ireturn C hs hr d_M_init_88 hf
def f_M_init (bs : Nat) (sE : Nat × Nat) (h : HH) (z : Z3) (x0 : Nat) (x1 : Int32) : Option RS :=
  (pV bs h x0 6 0 (.inl 0)).bind fun h1 =>
  (oK h1 x0 6).bind fun _ =>
  cI (f_M_out bs sE h1 z x0 x1 4) fun v4 h2 z3 =>
  if v4 = 0 then
    ((gR h2 x0 6 10).bind fun v6 =>
    (aI h2 v6 0 x1).bind fun v7 =>
    if v7 = 1 then
      ((oK h2 x0 6).bind fun _ =>
      cV (f_M_abort bs sE h2 z3 x0 x1) fun h26 z27 =>
      (oK h26 x0 6).bind fun _ =>
      cI (f_M_fail bs sE h26 z27 x0 2) fun v31 h29 z30 =>
      some (.inl (some (.int v31)), h29, z30))
    else
      ((gR h2 x0 6 10).bind fun v9 =>
      (aI h2 v9 0 x1).bind fun v10 =>
      if 1 ≤ v10 then
        ((oK h2 x0 6).bind fun _ =>
        cI (f_M_fail bs sE h2 z3 x0 2) fun v14 h12 z13 =>
        some (.inl (some (.int v14)), h12, z13))
      else
        ((gR h2 x0 6 11).bind fun v15 =>
        (gR h2 x0 6 10).bind fun v16 =>
        (aI h2 v16 0 x1).bind fun v17 =>
        if 0 ≤ v17 then
          ((gR h2 x0 6 11).bind fun v19 =>
          (aI h2 v19 0 x1).bind fun v20 =>
          f_M_init_B74 bs sE h2 z3 x0 x1 (v20 + 1) x1 v15)
        else
          (f_M_init_B74 bs sE h2 z3 x0 x1 0 x1 v15))))
  else
    ((oK h2 x0 6).bind fun _ =>
    cI (f_M_fail bs sE h2 z3 x0 1) fun v34 h32 z33 =>
    some (.inl (some (.int v34)), h32, z33))
set_option maxHeartbeats 4000000 in
set_option maxRecDepth 100000 in
theorem c_M_init {G : EN} {l : Launch} (hl0 : l.stackTraces = false) {h : HH} {z : Z3} {x0 : Nat} {x1 : Int32} {r : RS} (hf : f_M_init G.2.2.1 G.2.2.2 h z x0 x1 = some r) : CM G l y_M_init (.code y_M_init b_M_init 2 (some .int)) 1 22 [.ref x0, .int x1] h z r := by
  refine CM.ofW hl0 rfl ?_
  intro p e s m below meth c C hr hex hin hs
  have hx := C.1
  have hb := C.2.1
  refine x_entry (n := 2) (Nat.le_of_ble_eq_true rfl) (fun ls hl => ?_)
  have hl : lv_has ls 2 [(0, .ref x0), (1, .int x1)] := hl
  unfold f_M_init at hf
  refine lv_aload_n hx hb d_M_init_0 rfl (lv_at hl 0 rfl) ?_
  refine lv_iconst (v := 0) hx hb d_M_init_1 (by decide) ?_
  refine r_putV (v := (.inl 0)) C hs flp_M_71 rfl rfl d_M_init_2 hf (fun h1 H locs hf hs => ?_)
  refine lv_aload_n hx hb d_M_init_5 rfl (lv_at hl 0 rfl) ?_
  refine lv_iload_n hx hb d_M_init_6 rfl (lv_at hl 1 rfl) ?_
  refine lv_iconst (v := 4) hx hb d_M_init_7 (by decide) ?_
  obtain ⟨_, ho, hf⟩ := bd hf
  refine k_I C hs hex hf (fun res e1 => iv_V (b := x0) (As := [.int x1, .int 4]) (rest := []) C hs cv_M_83 (c_M_out hl0 e1) (ci := 6) rfl rfl ho rfl hl.1 rfl (Nat.le_of_ble_eq_true rfl) d_M_init_8 ⟨Nat.le_of_ble_eq_true rfl, Nat.le_of_ble_eq_true rfl⟩) (fun v4 h2 z3 H locs cells slots hf hs => ?_)
  refine lv_if_eq (tgt := 20) hx hb d_M_init_11 (by decide) (fun q5 => ?_) (fun q5 => ?_)
  · have hf := ifp q5 hf
    refine lv_aload_n hx hb d_M_init_20 rfl (lv_at hl 0 rfl) ?_
    refine r_getR C hs fl_M_37 d_M_init_21 hf (fun v6 hf => ?_)
    refine lv_iload_n hx hb d_M_init_24 rfl (lv_at hl 1 rfl) ?_
    refine r_iald C hs d_M_init_25 hf (fun v7 hf => ?_)
    refine lv_iconst (v := 1) hx hb d_M_init_26 (by decide) ?_
    refine lv_icmp_ne (tgt := 38) hx hb d_M_init_27 (by decide) (fun q8 => ?_) (fun q8 => ?_)
    · have hf := ifn q8 hf
      refine lv_aload_n hx hb d_M_init_38 rfl (lv_at hl 0 rfl) ?_
      refine r_getR C hs fl_M_37 d_M_init_39 hf (fun v9 hf => ?_)
      refine lv_iload_n hx hb d_M_init_42 rfl (lv_at hl 1 rfl) ?_
      refine r_iald C hs d_M_init_43 hf (fun v10 hf => ?_)
      refine lv_iconst (v := 1) hx hb d_M_init_44 (by decide) ?_
      refine lv_icmp_ge (tgt := 89) hx hb d_M_init_45 (by decide) (fun q11 => ?_) (fun q11 => ?_)
      · have hf := ifp q11 hf
        refine lv_aload_n hx hb d_M_init_89 rfl (lv_at hl 0 rfl) ?_
        refine lv_iconst (v := 2) hx hb d_M_init_90 (by decide) ?_
        obtain ⟨_, ho, hf⟩ := bd hf
        refine k_I C hs hex hf (fun res e1 => iv_V (b := x0) (As := [.int 2]) (rest := []) C hs cv_M_86 (c_M_fail hl0 e1) (ci := 6) rfl rfl ho rfl hl.1 rfl (Nat.le_of_ble_eq_true rfl) d_M_init_91 ⟨Nat.le_of_ble_eq_true rfl, Nat.le_of_ble_eq_true rfl⟩) (fun v14 h12 z13 H locs cells slots hf hs => ?_)
        exact r_ireturn C hs hr d_M_init_94 hf
      · have hf := ifn q11 hf
        refine lv_aload_n hx hb d_M_init_48 rfl (lv_at hl 0 rfl) ?_
        refine r_getR C hs fl_M_40 d_M_init_49 hf (fun v15 hf => ?_)
        refine lv_iload_n hx hb d_M_init_52 rfl (lv_at hl 1 rfl) ?_
        refine lv_aload_n hx hb d_M_init_53 rfl (lv_at hl 0 rfl) ?_
        refine r_getR C hs fl_M_37 d_M_init_54 hf (fun v16 hf => ?_)
        refine lv_iload_n hx hb d_M_init_57 rfl (lv_at hl 1 rfl) ?_
        refine r_iald C hs d_M_init_58 hf (fun v17 hf => ?_)
        refine lv_if_ge (tgt := 66) hx hb d_M_init_59 (by decide) (fun q18 => ?_) (fun q18 => ?_)
        · have hf := ifp q18 hf
          refine lv_aload_n hx hb d_M_init_66 rfl (lv_at hl 0 rfl) ?_
          refine r_getR C hs fl_M_40 d_M_init_67 hf (fun v19 hf => ?_)
          refine lv_iload_n hx hb d_M_init_70 rfl (lv_at hl 1 rfl) ?_
          refine r_iald C hs d_M_init_71 hf (fun v20 hf => ?_)
          refine lv_iconst (v := 1) hx hb d_M_init_72 (by decide) ?_
          refine lv_iadd hx hb d_M_init_73 ?_
          exact t_M_init_B74 hl0 C hr hex _ _ _ _ _ _ _ hf _ _ _ _ _ hs (lv_sub hl [0, 1] rfl)
        · have hf := ifn q18 hf
          refine lv_iconst (v := 0) hx hb d_M_init_62 (by decide) ?_
          refine lv_goto (tgt := 74) hx hb d_M_init_63 (by decide) ?_
          exact t_M_init_B74 hl0 C hr hex _ _ _ _ _ _ _ hf _ _ _ _ _ hs (lv_sub hl [0, 1] rfl)
    · have hf := ifp q8 hf
      refine lv_aload_n hx hb d_M_init_30 rfl (lv_at hl 0 rfl) ?_
      refine lv_iload_n hx hb d_M_init_31 rfl (lv_at hl 1 rfl) ?_
      obtain ⟨_, ho, hf⟩ := bd hf
      refine k_V C hs hex hf (fun res e1 => iv_V (b := x0) (As := [.int x1]) (rest := []) C hs cv_M_90 (c_M_abort hl0 e1) (ci := 6) rfl rfl ho rfl hl.1 rfl (Nat.le_of_ble_eq_true rfl) d_M_init_32 ⟨Nat.le_of_ble_eq_true rfl, Nat.le_of_ble_eq_true rfl⟩) (fun h26 z27 H locs cells slots hf hs => ?_)
      refine lv_goto (tgt := 89) hx hb d_M_init_35 (by decide) ?_
      refine lv_aload_n hx hb d_M_init_89 rfl (lv_at hl 0 rfl) ?_
      refine lv_iconst (v := 2) hx hb d_M_init_90 (by decide) ?_
      obtain ⟨_, ho, hf⟩ := bd hf
      refine k_I C hs hex hf (fun res e1 => iv_V (b := x0) (As := [.int 2]) (rest := []) C hs cv_M_86 (c_M_fail hl0 e1) (ci := 6) rfl rfl ho rfl hl.1 rfl (Nat.le_of_ble_eq_true rfl) d_M_init_91 ⟨Nat.le_of_ble_eq_true rfl, Nat.le_of_ble_eq_true rfl⟩) (fun v31 h29 z30 H locs cells slots hf hs => ?_)
      exact r_ireturn C hs hr d_M_init_94 hf
  · have hf := ifn q5 hf
    refine lv_aload_n hx hb d_M_init_14 rfl (lv_at hl 0 rfl) ?_
    refine lv_iconst (v := 1) hx hb d_M_init_15 (by decide) ?_
    obtain ⟨_, ho, hf⟩ := bd hf
    refine k_I C hs hex hf (fun res e1 => iv_V (b := x0) (As := [.int 1]) (rest := []) C hs cv_M_86 (c_M_fail hl0 e1) (ci := 6) rfl rfl ho rfl hl.1 rfl (Nat.le_of_ble_eq_true rfl) d_M_init_16 ⟨Nat.le_of_ble_eq_true rfl, Nat.le_of_ble_eq_true rfl⟩) (fun v34 h32 z33 H locs cells slots hf hs => ?_)
    exact r_ireturn C hs hr d_M_init_19 hf
def f_M_check (bs : Nat) (sE : Nat × Nat) (h : HH) (z : Z3) (x0 : Nat) (x1 : Int32) (x2 : Int32) (x3 : Int32) : Option RS :=
  (gR h x0 6 10).bind fun v1 =>
  (aI h v1 0 x1).bind fun v2 =>
  if 0 ≤ v2 then
    ((gR h x0 6 11).bind fun v4 =>
    (aI h v4 0 x1).bind fun v5 =>
    if x2 = v5 then
      ((gR h x0 6 10).bind fun v7 =>
      (aI h v7 0 x1).bind fun v8 =>
      if v8 = x3 then
        (some (.inl (some (.int 0)), h, z))
      else
        (some (.inl (some (.int 3)), h, z)))
    else
      (some (.inl (some (.int 3)), h, z)))
  else
    (some (.inl (some (.int 2)), h, z))
set_option maxHeartbeats 4000000 in
set_option maxRecDepth 100000 in
theorem c_M_check {G : EN} {l : Launch} (hl0 : l.stackTraces = false) {h : HH} {z : Z3} {x0 : Nat} {x1 : Int32} {x2 : Int32} {x3 : Int32} {r : RS} (hf : f_M_check G.2.2.1 G.2.2.2 h z x0 x1 x2 x3 = some r) : CM G l y_M_check (.code y_M_check b_M_check 4 (some .int)) 0 0 [.ref x0, .int x1, .int x2, .int x3] h z r := by
  refine CM.ofW hl0 rfl ?_
  intro p e s m below meth c C hr hex hin hs
  have hx := C.1
  have hb := C.2.1
  refine x_entry (n := 4) (Nat.le_of_ble_eq_true rfl) (fun ls hl => ?_)
  have hl : lv_has ls 4 [(0, .ref x0), (1, .int x1), (2, .int x2), (3, .int x3)] := hl
  unfold f_M_check at hf
  refine lv_aload_n hx hb d_M_check_0 rfl (lv_at hl 0 rfl) ?_
  refine r_getR C hs fl_M_37 d_M_check_1 hf (fun v1 hf => ?_)
  refine lv_iload_n hx hb d_M_check_4 rfl (lv_at hl 1 rfl) ?_
  refine r_iald C hs d_M_check_5 hf (fun v2 hf => ?_)
  refine lv_if_ge (tgt := 11) hx hb d_M_check_6 (by decide) (fun q3 => ?_) (fun q3 => ?_)
  · have hf := ifp q3 hf
    refine lv_iload_n hx hb d_M_check_11 rfl (lv_at hl 2 rfl) ?_
    refine lv_aload_n hx hb d_M_check_12 rfl (lv_at hl 0 rfl) ?_
    refine r_getR C hs fl_M_40 d_M_check_13 hf (fun v4 hf => ?_)
    refine lv_iload_n hx hb d_M_check_16 rfl (lv_at hl 1 rfl) ?_
    refine r_iald C hs d_M_check_17 hf (fun v5 hf => ?_)
    refine lv_icmp_ne (tgt := 31) hx hb d_M_check_18 (by decide) (fun q6 => ?_) (fun q6 => ?_)
    · have hf := ifn q6 hf
      refine lv_iconst (v := 3) hx hb d_M_check_31 (by decide) ?_
      refine lv_goto (tgt := 36) hx hb d_M_check_32 (by decide) ?_
      exact r_ireturn C hs hr d_M_check_36 hf
    · have hf := ifp q6 hf
      refine lv_aload_n hx hb d_M_check_21 rfl (lv_at hl 0 rfl) ?_
      refine r_getR C hs fl_M_37 d_M_check_22 hf (fun v7 hf => ?_)
      refine lv_iload_n hx hb d_M_check_25 rfl (lv_at hl 1 rfl) ?_
      refine r_iald C hs d_M_check_26 hf (fun v8 hf => ?_)
      refine lv_iload_n hx hb d_M_check_27 rfl (lv_at hl 3 rfl) ?_
      refine lv_icmp_eq (tgt := 35) hx hb d_M_check_28 (by decide) (fun q9 => ?_) (fun q9 => ?_)
      · have hf := ifp q9 hf
        refine lv_iconst (v := 0) hx hb d_M_check_35 (by decide) ?_
        exact r_ireturn C hs hr d_M_check_36 hf
      · have hf := ifn q9 hf
        refine lv_iconst (v := 3) hx hb d_M_check_31 (by decide) ?_
        refine lv_goto (tgt := 36) hx hb d_M_check_32 (by decide) ?_
        exact r_ireturn C hs hr d_M_check_36 hf
  · have hf := ifn q3 hf
    refine lv_iconst (v := 2) hx hb d_M_check_9 (by decide) ?_
    exact r_ireturn C hs hr d_M_check_10 hf
def fb_M_begin_L94 (bs : Nat) (sE : Nat × Nat) (REC : HH → Z3 → Nat → Int32 → Int32 → Option RS) (h : HH) (z : Z3) (x0 : Nat) (x1 : Int32) (x3 : Int32) : Option RS :=
  if 8 ≤ x3 then
    ((gI h x0 6 16).bind fun v26 =>
    some (.inl (some (.int v26)), h, z))
  else
    ((gR h x0 6 15).bind fun v27 =>
    (aIs bs h v27 0 ((8 * x1) + x3) (-1)).bind fun h28 =>
    REC h28 z x0 x1 (x3 + 1))
def f_M_begin_L94 (bs : Nat) (sE : Nat × Nat) : Nat → HH → Z3 → Nat → Int32 → Int32 → Option RS
  | 0 => fun _ _ _ _ _ => none
  | n + 1 => fb_M_begin_L94 bs sE (f_M_begin_L94 bs sE n)
set_option maxHeartbeats 4000000 in
set_option maxRecDepth 100000 in
theorem t_M_begin_L94 {G : EN} {p : Program} {l : Launch} {e : Env} {s : State} {m : MethodId} {args : Array Value} {below : List Frame} {meth : Method} {c : Code} {z0 : Z3} (hl0 : l.stackTraces = false) (C : CX G p l s m meth c b_M_begin 4 y_M_begin.cls) (hr : meth.sig.returnType = (some .int)) (hex : c.exceptionTable.toList = []) {r : RS} :
    ∀ (n : Nat) (h : HH) (z : Z3) (x0 : Nat) (x1 : Int32) (x3 : Int32), f_M_begin_L94 G.2.2.1 G.2.2.2 n h z x0 x1 x3 = some r → ∀ (H : Heap) (locs : List Loc) (cells slots : Nat) (ls : Array Slot), ST G (RM 1 23 z0) s h z H locs cells slots → lv_has ls 4 [(0, .ref x0), (1, .int x1), (3, .int x3)] → W p l e (RM 1 23 z0) s m args below meth c H locs cells slots (MX G below s r (RM 1 23 z0).cells (RM 1 23 z0).slots) (F0 m 94 ls []) := by
  have hx := C.1
  have hb := C.2.1
  intro n
  induction n with
  | zero => intro h z x0 x1 x3 hf; exact nomatch (show (none : Option RS) = some r from hf)
  | succ n ih =>
    intro h z x0 x1 x3 hf H locs cells slots ls hs hl
    have hf : fb_M_begin_L94 G.2.2.1 G.2.2.2 (f_M_begin_L94 G.2.2.1 G.2.2.2 n) h z x0 x1 x3 = some r := hf
    unfold fb_M_begin_L94 at hf
    refine lv_iload_n hx hb d_M_begin_94 rfl (lv_at hl 2 rfl) ?_
    refine lv_bipush (v := 8) hx hb d_M_begin_95 (by decide) ?_
    refine lv_icmp_ge (tgt := 118) hx hb d_M_begin_97 (by decide) (fun q25 => ?_) (fun q25 => ?_)
    · have hf := ifp q25 hf
      refine lv_aload_n hx hb d_M_begin_118 rfl (lv_at hl 0 rfl) ?_
      refine r_getI C hs fl_M_98 d_M_begin_119 hf (fun v26 hf => ?_)
      exact r_ireturn C hs hr d_M_begin_122 hf
    · have hf := ifn q25 hf
      refine lv_aload_n hx hb d_M_begin_100 rfl (lv_at hl 0 rfl) ?_
      refine r_getR C hs fl_M_52 d_M_begin_101 hf (fun v27 hf => ?_)
      refine lv_bipush (v := 8) hx hb d_M_begin_104 (by decide) ?_
      refine lv_iload_n hx hb d_M_begin_106 rfl (lv_at hl 1 rfl) ?_
      refine lv_imul hx hb d_M_begin_107 ?_
      refine lv_iload_n hx hb d_M_begin_108 rfl (lv_at hl 2 rfl) ?_
      refine lv_iadd hx hb d_M_begin_109 ?_
      refine lv_iconst (v := (-1)) hx hb d_M_begin_110 (by decide) ?_
      refine r_iast C hs d_M_begin_111 hf (fun h28 H locs hf hs => ?_)
      refine lv_iinc (v := x3 + 1) (lv' := [(3, .int (x3 + 1)), (0, .ref x0), (1, .int x1)]) hx hb d_M_begin_112 hl (k := 2) rfl rfl (by decide) rfl (fun ls hl => ?_)
      refine lv_goto (tgt := 94) hx hb d_M_begin_115 (by decide) ?_
      exact ih _ _ _ _ _ hf _ _ _ _ _ hs (lv_sub hl [1, 2, 0] rfl)
def f_M_begin_B21 (bs : Nat) (sE : Nat × Nat) (h : HH) (z : Z3) (x0 : Nat) (x1 : Int32) (w0 : Int32) (w1 : Nat) : Option RS :=
  (pV bs h w1 6 0 (.inl w0)).bind fun h8 =>
  (gI h8 x0 6 0).bind fun v9 =>
  if v9 ≤ 0 then
    ((gI h8 x0 6 16).bind fun v11 =>
    if v11 = 40 then
      ((oK h8 x0 6).bind fun _ =>
      cI (f_M_fail bs sE h8 z x0 3) fun v31 h29 z30 =>
      some (.inl (some (.int v31)), h29, z30))
    else
      ((gI h8 x0 6 16).bind fun v13 =>
      (pV bs h8 x0 6 16 (.inl (v13 + 1))).bind fun h14 =>
      (gR h14 x0 6 10).bind fun v15 =>
      (aIs bs h14 v15 0 x1 1).bind fun h16 =>
      (gR h16 x0 6 12).bind fun v17 =>
      (gI h16 x0 6 16).bind fun v18 =>
      (aIs bs h16 v17 0 x1 v18).bind fun h19 =>
      (gR h19 x0 6 13).bind fun v20 =>
      (aIs bs h19 v20 0 x1 0).bind fun h21 =>
      (gR h21 x0 6 14).bind fun v22 =>
      (gI h21 x0 6 22).bind fun v23 =>
      (aIs bs h21 v22 0 x1 v23).bind fun h24 =>
      f_M_begin_L94 bs sE FU h24 z x0 x1 0))
  else
    (some (.inl (some (.int 0)), h8, z))
set_option maxHeartbeats 4000000 in
set_option maxRecDepth 100000 in
theorem t_M_begin_B21 {G : EN} {p : Program} {l : Launch} {e : Env} {s : State} {m : MethodId} {args : Array Value} {below : List Frame} {meth : Method} {c : Code} {z0 : Z3} (hl0 : l.stackTraces = false) (C : CX G p l s m meth c b_M_begin 4 y_M_begin.cls) (hr : meth.sig.returnType = (some .int)) (hex : c.exceptionTable.toList = []) {r : RS} :
    ∀ (h : HH) (z : Z3) (x0 : Nat) (x1 : Int32) (w0 : Int32) (w1 : Nat), f_M_begin_B21 G.2.2.1 G.2.2.2 h z x0 x1 w0 w1 = some r → ∀ (H : Heap) (locs : List Loc) (cells slots : Nat) (ls : Array Slot), ST G (RM 1 23 z0) s h z H locs cells slots → lv_has ls 4 [(0, .ref x0), (1, .int x1)] → W p l e (RM 1 23 z0) s m args below meth c H locs cells slots (MX G below s r (RM 1 23 z0).cells (RM 1 23 z0).slots) (F0 m 21 ls [.int w0, .ref w1]) := by
  have hx := C.1
  have hb := C.2.1
  intro h z x0 x1 w0 w1 hf H locs cells slots ls hs hl
  unfold f_M_begin_B21 at hf
  refine r_putV (v := (.inl w0)) C hs flp_M_71 rfl rfl d_M_begin_21 hf (fun h8 H locs hf hs => ?_)
  refine lv_aload_n hx hb d_M_begin_24 rfl (lv_at hl 0 rfl) ?_
  refine r_getI C hs fl_M_71 d_M_begin_25 hf (fun v9 hf => ?_)
  refine lv_if_le (tgt := 33) hx hb d_M_begin_28 (by decide) (fun q10 => ?_) (fun q10 => ?_)
  · have hf := ifp q10 hf
    refine lv_aload_n hx hb d_M_begin_33 rfl (lv_at hl 0 rfl) ?_
    refine r_getI C hs fl_M_98 d_M_begin_34 hf (fun v11 hf => ?_)
    refine lv_bipush (v := 40) hx hb d_M_begin_37 (by decide) ?_
    refine lv_icmp_ne (tgt := 48) hx hb d_M_begin_39 (by decide) (fun q12 => ?_) (fun q12 => ?_)
    · have hf := ifn q12 hf
      refine lv_aload_n hx hb d_M_begin_48 rfl (lv_at hl 0 rfl) ?_
      refine lv_dup hx hb d_M_begin_49 rfl ?_
      refine r_getI C hs fl_M_98 d_M_begin_50 hf (fun v13 hf => ?_)
      refine lv_iconst (v := 1) hx hb d_M_begin_53 (by decide) ?_
      refine lv_iadd hx hb d_M_begin_54 ?_
      refine r_putV (v := (.inl (v13 + 1))) C hs flp_M_98 rfl rfl d_M_begin_55 hf (fun h14 H locs hf hs => ?_)
      refine lv_aload_n hx hb d_M_begin_58 rfl (lv_at hl 0 rfl) ?_
      refine r_getR C hs fl_M_37 d_M_begin_59 hf (fun v15 hf => ?_)
      refine lv_iload_n hx hb d_M_begin_62 rfl (lv_at hl 1 rfl) ?_
      refine lv_iconst (v := 1) hx hb d_M_begin_63 (by decide) ?_
      refine r_iast C hs d_M_begin_64 hf (fun h16 H locs hf hs => ?_)
      refine lv_aload_n hx hb d_M_begin_65 rfl (lv_at hl 0 rfl) ?_
      refine r_getR C hs fl_M_43 d_M_begin_66 hf (fun v17 hf => ?_)
      refine lv_iload_n hx hb d_M_begin_69 rfl (lv_at hl 1 rfl) ?_
      refine lv_aload_n hx hb d_M_begin_70 rfl (lv_at hl 0 rfl) ?_
      refine r_getI C hs fl_M_98 d_M_begin_71 hf (fun v18 hf => ?_)
      refine r_iast C hs d_M_begin_74 hf (fun h19 H locs hf hs => ?_)
      refine lv_aload_n hx hb d_M_begin_75 rfl (lv_at hl 0 rfl) ?_
      refine r_getR C hs fl_M_46 d_M_begin_76 hf (fun v20 hf => ?_)
      refine lv_iload_n hx hb d_M_begin_79 rfl (lv_at hl 1 rfl) ?_
      refine lv_iconst (v := 0) hx hb d_M_begin_80 (by decide) ?_
      refine r_iast C hs d_M_begin_81 hf (fun h21 H locs hf hs => ?_)
      refine lv_aload_n hx hb d_M_begin_82 rfl (lv_at hl 0 rfl) ?_
      refine r_getR C hs fl_M_49 d_M_begin_83 hf (fun v22 hf => ?_)
      refine lv_iload_n hx hb d_M_begin_86 rfl (lv_at hl 1 rfl) ?_
      refine lv_aload_n hx hb d_M_begin_87 rfl (lv_at hl 0 rfl) ?_
      refine r_getI C hs fl_M_101 d_M_begin_88 hf (fun v23 hf => ?_)
      refine r_iast C hs d_M_begin_91 hf (fun h24 H locs hf hs => ?_)
      refine lv_iconst (v := 0) hx hb d_M_begin_92 (by decide) ?_
      refine lv_istore_n (lv' := [(3, .int 0), (0, .ref x0), (1, .int x1)]) hx hb d_M_begin_93 rfl hl (by decide) rfl (fun ls hl => ?_)
      exact t_M_begin_L94 hl0 C hr hex FU _ _ _ _ _ hf _ _ _ _ _ hs (lv_sub hl [1, 2, 0] rfl)
    · have hf := ifp q12 hf
      refine lv_aload_n hx hb d_M_begin_42 rfl (lv_at hl 0 rfl) ?_
      refine lv_iconst (v := 3) hx hb d_M_begin_43 (by decide) ?_
      obtain ⟨_, ho, hf⟩ := bd hf
      refine k_I C hs hex hf (fun res e1 => iv_V (b := x0) (As := [.int 3]) (rest := []) C hs cv_M_86 (c_M_fail hl0 e1) (ci := 6) rfl rfl ho rfl hl.1 rfl (Nat.le_of_ble_eq_true rfl) d_M_begin_44 ⟨Nat.le_of_ble_eq_true rfl, Nat.le_of_ble_eq_true rfl⟩) (fun v31 h29 z30 H locs cells slots hf hs => ?_)
      exact r_ireturn C hs hr d_M_begin_47 hf
  · have hf := ifn q10 hf
    refine lv_iconst (v := 0) hx hb d_M_begin_31 (by decide) ?_
    exact r_ireturn C hs hr d_M_begin_32 hf
def f_M_begin (bs : Nat) (sE : Nat × Nat) (h : HH) (z : Z3) (x0 : Nat) (x1 : Int32) (x2 : Int32) : Option RS :=
  (oK h x0 6).bind fun _ =>
  cI (f_M_out bs sE h z x0 x1 4) fun v3 h1 z2 =>
  if v3 = 0 then
    ((oK h1 x0 6).bind fun _ =>
    cI (f_M_check bs sE h1 z2 x0 x1 x2 0) fun v7 h5 z6 =>
    f_M_begin_B21 bs sE h5 z6 x0 x1 v7 x0)
  else
    (f_M_begin_B21 bs sE h1 z2 x0 x1 1 x0)
set_option maxHeartbeats 4000000 in
set_option maxRecDepth 100000 in
theorem c_M_begin {G : EN} {l : Launch} (hl0 : l.stackTraces = false) {h : HH} {z : Z3} {x0 : Nat} {x1 : Int32} {x2 : Int32} {r : RS} (hf : f_M_begin G.2.2.1 G.2.2.2 h z x0 x1 x2 = some r) : CM G l y_M_begin (.code y_M_begin b_M_begin 4 (some .int)) 1 23 [.ref x0, .int x1, .int x2] h z r := by
  refine CM.ofW hl0 rfl ?_
  intro p e s m below meth c C hr hex hin hs
  have hx := C.1
  have hb := C.2.1
  refine x_entry (n := 4) (Nat.le_of_ble_eq_true rfl) (fun ls hl => ?_)
  have hl : lv_has ls 4 [(0, .ref x0), (1, .int x1), (2, .int x2)] := hl
  unfold f_M_begin at hf
  refine lv_aload_n hx hb d_M_begin_0 rfl (lv_at hl 0 rfl) ?_
  refine lv_aload_n hx hb d_M_begin_1 rfl (lv_at hl 0 rfl) ?_
  refine lv_iload_n hx hb d_M_begin_2 rfl (lv_at hl 1 rfl) ?_
  refine lv_iconst (v := 4) hx hb d_M_begin_3 (by decide) ?_
  obtain ⟨_, ho, hf⟩ := bd hf
  refine k_I C hs hex hf (fun res e1 => iv_V (b := x0) (As := [.int x1, .int 4]) (rest := [.ref x0]) C hs cv_M_83 (c_M_out hl0 e1) (ci := 6) rfl rfl ho rfl hl.1 rfl (Nat.le_of_ble_eq_true rfl) d_M_begin_4 ⟨Nat.le_of_ble_eq_true rfl, Nat.le_of_ble_eq_true rfl⟩) (fun v3 h1 z2 H locs cells slots hf hs => ?_)
  refine lv_if_eq (tgt := 14) hx hb d_M_begin_7 (by decide) (fun q4 => ?_) (fun q4 => ?_)
  · have hf := ifp q4 hf
    refine lv_aload_n hx hb d_M_begin_14 rfl (lv_at hl 0 rfl) ?_
    refine lv_iload_n hx hb d_M_begin_15 rfl (lv_at hl 1 rfl) ?_
    refine lv_iload_n hx hb d_M_begin_16 rfl (lv_at hl 2 rfl) ?_
    refine lv_iconst (v := 0) hx hb d_M_begin_17 (by decide) ?_
    obtain ⟨_, ho, hf⟩ := bd hf
    refine k_I C hs hex hf (fun res e1 => iv_V (b := x0) (As := [.int x1, .int x2, .int 0]) (rest := [.ref x0]) C hs cv_M_94 (c_M_check hl0 e1) (ci := 6) rfl rfl ho rfl hl.1 rfl (Nat.le_of_ble_eq_true rfl) d_M_begin_18 ⟨Nat.le_of_ble_eq_true rfl, Nat.le_of_ble_eq_true rfl⟩) (fun v7 h5 z6 H locs cells slots hf hs => ?_)
    exact t_M_begin_B21 hl0 C hr hex _ _ _ _ _ _ hf _ _ _ _ _ hs (lv_sub hl [0, 1] rfl)
  · have hf := ifn q4 hf
    refine lv_iconst (v := 1) hx hb d_M_begin_10 (by decide) ?_
    refine lv_goto (tgt := 21) hx hb d_M_begin_11 (by decide) ?_
    exact t_M_begin_B21 hl0 C hr hex _ _ _ _ _ _ hf _ _ _ _ _ hs (lv_sub hl [0, 1] rfl)
def f_M_ofProducer (bs : Nat) (sE : Nat × Nat) (h : HH) (z : Z3) (x0 : Nat) (x1 : Int32) (x2 : Int32) : Option RS :=
  (gR h x0 6 1).bind fun v1 =>
  (aI h v1 0 x1).bind fun v2 =>
  if v2 = 1 then
    ((gR h x0 6 3).bind fun v4 =>
    (aI h v4 0 x1).bind fun v5 =>
    if v5 = x2 then
      ((gR h x0 6 4).bind fun v7 =>
      (aI h v7 0 x1).bind fun v8 =>
      (gR h x0 6 11).bind fun v9 =>
      (aI h v9 0 x2).bind fun v10 =>
      if v8 = v10 then
        ((bz 1).bind fun _ =>
        some (.inl (some (.int 1)), h, z))
      else
        ((bz 0).bind fun _ =>
        some (.inl (some (.int 0)), h, z)))
    else
      ((bz 0).bind fun _ =>
      some (.inl (some (.int 0)), h, z)))
  else
    ((bz 0).bind fun _ =>
    some (.inl (some (.int 0)), h, z))
set_option maxHeartbeats 4000000 in
set_option maxRecDepth 100000 in
theorem c_M_ofProducer {G : EN} {l : Launch} (hl0 : l.stackTraces = false) {h : HH} {z : Z3} {x0 : Nat} {x1 : Int32} {x2 : Int32} {r : RS} (hf : f_M_ofProducer G.2.2.1 G.2.2.2 h z x0 x1 x2 = some r) : CM G l y_M_ofProducer (.code y_M_ofProducer b_M_ofProducer 3 (some .boolean)) 0 0 [.ref x0, .int x1, .int x2] h z r := by
  refine CM.ofW hl0 rfl ?_
  intro p e s m below meth c C hr hex hin hs
  have hx := C.1
  have hb := C.2.1
  refine x_entry (n := 3) (Nat.le_of_ble_eq_true rfl) (fun ls hl => ?_)
  have hl : lv_has ls 3 [(0, .ref x0), (1, .int x1), (2, .int x2)] := hl
  unfold f_M_ofProducer at hf
  refine lv_aload_n hx hb d_M_ofProducer_0 rfl (lv_at hl 0 rfl) ?_
  refine r_getR C hs fl_M_7 d_M_ofProducer_1 hf (fun v1 hf => ?_)
  refine lv_iload_n hx hb d_M_ofProducer_4 rfl (lv_at hl 1 rfl) ?_
  refine r_iald C hs d_M_ofProducer_5 hf (fun v2 hf => ?_)
  refine lv_iconst (v := 1) hx hb d_M_ofProducer_6 (by decide) ?_
  refine lv_icmp_ne (tgt := 39) hx hb d_M_ofProducer_7 (by decide) (fun q3 => ?_) (fun q3 => ?_)
  · have hf := ifn q3 hf
    refine lv_iconst (v := 0) hx hb d_M_ofProducer_39 (by decide) ?_
    exact r_zreturn C hs hr d_M_ofProducer_40 hf
  · have hf := ifp q3 hf
    refine lv_aload_n hx hb d_M_ofProducer_10 rfl (lv_at hl 0 rfl) ?_
    refine r_getR C hs fl_M_16 d_M_ofProducer_11 hf (fun v4 hf => ?_)
    refine lv_iload_n hx hb d_M_ofProducer_14 rfl (lv_at hl 1 rfl) ?_
    refine r_iald C hs d_M_ofProducer_15 hf (fun v5 hf => ?_)
    refine lv_iload_n hx hb d_M_ofProducer_16 rfl (lv_at hl 2 rfl) ?_
    refine lv_icmp_ne (tgt := 39) hx hb d_M_ofProducer_17 (by decide) (fun q6 => ?_) (fun q6 => ?_)
    · have hf := ifn q6 hf
      refine lv_iconst (v := 0) hx hb d_M_ofProducer_39 (by decide) ?_
      exact r_zreturn C hs hr d_M_ofProducer_40 hf
    · have hf := ifp q6 hf
      refine lv_aload_n hx hb d_M_ofProducer_20 rfl (lv_at hl 0 rfl) ?_
      refine r_getR C hs fl_M_19 d_M_ofProducer_21 hf (fun v7 hf => ?_)
      refine lv_iload_n hx hb d_M_ofProducer_24 rfl (lv_at hl 1 rfl) ?_
      refine r_iald C hs d_M_ofProducer_25 hf (fun v8 hf => ?_)
      refine lv_aload_n hx hb d_M_ofProducer_26 rfl (lv_at hl 0 rfl) ?_
      refine r_getR C hs fl_M_40 d_M_ofProducer_27 hf (fun v9 hf => ?_)
      refine lv_iload_n hx hb d_M_ofProducer_30 rfl (lv_at hl 2 rfl) ?_
      refine r_iald C hs d_M_ofProducer_31 hf (fun v10 hf => ?_)
      refine lv_icmp_ne (tgt := 39) hx hb d_M_ofProducer_32 (by decide) (fun q11 => ?_) (fun q11 => ?_)
      · have hf := ifn q11 hf
        refine lv_iconst (v := 0) hx hb d_M_ofProducer_39 (by decide) ?_
        exact r_zreturn C hs hr d_M_ofProducer_40 hf
      · have hf := ifp q11 hf
        refine lv_iconst (v := 1) hx hb d_M_ofProducer_35 (by decide) ?_
        refine lv_goto (tgt := 40) hx hb d_M_ofProducer_36 (by decide) ?_
        exact r_zreturn C hs hr d_M_ofProducer_40 hf
def fb_M_recent_L13 (bs : Nat) (sE : Nat × Nat) (REC : HH → Z3 → Nat → Int32 → Int32 → Int32 → Int32 → Int32 → Option RS) (h : HH) (z : Z3) (x0 : Nat) (x1 : Int32) (x2 : Int32) (x3 : Int32) (x4 : Int32) (x5 : Int32) : Option RS :=
  if x5 < 0 then
    (some (.inl (some (.int (-1))), h, z))
  else
    (if 5 ≤ x4 then
      (some (.inl (some (.int (-1))), h, z))
    else
      ((oK h x0 6).bind fun _ =>
      cI (f_M_ofProducer bs sE h z x0 ((520 * x2) + x5) x1) fun v7 h5 z6 =>
      if v7 = 0 then
        (REC h5 z6 x0 x1 x2 x3 x4 (x5 + (-1)))
      else
        ((gR h5 x0 6 5).bind fun v9 =>
        (aI h5 v9 0 ((520 * x2) + x5)).bind fun v10 =>
        if v10 = x3 then
          (some (.inl (some (.int x5)), h5, z6))
        else
          (REC h5 z6 x0 x1 x2 x3 (x4 + 1) (x5 + (-1))))))
def f_M_recent_L13 (bs : Nat) (sE : Nat × Nat) : Nat → HH → Z3 → Nat → Int32 → Int32 → Int32 → Int32 → Int32 → Option RS
  | 0 => fun _ _ _ _ _ _ _ _ => none
  | n + 1 => fb_M_recent_L13 bs sE (f_M_recent_L13 bs sE n)
set_option maxHeartbeats 4000000 in
set_option maxRecDepth 100000 in
theorem t_M_recent_L13 {G : EN} {p : Program} {l : Launch} {e : Env} {s : State} {m : MethodId} {args : Array Value} {below : List Frame} {meth : Method} {c : Code} {z0 : Z3} (hl0 : l.stackTraces = false) (C : CX G p l s m meth c b_M_recent 6 y_M_recent.cls) (hr : meth.sig.returnType = (some .int)) (hex : c.exceptionTable.toList = []) {r : RS} :
    ∀ (n : Nat) (h : HH) (z : Z3) (x0 : Nat) (x1 : Int32) (x2 : Int32) (x3 : Int32) (x4 : Int32) (x5 : Int32), f_M_recent_L13 G.2.2.1 G.2.2.2 n h z x0 x1 x2 x3 x4 x5 = some r → ∀ (H : Heap) (locs : List Loc) (cells slots : Nat) (ls : Array Slot), ST G (RM 1 22 z0) s h z H locs cells slots → lv_has ls 6 [(0, .ref x0), (1, .int x1), (2, .int x2), (3, .int x3), (4, .int x4), (5, .int x5)] → W p l e (RM 1 22 z0) s m args below meth c H locs cells slots (MX G below s r (RM 1 22 z0).cells (RM 1 22 z0).slots) (F0 m 13 ls []) := by
  have hx := C.1
  have hb := C.2.1
  intro n
  induction n with
  | zero => intro h z x0 x1 x2 x3 x4 x5 hf; exact nomatch (show (none : Option RS) = some r from hf)
  | succ n ih =>
    intro h z x0 x1 x2 x3 x4 x5 hf H locs cells slots ls hs hl
    have hf : fb_M_recent_L13 G.2.2.1 G.2.2.2 (f_M_recent_L13 G.2.2.1 G.2.2.2 n) h z x0 x1 x2 x3 x4 x5 = some r := hf
    unfold fb_M_recent_L13 at hf
    refine lv_iload hx hb d_M_recent_13 (lv_at hl 5 rfl) ?_
    refine lv_if_lt (tgt := 72) hx hb d_M_recent_15 (by decide) (fun q3 => ?_) (fun q3 => ?_)
    · have hf := ifp q3 hf
      refine lv_iconst (v := (-1)) hx hb d_M_recent_72 (by decide) ?_
      exact r_ireturn C hs hr d_M_recent_73 hf
    · have hf := ifn q3 hf
      refine lv_iload hx hb d_M_recent_18 (lv_at hl 4 rfl) ?_
      refine lv_iconst (v := 5) hx hb d_M_recent_20 (by decide) ?_
      refine lv_icmp_ge (tgt := 72) hx hb d_M_recent_21 (by decide) (fun q4 => ?_) (fun q4 => ?_)
      · have hf := ifp q4 hf
        refine lv_iconst (v := (-1)) hx hb d_M_recent_72 (by decide) ?_
        exact r_ireturn C hs hr d_M_recent_73 hf
      · have hf := ifn q4 hf
        refine lv_aload_n hx hb d_M_recent_24 rfl (lv_at hl 0 rfl) ?_
        refine lv_sipush (v := 520) hx hb d_M_recent_25 (by decide) ?_
        refine lv_iload_n hx hb d_M_recent_28 rfl (lv_at hl 2 rfl) ?_
        refine lv_imul hx hb d_M_recent_29 ?_
        refine lv_iload hx hb d_M_recent_30 (lv_at hl 5 rfl) ?_
        refine lv_iadd hx hb d_M_recent_32 ?_
        refine lv_iload_n hx hb d_M_recent_33 rfl (lv_at hl 1 rfl) ?_
        obtain ⟨_, ho, hf⟩ := bd hf
        refine k_I C hs hex hf (fun res e1 => iv_V (b := x0) (As := [.int ((520 * x2) + x5), .int x1]) (rest := []) C hs cv_M_75 (c_M_ofProducer hl0 e1) (ci := 6) rfl rfl ho rfl hl.1 rfl (Nat.le_of_ble_eq_true rfl) d_M_recent_34 ⟨Nat.le_of_ble_eq_true rfl, Nat.le_of_ble_eq_true rfl⟩) (fun v7 h5 z6 H locs cells slots hf hs => ?_)
        refine lv_if_ne (tgt := 43) hx hb d_M_recent_37 (by decide) (fun q8 => ?_) (fun q8 => ?_)
        · have hf := ifn q8 hf
          refine lv_iinc (v := x4 + 1) (lv' := [(4, .int (x4 + 1)), (0, .ref x0), (1, .int x1), (2, .int x2), (3, .int x3), (5, .int x5)]) hx hb d_M_recent_43 hl (k := 4) rfl rfl (by decide) rfl (fun ls hl => ?_)
          refine lv_aload_n hx hb d_M_recent_46 rfl (lv_at hl 1 rfl) ?_
          refine r_getR C hs fl_M_22 d_M_recent_47 hf (fun v9 hf => ?_)
          refine lv_sipush (v := 520) hx hb d_M_recent_50 (by decide) ?_
          refine lv_iload_n hx hb d_M_recent_53 rfl (lv_at hl 3 rfl) ?_
          refine lv_imul hx hb d_M_recent_54 ?_
          refine lv_iload hx hb d_M_recent_55 (lv_at hl 5 rfl) ?_
          refine lv_iadd hx hb d_M_recent_57 ?_
          refine r_iald C hs d_M_recent_58 hf (fun v10 hf => ?_)
          refine lv_iload_n hx hb d_M_recent_59 rfl (lv_at hl 4 rfl) ?_
          refine lv_icmp_ne (tgt := 66) hx hb d_M_recent_60 (by decide) (fun q11 => ?_) (fun q11 => ?_)
          · have hf := ifn q11 hf
            refine lv_iinc (v := x5 + (-1)) (lv' := [(5, .int (x5 + (-1))), (4, .int (x4 + 1)), (0, .ref x0), (1, .int x1), (2, .int x2), (3, .int x3)]) hx hb d_M_recent_66 hl (k := 5) rfl rfl (by decide) rfl (fun ls hl => ?_)
            refine lv_goto (tgt := 13) hx hb d_M_recent_69 (by decide) ?_
            exact ih _ _ _ _ _ _ _ _ hf _ _ _ _ _ hs (lv_sub hl [2, 3, 4, 5, 1, 0] rfl)
          · have hf := ifp q11 hf
            refine lv_iload hx hb d_M_recent_63 (lv_at hl 5 rfl) ?_
            exact r_ireturn C hs hr d_M_recent_65 hf
        · have hf := ifp q8 hf
          refine lv_goto (tgt := 66) hx hb d_M_recent_40 (by decide) ?_
          refine lv_iinc (v := x5 + (-1)) (lv' := [(5, .int (x5 + (-1))), (0, .ref x0), (1, .int x1), (2, .int x2), (3, .int x3), (4, .int x4)]) hx hb d_M_recent_66 hl (k := 5) rfl rfl (by decide) rfl (fun ls hl => ?_)
          refine lv_goto (tgt := 13) hx hb d_M_recent_69 (by decide) ?_
          exact ih _ _ _ _ _ _ _ _ hf _ _ _ _ _ hs (lv_sub hl [1, 2, 3, 4, 5, 0] rfl)
def f_M_recent (bs : Nat) (sE : Nat × Nat) (h : HH) (z : Z3) (x0 : Nat) (x1 : Int32) (x2 : Int32) (x3 : Int32) : Option RS :=
  (gR h x0 6 7).bind fun v1 =>
  (aI h v1 0 x2).bind fun v2 =>
  f_M_recent_L13 bs sE FU h z x0 x1 x2 x3 0 (v2 - 1)
set_option maxHeartbeats 4000000 in
set_option maxRecDepth 100000 in
theorem c_M_recent {G : EN} {l : Launch} (hl0 : l.stackTraces = false) {h : HH} {z : Z3} {x0 : Nat} {x1 : Int32} {x2 : Int32} {x3 : Int32} {r : RS} (hf : f_M_recent G.2.2.1 G.2.2.2 h z x0 x1 x2 x3 = some r) : CM G l y_M_recent (.code y_M_recent b_M_recent 6 (some .int)) 1 22 [.ref x0, .int x1, .int x2, .int x3] h z r := by
  refine CM.ofW hl0 rfl ?_
  intro p e s m below meth c C hr hex hin hs
  have hx := C.1
  have hb := C.2.1
  refine x_entry (n := 6) (Nat.le_of_ble_eq_true rfl) (fun ls hl => ?_)
  have hl : lv_has ls 6 [(0, .ref x0), (1, .int x1), (2, .int x2), (3, .int x3)] := hl
  unfold f_M_recent at hf
  refine lv_iconst (v := 0) hx hb d_M_recent_0 (by decide) ?_
  refine lv_istore (lv' := [(4, .int 0), (0, .ref x0), (1, .int x1), (2, .int x2), (3, .int x3)]) hx hb d_M_recent_1 hl (by decide) rfl (fun ls hl => ?_)
  refine lv_aload_n hx hb d_M_recent_3 rfl (lv_at hl 1 rfl) ?_
  refine r_getR C hs fl_M_28 d_M_recent_4 hf (fun v1 hf => ?_)
  refine lv_iload_n hx hb d_M_recent_7 rfl (lv_at hl 3 rfl) ?_
  refine r_iald C hs d_M_recent_8 hf (fun v2 hf => ?_)
  refine lv_iconst (v := 1) hx hb d_M_recent_9 (by decide) ?_
  refine lv_isub hx hb d_M_recent_10 ?_
  refine lv_istore (lv' := [(5, .int (v2 - 1)), (4, .int 0), (0, .ref x0), (1, .int x1), (2, .int x2), (3, .int x3)]) hx hb d_M_recent_11 hl (by decide) rfl (fun ls hl => ?_)
  exact t_M_recent_L13 hl0 C hr hex FU _ _ _ _ _ _ _ _ hf _ _ _ _ _ hs (lv_sub hl [2, 3, 4, 5, 1, 0] rfl)
def fb_M_next_L9 (bs : Nat) (sE : Nat × Nat) (REC : HH → Z3 → Nat → Int32 → Int32 → Int32 → Int32 → Option RS) (h : HH) (z : Z3) (x0 : Nat) (x1 : Int32) (x2 : Int32) (x3 : Int32) (x4 : Int32) : Option RS :=
  (gR h x0 6 7).bind fun v1 =>
  (aI h v1 0 x2).bind fun v2 =>
  if ((520 * x2) + v2) ≤ x4 then
    (some (.inl (some (.int x3)), h, z))
  else
    ((oK h x0 6).bind fun _ =>
    cI (f_M_ofProducer bs sE h z x0 x4 x1) fun v6 h4 z5 =>
    if v6 = 0 then
      (REC h4 z5 x0 x1 x2 x3 (x4 + 1))
    else
      ((gR h4 x0 6 5).bind fun v8 =>
      (aI h4 v8 0 x4).bind fun v9 =>
      if v9 < x3 then
        (REC h4 z5 x0 x1 x2 x3 (x4 + 1))
      else
        ((gR h4 x0 6 5).bind fun v11 =>
        (aI h4 v11 0 x4).bind fun v12 =>
        REC h4 z5 x0 x1 x2 (v12 + 1) (x4 + 1))))
def f_M_next_L9 (bs : Nat) (sE : Nat × Nat) : Nat → HH → Z3 → Nat → Int32 → Int32 → Int32 → Int32 → Option RS
  | 0 => fun _ _ _ _ _ _ _ => none
  | n + 1 => fb_M_next_L9 bs sE (f_M_next_L9 bs sE n)
set_option maxHeartbeats 4000000 in
set_option maxRecDepth 100000 in
theorem t_M_next_L9 {G : EN} {p : Program} {l : Launch} {e : Env} {s : State} {m : MethodId} {args : Array Value} {below : List Frame} {meth : Method} {c : Code} {z0 : Z3} (hl0 : l.stackTraces = false) (C : CX G p l s m meth c b_M_next 5 y_M_next.cls) (hr : meth.sig.returnType = (some .int)) (hex : c.exceptionTable.toList = []) {r : RS} :
    ∀ (n : Nat) (h : HH) (z : Z3) (x0 : Nat) (x1 : Int32) (x2 : Int32) (x3 : Int32) (x4 : Int32), f_M_next_L9 G.2.2.1 G.2.2.2 n h z x0 x1 x2 x3 x4 = some r → ∀ (H : Heap) (locs : List Loc) (cells slots : Nat) (ls : Array Slot), ST G (RM 1 22 z0) s h z H locs cells slots → lv_has ls 5 [(0, .ref x0), (1, .int x1), (2, .int x2), (3, .int x3), (4, .int x4)] → W p l e (RM 1 22 z0) s m args below meth c H locs cells slots (MX G below s r (RM 1 22 z0).cells (RM 1 22 z0).slots) (F0 m 9 ls []) := by
  have hx := C.1
  have hb := C.2.1
  intro n
  induction n with
  | zero => intro h z x0 x1 x2 x3 x4 hf; exact nomatch (show (none : Option RS) = some r from hf)
  | succ n ih =>
    intro h z x0 x1 x2 x3 x4 hf H locs cells slots ls hs hl
    have hf : fb_M_next_L9 G.2.2.1 G.2.2.2 (f_M_next_L9 G.2.2.1 G.2.2.2 n) h z x0 x1 x2 x3 x4 = some r := hf
    unfold fb_M_next_L9 at hf
    refine lv_iload hx hb d_M_next_9 (lv_at hl 4 rfl) ?_
    refine lv_sipush (v := 520) hx hb d_M_next_11 (by decide) ?_
    refine lv_iload_n hx hb d_M_next_14 rfl (lv_at hl 2 rfl) ?_
    refine lv_imul hx hb d_M_next_15 ?_
    refine lv_aload_n hx hb d_M_next_16 rfl (lv_at hl 0 rfl) ?_
    refine r_getR C hs fl_M_28 d_M_next_17 hf (fun v1 hf => ?_)
    refine lv_iload_n hx hb d_M_next_20 rfl (lv_at hl 2 rfl) ?_
    refine r_iald C hs d_M_next_21 hf (fun v2 hf => ?_)
    refine lv_iadd hx hb d_M_next_22 ?_
    refine lv_icmp_ge (tgt := 63) hx hb d_M_next_23 (by decide) (fun q3 => ?_) (fun q3 => ?_)
    · have hf := ifp q3 hf
      refine lv_iload_n hx hb d_M_next_63 rfl (lv_at hl 3 rfl) ?_
      exact r_ireturn C hs hr d_M_next_64 hf
    · have hf := ifn q3 hf
      refine lv_aload_n hx hb d_M_next_26 rfl (lv_at hl 0 rfl) ?_
      refine lv_iload hx hb d_M_next_27 (lv_at hl 4 rfl) ?_
      refine lv_iload_n hx hb d_M_next_29 rfl (lv_at hl 1 rfl) ?_
      obtain ⟨_, ho, hf⟩ := bd hf
      refine k_I C hs hex hf (fun res e1 => iv_V (b := x0) (As := [.int x4, .int x1]) (rest := []) C hs cv_M_75 (c_M_ofProducer hl0 e1) (ci := 6) rfl rfl ho rfl hl.1 rfl (Nat.le_of_ble_eq_true rfl) d_M_next_30 ⟨Nat.le_of_ble_eq_true rfl, Nat.le_of_ble_eq_true rfl⟩) (fun v6 h4 z5 H locs cells slots hf hs => ?_)
      refine lv_if_eq (tgt := 57) hx hb d_M_next_33 (by decide) (fun q7 => ?_) (fun q7 => ?_)
      · have hf := ifp q7 hf
        refine lv_iinc (v := x4 + 1) (lv' := [(4, .int (x4 + 1)), (0, .ref x0), (1, .int x1), (2, .int x2), (3, .int x3)]) hx hb d_M_next_57 hl (k := 4) rfl rfl (by decide) rfl (fun ls hl => ?_)
        refine lv_goto (tgt := 9) hx hb d_M_next_60 (by decide) ?_
        exact ih _ _ _ _ _ _ _ hf _ _ _ _ _ hs (lv_sub hl [1, 2, 3, 4, 0] rfl)
      · have hf := ifn q7 hf
        refine lv_aload_n hx hb d_M_next_36 rfl (lv_at hl 0 rfl) ?_
        refine r_getR C hs fl_M_22 d_M_next_37 hf (fun v8 hf => ?_)
        refine lv_iload hx hb d_M_next_40 (lv_at hl 4 rfl) ?_
        refine r_iald C hs d_M_next_42 hf (fun v9 hf => ?_)
        refine lv_iload_n hx hb d_M_next_43 rfl (lv_at hl 3 rfl) ?_
        refine lv_icmp_lt (tgt := 57) hx hb d_M_next_44 (by decide) (fun q10 => ?_) (fun q10 => ?_)
        · have hf := ifp q10 hf
          refine lv_iinc (v := x4 + 1) (lv' := [(4, .int (x4 + 1)), (0, .ref x0), (1, .int x1), (2, .int x2), (3, .int x3)]) hx hb d_M_next_57 hl (k := 4) rfl rfl (by decide) rfl (fun ls hl => ?_)
          refine lv_goto (tgt := 9) hx hb d_M_next_60 (by decide) ?_
          exact ih _ _ _ _ _ _ _ hf _ _ _ _ _ hs (lv_sub hl [1, 2, 3, 4, 0] rfl)
        · have hf := ifn q10 hf
          refine lv_aload_n hx hb d_M_next_47 rfl (lv_at hl 0 rfl) ?_
          refine r_getR C hs fl_M_22 d_M_next_48 hf (fun v11 hf => ?_)
          refine lv_iload hx hb d_M_next_51 (lv_at hl 4 rfl) ?_
          refine r_iald C hs d_M_next_53 hf (fun v12 hf => ?_)
          refine lv_iconst (v := 1) hx hb d_M_next_54 (by decide) ?_
          refine lv_iadd hx hb d_M_next_55 ?_
          refine lv_istore_n (lv' := [(3, .int (v12 + 1)), (0, .ref x0), (1, .int x1), (2, .int x2), (4, .int x4)]) hx hb d_M_next_56 rfl hl (by decide) rfl (fun ls hl => ?_)
          refine lv_iinc (v := x4 + 1) (lv' := [(4, .int (x4 + 1)), (3, .int (v12 + 1)), (0, .ref x0), (1, .int x1), (2, .int x2)]) hx hb d_M_next_57 hl (k := 4) rfl rfl (by decide) rfl (fun ls hl => ?_)
          refine lv_goto (tgt := 9) hx hb d_M_next_60 (by decide) ?_
          exact ih _ _ _ _ _ _ _ hf _ _ _ _ _ hs (lv_sub hl [2, 3, 4, 1, 0] rfl)
def f_M_next (bs : Nat) (sE : Nat × Nat) (h : HH) (z : Z3) (x0 : Nat) (x1 : Int32) (x2 : Int32) : Option RS :=
  f_M_next_L9 bs sE FU h z x0 x1 x2 0 (520 * x2)
set_option maxHeartbeats 4000000 in
set_option maxRecDepth 100000 in
theorem c_M_next {G : EN} {l : Launch} (hl0 : l.stackTraces = false) {h : HH} {z : Z3} {x0 : Nat} {x1 : Int32} {x2 : Int32} {r : RS} (hf : f_M_next G.2.2.1 G.2.2.2 h z x0 x1 x2 = some r) : CM G l y_M_next (.code y_M_next b_M_next 5 (some .int)) 1 22 [.ref x0, .int x1, .int x2] h z r := by
  refine CM.ofW hl0 rfl ?_
  intro p e s m below meth c C hr hex hin hs
  have hx := C.1
  have hb := C.2.1
  refine x_entry (n := 5) (Nat.le_of_ble_eq_true rfl) (fun ls hl => ?_)
  have hl : lv_has ls 5 [(0, .ref x0), (1, .int x1), (2, .int x2)] := hl
  unfold f_M_next at hf
  refine lv_iconst (v := 0) hx hb d_M_next_0 (by decide) ?_
  refine lv_istore_n (lv' := [(3, .int 0), (0, .ref x0), (1, .int x1), (2, .int x2)]) hx hb d_M_next_1 rfl hl (by decide) rfl (fun ls hl => ?_)
  refine lv_sipush (v := 520) hx hb d_M_next_2 (by decide) ?_
  refine lv_iload_n hx hb d_M_next_5 rfl (lv_at hl 3 rfl) ?_
  refine lv_imul hx hb d_M_next_6 ?_
  refine lv_istore (lv' := [(4, .int (520 * x2)), (3, .int 0), (0, .ref x0), (1, .int x1), (2, .int x2)]) hx hb d_M_next_7 hl (by decide) rfl (fun ls hl => ?_)
  exact t_M_next_L9 hl0 C hr hex FU _ _ _ _ _ _ _ hf _ _ _ _ _ hs (lv_sub hl [2, 3, 4, 1, 0] rfl)
def f_M_full (bs : Nat) (sE : Nat × Nat) (h : HH) (z : Z3) (x0 : Nat) (x1 : Int32) : Option RS :=
  (gR h x0 6 7).bind fun v1 =>
  (aI h v1 0 x1).bind fun v2 =>
  (gR h x0 6 8).bind fun v3 =>
  (aI h v3 0 x1).bind fun v4 =>
  if 32 ≤ (v2 - v4) then
    ((bz 1).bind fun _ =>
    some (.inl (some (.int 1)), h, z))
  else
    ((gR h x0 6 7).bind fun v6 =>
    (aI h v6 0 x1).bind fun v7 =>
    if v7 < 400 then
      ((bz 0).bind fun _ =>
      some (.inl (some (.int 0)), h, z))
    else
      ((bz 1).bind fun _ =>
      some (.inl (some (.int 1)), h, z)))
set_option maxHeartbeats 4000000 in
set_option maxRecDepth 100000 in
theorem c_M_full {G : EN} {l : Launch} (hl0 : l.stackTraces = false) {h : HH} {z : Z3} {x0 : Nat} {x1 : Int32} {r : RS} (hf : f_M_full G.2.2.1 G.2.2.2 h z x0 x1 = some r) : CM G l y_M_full (.code y_M_full b_M_full 2 (some .boolean)) 0 0 [.ref x0, .int x1] h z r := by
  refine CM.ofW hl0 rfl ?_
  intro p e s m below meth c C hr hex hin hs
  have hx := C.1
  have hb := C.2.1
  refine x_entry (n := 2) (Nat.le_of_ble_eq_true rfl) (fun ls hl => ?_)
  have hl : lv_has ls 2 [(0, .ref x0), (1, .int x1)] := hl
  unfold f_M_full at hf
  refine lv_aload_n hx hb d_M_full_0 rfl (lv_at hl 0 rfl) ?_
  refine r_getR C hs fl_M_28 d_M_full_1 hf (fun v1 hf => ?_)
  refine lv_iload_n hx hb d_M_full_4 rfl (lv_at hl 1 rfl) ?_
  refine r_iald C hs d_M_full_5 hf (fun v2 hf => ?_)
  refine lv_aload_n hx hb d_M_full_6 rfl (lv_at hl 0 rfl) ?_
  refine r_getR C hs fl_M_31 d_M_full_7 hf (fun v3 hf => ?_)
  refine lv_iload_n hx hb d_M_full_10 rfl (lv_at hl 1 rfl) ?_
  refine r_iald C hs d_M_full_11 hf (fun v4 hf => ?_)
  refine lv_isub hx hb d_M_full_12 ?_
  refine lv_bipush (v := 32) hx hb d_M_full_13 (by decide) ?_
  refine lv_icmp_ge (tgt := 30) hx hb d_M_full_15 (by decide) (fun q5 => ?_) (fun q5 => ?_)
  · have hf := ifp q5 hf
    refine lv_iconst (v := 1) hx hb d_M_full_30 (by decide) ?_
    refine lv_goto (tgt := 35) hx hb d_M_full_31 (by decide) ?_
    exact r_zreturn C hs hr d_M_full_35 hf
  · have hf := ifn q5 hf
    refine lv_aload_n hx hb d_M_full_18 rfl (lv_at hl 0 rfl) ?_
    refine r_getR C hs fl_M_28 d_M_full_19 hf (fun v6 hf => ?_)
    refine lv_iload_n hx hb d_M_full_22 rfl (lv_at hl 1 rfl) ?_
    refine r_iald C hs d_M_full_23 hf (fun v7 hf => ?_)
    refine lv_sipush (v := 400) hx hb d_M_full_24 (by decide) ?_
    refine lv_icmp_lt (tgt := 34) hx hb d_M_full_27 (by decide) (fun q8 => ?_) (fun q8 => ?_)
    · have hf := ifp q8 hf
      refine lv_iconst (v := 0) hx hb d_M_full_34 (by decide) ?_
      exact r_zreturn C hs hr d_M_full_35 hf
    · have hf := ifn q8 hf
      refine lv_iconst (v := 1) hx hb d_M_full_30 (by decide) ?_
      refine lv_goto (tgt := 35) hx hb d_M_full_31 (by decide) ?_
      exact r_zreturn C hs hr d_M_full_35 hf
def f_M_put_B93 (bs : Nat) (sE : Nat × Nat) (h : HH) (z : Z3) (x0 : Nat) (x1 : Int32) (w0 : Int32) (w1 : Int32) (w2 : Nat) : Option RS :=
  (aIs bs h w2 0 w1 w0).bind fun h20 =>
  (gR h20 x0 6 7).bind fun v21 =>
  (aI h20 v21 0 x1).bind fun v22 =>
  (aIs bs h20 v21 0 x1 (v22 + 1)).bind fun h23 =>
  (gR h23 x0 6 7).bind fun v24 =>
  (aI h23 v24 0 x1).bind fun v25 =>
  some (.inl (some (.int (v25 - 1))), h23, z)
set_option maxHeartbeats 4000000 in
set_option maxRecDepth 100000 in
theorem t_M_put_B93 {G : EN} {p : Program} {l : Launch} {e : Env} {s : State} {m : MethodId} {args : Array Value} {below : List Frame} {meth : Method} {c : Code} {z0 : Z3} (hl0 : l.stackTraces = false) (C : CX G p l s m meth c b_M_put 7 y_M_put.cls) (hr : meth.sig.returnType = (some .int)) (hex : c.exceptionTable.toList = []) {r : RS} :
    ∀ (h : HH) (z : Z3) (x0 : Nat) (x1 : Int32) (w0 : Int32) (w1 : Int32) (w2 : Nat), f_M_put_B93 G.2.2.1 G.2.2.2 h z x0 x1 w0 w1 w2 = some r → ∀ (H : Heap) (locs : List Loc) (cells slots : Nat) (ls : Array Slot), ST G (RM 0 0 z0) s h z H locs cells slots → lv_has ls 7 [(0, .ref x0), (1, .int x1)] → W p l e (RM 0 0 z0) s m args below meth c H locs cells slots (MX G below s r (RM 0 0 z0).cells (RM 0 0 z0).slots) (F0 m 93 ls [.int w0, .int w1, .ref w2]) := by
  have hx := C.1
  have hb := C.2.1
  intro h z x0 x1 w0 w1 w2 hf H locs cells slots ls hs hl
  unfold f_M_put_B93 at hf
  refine r_iast C hs d_M_put_93 hf (fun h20 H locs hf hs => ?_)
  refine lv_aload_n hx hb d_M_put_94 rfl (lv_at hl 0 rfl) ?_
  refine r_getR C hs fl_M_28 d_M_put_95 hf (fun v21 hf => ?_)
  refine lv_iload_n hx hb d_M_put_98 rfl (lv_at hl 1 rfl) ?_
  refine lv_dup2_11 hx hb d_M_put_99 rfl rfl ?_
  refine r_iald C hs d_M_put_100 hf (fun v22 hf => ?_)
  refine lv_iconst (v := 1) hx hb d_M_put_101 (by decide) ?_
  refine lv_iadd hx hb d_M_put_102 ?_
  refine r_iast C hs d_M_put_103 hf (fun h23 H locs hf hs => ?_)
  refine lv_aload_n hx hb d_M_put_104 rfl (lv_at hl 0 rfl) ?_
  refine r_getR C hs fl_M_28 d_M_put_105 hf (fun v24 hf => ?_)
  refine lv_iload_n hx hb d_M_put_108 rfl (lv_at hl 1 rfl) ?_
  refine r_iald C hs d_M_put_109 hf (fun v25 hf => ?_)
  refine lv_iconst (v := 1) hx hb d_M_put_110 (by decide) ?_
  refine lv_isub hx hb d_M_put_111 ?_
  exact r_ireturn C hs hr d_M_put_112 hf
def f_M_put_B61 (bs : Nat) (sE : Nat × Nat) (h : HH) (z : Z3) (x0 : Nat) (x1 : Int32) (x4 : Int32) (x5 : Int32) (x6 : Int32) (w0 : Int32) (w1 : Int32) (w2 : Nat) : Option RS :=
  (aIs bs h w2 0 w1 w0).bind fun h13 =>
  (gR h13 x0 6 5).bind fun v14 =>
  (aIs bs h13 v14 0 x6 x5).bind fun h15 =>
  (gR h15 x0 6 6).bind fun v16 =>
  if 0 ≤ x4 then
    ((gR h15 x0 6 12).bind fun v18 =>
    (aI h15 v18 0 x4).bind fun v19 =>
    f_M_put_B93 bs sE h15 z x0 x1 v19 x6 v16)
  else
    (f_M_put_B93 bs sE h15 z x0 x1 0 x6 v16)
set_option maxHeartbeats 4000000 in
set_option maxRecDepth 100000 in
theorem t_M_put_B61 {G : EN} {p : Program} {l : Launch} {e : Env} {s : State} {m : MethodId} {args : Array Value} {below : List Frame} {meth : Method} {c : Code} {z0 : Z3} (hl0 : l.stackTraces = false) (C : CX G p l s m meth c b_M_put 7 y_M_put.cls) (hr : meth.sig.returnType = (some .int)) (hex : c.exceptionTable.toList = []) {r : RS} :
    ∀ (h : HH) (z : Z3) (x0 : Nat) (x1 : Int32) (x4 : Int32) (x5 : Int32) (x6 : Int32) (w0 : Int32) (w1 : Int32) (w2 : Nat), f_M_put_B61 G.2.2.1 G.2.2.2 h z x0 x1 x4 x5 x6 w0 w1 w2 = some r → ∀ (H : Heap) (locs : List Loc) (cells slots : Nat) (ls : Array Slot), ST G (RM 0 0 z0) s h z H locs cells slots → lv_has ls 7 [(0, .ref x0), (1, .int x1), (4, .int x4), (5, .int x5), (6, .int x6)] → W p l e (RM 0 0 z0) s m args below meth c H locs cells slots (MX G below s r (RM 0 0 z0).cells (RM 0 0 z0).slots) (F0 m 61 ls [.int w0, .int w1, .ref w2]) := by
  have hx := C.1
  have hb := C.2.1
  intro h z x0 x1 x4 x5 x6 w0 w1 w2 hf H locs cells slots ls hs hl
  unfold f_M_put_B61 at hf
  refine r_iast C hs d_M_put_61 hf (fun h13 H locs hf hs => ?_)
  refine lv_aload_n hx hb d_M_put_62 rfl (lv_at hl 0 rfl) ?_
  refine r_getR C hs fl_M_22 d_M_put_63 hf (fun v14 hf => ?_)
  refine lv_iload hx hb d_M_put_66 (lv_at hl 4 rfl) ?_
  refine lv_iload hx hb d_M_put_68 (lv_at hl 3 rfl) ?_
  refine r_iast C hs d_M_put_70 hf (fun h15 H locs hf hs => ?_)
  refine lv_aload_n hx hb d_M_put_71 rfl (lv_at hl 0 rfl) ?_
  refine r_getR C hs fl_M_25 d_M_put_72 hf (fun v16 hf => ?_)
  refine lv_iload hx hb d_M_put_75 (lv_at hl 4 rfl) ?_
  refine lv_iload hx hb d_M_put_77 (lv_at hl 2 rfl) ?_
  refine lv_if_ge (tgt := 86) hx hb d_M_put_79 (by decide) (fun q17 => ?_) (fun q17 => ?_)
  · have hf := ifp q17 hf
    refine lv_aload_n hx hb d_M_put_86 rfl (lv_at hl 0 rfl) ?_
    refine r_getR C hs fl_M_43 d_M_put_87 hf (fun v18 hf => ?_)
    refine lv_iload hx hb d_M_put_90 (lv_at hl 2 rfl) ?_
    refine r_iald C hs d_M_put_92 hf (fun v19 hf => ?_)
    exact t_M_put_B93 hl0 C hr hex _ _ _ _ _ _ _ hf _ _ _ _ _ hs (lv_sub hl [0, 1] rfl)
  · have hf := ifn q17 hf
    refine lv_iconst (v := 0) hx hb d_M_put_82 (by decide) ?_
    refine lv_goto (tgt := 93) hx hb d_M_put_83 (by decide) ?_
    exact t_M_put_B93 hl0 C hr hex _ _ _ _ _ _ _ hf _ _ _ _ _ hs (lv_sub hl [0, 1] rfl)
def f_M_put (bs : Nat) (sE : Nat × Nat) (h : HH) (z : Z3) (x0 : Nat) (x1 : Int32) (x2 : Int32) (x3 : Int32) (x4 : Int32) (x5 : Int32) : Option RS :=
  (gR h x0 6 7).bind fun v1 =>
  (aI h v1 0 x1).bind fun v2 =>
  (gR h x0 6 1).bind fun v3 =>
  (aIs bs h v3 0 ((520 * x1) + v2) x2).bind fun h4 =>
  (gR h4 x0 6 2).bind fun v5 =>
  (aIs bs h4 v5 0 ((520 * x1) + v2) x3).bind fun h6 =>
  (gR h6 x0 6 3).bind fun v7 =>
  (aIs bs h6 v7 0 ((520 * x1) + v2) x4).bind fun h8 =>
  (gR h8 x0 6 4).bind fun v9 =>
  if 0 ≤ x4 then
    ((gR h8 x0 6 11).bind fun v11 =>
    (aI h8 v11 0 x4).bind fun v12 =>
    f_M_put_B61 bs sE h8 z x0 x1 x4 x5 ((520 * x1) + v2) v12 ((520 * x1) + v2) v9)
  else
    (f_M_put_B61 bs sE h8 z x0 x1 x4 x5 ((520 * x1) + v2) 0 ((520 * x1) + v2) v9)
set_option maxHeartbeats 4000000 in
set_option maxRecDepth 100000 in
theorem c_M_put {G : EN} {l : Launch} (hl0 : l.stackTraces = false) {h : HH} {z : Z3} {x0 : Nat} {x1 : Int32} {x2 : Int32} {x3 : Int32} {x4 : Int32} {x5 : Int32} {r : RS} (hf : f_M_put G.2.2.1 G.2.2.2 h z x0 x1 x2 x3 x4 x5 = some r) : CM G l y_M_put (.code y_M_put b_M_put 7 (some .int)) 0 0 [.ref x0, .int x1, .int x2, .int x3, .int x4, .int x5] h z r := by
  refine CM.ofW hl0 rfl ?_
  intro p e s m below meth c C hr hex hin hs
  have hx := C.1
  have hb := C.2.1
  refine x_entry (n := 7) (Nat.le_of_ble_eq_true rfl) (fun ls hl => ?_)
  have hl : lv_has ls 7 [(0, .ref x0), (1, .int x1), (2, .int x2), (3, .int x3), (4, .int x4), (5, .int x5)] := hl
  unfold f_M_put at hf
  refine lv_sipush (v := 520) hx hb d_M_put_0 (by decide) ?_
  refine lv_iload_n hx hb d_M_put_3 rfl (lv_at hl 1 rfl) ?_
  refine lv_imul hx hb d_M_put_4 ?_
  refine lv_aload_n hx hb d_M_put_5 rfl (lv_at hl 0 rfl) ?_
  refine r_getR C hs fl_M_28 d_M_put_6 hf (fun v1 hf => ?_)
  refine lv_iload_n hx hb d_M_put_9 rfl (lv_at hl 1 rfl) ?_
  refine r_iald C hs d_M_put_10 hf (fun v2 hf => ?_)
  refine lv_iadd hx hb d_M_put_11 ?_
  refine lv_istore (lv' := [(6, .int ((520 * x1) + v2)), (0, .ref x0), (1, .int x1), (2, .int x2), (3, .int x3), (4, .int x4), (5, .int x5)]) hx hb d_M_put_12 hl (by decide) rfl (fun ls hl => ?_)
  refine lv_aload_n hx hb d_M_put_14 rfl (lv_at hl 1 rfl) ?_
  refine r_getR C hs fl_M_7 d_M_put_15 hf (fun v3 hf => ?_)
  refine lv_iload hx hb d_M_put_18 (lv_at hl 0 rfl) ?_
  refine lv_iload_n hx hb d_M_put_20 rfl (lv_at hl 3 rfl) ?_
  refine r_iast C hs d_M_put_21 hf (fun h4 H locs hf hs => ?_)
  refine lv_aload_n hx hb d_M_put_22 rfl (lv_at hl 1 rfl) ?_
  refine r_getR C hs fl_M_13 d_M_put_23 hf (fun v5 hf => ?_)
  refine lv_iload hx hb d_M_put_26 (lv_at hl 0 rfl) ?_
  refine lv_iload_n hx hb d_M_put_28 rfl (lv_at hl 4 rfl) ?_
  refine r_iast C hs d_M_put_29 hf (fun h6 H locs hf hs => ?_)
  refine lv_aload_n hx hb d_M_put_30 rfl (lv_at hl 1 rfl) ?_
  refine r_getR C hs fl_M_16 d_M_put_31 hf (fun v7 hf => ?_)
  refine lv_iload hx hb d_M_put_34 (lv_at hl 0 rfl) ?_
  refine lv_iload hx hb d_M_put_36 (lv_at hl 5 rfl) ?_
  refine r_iast C hs d_M_put_38 hf (fun h8 H locs hf hs => ?_)
  refine lv_aload_n hx hb d_M_put_39 rfl (lv_at hl 1 rfl) ?_
  refine r_getR C hs fl_M_19 d_M_put_40 hf (fun v9 hf => ?_)
  refine lv_iload hx hb d_M_put_43 (lv_at hl 0 rfl) ?_
  refine lv_iload hx hb d_M_put_45 (lv_at hl 5 rfl) ?_
  refine lv_if_ge (tgt := 54) hx hb d_M_put_47 (by decide) (fun q10 => ?_) (fun q10 => ?_)
  · have hf := ifp q10 hf
    refine lv_aload_n hx hb d_M_put_54 rfl (lv_at hl 1 rfl) ?_
    refine r_getR C hs fl_M_40 d_M_put_55 hf (fun v11 hf => ?_)
    refine lv_iload hx hb d_M_put_58 (lv_at hl 5 rfl) ?_
    refine r_iald C hs d_M_put_60 hf (fun v12 hf => ?_)
    exact t_M_put_B61 hl0 C hr hex _ _ _ _ _ _ _ _ _ _ hf _ _ _ _ _ hs (lv_sub hl [1, 2, 5, 6, 0] rfl)
  · have hf := ifn q10 hf
    refine lv_iconst (v := 0) hx hb d_M_put_50 (by decide) ?_
    refine lv_goto (tgt := 61) hx hb d_M_put_51 (by decide) ?_
    exact t_M_put_B61 hl0 C hr hex _ _ _ _ _ _ _ _ _ _ hf _ _ _ _ _ hs (lv_sub hl [1, 2, 5, 6, 0] rfl)
def f_M_send_B105 (bs : Nat) (sE : Nat × Nat) (h : HH) (z : Z3) (x0 : Nat) (x1 : Int32) (x3 : Int32) (x4 : Int32) (x5 : Int32) (x6 : Int32) : Option RS :=
  (gR h x0 6 13).bind fun v13 =>
  (aI h v13 0 x1).bind fun v14 =>
  (aIs bs h v13 0 x1 (v14 ||| (1 <<< (x3 &&& 31)))).bind fun h15 =>
  if x6 < 0 then
    ((oK h15 x0 6).bind fun _ =>
    cI (f_M_put bs sE h15 z x0 x3 1 x5 x1 x4) fun v19 h17 z18 =>
    some (.inl (some (.int v19)), h17, z18))
  else
    (some (.inl (some (.int x6)), h15, z))
set_option maxHeartbeats 4000000 in
set_option maxRecDepth 100000 in
theorem t_M_send_B105 {G : EN} {p : Program} {l : Launch} {e : Env} {s : State} {m : MethodId} {args : Array Value} {below : List Frame} {meth : Method} {c : Code} {z0 : Z3} (hl0 : l.stackTraces = false) (C : CX G p l s m meth c b_M_send 7 y_M_send.cls) (hr : meth.sig.returnType = (some .int)) (hex : c.exceptionTable.toList = []) {r : RS} :
    ∀ (h : HH) (z : Z3) (x0 : Nat) (x1 : Int32) (x3 : Int32) (x4 : Int32) (x5 : Int32) (x6 : Int32), f_M_send_B105 G.2.2.1 G.2.2.2 h z x0 x1 x3 x4 x5 x6 = some r → ∀ (H : Heap) (locs : List Loc) (cells slots : Nat) (ls : Array Slot), ST G (RM 2 47 z0) s h z H locs cells slots → lv_has ls 7 [(0, .ref x0), (1, .int x1), (3, .int x3), (4, .int x4), (5, .int x5), (6, .int x6)] → W p l e (RM 2 47 z0) s m args below meth c H locs cells slots (MX G below s r (RM 2 47 z0).cells (RM 2 47 z0).slots) (F0 m 105 ls []) := by
  have hx := C.1
  have hb := C.2.1
  intro h z x0 x1 x3 x4 x5 x6 hf H locs cells slots ls hs hl
  unfold f_M_send_B105 at hf
  refine lv_aload_n hx hb d_M_send_105 rfl (lv_at hl 0 rfl) ?_
  refine r_getR C hs fl_M_46 d_M_send_106 hf (fun v13 hf => ?_)
  refine lv_iload_n hx hb d_M_send_109 rfl (lv_at hl 1 rfl) ?_
  refine lv_dup2_11 hx hb d_M_send_110 rfl rfl ?_
  refine r_iald C hs d_M_send_111 hf (fun v14 hf => ?_)
  refine lv_iconst (v := 1) hx hb d_M_send_112 (by decide) ?_
  refine lv_iload_n hx hb d_M_send_113 rfl (lv_at hl 2 rfl) ?_
  refine lv_ishl hx hb d_M_send_114 ?_
  refine lv_ior hx hb d_M_send_115 ?_
  refine r_iast C hs d_M_send_116 hf (fun h15 H locs hf hs => ?_)
  refine lv_iload hx hb d_M_send_117 (lv_at hl 5 rfl) ?_
  refine lv_if_lt (tgt := 127) hx hb d_M_send_119 (by decide) (fun q16 => ?_) (fun q16 => ?_)
  · have hf := ifp q16 hf
    refine lv_aload_n hx hb d_M_send_127 rfl (lv_at hl 0 rfl) ?_
    refine lv_iload_n hx hb d_M_send_128 rfl (lv_at hl 2 rfl) ?_
    refine lv_iconst (v := 1) hx hb d_M_send_129 (by decide) ?_
    refine lv_iload hx hb d_M_send_130 (lv_at hl 4 rfl) ?_
    refine lv_iload_n hx hb d_M_send_132 rfl (lv_at hl 1 rfl) ?_
    refine lv_iload hx hb d_M_send_133 (lv_at hl 3 rfl) ?_
    obtain ⟨_, ho, hf⟩ := bd hf
    refine k_I C hs hex hf (fun res e1 => iv_V (b := x0) (As := [.int x3, .int 1, .int x5, .int x1, .int x4]) (rest := []) C hs cv_M_115 (c_M_put hl0 e1) (ci := 6) rfl rfl ho rfl hl.1 rfl (Nat.le_of_ble_eq_true rfl) d_M_send_135 ⟨Nat.le_of_ble_eq_true rfl, Nat.le_of_ble_eq_true rfl⟩) (fun v19 h17 z18 H locs cells slots hf hs => ?_)
    exact r_ireturn C hs hr d_M_send_138 hf
  · have hf := ifn q16 hf
    refine lv_iload hx hb d_M_send_122 (lv_at hl 5 rfl) ?_
    refine lv_goto (tgt := 138) hx hb d_M_send_124 (by decide) ?_
    exact r_ireturn C hs hr d_M_send_138 hf
def f_M_send_B86 (bs : Nat) (sE : Nat × Nat) (h : HH) (z : Z3) (x0 : Nat) (x1 : Int32) (x3 : Int32) (x4 : Int32) (x5 : Int32) (x6 : Int32) : Option RS :=
  if 0 ≤ x6 then
    (f_M_send_B105 bs sE h z x0 x1 x3 x4 x5 x6)
  else
    ((oK h x0 6).bind fun _ =>
    cI (f_M_full bs sE h z x0 x3) fun v22 h20 z21 =>
    if v22 = 0 then
      (f_M_send_B105 bs sE h20 z21 x0 x1 x3 x4 x5 x6)
    else
      ((oK h20 x0 6).bind fun _ =>
      cI (f_M_fail bs sE h20 z21 x0 3) fun v26 h24 z25 =>
      some (.inl (some (.int v26)), h24, z25)))
set_option maxHeartbeats 4000000 in
set_option maxRecDepth 100000 in
theorem t_M_send_B86 {G : EN} {p : Program} {l : Launch} {e : Env} {s : State} {m : MethodId} {args : Array Value} {below : List Frame} {meth : Method} {c : Code} {z0 : Z3} (hl0 : l.stackTraces = false) (C : CX G p l s m meth c b_M_send 7 y_M_send.cls) (hr : meth.sig.returnType = (some .int)) (hex : c.exceptionTable.toList = []) {r : RS} :
    ∀ (h : HH) (z : Z3) (x0 : Nat) (x1 : Int32) (x3 : Int32) (x4 : Int32) (x5 : Int32) (x6 : Int32), f_M_send_B86 G.2.2.1 G.2.2.2 h z x0 x1 x3 x4 x5 x6 = some r → ∀ (H : Heap) (locs : List Loc) (cells slots : Nat) (ls : Array Slot), ST G (RM 2 47 z0) s h z H locs cells slots → lv_has ls 7 [(0, .ref x0), (1, .int x1), (3, .int x3), (4, .int x4), (5, .int x5), (6, .int x6)] → W p l e (RM 2 47 z0) s m args below meth c H locs cells slots (MX G below s r (RM 2 47 z0).cells (RM 2 47 z0).slots) (F0 m 86 ls []) := by
  have hx := C.1
  have hb := C.2.1
  intro h z x0 x1 x3 x4 x5 x6 hf H locs cells slots ls hs hl
  unfold f_M_send_B86 at hf
  refine lv_iload hx hb d_M_send_86 (lv_at hl 5 rfl) ?_
  refine lv_if_ge (tgt := 105) hx hb d_M_send_88 (by decide) (fun q12 => ?_) (fun q12 => ?_)
  · have hf := ifp q12 hf
    exact t_M_send_B105 hl0 C hr hex _ _ _ _ _ _ _ _ hf _ _ _ _ _ hs (lv_sub hl [0, 1, 2, 3, 4, 5] rfl)
  · have hf := ifn q12 hf
    refine lv_aload_n hx hb d_M_send_91 rfl (lv_at hl 0 rfl) ?_
    refine lv_iload_n hx hb d_M_send_92 rfl (lv_at hl 2 rfl) ?_
    obtain ⟨_, ho, hf⟩ := bd hf
    refine k_I C hs hex hf (fun res e1 => iv_V (b := x0) (As := [.int x3]) (rest := []) C hs cv_M_111 (c_M_full hl0 e1) (ci := 6) rfl rfl ho rfl hl.1 rfl (Nat.le_of_ble_eq_true rfl) d_M_send_93 ⟨Nat.le_of_ble_eq_true rfl, Nat.le_of_ble_eq_true rfl⟩) (fun v22 h20 z21 H locs cells slots hf hs => ?_)
    refine lv_if_eq (tgt := 105) hx hb d_M_send_96 (by decide) (fun q23 => ?_) (fun q23 => ?_)
    · have hf := ifp q23 hf
      exact t_M_send_B105 hl0 C hr hex _ _ _ _ _ _ _ _ hf _ _ _ _ _ hs (lv_sub hl [0, 1, 2, 3, 4, 5] rfl)
    · have hf := ifn q23 hf
      refine lv_aload_n hx hb d_M_send_99 rfl (lv_at hl 0 rfl) ?_
      refine lv_iconst (v := 3) hx hb d_M_send_100 (by decide) ?_
      obtain ⟨_, ho, hf⟩ := bd hf
      refine k_I C hs hex hf (fun res e1 => iv_V (b := x0) (As := [.int 3]) (rest := []) C hs cv_M_86 (c_M_fail hl0 e1) (ci := 6) rfl rfl ho rfl hl.1 rfl (Nat.le_of_ble_eq_true rfl) d_M_send_101 ⟨Nat.le_of_ble_eq_true rfl, Nat.le_of_ble_eq_true rfl⟩) (fun v26 h24 z25 H locs cells slots hf hs => ?_)
      exact r_ireturn C hs hr d_M_send_104 hf
def f_M_send_B42 (bs : Nat) (sE : Nat × Nat) (h : HH) (z : Z3) (x0 : Nat) (x1 : Int32) (x3 : Int32) (x4 : Int32) (x5 : Int32) (w0 : Int32) (w1 : Nat) : Option RS :=
  (pV bs h w1 6 0 (.inl w0)).bind fun h5 =>
  (gI h5 x0 6 0).bind fun v6 =>
  if v6 ≤ 0 then
    ((oK h5 x0 6).bind fun _ =>
    cI (f_M_recent bs sE h5 z x0 x1 x3 x4) fun v10 h8 z9 =>
    if 0 ≤ v10 then
      (f_M_send_B86 bs sE h8 z9 x0 x1 x3 x4 x5 v10)
    else
      ((oK h8 x0 6).bind fun _ =>
      cI (f_M_next bs sE h8 z9 x0 x1 x3) fun v29 h27 z28 =>
      if x4 = v29 then
        (f_M_send_B86 bs sE h27 z28 x0 x1 x3 x4 x5 v10)
      else
        ((oK h27 x0 6).bind fun _ =>
        cI (f_M_fail bs sE h27 z28 x0 4) fun v33 h31 z32 =>
        some (.inl (some (.int v33)), h31, z32))))
  else
    (some (.inl (some (.int 0)), h5, z))
set_option maxHeartbeats 4000000 in
set_option maxRecDepth 100000 in
theorem t_M_send_B42 {G : EN} {p : Program} {l : Launch} {e : Env} {s : State} {m : MethodId} {args : Array Value} {below : List Frame} {meth : Method} {c : Code} {z0 : Z3} (hl0 : l.stackTraces = false) (C : CX G p l s m meth c b_M_send 7 y_M_send.cls) (hr : meth.sig.returnType = (some .int)) (hex : c.exceptionTable.toList = []) {r : RS} :
    ∀ (h : HH) (z : Z3) (x0 : Nat) (x1 : Int32) (x3 : Int32) (x4 : Int32) (x5 : Int32) (w0 : Int32) (w1 : Nat), f_M_send_B42 G.2.2.1 G.2.2.2 h z x0 x1 x3 x4 x5 w0 w1 = some r → ∀ (H : Heap) (locs : List Loc) (cells slots : Nat) (ls : Array Slot), ST G (RM 2 47 z0) s h z H locs cells slots → lv_has ls 7 [(0, .ref x0), (1, .int x1), (3, .int x3), (4, .int x4), (5, .int x5)] → W p l e (RM 2 47 z0) s m args below meth c H locs cells slots (MX G below s r (RM 2 47 z0).cells (RM 2 47 z0).slots) (F0 m 42 ls [.int w0, .ref w1]) := by
  have hx := C.1
  have hb := C.2.1
  intro h z x0 x1 x3 x4 x5 w0 w1 hf H locs cells slots ls hs hl
  unfold f_M_send_B42 at hf
  refine r_putV (v := (.inl w0)) C hs flp_M_71 rfl rfl d_M_send_42 hf (fun h5 H locs hf hs => ?_)
  refine lv_aload_n hx hb d_M_send_45 rfl (lv_at hl 0 rfl) ?_
  refine r_getI C hs fl_M_71 d_M_send_46 hf (fun v6 hf => ?_)
  refine lv_if_le (tgt := 54) hx hb d_M_send_49 (by decide) (fun q7 => ?_) (fun q7 => ?_)
  · have hf := ifp q7 hf
    refine lv_aload_n hx hb d_M_send_54 rfl (lv_at hl 0 rfl) ?_
    refine lv_iload_n hx hb d_M_send_55 rfl (lv_at hl 1 rfl) ?_
    refine lv_iload_n hx hb d_M_send_56 rfl (lv_at hl 2 rfl) ?_
    refine lv_iload hx hb d_M_send_57 (lv_at hl 3 rfl) ?_
    obtain ⟨_, ho, hf⟩ := bd hf
    refine k_I C hs hex hf (fun res e1 => iv_V (b := x0) (As := [.int x1, .int x3, .int x4]) (rest := []) C hs cv_M_104 (c_M_recent hl0 e1) (ci := 6) rfl rfl ho rfl hl.1 rfl (Nat.le_of_ble_eq_true rfl) d_M_send_59 ⟨Nat.le_of_ble_eq_true rfl, Nat.le_of_ble_eq_true rfl⟩) (fun v10 h8 z9 H locs cells slots hf hs => ?_)
    refine lv_istore (lv' := [(6, .int v10), (0, .ref x0), (1, .int x1), (3, .int x3), (4, .int x4), (5, .int x5)]) hx hb d_M_send_62 hl (by decide) rfl (fun ls hl => ?_)
    refine lv_iload hx hb d_M_send_64 (lv_at hl 0 rfl) ?_
    refine lv_if_ge (tgt := 86) hx hb d_M_send_66 (by decide) (fun q11 => ?_) (fun q11 => ?_)
    · have hf := ifp q11 hf
      exact t_M_send_B86 hl0 C hr hex _ _ _ _ _ _ _ _ hf _ _ _ _ _ hs (lv_sub hl [1, 2, 3, 4, 5, 0] rfl)
    · have hf := ifn q11 hf
      refine lv_iload hx hb d_M_send_69 (lv_at hl 4 rfl) ?_
      refine lv_aload_n hx hb d_M_send_71 rfl (lv_at hl 1 rfl) ?_
      refine lv_iload_n hx hb d_M_send_72 rfl (lv_at hl 2 rfl) ?_
      refine lv_iload_n hx hb d_M_send_73 rfl (lv_at hl 3 rfl) ?_
      obtain ⟨_, ho, hf⟩ := bd hf
      refine k_I C hs hex hf (fun res e1 => iv_V (b := x0) (As := [.int x1, .int x3]) (rest := [.int x4]) C hs cv_M_107 (c_M_next hl0 e1) (ci := 6) rfl rfl ho rfl hl.1 rfl (Nat.le_of_ble_eq_true rfl) d_M_send_74 ⟨Nat.le_of_ble_eq_true rfl, Nat.le_of_ble_eq_true rfl⟩) (fun v29 h27 z28 H locs cells slots hf hs => ?_)
      refine lv_icmp_eq (tgt := 86) hx hb d_M_send_77 (by decide) (fun q30 => ?_) (fun q30 => ?_)
      · have hf := ifp q30 hf
        exact t_M_send_B86 hl0 C hr hex _ _ _ _ _ _ _ _ hf _ _ _ _ _ hs (lv_sub hl [1, 2, 3, 4, 5, 0] rfl)
      · have hf := ifn q30 hf
        refine lv_aload_n hx hb d_M_send_80 rfl (lv_at hl 1 rfl) ?_
        refine lv_iconst (v := 4) hx hb d_M_send_81 (by decide) ?_
        obtain ⟨_, ho, hf⟩ := bd hf
        refine k_I C hs hex hf (fun res e1 => iv_V (b := x0) (As := [.int 4]) (rest := []) C hs cv_M_86 (c_M_fail hl0 e1) (ci := 6) rfl rfl ho rfl hl.1 rfl (Nat.le_of_ble_eq_true rfl) d_M_send_82 ⟨Nat.le_of_ble_eq_true rfl, Nat.le_of_ble_eq_true rfl⟩) (fun v33 h31 z32 H locs cells slots hf hs => ?_)
        exact r_ireturn C hs hr d_M_send_85 hf
  · have hf := ifn q7 hf
    refine lv_iconst (v := 0) hx hb d_M_send_52 (by decide) ?_
    exact r_ireturn C hs hr d_M_send_53 hf
def f_M_send_B31 (bs : Nat) (sE : Nat × Nat) (h : HH) (z : Z3) (x0 : Nat) (x1 : Int32) (x3 : Int32) (x4 : Int32) (x5 : Int32) (w0 : Nat) : Option RS :=
  f_M_send_B42 bs sE h z x0 x1 x3 x4 x5 1 w0
set_option maxHeartbeats 4000000 in
set_option maxRecDepth 100000 in
theorem t_M_send_B31 {G : EN} {p : Program} {l : Launch} {e : Env} {s : State} {m : MethodId} {args : Array Value} {below : List Frame} {meth : Method} {c : Code} {z0 : Z3} (hl0 : l.stackTraces = false) (C : CX G p l s m meth c b_M_send 7 y_M_send.cls) (hr : meth.sig.returnType = (some .int)) (hex : c.exceptionTable.toList = []) {r : RS} :
    ∀ (h : HH) (z : Z3) (x0 : Nat) (x1 : Int32) (x3 : Int32) (x4 : Int32) (x5 : Int32) (w0 : Nat), f_M_send_B31 G.2.2.1 G.2.2.2 h z x0 x1 x3 x4 x5 w0 = some r → ∀ (H : Heap) (locs : List Loc) (cells slots : Nat) (ls : Array Slot), ST G (RM 2 47 z0) s h z H locs cells slots → lv_has ls 7 [(0, .ref x0), (1, .int x1), (3, .int x3), (4, .int x4), (5, .int x5)] → W p l e (RM 2 47 z0) s m args below meth c H locs cells slots (MX G below s r (RM 2 47 z0).cells (RM 2 47 z0).slots) (F0 m 31 ls [.ref w0]) := by
  have hx := C.1
  have hb := C.2.1
  intro h z x0 x1 x3 x4 x5 w0 hf H locs cells slots ls hs hl
  unfold f_M_send_B31 at hf
  refine lv_iconst (v := 1) hx hb d_M_send_31 (by decide) ?_
  refine lv_goto (tgt := 42) hx hb d_M_send_32 (by decide) ?_
  exact t_M_send_B42 hl0 C hr hex _ _ _ _ _ _ _ _ _ hf _ _ _ _ _ hs (lv_sub hl [0, 1, 2, 3, 4] rfl)
def f_M_send (bs : Nat) (sE : Nat × Nat) (h : HH) (z : Z3) (x0 : Nat) (x1 : Int32) (x2 : Int32) (x3 : Int32) (x4 : Int32) (x5 : Int32) : Option RS :=
  (oK h x0 6).bind fun _ =>
  cI (f_M_out bs sE h z x0 x1 4) fun v3 h1 z2 =>
  if v3 = 0 then
    ((oK h1 x0 6).bind fun _ =>
    cI (f_M_out bs sE h1 z2 x0 x3 4) fun v36 h34 z35 =>
    if v36 = 0 then
      ((oK h34 x0 6).bind fun _ =>
      cI (f_M_out bs sE h34 z35 x0 x4 1001) fun v40 h38 z39 =>
      if v40 = 0 then
        ((oK h38 x0 6).bind fun _ =>
        cI (f_M_check bs sE h38 z39 x0 x1 x2 1) fun v44 h42 z43 =>
        f_M_send_B42 bs sE h42 z43 x0 x1 x3 x4 x5 v44 x0)
      else
        (f_M_send_B31 bs sE h38 z39 x0 x1 x3 x4 x5 x0))
    else
      (f_M_send_B31 bs sE h34 z35 x0 x1 x3 x4 x5 x0))
  else
    (f_M_send_B31 bs sE h1 z2 x0 x1 x3 x4 x5 x0)
set_option maxHeartbeats 4000000 in
set_option maxRecDepth 100000 in
theorem c_M_send {G : EN} {l : Launch} (hl0 : l.stackTraces = false) {h : HH} {z : Z3} {x0 : Nat} {x1 : Int32} {x2 : Int32} {x3 : Int32} {x4 : Int32} {x5 : Int32} {r : RS} (hf : f_M_send G.2.2.1 G.2.2.2 h z x0 x1 x2 x3 x4 x5 = some r) : CM G l y_M_send (.code y_M_send b_M_send 7 (some .int)) 2 47 [.ref x0, .int x1, .int x2, .int x3, .int x4, .int x5] h z r := by
  refine CM.ofW hl0 rfl ?_
  intro p e s m below meth c C hr hex hin hs
  have hx := C.1
  have hb := C.2.1
  refine x_entry (n := 7) (Nat.le_of_ble_eq_true rfl) (fun ls hl => ?_)
  have hl : lv_has ls 7 [(0, .ref x0), (1, .int x1), (2, .int x2), (3, .int x3), (4, .int x4), (5, .int x5)] := hl
  unfold f_M_send at hf
  refine lv_aload_n hx hb d_M_send_0 rfl (lv_at hl 0 rfl) ?_
  refine lv_aload_n hx hb d_M_send_1 rfl (lv_at hl 0 rfl) ?_
  refine lv_iload_n hx hb d_M_send_2 rfl (lv_at hl 1 rfl) ?_
  refine lv_iconst (v := 4) hx hb d_M_send_3 (by decide) ?_
  obtain ⟨_, ho, hf⟩ := bd hf
  refine k_I C hs hex hf (fun res e1 => iv_V (b := x0) (As := [.int x1, .int 4]) (rest := [.ref x0]) C hs cv_M_83 (c_M_out hl0 e1) (ci := 6) rfl rfl ho rfl hl.1 rfl (Nat.le_of_ble_eq_true rfl) d_M_send_4 ⟨Nat.le_of_ble_eq_true rfl, Nat.le_of_ble_eq_true rfl⟩) (fun v3 h1 z2 H locs cells slots hf hs => ?_)
  refine lv_if_ne (tgt := 31) hx hb d_M_send_7 (by decide) (fun q4 => ?_) (fun q4 => ?_)
  · have hf := ifn q4 hf
    exact t_M_send_B31 hl0 C hr hex _ _ _ _ _ _ _ _ hf _ _ _ _ _ hs (lv_sub hl [0, 1, 3, 4, 5] rfl)
  · have hf := ifp q4 hf
    refine lv_aload_n hx hb d_M_send_10 rfl (lv_at hl 0 rfl) ?_
    refine lv_iload_n hx hb d_M_send_11 rfl (lv_at hl 3 rfl) ?_
    refine lv_iconst (v := 4) hx hb d_M_send_12 (by decide) ?_
    obtain ⟨_, ho, hf⟩ := bd hf
    refine k_I C hs hex hf (fun res e1 => iv_V (b := x0) (As := [.int x3, .int 4]) (rest := [.ref x0]) C hs cv_M_83 (c_M_out hl0 e1) (ci := 6) rfl rfl ho rfl hl.1 rfl (Nat.le_of_ble_eq_true rfl) d_M_send_13 ⟨Nat.le_of_ble_eq_true rfl, Nat.le_of_ble_eq_true rfl⟩) (fun v36 h34 z35 H locs cells slots hf hs => ?_)
    refine lv_if_ne (tgt := 31) hx hb d_M_send_16 (by decide) (fun q37 => ?_) (fun q37 => ?_)
    · have hf := ifn q37 hf
      exact t_M_send_B31 hl0 C hr hex _ _ _ _ _ _ _ _ hf _ _ _ _ _ hs (lv_sub hl [0, 1, 3, 4, 5] rfl)
    · have hf := ifp q37 hf
      refine lv_aload_n hx hb d_M_send_19 rfl (lv_at hl 0 rfl) ?_
      refine lv_iload hx hb d_M_send_20 (lv_at hl 4 rfl) ?_
      refine lv_sipush (v := 1001) hx hb d_M_send_22 (by decide) ?_
      obtain ⟨_, ho, hf⟩ := bd hf
      refine k_I C hs hex hf (fun res e1 => iv_V (b := x0) (As := [.int x4, .int 1001]) (rest := [.ref x0]) C hs cv_M_83 (c_M_out hl0 e1) (ci := 6) rfl rfl ho rfl hl.1 rfl (Nat.le_of_ble_eq_true rfl) d_M_send_25 ⟨Nat.le_of_ble_eq_true rfl, Nat.le_of_ble_eq_true rfl⟩) (fun v40 h38 z39 H locs cells slots hf hs => ?_)
      refine lv_if_eq (tgt := 35) hx hb d_M_send_28 (by decide) (fun q41 => ?_) (fun q41 => ?_)
      · have hf := ifp q41 hf
        refine lv_aload_n hx hb d_M_send_35 rfl (lv_at hl 0 rfl) ?_
        refine lv_iload_n hx hb d_M_send_36 rfl (lv_at hl 1 rfl) ?_
        refine lv_iload_n hx hb d_M_send_37 rfl (lv_at hl 2 rfl) ?_
        refine lv_iconst (v := 1) hx hb d_M_send_38 (by decide) ?_
        obtain ⟨_, ho, hf⟩ := bd hf
        refine k_I C hs hex hf (fun res e1 => iv_V (b := x0) (As := [.int x1, .int x2, .int 1]) (rest := [.ref x0]) C hs cv_M_94 (c_M_check hl0 e1) (ci := 6) rfl rfl ho rfl hl.1 rfl (Nat.le_of_ble_eq_true rfl) d_M_send_39 ⟨Nat.le_of_ble_eq_true rfl, Nat.le_of_ble_eq_true rfl⟩) (fun v44 h42 z43 H locs cells slots hf hs => ?_)
        exact t_M_send_B42 hl0 C hr hex _ _ _ _ _ _ _ _ _ hf _ _ _ _ _ hs (lv_sub hl [0, 1, 3, 4, 5] rfl)
      · have hf := ifn q41 hf
        exact t_M_send_B31 hl0 C hr hex _ _ _ _ _ _ _ _ hf _ _ _ _ _ hs (lv_sub hl [0, 1, 3, 4, 5] rfl)
def fb_M_pend_L88 (bs : Nat) (sE : Nat × Nat) (REC : HH → Z3 → Nat → Int32 → Int32 → Int32 → Option RS) (h : HH) (z : Z3) (x0 : Nat) (x1 : Int32) (x6 : Int32) (x7 : Int32) : Option RS :=
  if 8 ≤ x7 then
    (some (.inl (some (.int x6)), h, z))
  else
    ((gR h x0 6 15).bind fun v11 =>
    (aI h v11 0 ((8 * x1) + x7)).bind fun v12 =>
    if v12 < 0 then
      (REC h z x0 x1 (x6 + 0) (x7 + 1))
    else
      (REC h z x0 x1 (x6 + 1) (x7 + 1)))
def f_M_pend_L88 (bs : Nat) (sE : Nat × Nat) : Nat → HH → Z3 → Nat → Int32 → Int32 → Int32 → Option RS
  | 0 => fun _ _ _ _ _ _ => none
  | n + 1 => fb_M_pend_L88 bs sE (f_M_pend_L88 bs sE n)
set_option maxHeartbeats 4000000 in
set_option maxRecDepth 100000 in
theorem t_M_pend_L88 {G : EN} {p : Program} {l : Launch} {e : Env} {s : State} {m : MethodId} {args : Array Value} {below : List Frame} {meth : Method} {c : Code} {z0 : Z3} (hl0 : l.stackTraces = false) (C : CX G p l s m meth c b_M_pend 8 y_M_pend.cls) (hr : meth.sig.returnType = (some .int)) (hex : c.exceptionTable.toList = []) {r : RS} :
    ∀ (n : Nat) (h : HH) (z : Z3) (x0 : Nat) (x1 : Int32) (x6 : Int32) (x7 : Int32), f_M_pend_L88 G.2.2.1 G.2.2.2 n h z x0 x1 x6 x7 = some r → ∀ (H : Heap) (locs : List Loc) (cells slots : Nat) (ls : Array Slot), ST G (RM 1 23 z0) s h z H locs cells slots → lv_has ls 8 [(0, .ref x0), (1, .int x1), (6, .int x6), (7, .int x7)] → W p l e (RM 1 23 z0) s m args below meth c H locs cells slots (MX G below s r (RM 1 23 z0).cells (RM 1 23 z0).slots) (F0 m 88 ls []) := by
  have hx := C.1
  have hb := C.2.1
  intro n
  induction n with
  | zero => intro h z x0 x1 x6 x7 hf; exact nomatch (show (none : Option RS) = some r from hf)
  | succ n ih =>
    intro h z x0 x1 x6 x7 hf H locs cells slots ls hs hl
    have hf : fb_M_pend_L88 G.2.2.1 G.2.2.2 (f_M_pend_L88 G.2.2.1 G.2.2.2 n) h z x0 x1 x6 x7 = some r := hf
    unfold fb_M_pend_L88 at hf
    refine lv_iload hx hb d_M_pend_88 (lv_at hl 3 rfl) ?_
    refine lv_bipush (v := 8) hx hb d_M_pend_90 (by decide) ?_
    refine lv_icmp_ge (tgt := 126) hx hb d_M_pend_92 (by decide) (fun q10 => ?_) (fun q10 => ?_)
    · have hf := ifp q10 hf
      refine lv_iload hx hb d_M_pend_126 (lv_at hl 2 rfl) ?_
      exact r_ireturn C hs hr d_M_pend_128 hf
    · have hf := ifn q10 hf
      refine lv_iload hx hb d_M_pend_95 (lv_at hl 2 rfl) ?_
      refine lv_aload_n hx hb d_M_pend_97 rfl (lv_at hl 0 rfl) ?_
      refine r_getR C hs fl_M_52 d_M_pend_98 hf (fun v11 hf => ?_)
      refine lv_bipush (v := 8) hx hb d_M_pend_101 (by decide) ?_
      refine lv_iload_n hx hb d_M_pend_103 rfl (lv_at hl 1 rfl) ?_
      refine lv_imul hx hb d_M_pend_104 ?_
      refine lv_iload hx hb d_M_pend_105 (lv_at hl 3 rfl) ?_
      refine lv_iadd hx hb d_M_pend_107 ?_
      refine r_iald C hs d_M_pend_108 hf (fun v12 hf => ?_)
      refine lv_if_lt (tgt := 116) hx hb d_M_pend_109 (by decide) (fun q13 => ?_) (fun q13 => ?_)
      · have hf := ifp q13 hf
        refine lv_iconst (v := 0) hx hb d_M_pend_116 (by decide) ?_
        refine lv_iadd hx hb d_M_pend_117 ?_
        refine lv_istore (lv' := [(6, .int (x6 + 0)), (0, .ref x0), (1, .int x1), (7, .int x7)]) hx hb d_M_pend_118 hl (by decide) rfl (fun ls hl => ?_)
        refine lv_iinc (v := x7 + 1) (lv' := [(7, .int (x7 + 1)), (6, .int (x6 + 0)), (0, .ref x0), (1, .int x1)]) hx hb d_M_pend_120 hl (k := 3) rfl rfl (by decide) rfl (fun ls hl => ?_)
        refine lv_goto (tgt := 88) hx hb d_M_pend_123 (by decide) ?_
        exact ih _ _ _ _ _ _ hf _ _ _ _ _ hs (lv_sub hl [2, 3, 1, 0] rfl)
      · have hf := ifn q13 hf
        refine lv_iconst (v := 1) hx hb d_M_pend_112 (by decide) ?_
        refine lv_goto (tgt := 117) hx hb d_M_pend_113 (by decide) ?_
        refine lv_iadd hx hb d_M_pend_117 ?_
        refine lv_istore (lv' := [(6, .int (x6 + 1)), (0, .ref x0), (1, .int x1), (7, .int x7)]) hx hb d_M_pend_118 hl (by decide) rfl (fun ls hl => ?_)
        refine lv_iinc (v := x7 + 1) (lv' := [(7, .int (x7 + 1)), (6, .int (x6 + 1)), (0, .ref x0), (1, .int x1)]) hx hb d_M_pend_120 hl (k := 3) rfl rfl (by decide) rfl (fun ls hl => ?_)
        refine lv_goto (tgt := 88) hx hb d_M_pend_123 (by decide) ?_
        exact ih _ _ _ _ _ _ hf _ _ _ _ _ hs (lv_sub hl [2, 3, 1, 0] rfl)
def f_M_pend_B52 (bs : Nat) (sE : Nat × Nat) (h : HH) (z : Z3) (x0 : Nat) (x1 : Int32) (x3 : Int32) (x4 : Int32) (x5 : Int32) (w0 : Int32) (w1 : Nat) : Option RS :=
  (pV bs h w1 6 0 (.inl w0)).bind fun h5 =>
  (gI h5 x0 6 0).bind fun v6 =>
  if v6 ≤ 0 then
    ((gR h5 x0 6 15).bind fun v8 =>
    (aIs bs h5 v8 0 (((8 * x1) + (4 * x3)) + x4) x5).bind fun h9 =>
    f_M_pend_L88 bs sE FU h9 z x0 x1 0 0)
  else
    (some (.inl (some (.int 0)), h5, z))
set_option maxHeartbeats 4000000 in
set_option maxRecDepth 100000 in
theorem t_M_pend_B52 {G : EN} {p : Program} {l : Launch} {e : Env} {s : State} {m : MethodId} {args : Array Value} {below : List Frame} {meth : Method} {c : Code} {z0 : Z3} (hl0 : l.stackTraces = false) (C : CX G p l s m meth c b_M_pend 8 y_M_pend.cls) (hr : meth.sig.returnType = (some .int)) (hex : c.exceptionTable.toList = []) {r : RS} :
    ∀ (h : HH) (z : Z3) (x0 : Nat) (x1 : Int32) (x3 : Int32) (x4 : Int32) (x5 : Int32) (w0 : Int32) (w1 : Nat), f_M_pend_B52 G.2.2.1 G.2.2.2 h z x0 x1 x3 x4 x5 w0 w1 = some r → ∀ (H : Heap) (locs : List Loc) (cells slots : Nat) (ls : Array Slot), ST G (RM 1 23 z0) s h z H locs cells slots → lv_has ls 8 [(0, .ref x0), (1, .int x1), (3, .int x3), (4, .int x4), (5, .int x5)] → W p l e (RM 1 23 z0) s m args below meth c H locs cells slots (MX G below s r (RM 1 23 z0).cells (RM 1 23 z0).slots) (F0 m 52 ls [.int w0, .ref w1]) := by
  have hx := C.1
  have hb := C.2.1
  intro h z x0 x1 x3 x4 x5 w0 w1 hf H locs cells slots ls hs hl
  unfold f_M_pend_B52 at hf
  refine r_putV (v := (.inl w0)) C hs flp_M_71 rfl rfl d_M_pend_52 hf (fun h5 H locs hf hs => ?_)
  refine lv_aload_n hx hb d_M_pend_55 rfl (lv_at hl 0 rfl) ?_
  refine r_getI C hs fl_M_71 d_M_pend_56 hf (fun v6 hf => ?_)
  refine lv_if_le (tgt := 64) hx hb d_M_pend_59 (by decide) (fun q7 => ?_) (fun q7 => ?_)
  · have hf := ifp q7 hf
    refine lv_aload_n hx hb d_M_pend_64 rfl (lv_at hl 0 rfl) ?_
    refine r_getR C hs fl_M_52 d_M_pend_65 hf (fun v8 hf => ?_)
    refine lv_bipush (v := 8) hx hb d_M_pend_68 (by decide) ?_
    refine lv_iload_n hx hb d_M_pend_70 rfl (lv_at hl 1 rfl) ?_
    refine lv_imul hx hb d_M_pend_71 ?_
    refine lv_iconst (v := 4) hx hb d_M_pend_72 (by decide) ?_
    refine lv_iload_n hx hb d_M_pend_73 rfl (lv_at hl 2 rfl) ?_
    refine lv_imul hx hb d_M_pend_74 ?_
    refine lv_iadd hx hb d_M_pend_75 ?_
    refine lv_iload hx hb d_M_pend_76 (lv_at hl 3 rfl) ?_
    refine lv_iadd hx hb d_M_pend_78 ?_
    refine lv_iload hx hb d_M_pend_79 (lv_at hl 4 rfl) ?_
    refine r_iast C hs d_M_pend_81 hf (fun h9 H locs hf hs => ?_)
    refine lv_iconst (v := 0) hx hb d_M_pend_82 (by decide) ?_
    refine lv_istore (lv' := [(6, .int 0), (0, .ref x0), (1, .int x1), (3, .int x3), (4, .int x4), (5, .int x5)]) hx hb d_M_pend_83 hl (by decide) rfl (fun ls hl => ?_)
    refine lv_iconst (v := 0) hx hb d_M_pend_85 (by decide) ?_
    refine lv_istore (lv' := [(7, .int 0), (6, .int 0), (0, .ref x0), (1, .int x1), (3, .int x3), (4, .int x4), (5, .int x5)]) hx hb d_M_pend_86 hl (by decide) rfl (fun ls hl => ?_)
    exact t_M_pend_L88 hl0 C hr hex FU _ _ _ _ _ _ hf _ _ _ _ _ hs (lv_sub hl [2, 3, 1, 0] rfl)
  · have hf := ifn q7 hf
    refine lv_iconst (v := 0) hx hb d_M_pend_62 (by decide) ?_
    exact r_ireturn C hs hr d_M_pend_63 hf
def f_M_pend_B41 (bs : Nat) (sE : Nat × Nat) (h : HH) (z : Z3) (x0 : Nat) (x1 : Int32) (x3 : Int32) (x4 : Int32) (x5 : Int32) (w0 : Nat) : Option RS :=
  f_M_pend_B52 bs sE h z x0 x1 x3 x4 x5 1 w0
set_option maxHeartbeats 4000000 in
set_option maxRecDepth 100000 in
theorem t_M_pend_B41 {G : EN} {p : Program} {l : Launch} {e : Env} {s : State} {m : MethodId} {args : Array Value} {below : List Frame} {meth : Method} {c : Code} {z0 : Z3} (hl0 : l.stackTraces = false) (C : CX G p l s m meth c b_M_pend 8 y_M_pend.cls) (hr : meth.sig.returnType = (some .int)) (hex : c.exceptionTable.toList = []) {r : RS} :
    ∀ (h : HH) (z : Z3) (x0 : Nat) (x1 : Int32) (x3 : Int32) (x4 : Int32) (x5 : Int32) (w0 : Nat), f_M_pend_B41 G.2.2.1 G.2.2.2 h z x0 x1 x3 x4 x5 w0 = some r → ∀ (H : Heap) (locs : List Loc) (cells slots : Nat) (ls : Array Slot), ST G (RM 1 23 z0) s h z H locs cells slots → lv_has ls 8 [(0, .ref x0), (1, .int x1), (3, .int x3), (4, .int x4), (5, .int x5)] → W p l e (RM 1 23 z0) s m args below meth c H locs cells slots (MX G below s r (RM 1 23 z0).cells (RM 1 23 z0).slots) (F0 m 41 ls [.ref w0]) := by
  have hx := C.1
  have hb := C.2.1
  intro h z x0 x1 x3 x4 x5 w0 hf H locs cells slots ls hs hl
  unfold f_M_pend_B41 at hf
  refine lv_iconst (v := 1) hx hb d_M_pend_41 (by decide) ?_
  refine lv_goto (tgt := 52) hx hb d_M_pend_42 (by decide) ?_
  exact t_M_pend_B52 hl0 C hr hex _ _ _ _ _ _ _ _ _ hf _ _ _ _ _ hs (lv_sub hl [0, 1, 2, 3, 4] rfl)
def f_M_pend (bs : Nat) (sE : Nat × Nat) (h : HH) (z : Z3) (x0 : Nat) (x1 : Int32) (x2 : Int32) (x3 : Int32) (x4 : Int32) (x5 : Int32) : Option RS :=
  (oK h x0 6).bind fun _ =>
  cI (f_M_out bs sE h z x0 x1 4) fun v3 h1 z2 =>
  if v3 = 0 then
    ((oK h1 x0 6).bind fun _ =>
    cI (f_M_out bs sE h1 z2 x0 x3 2) fun v16 h14 z15 =>
    if v16 = 0 then
      ((oK h14 x0 6).bind fun _ =>
      cI (f_M_out bs sE h14 z15 x0 x4 4) fun v20 h18 z19 =>
      if v20 = 0 then
        ((oK h18 x0 6).bind fun _ =>
        cI (f_M_out bs sE h18 z19 x0 x5 601) fun v24 h22 z23 =>
        if v24 = 0 then
          ((oK h22 x0 6).bind fun _ =>
          cI (f_M_check bs sE h22 z23 x0 x1 x2 1) fun v28 h26 z27 =>
          f_M_pend_B52 bs sE h26 z27 x0 x1 x3 x4 x5 v28 x0)
        else
          (f_M_pend_B41 bs sE h22 z23 x0 x1 x3 x4 x5 x0))
      else
        (f_M_pend_B41 bs sE h18 z19 x0 x1 x3 x4 x5 x0))
    else
      (f_M_pend_B41 bs sE h14 z15 x0 x1 x3 x4 x5 x0))
  else
    (f_M_pend_B41 bs sE h1 z2 x0 x1 x3 x4 x5 x0)
set_option maxHeartbeats 4000000 in
set_option maxRecDepth 100000 in
theorem c_M_pend {G : EN} {l : Launch} (hl0 : l.stackTraces = false) {h : HH} {z : Z3} {x0 : Nat} {x1 : Int32} {x2 : Int32} {x3 : Int32} {x4 : Int32} {x5 : Int32} {r : RS} (hf : f_M_pend G.2.2.1 G.2.2.2 h z x0 x1 x2 x3 x4 x5 = some r) : CM G l y_M_pend (.code y_M_pend b_M_pend 8 (some .int)) 1 23 [.ref x0, .int x1, .int x2, .int x3, .int x4, .int x5] h z r := by
  refine CM.ofW hl0 rfl ?_
  intro p e s m below meth c C hr hex hin hs
  have hx := C.1
  have hb := C.2.1
  refine x_entry (n := 8) (Nat.le_of_ble_eq_true rfl) (fun ls hl => ?_)
  have hl : lv_has ls 8 [(0, .ref x0), (1, .int x1), (2, .int x2), (3, .int x3), (4, .int x4), (5, .int x5)] := hl
  unfold f_M_pend at hf
  refine lv_aload_n hx hb d_M_pend_0 rfl (lv_at hl 0 rfl) ?_
  refine lv_aload_n hx hb d_M_pend_1 rfl (lv_at hl 0 rfl) ?_
  refine lv_iload_n hx hb d_M_pend_2 rfl (lv_at hl 1 rfl) ?_
  refine lv_iconst (v := 4) hx hb d_M_pend_3 (by decide) ?_
  obtain ⟨_, ho, hf⟩ := bd hf
  refine k_I C hs hex hf (fun res e1 => iv_V (b := x0) (As := [.int x1, .int 4]) (rest := [.ref x0]) C hs cv_M_83 (c_M_out hl0 e1) (ci := 6) rfl rfl ho rfl hl.1 rfl (Nat.le_of_ble_eq_true rfl) d_M_pend_4 ⟨Nat.le_of_ble_eq_true rfl, Nat.le_of_ble_eq_true rfl⟩) (fun v3 h1 z2 H locs cells slots hf hs => ?_)
  refine lv_if_ne (tgt := 41) hx hb d_M_pend_7 (by decide) (fun q4 => ?_) (fun q4 => ?_)
  · have hf := ifn q4 hf
    exact t_M_pend_B41 hl0 C hr hex _ _ _ _ _ _ _ _ hf _ _ _ _ _ hs (lv_sub hl [0, 1, 3, 4, 5] rfl)
  · have hf := ifp q4 hf
    refine lv_aload_n hx hb d_M_pend_10 rfl (lv_at hl 0 rfl) ?_
    refine lv_iload_n hx hb d_M_pend_11 rfl (lv_at hl 3 rfl) ?_
    refine lv_iconst (v := 2) hx hb d_M_pend_12 (by decide) ?_
    obtain ⟨_, ho, hf⟩ := bd hf
    refine k_I C hs hex hf (fun res e1 => iv_V (b := x0) (As := [.int x3, .int 2]) (rest := [.ref x0]) C hs cv_M_83 (c_M_out hl0 e1) (ci := 6) rfl rfl ho rfl hl.1 rfl (Nat.le_of_ble_eq_true rfl) d_M_pend_13 ⟨Nat.le_of_ble_eq_true rfl, Nat.le_of_ble_eq_true rfl⟩) (fun v16 h14 z15 H locs cells slots hf hs => ?_)
    refine lv_if_ne (tgt := 41) hx hb d_M_pend_16 (by decide) (fun q17 => ?_) (fun q17 => ?_)
    · have hf := ifn q17 hf
      exact t_M_pend_B41 hl0 C hr hex _ _ _ _ _ _ _ _ hf _ _ _ _ _ hs (lv_sub hl [0, 1, 3, 4, 5] rfl)
    · have hf := ifp q17 hf
      refine lv_aload_n hx hb d_M_pend_19 rfl (lv_at hl 0 rfl) ?_
      refine lv_iload hx hb d_M_pend_20 (lv_at hl 4 rfl) ?_
      refine lv_iconst (v := 4) hx hb d_M_pend_22 (by decide) ?_
      obtain ⟨_, ho, hf⟩ := bd hf
      refine k_I C hs hex hf (fun res e1 => iv_V (b := x0) (As := [.int x4, .int 4]) (rest := [.ref x0]) C hs cv_M_83 (c_M_out hl0 e1) (ci := 6) rfl rfl ho rfl hl.1 rfl (Nat.le_of_ble_eq_true rfl) d_M_pend_23 ⟨Nat.le_of_ble_eq_true rfl, Nat.le_of_ble_eq_true rfl⟩) (fun v20 h18 z19 H locs cells slots hf hs => ?_)
      refine lv_if_ne (tgt := 41) hx hb d_M_pend_26 (by decide) (fun q21 => ?_) (fun q21 => ?_)
      · have hf := ifn q21 hf
        exact t_M_pend_B41 hl0 C hr hex _ _ _ _ _ _ _ _ hf _ _ _ _ _ hs (lv_sub hl [0, 1, 3, 4, 5] rfl)
      · have hf := ifp q21 hf
        refine lv_aload_n hx hb d_M_pend_29 rfl (lv_at hl 0 rfl) ?_
        refine lv_iload hx hb d_M_pend_30 (lv_at hl 5 rfl) ?_
        refine lv_sipush (v := 601) hx hb d_M_pend_32 (by decide) ?_
        obtain ⟨_, ho, hf⟩ := bd hf
        refine k_I C hs hex hf (fun res e1 => iv_V (b := x0) (As := [.int x5, .int 601]) (rest := [.ref x0]) C hs cv_M_83 (c_M_out hl0 e1) (ci := 6) rfl rfl ho rfl hl.1 rfl (Nat.le_of_ble_eq_true rfl) d_M_pend_35 ⟨Nat.le_of_ble_eq_true rfl, Nat.le_of_ble_eq_true rfl⟩) (fun v24 h22 z23 H locs cells slots hf hs => ?_)
        refine lv_if_eq (tgt := 45) hx hb d_M_pend_38 (by decide) (fun q25 => ?_) (fun q25 => ?_)
        · have hf := ifp q25 hf
          refine lv_aload_n hx hb d_M_pend_45 rfl (lv_at hl 0 rfl) ?_
          refine lv_iload_n hx hb d_M_pend_46 rfl (lv_at hl 1 rfl) ?_
          refine lv_iload_n hx hb d_M_pend_47 rfl (lv_at hl 2 rfl) ?_
          refine lv_iconst (v := 1) hx hb d_M_pend_48 (by decide) ?_
          obtain ⟨_, ho, hf⟩ := bd hf
          refine k_I C hs hex hf (fun res e1 => iv_V (b := x0) (As := [.int x1, .int x2, .int 1]) (rest := [.ref x0]) C hs cv_M_94 (c_M_check hl0 e1) (ci := 6) rfl rfl ho rfl hl.1 rfl (Nat.le_of_ble_eq_true rfl) d_M_pend_49 ⟨Nat.le_of_ble_eq_true rfl, Nat.le_of_ble_eq_true rfl⟩) (fun v28 h26 z27 H locs cells slots hf hs => ?_)
          exact t_M_pend_B52 hl0 C hr hex _ _ _ _ _ _ _ _ _ hf _ _ _ _ _ hs (lv_sub hl [0, 1, 3, 4, 5] rfl)
        · have hf := ifn q25 hf
          exact t_M_pend_B41 hl0 C hr hex _ _ _ _ _ _ _ _ hf _ _ _ _ _ hs (lv_sub hl [0, 1, 3, 4, 5] rfl)
def fb_M_ones_L4 (bs : Nat) (sE : Nat × Nat) (REC : HH → Z3 → Int32 → Int32 → Int32 → Option RS) (h : HH) (z : Z3) (x1 : Int32) (x2 : Int32) (x3 : Int32) : Option RS :=
  if 4 ≤ x3 then
    (some (.inl (some (.int x2)), h, z))
  else
    (REC h z x1 (x2 + ((x1 >>> (x3 &&& 31)) &&& 1)) (x3 + 1))
def f_M_ones_L4 (bs : Nat) (sE : Nat × Nat) : Nat → HH → Z3 → Int32 → Int32 → Int32 → Option RS
  | 0 => fun _ _ _ _ _ => none
  | n + 1 => fb_M_ones_L4 bs sE (f_M_ones_L4 bs sE n)
set_option maxHeartbeats 4000000 in
set_option maxRecDepth 100000 in
theorem t_M_ones_L4 {G : EN} {p : Program} {l : Launch} {e : Env} {s : State} {m : MethodId} {args : Array Value} {below : List Frame} {meth : Method} {c : Code} {z0 : Z3} (hl0 : l.stackTraces = false) (C : CX G p l s m meth c b_M_ones 4 y_M_ones.cls) (hr : meth.sig.returnType = (some .int)) (hex : c.exceptionTable.toList = []) {r : RS} :
    ∀ (n : Nat) (h : HH) (z : Z3) (x1 : Int32) (x2 : Int32) (x3 : Int32), f_M_ones_L4 G.2.2.1 G.2.2.2 n h z x1 x2 x3 = some r → ∀ (H : Heap) (locs : List Loc) (cells slots : Nat) (ls : Array Slot), ST G (RM 0 0 z0) s h z H locs cells slots → lv_has ls 4 [(1, .int x1), (2, .int x2), (3, .int x3)] → W p l e (RM 0 0 z0) s m args below meth c H locs cells slots (MX G below s r (RM 0 0 z0).cells (RM 0 0 z0).slots) (F0 m 4 ls []) := by
  have hx := C.1
  have hb := C.2.1
  intro n
  induction n with
  | zero => intro h z x1 x2 x3 hf; exact nomatch (show (none : Option RS) = some r from hf)
  | succ n ih =>
    intro h z x1 x2 x3 hf H locs cells slots ls hs hl
    have hf : fb_M_ones_L4 G.2.2.1 G.2.2.2 (f_M_ones_L4 G.2.2.1 G.2.2.2 n) h z x1 x2 x3 = some r := hf
    unfold fb_M_ones_L4 at hf
    refine lv_iload_n hx hb d_M_ones_4 rfl (lv_at hl 2 rfl) ?_
    refine lv_iconst (v := 4) hx hb d_M_ones_5 (by decide) ?_
    refine lv_icmp_ge (tgt := 23) hx hb d_M_ones_6 (by decide) (fun q1 => ?_) (fun q1 => ?_)
    · have hf := ifp q1 hf
      refine lv_iload_n hx hb d_M_ones_23 rfl (lv_at hl 1 rfl) ?_
      exact r_ireturn C hs hr d_M_ones_24 hf
    · have hf := ifn q1 hf
      refine lv_iload_n hx hb d_M_ones_9 rfl (lv_at hl 1 rfl) ?_
      refine lv_iload_n hx hb d_M_ones_10 rfl (lv_at hl 0 rfl) ?_
      refine lv_iload_n hx hb d_M_ones_11 rfl (lv_at hl 2 rfl) ?_
      refine lv_ishr hx hb d_M_ones_12 ?_
      refine lv_iconst (v := 1) hx hb d_M_ones_13 (by decide) ?_
      refine lv_iand hx hb d_M_ones_14 ?_
      refine lv_iadd hx hb d_M_ones_15 ?_
      refine lv_istore_n (lv' := [(2, .int (x2 + ((x1 >>> (x3 &&& 31)) &&& 1))), (1, .int x1), (3, .int x3)]) hx hb d_M_ones_16 rfl hl (by decide) rfl (fun ls hl => ?_)
      refine lv_iinc (v := x3 + 1) (lv' := [(3, .int (x3 + 1)), (2, .int (x2 + ((x1 >>> (x3 &&& 31)) &&& 1))), (1, .int x1)]) hx hb d_M_ones_17 hl (k := 2) rfl rfl (by decide) rfl (fun ls hl => ?_)
      refine lv_goto (tgt := 4) hx hb d_M_ones_20 (by decide) ?_
      exact ih _ _ _ _ _ hf _ _ _ _ _ hs (lv_sub hl [2, 1, 0] rfl)
def f_M_ones (bs : Nat) (sE : Nat × Nat) (h : HH) (z : Z3) (x0 : Nat) (x1 : Int32) : Option RS :=
  f_M_ones_L4 bs sE FU h z x1 0 0
set_option maxHeartbeats 4000000 in
set_option maxRecDepth 100000 in
theorem c_M_ones {G : EN} {l : Launch} (hl0 : l.stackTraces = false) {h : HH} {z : Z3} {x0 : Nat} {x1 : Int32} {r : RS} (hf : f_M_ones G.2.2.1 G.2.2.2 h z x0 x1 = some r) : CM G l y_M_ones (.code y_M_ones b_M_ones 4 (some .int)) 0 0 [.ref x0, .int x1] h z r := by
  refine CM.ofW hl0 rfl ?_
  intro p e s m below meth c C hr hex hin hs
  have hx := C.1
  have hb := C.2.1
  refine x_entry (n := 4) (Nat.le_of_ble_eq_true rfl) (fun ls hl => ?_)
  have hl : lv_has ls 4 [(0, .ref x0), (1, .int x1)] := hl
  unfold f_M_ones at hf
  refine lv_iconst (v := 0) hx hb d_M_ones_0 (by decide) ?_
  refine lv_istore_n (lv' := [(2, .int 0), (0, .ref x0), (1, .int x1)]) hx hb d_M_ones_1 rfl hl (by decide) rfl (fun ls hl => ?_)
  refine lv_iconst (v := 0) hx hb d_M_ones_2 (by decide) ?_
  refine lv_istore_n (lv' := [(3, .int 0), (2, .int 0), (0, .ref x0), (1, .int x1)]) hx hb d_M_ones_3 rfl hl (by decide) rfl (fun ls hl => ?_)
  exact t_M_ones_L4 hl0 C hr hex FU _ _ _ _ _ hf _ _ _ _ _ hs (lv_sub hl [3, 1, 0] rfl)
def fb_M_finish_L51 (bs : Nat) (sE : Nat × Nat) (K117 : HH → Z3 → Nat → Int32 → Int32 → Int32 → Option RS) (K105 : HH → Z3 → Nat → Option RS) (REC : HH → Z3 → Nat → Int32 → Int32 → Int32 → Int32 → Option RS) (h : HH) (z : Z3) (x0 : Nat) (x1 : Int32) (x3 : Int32) (x4 : Int32) (x5 : Int32) : Option RS :=
  if x3 = 0 then
    (K117 h z x0 x1 x3 x4)
  else
    ((gR h x0 6 7).bind fun v29 =>
    (aI h v29 0 x4).bind fun v30 =>
    if v30 ≤ x5 then
      (K117 h z x0 x1 x3 x4)
    else
      ((gR h x0 6 1).bind fun v32 =>
      (aI h v32 0 ((520 * x4) + x5)).bind fun v33 =>
      if v33 = 1 then
        ((gR h x0 6 6).bind fun v35 =>
        (aI h v35 0 ((520 * x4) + x5)).bind fun v36 =>
        (gR h x0 6 12).bind fun v37 =>
        (aI h v37 0 x1).bind fun v38 =>
        if v36 = v38 then
          (K105 h z x0)
        else
          (REC h z x0 x1 x3 x4 (x5 + 1)))
      else
        (REC h z x0 x1 x3 x4 (x5 + 1))))
def f_M_finish_L51 (bs : Nat) (sE : Nat × Nat) (K117 : HH → Z3 → Nat → Int32 → Int32 → Int32 → Option RS) (K105 : HH → Z3 → Nat → Option RS) : Nat → HH → Z3 → Nat → Int32 → Int32 → Int32 → Int32 → Option RS
  | 0 => fun _ _ _ _ _ _ _ => none
  | n + 1 => fb_M_finish_L51 bs sE K117 K105 (f_M_finish_L51 bs sE K117 K105 n)
set_option maxHeartbeats 4000000 in
set_option maxRecDepth 100000 in
theorem t_M_finish_L51 {G : EN} {p : Program} {l : Launch} {e : Env} {s : State} {m : MethodId} {args : Array Value} {below : List Frame} {meth : Method} {c : Code} {z0 : Z3} (hl0 : l.stackTraces = false) (C : CX G p l s m meth c b_M_finish 7 y_M_finish.cls) (hr : meth.sig.returnType = (some .int)) (hex : c.exceptionTable.toList = []) {r : RS} {K117 : HH → Z3 → Nat → Int32 → Int32 → Int32 → Option RS} {K105 : HH → Z3 → Nat → Option RS}
    (hK117 : ∀ (h : HH) (z : Z3) (y0 : Nat) (y1 : Int32) (y2 : Int32) (y3 : Int32), K117 h z y0 y1 y2 y3 = some r → ∀ (H : Heap) (locs : List Loc) (cells slots : Nat) (ls : Array Slot), ST G (RM 1 23 z0) s h z H locs cells slots → lv_has ls 7 [(0, .ref y0), (1, .int y1), (3, .int y2), (4, .int y3)] → W p l e (RM 1 23 z0) s m args below meth c H locs cells slots (MX G below s r (RM 1 23 z0).cells (RM 1 23 z0).slots) (F0 m 117 ls []))
    (hK105 : ∀ (h : HH) (z : Z3) (y0 : Nat), K105 h z y0 = some r → ∀ (H : Heap) (locs : List Loc) (cells slots : Nat) (ls : Array Slot), ST G (RM 1 23 z0) s h z H locs cells slots → lv_has ls 7 [(0, .ref y0)] → W p l e (RM 1 23 z0) s m args below meth c H locs cells slots (MX G below s r (RM 1 23 z0).cells (RM 1 23 z0).slots) (F0 m 105 ls [])) :
    ∀ (n : Nat) (h : HH) (z : Z3) (x0 : Nat) (x1 : Int32) (x3 : Int32) (x4 : Int32) (x5 : Int32), f_M_finish_L51 G.2.2.1 G.2.2.2 K117 K105 n h z x0 x1 x3 x4 x5 = some r → ∀ (H : Heap) (locs : List Loc) (cells slots : Nat) (ls : Array Slot), ST G (RM 1 23 z0) s h z H locs cells slots → lv_has ls 7 [(0, .ref x0), (1, .int x1), (3, .int x3), (4, .int x4), (5, .int x5)] → W p l e (RM 1 23 z0) s m args below meth c H locs cells slots (MX G below s r (RM 1 23 z0).cells (RM 1 23 z0).slots) (F0 m 51 ls []) := by
  have hx := C.1
  have hb := C.2.1
  intro n
  induction n with
  | zero => intro h z x0 x1 x3 x4 x5 hf; exact nomatch (show (none : Option RS) = some r from hf)
  | succ n ih =>
    intro h z x0 x1 x3 x4 x5 hf H locs cells slots ls hs hl
    have hf : fb_M_finish_L51 G.2.2.1 G.2.2.2 K117 K105 (f_M_finish_L51 G.2.2.1 G.2.2.2 K117 K105 n) h z x0 x1 x3 x4 x5 = some r := hf
    unfold fb_M_finish_L51 at hf
    refine lv_iload_n hx hb d_M_finish_51 rfl (lv_at hl 2 rfl) ?_
    refine lv_if_eq (tgt := 117) hx hb d_M_finish_52 (by decide) (fun q28 => ?_) (fun q28 => ?_)
    · have hf := ifp q28 hf
      exact hK117 _ _ _ _ _ _ hf _ _ _ _ _ hs (lv_sub hl [0, 1, 2, 3] rfl)
    · have hf := ifn q28 hf
      refine lv_iload hx hb d_M_finish_55 (lv_at hl 4 rfl) ?_
      refine lv_aload_n hx hb d_M_finish_57 rfl (lv_at hl 0 rfl) ?_
      refine r_getR C hs fl_M_28 d_M_finish_58 hf (fun v29 hf => ?_)
      refine lv_iload hx hb d_M_finish_61 (lv_at hl 3 rfl) ?_
      refine r_iald C hs d_M_finish_63 hf (fun v30 hf => ?_)
      refine lv_icmp_ge (tgt := 117) hx hb d_M_finish_64 (by decide) (fun q31 => ?_) (fun q31 => ?_)
      · have hf := ifp q31 hf
        exact hK117 _ _ _ _ _ _ hf _ _ _ _ _ hs (lv_sub hl [0, 1, 2, 3] rfl)
      · have hf := ifn q31 hf
        refine lv_sipush (v := 520) hx hb d_M_finish_67 (by decide) ?_
        refine lv_iload hx hb d_M_finish_70 (lv_at hl 3 rfl) ?_
        refine lv_imul hx hb d_M_finish_72 ?_
        refine lv_iload hx hb d_M_finish_73 (lv_at hl 4 rfl) ?_
        refine lv_iadd hx hb d_M_finish_75 ?_
        refine lv_istore (lv' := [(6, .int ((520 * x4) + x5)), (0, .ref x0), (1, .int x1), (3, .int x3), (4, .int x4), (5, .int x5)]) hx hb d_M_finish_76 hl (by decide) rfl (fun ls hl => ?_)
        refine lv_aload_n hx hb d_M_finish_78 rfl (lv_at hl 1 rfl) ?_
        refine r_getR C hs fl_M_7 d_M_finish_79 hf (fun v32 hf => ?_)
        refine lv_iload hx hb d_M_finish_82 (lv_at hl 0 rfl) ?_
        refine r_iald C hs d_M_finish_84 hf (fun v33 hf => ?_)
        refine lv_iconst (v := 1) hx hb d_M_finish_85 (by decide) ?_
        refine lv_icmp_ne (tgt := 111) hx hb d_M_finish_86 (by decide) (fun q34 => ?_) (fun q34 => ?_)
        · have hf := ifn q34 hf
          refine lv_iinc (v := x5 + 1) (lv' := [(5, .int (x5 + 1)), (6, .int ((520 * x4) + x5)), (0, .ref x0), (1, .int x1), (3, .int x3), (4, .int x4)]) hx hb d_M_finish_111 hl (k := 5) rfl rfl (by decide) rfl (fun ls hl => ?_)
          refine lv_goto (tgt := 51) hx hb d_M_finish_114 (by decide) ?_
          exact ih _ _ _ _ _ _ _ hf _ _ _ _ _ hs (lv_sub hl [2, 3, 4, 5, 0] rfl)
        · have hf := ifp q34 hf
          refine lv_aload_n hx hb d_M_finish_89 rfl (lv_at hl 1 rfl) ?_
          refine r_getR C hs fl_M_25 d_M_finish_90 hf (fun v35 hf => ?_)
          refine lv_iload hx hb d_M_finish_93 (lv_at hl 0 rfl) ?_
          refine r_iald C hs d_M_finish_95 hf (fun v36 hf => ?_)
          refine lv_aload_n hx hb d_M_finish_96 rfl (lv_at hl 1 rfl) ?_
          refine r_getR C hs fl_M_43 d_M_finish_97 hf (fun v37 hf => ?_)
          refine lv_iload_n hx hb d_M_finish_100 rfl (lv_at hl 2 rfl) ?_
          refine r_iald C hs d_M_finish_101 hf (fun v38 hf => ?_)
          refine lv_icmp_ne (tgt := 111) hx hb d_M_finish_102 (by decide) (fun q39 => ?_) (fun q39 => ?_)
          · have hf := ifn q39 hf
            refine lv_iinc (v := x5 + 1) (lv' := [(5, .int (x5 + 1)), (6, .int ((520 * x4) + x5)), (0, .ref x0), (1, .int x1), (3, .int x3), (4, .int x4)]) hx hb d_M_finish_111 hl (k := 5) rfl rfl (by decide) rfl (fun ls hl => ?_)
            refine lv_goto (tgt := 51) hx hb d_M_finish_114 (by decide) ?_
            exact ih _ _ _ _ _ _ _ hf _ _ _ _ _ hs (lv_sub hl [2, 3, 4, 5, 0] rfl)
          · have hf := ifp q39 hf
            exact hK105 _ _ _ hf _ _ _ _ _ hs (lv_sub hl [1] rfl)
def fb_M_finish_L36 (bs : Nat) (sE : Nat × Nat) (REC : HH → Z3 → Nat → Int32 → Int32 → Int32 → Option RS) (h : HH) (z : Z3) (x0 : Nat) (x1 : Int32) (x3 : Int32) (x4 : Int32) : Option RS :=
  if 4 ≤ x4 then
    ((gR h x0 6 10).bind fun v12 =>
    if x3 = 0 then
      ((aIs bs h v12 0 x1 3).bind fun h14 =>
      (gR h14 x0 6 13).bind fun v15 =>
      (aI h14 v15 0 x1).bind fun v16 =>
      (oK h14 x0 6).bind fun _ =>
      cI (f_M_ones bs sE h14 z x0 v16) fun v19 h17 z18 =>
      some (.inl (some (.int v19)), h17, z18))
    else
      ((aIs bs h v12 0 x1 2).bind fun h20 =>
      (gR h20 x0 6 13).bind fun v21 =>
      (aI h20 v21 0 x1).bind fun v22 =>
      (oK h20 x0 6).bind fun _ =>
      cI (f_M_ones bs sE h20 z x0 v22) fun v25 h23 z24 =>
      some (.inl (some (.int v25)), h23, z24)))
  else
    ((gR h x0 6 9).bind fun v26 =>
    (aI h v26 0 x4).bind fun v27 =>
    f_M_finish_L51 bs sE (fun h40 z41 x0_117 x1_117 x3_117 x4_117 =>
      REC h40 z41 x0_117 x1_117 x3_117 (x4_117 + 1)) (fun h42 z43 x0_105 =>
      (oK h42 x0_105 6).bind fun _ =>
      cI (f_M_fail bs sE h42 z43 x0_105 4) fun v46 h44 z45 =>
      some (.inl (some (.int v46)), h44, z45)) FU h z x0 x1 x3 x4 v27)
def f_M_finish_L36 (bs : Nat) (sE : Nat × Nat) : Nat → HH → Z3 → Nat → Int32 → Int32 → Int32 → Option RS
  | 0 => fun _ _ _ _ _ _ => none
  | n + 1 => fb_M_finish_L36 bs sE (f_M_finish_L36 bs sE n)
set_option maxHeartbeats 4000000 in
set_option maxRecDepth 100000 in
theorem t_M_finish_L36 {G : EN} {p : Program} {l : Launch} {e : Env} {s : State} {m : MethodId} {args : Array Value} {below : List Frame} {meth : Method} {c : Code} {z0 : Z3} (hl0 : l.stackTraces = false) (C : CX G p l s m meth c b_M_finish 7 y_M_finish.cls) (hr : meth.sig.returnType = (some .int)) (hex : c.exceptionTable.toList = []) {r : RS} :
    ∀ (n : Nat) (h : HH) (z : Z3) (x0 : Nat) (x1 : Int32) (x3 : Int32) (x4 : Int32), f_M_finish_L36 G.2.2.1 G.2.2.2 n h z x0 x1 x3 x4 = some r → ∀ (H : Heap) (locs : List Loc) (cells slots : Nat) (ls : Array Slot), ST G (RM 1 23 z0) s h z H locs cells slots → lv_has ls 7 [(0, .ref x0), (1, .int x1), (3, .int x3), (4, .int x4)] → W p l e (RM 1 23 z0) s m args below meth c H locs cells slots (MX G below s r (RM 1 23 z0).cells (RM 1 23 z0).slots) (F0 m 36 ls []) := by
  have hx := C.1
  have hb := C.2.1
  intro n
  induction n with
  | zero => intro h z x0 x1 x3 x4 hf; exact nomatch (show (none : Option RS) = some r from hf)
  | succ n ih =>
    intro h z x0 x1 x3 x4 hf H locs cells slots ls hs hl
    have hf : fb_M_finish_L36 G.2.2.1 G.2.2.2 (f_M_finish_L36 G.2.2.1 G.2.2.2 n) h z x0 x1 x3 x4 = some r := hf
    unfold fb_M_finish_L36 at hf
    refine lv_iload hx hb d_M_finish_36 (lv_at hl 3 rfl) ?_
    refine lv_iconst (v := 4) hx hb d_M_finish_38 (by decide) ?_
    refine lv_icmp_ge (tgt := 123) hx hb d_M_finish_39 (by decide) (fun q11 => ?_) (fun q11 => ?_)
    · have hf := ifp q11 hf
      refine lv_aload_n hx hb d_M_finish_123 rfl (lv_at hl 0 rfl) ?_
      refine r_getR C hs fl_M_37 d_M_finish_124 hf (fun v12 hf => ?_)
      refine lv_iload_n hx hb d_M_finish_127 rfl (lv_at hl 1 rfl) ?_
      refine lv_iload_n hx hb d_M_finish_128 rfl (lv_at hl 2 rfl) ?_
      refine lv_if_eq (tgt := 136) hx hb d_M_finish_129 (by decide) (fun q13 => ?_) (fun q13 => ?_)
      · have hf := ifp q13 hf
        refine lv_iconst (v := 3) hx hb d_M_finish_136 (by decide) ?_
        refine r_iast C hs d_M_finish_137 hf (fun h14 H locs hf hs => ?_)
        refine lv_aload_n hx hb d_M_finish_138 rfl (lv_at hl 0 rfl) ?_
        refine lv_aload_n hx hb d_M_finish_139 rfl (lv_at hl 0 rfl) ?_
        refine r_getR C hs fl_M_46 d_M_finish_140 hf (fun v15 hf => ?_)
        refine lv_iload_n hx hb d_M_finish_143 rfl (lv_at hl 1 rfl) ?_
        refine r_iald C hs d_M_finish_144 hf (fun v16 hf => ?_)
        obtain ⟨_, ho, hf⟩ := bd hf
        refine k_I C hs hex hf (fun res e1 => iv_V (b := x0) (As := [.int v16]) (rest := []) C hs cv_M_119 (c_M_ones hl0 e1) (ci := 6) rfl rfl ho rfl hl.1 rfl (Nat.le_of_ble_eq_true rfl) d_M_finish_145 ⟨Nat.le_of_ble_eq_true rfl, Nat.le_of_ble_eq_true rfl⟩) (fun v19 h17 z18 H locs cells slots hf hs => ?_)
        exact r_ireturn C hs hr d_M_finish_148 hf
      · have hf := ifn q13 hf
        refine lv_iconst (v := 2) hx hb d_M_finish_132 (by decide) ?_
        refine lv_goto (tgt := 137) hx hb d_M_finish_133 (by decide) ?_
        refine r_iast C hs d_M_finish_137 hf (fun h20 H locs hf hs => ?_)
        refine lv_aload_n hx hb d_M_finish_138 rfl (lv_at hl 0 rfl) ?_
        refine lv_aload_n hx hb d_M_finish_139 rfl (lv_at hl 0 rfl) ?_
        refine r_getR C hs fl_M_46 d_M_finish_140 hf (fun v21 hf => ?_)
        refine lv_iload_n hx hb d_M_finish_143 rfl (lv_at hl 1 rfl) ?_
        refine r_iald C hs d_M_finish_144 hf (fun v22 hf => ?_)
        obtain ⟨_, ho, hf⟩ := bd hf
        refine k_I C hs hex hf (fun res e1 => iv_V (b := x0) (As := [.int v22]) (rest := []) C hs cv_M_119 (c_M_ones hl0 e1) (ci := 6) rfl rfl ho rfl hl.1 rfl (Nat.le_of_ble_eq_true rfl) d_M_finish_145 ⟨Nat.le_of_ble_eq_true rfl, Nat.le_of_ble_eq_true rfl⟩) (fun v25 h23 z24 H locs cells slots hf hs => ?_)
        exact r_ireturn C hs hr d_M_finish_148 hf
    · have hf := ifn q11 hf
      refine lv_aload_n hx hb d_M_finish_42 rfl (lv_at hl 0 rfl) ?_
      refine r_getR C hs fl_M_34 d_M_finish_43 hf (fun v26 hf => ?_)
      refine lv_iload hx hb d_M_finish_46 (lv_at hl 3 rfl) ?_
      refine r_iald C hs d_M_finish_48 hf (fun v27 hf => ?_)
      refine lv_istore (lv' := [(5, .int v27), (0, .ref x0), (1, .int x1), (3, .int x3), (4, .int x4)]) hx hb d_M_finish_49 hl (by decide) rfl (fun ls hl => ?_)
      refine t_M_finish_L51 hl0 C hr hex ?_ ?_ FU _ _ _ _ _ _ _ hf _ _ _ _ _ hs (lv_sub hl [1, 2, 3, 4, 0] rfl)
      · intro h40 z41 x0_117 x1_117 x3_117 x4_117 hf H locs cells slots ls hs hl
        refine lv_iinc (v := x4_117 + 1) (lv' := [(4, .int (x4_117 + 1)), (0, .ref x0_117), (1, .int x1_117), (3, .int x3_117)]) hx hb d_M_finish_117 hl (k := 3) rfl rfl (by decide) rfl (fun ls hl => ?_)
        refine lv_goto (tgt := 36) hx hb d_M_finish_120 (by decide) ?_
        exact ih _ _ _ _ _ _ hf _ _ _ _ _ hs (lv_sub hl [1, 2, 3, 0] rfl)
      · intro h42 z43 x0_105 hf H locs cells slots ls hs hl
        refine lv_aload_n hx hb d_M_finish_105 rfl (lv_at hl 0 rfl) ?_
        refine lv_iconst (v := 4) hx hb d_M_finish_106 (by decide) ?_
        obtain ⟨_, ho, hf⟩ := bd hf
        refine k_I C hs hex hf (fun res e1 => iv_V (b := x0_105) (As := [.int 4]) (rest := []) C hs cv_M_86 (c_M_fail hl0 e1) (ci := 6) rfl rfl ho rfl hl.1 rfl (Nat.le_of_ble_eq_true rfl) d_M_finish_107 ⟨Nat.le_of_ble_eq_true rfl, Nat.le_of_ble_eq_true rfl⟩) (fun v46 h44 z45 H locs cells slots hf hs => ?_)
        exact r_ireturn C hs hr d_M_finish_110 hf
def f_M_finish_B21 (bs : Nat) (sE : Nat × Nat) (h : HH) (z : Z3) (x0 : Nat) (x1 : Int32) (x3 : Int32) (w0 : Int32) (w1 : Nat) : Option RS :=
  (pV bs h w1 6 0 (.inl w0)).bind fun h8 =>
  (gI h8 x0 6 0).bind fun v9 =>
  if v9 ≤ 0 then
    (f_M_finish_L36 bs sE FU h8 z x0 x1 x3 0)
  else
    (some (.inl (some (.int 0)), h8, z))
set_option maxHeartbeats 4000000 in
set_option maxRecDepth 100000 in
theorem t_M_finish_B21 {G : EN} {p : Program} {l : Launch} {e : Env} {s : State} {m : MethodId} {args : Array Value} {below : List Frame} {meth : Method} {c : Code} {z0 : Z3} (hl0 : l.stackTraces = false) (C : CX G p l s m meth c b_M_finish 7 y_M_finish.cls) (hr : meth.sig.returnType = (some .int)) (hex : c.exceptionTable.toList = []) {r : RS} :
    ∀ (h : HH) (z : Z3) (x0 : Nat) (x1 : Int32) (x3 : Int32) (w0 : Int32) (w1 : Nat), f_M_finish_B21 G.2.2.1 G.2.2.2 h z x0 x1 x3 w0 w1 = some r → ∀ (H : Heap) (locs : List Loc) (cells slots : Nat) (ls : Array Slot), ST G (RM 1 23 z0) s h z H locs cells slots → lv_has ls 7 [(0, .ref x0), (1, .int x1), (3, .int x3)] → W p l e (RM 1 23 z0) s m args below meth c H locs cells slots (MX G below s r (RM 1 23 z0).cells (RM 1 23 z0).slots) (F0 m 21 ls [.int w0, .ref w1]) := by
  have hx := C.1
  have hb := C.2.1
  intro h z x0 x1 x3 w0 w1 hf H locs cells slots ls hs hl
  unfold f_M_finish_B21 at hf
  refine r_putV (v := (.inl w0)) C hs flp_M_71 rfl rfl d_M_finish_21 hf (fun h8 H locs hf hs => ?_)
  refine lv_aload_n hx hb d_M_finish_24 rfl (lv_at hl 0 rfl) ?_
  refine r_getI C hs fl_M_71 d_M_finish_25 hf (fun v9 hf => ?_)
  refine lv_if_le (tgt := 33) hx hb d_M_finish_28 (by decide) (fun q10 => ?_) (fun q10 => ?_)
  · have hf := ifp q10 hf
    refine lv_iconst (v := 0) hx hb d_M_finish_33 (by decide) ?_
    refine lv_istore (lv' := [(4, .int 0), (0, .ref x0), (1, .int x1), (3, .int x3)]) hx hb d_M_finish_34 hl (by decide) rfl (fun ls hl => ?_)
    exact t_M_finish_L36 hl0 C hr hex FU _ _ _ _ _ _ hf _ _ _ _ _ hs (lv_sub hl [1, 2, 3, 0] rfl)
  · have hf := ifn q10 hf
    refine lv_iconst (v := 0) hx hb d_M_finish_31 (by decide) ?_
    exact r_ireturn C hs hr d_M_finish_32 hf
def f_M_finish (bs : Nat) (sE : Nat × Nat) (h : HH) (z : Z3) (x0 : Nat) (x1 : Int32) (x2 : Int32) (x3 : Int32) : Option RS :=
  (oK h x0 6).bind fun _ =>
  cI (f_M_out bs sE h z x0 x1 4) fun v3 h1 z2 =>
  if v3 = 0 then
    ((oK h1 x0 6).bind fun _ =>
    cI (f_M_check bs sE h1 z2 x0 x1 x2 1) fun v7 h5 z6 =>
    f_M_finish_B21 bs sE h5 z6 x0 x1 x3 v7 x0)
  else
    (f_M_finish_B21 bs sE h1 z2 x0 x1 x3 1 x0)
set_option maxHeartbeats 4000000 in
set_option maxRecDepth 100000 in
theorem c_M_finish {G : EN} {l : Launch} (hl0 : l.stackTraces = false) {h : HH} {z : Z3} {x0 : Nat} {x1 : Int32} {x2 : Int32} {x3 : Int32} {r : RS} (hf : f_M_finish G.2.2.1 G.2.2.2 h z x0 x1 x2 x3 = some r) : CM G l y_M_finish (.code y_M_finish b_M_finish 7 (some .int)) 1 23 [.ref x0, .int x1, .int x2, .int x3] h z r := by
  refine CM.ofW hl0 rfl ?_
  intro p e s m below meth c C hr hex hin hs
  have hx := C.1
  have hb := C.2.1
  refine x_entry (n := 7) (Nat.le_of_ble_eq_true rfl) (fun ls hl => ?_)
  have hl : lv_has ls 7 [(0, .ref x0), (1, .int x1), (2, .int x2), (3, .int x3)] := hl
  unfold f_M_finish at hf
  refine lv_aload_n hx hb d_M_finish_0 rfl (lv_at hl 0 rfl) ?_
  refine lv_aload_n hx hb d_M_finish_1 rfl (lv_at hl 0 rfl) ?_
  refine lv_iload_n hx hb d_M_finish_2 rfl (lv_at hl 1 rfl) ?_
  refine lv_iconst (v := 4) hx hb d_M_finish_3 (by decide) ?_
  obtain ⟨_, ho, hf⟩ := bd hf
  refine k_I C hs hex hf (fun res e1 => iv_V (b := x0) (As := [.int x1, .int 4]) (rest := [.ref x0]) C hs cv_M_83 (c_M_out hl0 e1) (ci := 6) rfl rfl ho rfl hl.1 rfl (Nat.le_of_ble_eq_true rfl) d_M_finish_4 ⟨Nat.le_of_ble_eq_true rfl, Nat.le_of_ble_eq_true rfl⟩) (fun v3 h1 z2 H locs cells slots hf hs => ?_)
  refine lv_if_eq (tgt := 14) hx hb d_M_finish_7 (by decide) (fun q4 => ?_) (fun q4 => ?_)
  · have hf := ifp q4 hf
    refine lv_aload_n hx hb d_M_finish_14 rfl (lv_at hl 0 rfl) ?_
    refine lv_iload_n hx hb d_M_finish_15 rfl (lv_at hl 1 rfl) ?_
    refine lv_iload_n hx hb d_M_finish_16 rfl (lv_at hl 2 rfl) ?_
    refine lv_iconst (v := 1) hx hb d_M_finish_17 (by decide) ?_
    obtain ⟨_, ho, hf⟩ := bd hf
    refine k_I C hs hex hf (fun res e1 => iv_V (b := x0) (As := [.int x1, .int x2, .int 1]) (rest := [.ref x0]) C hs cv_M_94 (c_M_check hl0 e1) (ci := 6) rfl rfl ho rfl hl.1 rfl (Nat.le_of_ble_eq_true rfl) d_M_finish_18 ⟨Nat.le_of_ble_eq_true rfl, Nat.le_of_ble_eq_true rfl⟩) (fun v7 h5 z6 H locs cells slots hf hs => ?_)
    exact t_M_finish_B21 hl0 C hr hex _ _ _ _ _ _ _ hf _ _ _ _ _ hs (lv_sub hl [0, 1, 3] rfl)
  · have hf := ifn q4 hf
    refine lv_iconst (v := 1) hx hb d_M_finish_10 (by decide) ?_
    refine lv_goto (tgt := 21) hx hb d_M_finish_11 (by decide) ?_
    exact t_M_finish_B21 hl0 C hr hex _ _ _ _ _ _ _ hf _ _ _ _ _ hs (lv_sub hl [0, 1, 3] rfl)
def fb_M_marked_L7 (bs : Nat) (sE : Nat × Nat) (REC : HH → Z3 → Nat → Int32 → Int32 → Int32 → Int32 → Int32 → Option RS) (h : HH) (z : Z3) (x0 : Nat) (x1 : Int32) (x2 : Int32) (x3 : Int32) (x4 : Int32) (x5 : Int32) : Option RS :=
  if ((520 * x1) + x3) ≤ x5 then
    ((bz 0).bind fun _ =>
    some (.inl (some (.int 0)), h, z))
  else
    ((gR h x0 6 1).bind fun v2 =>
    (aI h v2 0 x5).bind fun v3 =>
    if v3 ≤ 1 then
      (REC h z x0 x1 x2 x3 x4 (x5 + 1))
    else
      ((gR h x0 6 6).bind fun v5 =>
      (aI h v5 0 x5).bind fun v6 =>
      if v6 = x2 then
        (if x4 = 0 then
          ((bz 1).bind fun _ =>
          some (.inl (some (.int 1)), h, z))
        else
          ((gR h x0 6 1).bind fun v9 =>
          (aI h v9 0 x5).bind fun v10 =>
          if v10 = 3 then
            ((bz 1).bind fun _ =>
            some (.inl (some (.int 1)), h, z))
          else
            (REC h z x0 x1 x2 x3 x4 (x5 + 1))))
      else
        (REC h z x0 x1 x2 x3 x4 (x5 + 1))))
def f_M_marked_L7 (bs : Nat) (sE : Nat × Nat) : Nat → HH → Z3 → Nat → Int32 → Int32 → Int32 → Int32 → Int32 → Option RS
  | 0 => fun _ _ _ _ _ _ _ _ => none
  | n + 1 => fb_M_marked_L7 bs sE (f_M_marked_L7 bs sE n)
set_option maxHeartbeats 4000000 in
set_option maxRecDepth 100000 in
theorem t_M_marked_L7 {G : EN} {p : Program} {l : Launch} {e : Env} {s : State} {m : MethodId} {args : Array Value} {below : List Frame} {meth : Method} {c : Code} {z0 : Z3} (hl0 : l.stackTraces = false) (C : CX G p l s m meth c b_M_marked 6 y_M_marked.cls) (hr : meth.sig.returnType = (some .boolean)) (hex : c.exceptionTable.toList = []) {r : RS} :
    ∀ (n : Nat) (h : HH) (z : Z3) (x0 : Nat) (x1 : Int32) (x2 : Int32) (x3 : Int32) (x4 : Int32) (x5 : Int32), f_M_marked_L7 G.2.2.1 G.2.2.2 n h z x0 x1 x2 x3 x4 x5 = some r → ∀ (H : Heap) (locs : List Loc) (cells slots : Nat) (ls : Array Slot), ST G (RM 0 0 z0) s h z H locs cells slots → lv_has ls 6 [(0, .ref x0), (1, .int x1), (2, .int x2), (3, .int x3), (4, .int x4), (5, .int x5)] → W p l e (RM 0 0 z0) s m args below meth c H locs cells slots (MX G below s r (RM 0 0 z0).cells (RM 0 0 z0).slots) (F0 m 7 ls []) := by
  have hx := C.1
  have hb := C.2.1
  intro n
  induction n with
  | zero => intro h z x0 x1 x2 x3 x4 x5 hf; exact nomatch (show (none : Option RS) = some r from hf)
  | succ n ih =>
    intro h z x0 x1 x2 x3 x4 x5 hf H locs cells slots ls hs hl
    have hf : fb_M_marked_L7 G.2.2.1 G.2.2.2 (f_M_marked_L7 G.2.2.1 G.2.2.2 n) h z x0 x1 x2 x3 x4 x5 = some r := hf
    unfold fb_M_marked_L7 at hf
    refine lv_iload hx hb d_M_marked_7 (lv_at hl 5 rfl) ?_
    refine lv_sipush (v := 520) hx hb d_M_marked_9 (by decide) ?_
    refine lv_iload_n hx hb d_M_marked_12 rfl (lv_at hl 1 rfl) ?_
    refine lv_imul hx hb d_M_marked_13 ?_
    refine lv_iload_n hx hb d_M_marked_14 rfl (lv_at hl 3 rfl) ?_
    refine lv_iadd hx hb d_M_marked_15 ?_
    refine lv_icmp_ge (tgt := 65) hx hb d_M_marked_16 (by decide) (fun q1 => ?_) (fun q1 => ?_)
    · have hf := ifp q1 hf
      refine lv_iconst (v := 0) hx hb d_M_marked_65 (by decide) ?_
      exact r_zreturn C hs hr d_M_marked_66 hf
    · have hf := ifn q1 hf
      refine lv_aload_n hx hb d_M_marked_19 rfl (lv_at hl 0 rfl) ?_
      refine r_getR C hs fl_M_7 d_M_marked_20 hf (fun v2 hf => ?_)
      refine lv_iload hx hb d_M_marked_23 (lv_at hl 5 rfl) ?_
      refine r_iald C hs d_M_marked_25 hf (fun v3 hf => ?_)
      refine lv_iconst (v := 1) hx hb d_M_marked_26 (by decide) ?_
      refine lv_icmp_le (tgt := 59) hx hb d_M_marked_27 (by decide) (fun q4 => ?_) (fun q4 => ?_)
      · have hf := ifp q4 hf
        refine lv_iinc (v := x5 + 1) (lv' := [(5, .int (x5 + 1)), (0, .ref x0), (1, .int x1), (2, .int x2), (3, .int x3), (4, .int x4)]) hx hb d_M_marked_59 hl (k := 5) rfl rfl (by decide) rfl (fun ls hl => ?_)
        refine lv_goto (tgt := 7) hx hb d_M_marked_62 (by decide) ?_
        exact ih _ _ _ _ _ _ _ _ hf _ _ _ _ _ hs (lv_sub hl [1, 2, 3, 4, 5, 0] rfl)
      · have hf := ifn q4 hf
        refine lv_aload_n hx hb d_M_marked_30 rfl (lv_at hl 0 rfl) ?_
        refine r_getR C hs fl_M_25 d_M_marked_31 hf (fun v5 hf => ?_)
        refine lv_iload hx hb d_M_marked_34 (lv_at hl 5 rfl) ?_
        refine r_iald C hs d_M_marked_36 hf (fun v6 hf => ?_)
        refine lv_iload_n hx hb d_M_marked_37 rfl (lv_at hl 2 rfl) ?_
        refine lv_icmp_ne (tgt := 59) hx hb d_M_marked_38 (by decide) (fun q7 => ?_) (fun q7 => ?_)
        · have hf := ifn q7 hf
          refine lv_iinc (v := x5 + 1) (lv' := [(5, .int (x5 + 1)), (0, .ref x0), (1, .int x1), (2, .int x2), (3, .int x3), (4, .int x4)]) hx hb d_M_marked_59 hl (k := 5) rfl rfl (by decide) rfl (fun ls hl => ?_)
          refine lv_goto (tgt := 7) hx hb d_M_marked_62 (by decide) ?_
          exact ih _ _ _ _ _ _ _ _ hf _ _ _ _ _ hs (lv_sub hl [1, 2, 3, 4, 5, 0] rfl)
        · have hf := ifp q7 hf
          refine lv_iload hx hb d_M_marked_41 (lv_at hl 4 rfl) ?_
          refine lv_if_eq (tgt := 57) hx hb d_M_marked_43 (by decide) (fun q8 => ?_) (fun q8 => ?_)
          · have hf := ifp q8 hf
            refine lv_iconst (v := 1) hx hb d_M_marked_57 (by decide) ?_
            exact r_zreturn C hs hr d_M_marked_58 hf
          · have hf := ifn q8 hf
            refine lv_aload_n hx hb d_M_marked_46 rfl (lv_at hl 0 rfl) ?_
            refine r_getR C hs fl_M_7 d_M_marked_47 hf (fun v9 hf => ?_)
            refine lv_iload hx hb d_M_marked_50 (lv_at hl 5 rfl) ?_
            refine r_iald C hs d_M_marked_52 hf (fun v10 hf => ?_)
            refine lv_iconst (v := 3) hx hb d_M_marked_53 (by decide) ?_
            refine lv_icmp_ne (tgt := 59) hx hb d_M_marked_54 (by decide) (fun q11 => ?_) (fun q11 => ?_)
            · have hf := ifn q11 hf
              refine lv_iinc (v := x5 + 1) (lv' := [(5, .int (x5 + 1)), (0, .ref x0), (1, .int x1), (2, .int x2), (3, .int x3), (4, .int x4)]) hx hb d_M_marked_59 hl (k := 5) rfl rfl (by decide) rfl (fun ls hl => ?_)
              refine lv_goto (tgt := 7) hx hb d_M_marked_62 (by decide) ?_
              exact ih _ _ _ _ _ _ _ _ hf _ _ _ _ _ hs (lv_sub hl [1, 2, 3, 4, 5, 0] rfl)
            · have hf := ifp q11 hf
              refine lv_iconst (v := 1) hx hb d_M_marked_57 (by decide) ?_
              exact r_zreturn C hs hr d_M_marked_58 hf
def f_M_marked (bs : Nat) (sE : Nat × Nat) (h : HH) (z : Z3) (x0 : Nat) (x1 : Int32) (x2 : Int32) (x3 : Int32) (x4 : Int32) : Option RS :=
  f_M_marked_L7 bs sE FU h z x0 x1 x2 x3 x4 (520 * x1)
set_option maxHeartbeats 4000000 in
set_option maxRecDepth 100000 in
theorem c_M_marked {G : EN} {l : Launch} (hl0 : l.stackTraces = false) {h : HH} {z : Z3} {x0 : Nat} {x1 : Int32} {x2 : Int32} {x3 : Int32} {x4 : Int32} {r : RS} (hf : f_M_marked G.2.2.1 G.2.2.2 h z x0 x1 x2 x3 x4 = some r) : CM G l y_M_marked (.code y_M_marked b_M_marked 6 (some .boolean)) 0 0 [.ref x0, .int x1, .int x2, .int x3, .int x4] h z r := by
  refine CM.ofW hl0 rfl ?_
  intro p e s m below meth c C hr hex hin hs
  have hx := C.1
  have hb := C.2.1
  refine x_entry (n := 6) (Nat.le_of_ble_eq_true rfl) (fun ls hl => ?_)
  have hl : lv_has ls 6 [(0, .ref x0), (1, .int x1), (2, .int x2), (3, .int x3), (4, .int x4)] := hl
  unfold f_M_marked at hf
  refine lv_sipush (v := 520) hx hb d_M_marked_0 (by decide) ?_
  refine lv_iload_n hx hb d_M_marked_3 rfl (lv_at hl 1 rfl) ?_
  refine lv_imul hx hb d_M_marked_4 ?_
  refine lv_istore (lv' := [(5, .int (520 * x1)), (0, .ref x0), (1, .int x1), (2, .int x2), (3, .int x3), (4, .int x4)]) hx hb d_M_marked_5 hl (by decide) rfl (fun ls hl => ?_)
  exact t_M_marked_L7 hl0 C hr hex FU _ _ _ _ _ _ _ _ hf _ _ _ _ _ hs (lv_sub hl [1, 2, 3, 4, 5, 0] rfl)
def fb_M_stepOf_L75 (bs : Nat) (sE : Nat × Nat) (REC : HH → Z3 → Nat → Int32 → Int32 → Option RS) (h : HH) (z : Z3) (x0 : Nat) (x1 : Int32) (x2 : Int32) : Option RS :=
  if 4 ≤ x2 then
    (some (.inl (some (.int 0)), h, z))
  else
    ((gR h x0 6 13).bind fun v5 =>
    (aI h v5 0 x1).bind fun v6 =>
    if ((v6 >>> (x2 &&& 31)) &&& 1) = 0 then
      (REC h z x0 x1 (x2 + 1))
    else
      ((gR h x0 6 12).bind fun v8 =>
      (aI h v8 0 x1).bind fun v9 =>
      (gR h x0 6 9).bind fun v10 =>
      (aI h v10 0 x2).bind fun v11 =>
      (oK h x0 6).bind fun _ =>
      cI (f_M_marked bs sE h z x0 x2 v9 v11 0) fun v14 h12 z13 =>
      if v14 = 0 then
        ((gR h12 x0 6 12).bind fun v16 =>
        (aI h12 v16 0 x1).bind fun v17 =>
        (gR h12 x0 6 7).bind fun v18 =>
        (aI h12 v18 0 x2).bind fun v19 =>
        (oK h12 x0 6).bind fun _ =>
        cI (f_M_marked bs sE h12 z13 x0 x2 v17 v19 0) fun v22 h20 z21 =>
        if v22 = 0 then
          ((gR h20 x0 6 10).bind fun v24 =>
          (aI h20 v24 0 x1).bind fun v25 =>
          (oK h20 x0 6).bind fun _ =>
          cI (f_M_put bs sE h20 z21 x0 x2 v25 0 x1 (-1)) fun v28 h26 z27 =>
          some (.inl (some (.int 1)), h26, z27))
        else
          (REC h20 z21 x0 x1 (x2 + 1)))
      else
        ((gR h12 x0 6 13).bind fun v29 =>
        (aI h12 v29 0 x1).bind fun v30 =>
        (aIs bs h12 v29 0 x1 (v30 - (1 <<< (x2 &&& 31)))).bind fun h31 =>
        some (.inl (some (.int 2)), h31, z13))))
def f_M_stepOf_L75 (bs : Nat) (sE : Nat × Nat) : Nat → HH → Z3 → Nat → Int32 → Int32 → Option RS
  | 0 => fun _ _ _ _ _ => none
  | n + 1 => fb_M_stepOf_L75 bs sE (f_M_stepOf_L75 bs sE n)
set_option maxHeartbeats 4000000 in
set_option maxRecDepth 100000 in
theorem t_M_stepOf_L75 {G : EN} {p : Program} {l : Launch} {e : Env} {s : State} {m : MethodId} {args : Array Value} {below : List Frame} {meth : Method} {c : Code} {z0 : Z3} (hl0 : l.stackTraces = false) (C : CX G p l s m meth c b_M_stepOf 3 y_M_stepOf.cls) (hr : meth.sig.returnType = (some .int)) (hex : c.exceptionTable.toList = []) {r : RS} :
    ∀ (n : Nat) (h : HH) (z : Z3) (x0 : Nat) (x1 : Int32) (x2 : Int32), f_M_stepOf_L75 G.2.2.1 G.2.2.2 n h z x0 x1 x2 = some r → ∀ (H : Heap) (locs : List Loc) (cells slots : Nat) (ls : Array Slot), ST G (RM 1 26 z0) s h z H locs cells slots → lv_has ls 3 [(0, .ref x0), (1, .int x1), (2, .int x2)] → W p l e (RM 1 26 z0) s m args below meth c H locs cells slots (MX G below s r (RM 1 26 z0).cells (RM 1 26 z0).slots) (F0 m 75 ls []) := by
  have hx := C.1
  have hb := C.2.1
  intro n
  induction n with
  | zero => intro h z x0 x1 x2 hf; exact nomatch (show (none : Option RS) = some r from hf)
  | succ n ih =>
    intro h z x0 x1 x2 hf H locs cells slots ls hs hl
    have hf : fb_M_stepOf_L75 G.2.2.1 G.2.2.2 (f_M_stepOf_L75 G.2.2.1 G.2.2.2 n) h z x0 x1 x2 = some r := hf
    unfold fb_M_stepOf_L75 at hf
    refine lv_iload_n hx hb d_M_stepOf_75 rfl (lv_at hl 2 rfl) ?_
    refine lv_iconst (v := 4) hx hb d_M_stepOf_76 (by decide) ?_
    refine lv_icmp_ge (tgt := 175) hx hb d_M_stepOf_77 (by decide) (fun q4 => ?_) (fun q4 => ?_)
    · have hf := ifp q4 hf
      refine lv_iconst (v := 0) hx hb d_M_stepOf_175 (by decide) ?_
      exact r_ireturn C hs hr d_M_stepOf_176 hf
    · have hf := ifn q4 hf
      refine lv_aload_n hx hb d_M_stepOf_80 rfl (lv_at hl 0 rfl) ?_
      refine r_getR C hs fl_M_46 d_M_stepOf_81 hf (fun v5 hf => ?_)
      refine lv_iload_n hx hb d_M_stepOf_84 rfl (lv_at hl 1 rfl) ?_
      refine r_iald C hs d_M_stepOf_85 hf (fun v6 hf => ?_)
      refine lv_iload_n hx hb d_M_stepOf_86 rfl (lv_at hl 2 rfl) ?_
      refine lv_ishr hx hb d_M_stepOf_87 ?_
      refine lv_iconst (v := 1) hx hb d_M_stepOf_88 (by decide) ?_
      refine lv_iand hx hb d_M_stepOf_89 ?_
      refine lv_if_ne (tgt := 96) hx hb d_M_stepOf_90 (by decide) (fun q7 => ?_) (fun q7 => ?_)
      · have hf := ifn q7 hf
        refine lv_aload_n hx hb d_M_stepOf_96 rfl (lv_at hl 0 rfl) ?_
        refine lv_iload_n hx hb d_M_stepOf_97 rfl (lv_at hl 2 rfl) ?_
        refine lv_aload_n hx hb d_M_stepOf_98 rfl (lv_at hl 0 rfl) ?_
        refine r_getR C hs fl_M_43 d_M_stepOf_99 hf (fun v8 hf => ?_)
        refine lv_iload_n hx hb d_M_stepOf_102 rfl (lv_at hl 1 rfl) ?_
        refine r_iald C hs d_M_stepOf_103 hf (fun v9 hf => ?_)
        refine lv_aload_n hx hb d_M_stepOf_104 rfl (lv_at hl 0 rfl) ?_
        refine r_getR C hs fl_M_34 d_M_stepOf_105 hf (fun v10 hf => ?_)
        refine lv_iload_n hx hb d_M_stepOf_108 rfl (lv_at hl 2 rfl) ?_
        refine r_iald C hs d_M_stepOf_109 hf (fun v11 hf => ?_)
        refine lv_iconst (v := 0) hx hb d_M_stepOf_110 (by decide) ?_
        obtain ⟨_, ho, hf⟩ := bd hf
        refine k_I C hs hex hf (fun res e1 => iv_V (b := x0) (As := [.int x2, .int v9, .int v11, .int 0]) (rest := []) C hs cv_M_79 (c_M_marked hl0 e1) (ci := 6) rfl rfl ho rfl hl.1 rfl (Nat.le_of_ble_eq_true rfl) d_M_stepOf_111 ⟨Nat.le_of_ble_eq_true rfl, Nat.le_of_ble_eq_true rfl⟩) (fun v14 h12 z13 H locs cells slots hf hs => ?_)
        refine lv_if_eq (tgt := 131) hx hb d_M_stepOf_114 (by decide) (fun q15 => ?_) (fun q15 => ?_)
        · have hf := ifp q15 hf
          refine lv_aload_n hx hb d_M_stepOf_131 rfl (lv_at hl 0 rfl) ?_
          refine lv_iload_n hx hb d_M_stepOf_132 rfl (lv_at hl 2 rfl) ?_
          refine lv_aload_n hx hb d_M_stepOf_133 rfl (lv_at hl 0 rfl) ?_
          refine r_getR C hs fl_M_43 d_M_stepOf_134 hf (fun v16 hf => ?_)
          refine lv_iload_n hx hb d_M_stepOf_137 rfl (lv_at hl 1 rfl) ?_
          refine r_iald C hs d_M_stepOf_138 hf (fun v17 hf => ?_)
          refine lv_aload_n hx hb d_M_stepOf_139 rfl (lv_at hl 0 rfl) ?_
          refine r_getR C hs fl_M_28 d_M_stepOf_140 hf (fun v18 hf => ?_)
          refine lv_iload_n hx hb d_M_stepOf_143 rfl (lv_at hl 2 rfl) ?_
          refine r_iald C hs d_M_stepOf_144 hf (fun v19 hf => ?_)
          refine lv_iconst (v := 0) hx hb d_M_stepOf_145 (by decide) ?_
          obtain ⟨_, ho, hf⟩ := bd hf
          refine k_I C hs hex hf (fun res e1 => iv_V (b := x0) (As := [.int x2, .int v17, .int v19, .int 0]) (rest := []) C hs cv_M_79 (c_M_marked hl0 e1) (ci := 6) rfl rfl ho rfl hl.1 rfl (Nat.le_of_ble_eq_true rfl) d_M_stepOf_146 ⟨Nat.le_of_ble_eq_true rfl, Nat.le_of_ble_eq_true rfl⟩) (fun v22 h20 z21 H locs cells slots hf hs => ?_)
          refine lv_if_ne (tgt := 169) hx hb d_M_stepOf_149 (by decide) (fun q23 => ?_) (fun q23 => ?_)
          · have hf := ifn q23 hf
            refine lv_iinc (v := x2 + 1) (lv' := [(2, .int (x2 + 1)), (0, .ref x0), (1, .int x1)]) hx hb d_M_stepOf_169 hl (k := 2) rfl rfl (by decide) rfl (fun ls hl => ?_)
            refine lv_goto (tgt := 75) hx hb d_M_stepOf_172 (by decide) ?_
            exact ih _ _ _ _ _ hf _ _ _ _ _ hs (lv_sub hl [1, 2, 0] rfl)
          · have hf := ifp q23 hf
            refine lv_aload_n hx hb d_M_stepOf_152 rfl (lv_at hl 0 rfl) ?_
            refine lv_iload_n hx hb d_M_stepOf_153 rfl (lv_at hl 2 rfl) ?_
            refine lv_aload_n hx hb d_M_stepOf_154 rfl (lv_at hl 0 rfl) ?_
            refine r_getR C hs fl_M_37 d_M_stepOf_155 hf (fun v24 hf => ?_)
            refine lv_iload_n hx hb d_M_stepOf_158 rfl (lv_at hl 1 rfl) ?_
            refine r_iald C hs d_M_stepOf_159 hf (fun v25 hf => ?_)
            refine lv_iconst (v := 0) hx hb d_M_stepOf_160 (by decide) ?_
            refine lv_iload_n hx hb d_M_stepOf_161 rfl (lv_at hl 1 rfl) ?_
            refine lv_iconst (v := (-1)) hx hb d_M_stepOf_162 (by decide) ?_
            obtain ⟨_, ho, hf⟩ := bd hf
            refine k_I C hs hex hf (fun res e1 => iv_V (b := x0) (As := [.int x2, .int v25, .int 0, .int x1, .int (-1)]) (rest := []) C hs cv_M_115 (c_M_put hl0 e1) (ci := 6) rfl rfl ho rfl hl.1 rfl (Nat.le_of_ble_eq_true rfl) d_M_stepOf_163 ⟨Nat.le_of_ble_eq_true rfl, Nat.le_of_ble_eq_true rfl⟩) (fun v28 h26 z27 H locs cells slots hf hs => ?_)
            refine lv_pop hx hb d_M_stepOf_166 rfl ?_
            refine lv_iconst (v := 1) hx hb d_M_stepOf_167 (by decide) ?_
            exact r_ireturn C hs hr d_M_stepOf_168 hf
        · have hf := ifn q15 hf
          refine lv_aload_n hx hb d_M_stepOf_117 rfl (lv_at hl 0 rfl) ?_
          refine r_getR C hs fl_M_46 d_M_stepOf_118 hf (fun v29 hf => ?_)
          refine lv_iload_n hx hb d_M_stepOf_121 rfl (lv_at hl 1 rfl) ?_
          refine lv_dup2_11 hx hb d_M_stepOf_122 rfl rfl ?_
          refine r_iald C hs d_M_stepOf_123 hf (fun v30 hf => ?_)
          refine lv_iconst (v := 1) hx hb d_M_stepOf_124 (by decide) ?_
          refine lv_iload_n hx hb d_M_stepOf_125 rfl (lv_at hl 2 rfl) ?_
          refine lv_ishl hx hb d_M_stepOf_126 ?_
          refine lv_isub hx hb d_M_stepOf_127 ?_
          refine r_iast C hs d_M_stepOf_128 hf (fun h31 H locs hf hs => ?_)
          refine lv_iconst (v := 2) hx hb d_M_stepOf_129 (by decide) ?_
          exact r_ireturn C hs hr d_M_stepOf_130 hf
      · have hf := ifp q7 hf
        refine lv_goto (tgt := 169) hx hb d_M_stepOf_93 (by decide) ?_
        refine lv_iinc (v := x2 + 1) (lv' := [(2, .int (x2 + 1)), (0, .ref x0), (1, .int x1)]) hx hb d_M_stepOf_169 hl (k := 2) rfl rfl (by decide) rfl (fun ls hl => ?_)
        refine lv_goto (tgt := 75) hx hb d_M_stepOf_172 (by decide) ?_
        exact ih _ _ _ _ _ hf _ _ _ _ _ hs (lv_sub hl [1, 2, 0] rfl)
def fb_M_stepOf_L11 (bs : Nat) (sE : Nat × Nat) (REC : HH → Z3 → Nat → Int32 → Int32 → Option RS) (h : HH) (z : Z3) (x0 : Nat) (x1 : Int32) (x2 : Int32) : Option RS :=
  if 8 ≤ x2 then
    ((gR h x0 6 10).bind fun v33 =>
    (aIs bs h v33 0 x1 0).bind fun h34 =>
    some (.inl (some (.int 3)), h34, z))
  else
    ((gR h x0 6 10).bind fun v35 =>
    (aI h v35 0 x1).bind fun v36 =>
    if v36 = 2 then
      ((gR h x0 6 15).bind fun v38 =>
      (aI h v38 0 ((8 * x1) + x2)).bind fun v39 =>
      if v39 < 0 then
        (REC h z x0 x1 (x2 + 1))
      else
        ((gR h x0 6 21).bind fun v41 =>
        (gR h x0 6 15).bind fun v42 =>
        (aI h v42 0 ((8 * x1) + x2)).bind fun v43 =>
        (aIs bs h v41 0 x2 v43).bind fun h44 =>
        REC h44 z x0 x1 (x2 + 1)))
    else
      (REC h z x0 x1 (x2 + 1)))
def f_M_stepOf_L11 (bs : Nat) (sE : Nat × Nat) : Nat → HH → Z3 → Nat → Int32 → Int32 → Option RS
  | 0 => fun _ _ _ _ _ => none
  | n + 1 => fb_M_stepOf_L11 bs sE (f_M_stepOf_L11 bs sE n)
set_option maxHeartbeats 4000000 in
set_option maxRecDepth 100000 in
theorem t_M_stepOf_L11 {G : EN} {p : Program} {l : Launch} {e : Env} {s : State} {m : MethodId} {args : Array Value} {below : List Frame} {meth : Method} {c : Code} {z0 : Z3} (hl0 : l.stackTraces = false) (C : CX G p l s m meth c b_M_stepOf 3 y_M_stepOf.cls) (hr : meth.sig.returnType = (some .int)) (hex : c.exceptionTable.toList = []) {r : RS} :
    ∀ (n : Nat) (h : HH) (z : Z3) (x0 : Nat) (x1 : Int32) (x2 : Int32), f_M_stepOf_L11 G.2.2.1 G.2.2.2 n h z x0 x1 x2 = some r → ∀ (H : Heap) (locs : List Loc) (cells slots : Nat) (ls : Array Slot), ST G (RM 1 26 z0) s h z H locs cells slots → lv_has ls 3 [(0, .ref x0), (1, .int x1), (2, .int x2)] → W p l e (RM 1 26 z0) s m args below meth c H locs cells slots (MX G below s r (RM 1 26 z0).cells (RM 1 26 z0).slots) (F0 m 11 ls []) := by
  have hx := C.1
  have hb := C.2.1
  intro n
  induction n with
  | zero => intro h z x0 x1 x2 hf; exact nomatch (show (none : Option RS) = some r from hf)
  | succ n ih =>
    intro h z x0 x1 x2 hf H locs cells slots ls hs hl
    have hf : fb_M_stepOf_L11 G.2.2.1 G.2.2.2 (f_M_stepOf_L11 G.2.2.1 G.2.2.2 n) h z x0 x1 x2 = some r := hf
    unfold fb_M_stepOf_L11 at hf
    refine lv_iload_n hx hb d_M_stepOf_11 rfl (lv_at hl 2 rfl) ?_
    refine lv_bipush (v := 8) hx hb d_M_stepOf_12 (by decide) ?_
    refine lv_icmp_ge (tgt := 64) hx hb d_M_stepOf_14 (by decide) (fun q32 => ?_) (fun q32 => ?_)
    · have hf := ifp q32 hf
      refine lv_aload_n hx hb d_M_stepOf_64 rfl (lv_at hl 0 rfl) ?_
      refine r_getR C hs fl_M_37 d_M_stepOf_65 hf (fun v33 hf => ?_)
      refine lv_iload_n hx hb d_M_stepOf_68 rfl (lv_at hl 1 rfl) ?_
      refine lv_iconst (v := 0) hx hb d_M_stepOf_69 (by decide) ?_
      refine r_iast C hs d_M_stepOf_70 hf (fun h34 H locs hf hs => ?_)
      refine lv_iconst (v := 3) hx hb d_M_stepOf_71 (by decide) ?_
      exact r_ireturn C hs hr d_M_stepOf_72 hf
    · have hf := ifn q32 hf
      refine lv_aload_n hx hb d_M_stepOf_17 rfl (lv_at hl 0 rfl) ?_
      refine r_getR C hs fl_M_37 d_M_stepOf_18 hf (fun v35 hf => ?_)
      refine lv_iload_n hx hb d_M_stepOf_21 rfl (lv_at hl 1 rfl) ?_
      refine r_iald C hs d_M_stepOf_22 hf (fun v36 hf => ?_)
      refine lv_iconst (v := 2) hx hb d_M_stepOf_23 (by decide) ?_
      refine lv_icmp_ne (tgt := 58) hx hb d_M_stepOf_24 (by decide) (fun q37 => ?_) (fun q37 => ?_)
      · have hf := ifn q37 hf
        refine lv_iinc (v := x2 + 1) (lv' := [(2, .int (x2 + 1)), (0, .ref x0), (1, .int x1)]) hx hb d_M_stepOf_58 hl (k := 2) rfl rfl (by decide) rfl (fun ls hl => ?_)
        refine lv_goto (tgt := 11) hx hb d_M_stepOf_61 (by decide) ?_
        exact ih _ _ _ _ _ hf _ _ _ _ _ hs (lv_sub hl [1, 2, 0] rfl)
      · have hf := ifp q37 hf
        refine lv_aload_n hx hb d_M_stepOf_27 rfl (lv_at hl 0 rfl) ?_
        refine r_getR C hs fl_M_52 d_M_stepOf_28 hf (fun v38 hf => ?_)
        refine lv_bipush (v := 8) hx hb d_M_stepOf_31 (by decide) ?_
        refine lv_iload_n hx hb d_M_stepOf_33 rfl (lv_at hl 1 rfl) ?_
        refine lv_imul hx hb d_M_stepOf_34 ?_
        refine lv_iload_n hx hb d_M_stepOf_35 rfl (lv_at hl 2 rfl) ?_
        refine lv_iadd hx hb d_M_stepOf_36 ?_
        refine r_iald C hs d_M_stepOf_37 hf (fun v39 hf => ?_)
        refine lv_if_lt (tgt := 58) hx hb d_M_stepOf_38 (by decide) (fun q40 => ?_) (fun q40 => ?_)
        · have hf := ifp q40 hf
          refine lv_iinc (v := x2 + 1) (lv' := [(2, .int (x2 + 1)), (0, .ref x0), (1, .int x1)]) hx hb d_M_stepOf_58 hl (k := 2) rfl rfl (by decide) rfl (fun ls hl => ?_)
          refine lv_goto (tgt := 11) hx hb d_M_stepOf_61 (by decide) ?_
          exact ih _ _ _ _ _ hf _ _ _ _ _ hs (lv_sub hl [1, 2, 0] rfl)
        · have hf := ifn q40 hf
          refine lv_aload_n hx hb d_M_stepOf_41 rfl (lv_at hl 0 rfl) ?_
          refine r_getR C hs fl_M_68 d_M_stepOf_42 hf (fun v41 hf => ?_)
          refine lv_iload_n hx hb d_M_stepOf_45 rfl (lv_at hl 2 rfl) ?_
          refine lv_aload_n hx hb d_M_stepOf_46 rfl (lv_at hl 0 rfl) ?_
          refine r_getR C hs fl_M_52 d_M_stepOf_47 hf (fun v42 hf => ?_)
          refine lv_bipush (v := 8) hx hb d_M_stepOf_50 (by decide) ?_
          refine lv_iload_n hx hb d_M_stepOf_52 rfl (lv_at hl 1 rfl) ?_
          refine lv_imul hx hb d_M_stepOf_53 ?_
          refine lv_iload_n hx hb d_M_stepOf_54 rfl (lv_at hl 2 rfl) ?_
          refine lv_iadd hx hb d_M_stepOf_55 ?_
          refine r_iald C hs d_M_stepOf_56 hf (fun v43 hf => ?_)
          refine r_iast C hs d_M_stepOf_57 hf (fun h44 H locs hf hs => ?_)
          refine lv_iinc (v := x2 + 1) (lv' := [(2, .int (x2 + 1)), (0, .ref x0), (1, .int x1)]) hx hb d_M_stepOf_58 hl (k := 2) rfl rfl (by decide) rfl (fun ls hl => ?_)
          refine lv_goto (tgt := 11) hx hb d_M_stepOf_61 (by decide) ?_
          exact ih _ _ _ _ _ hf _ _ _ _ _ hs (lv_sub hl [1, 2, 0] rfl)
def f_M_stepOf (bs : Nat) (sE : Nat × Nat) (h : HH) (z : Z3) (x0 : Nat) (x1 : Int32) : Option RS :=
  (gR h x0 6 13).bind fun v1 =>
  (aI h v1 0 x1).bind fun v2 =>
  if v2 = 0 then
    (f_M_stepOf_L11 bs sE FU h z x0 x1 0)
  else
    (f_M_stepOf_L75 bs sE FU h z x0 x1 0)
set_option maxHeartbeats 4000000 in
set_option maxRecDepth 100000 in
theorem c_M_stepOf {G : EN} {l : Launch} (hl0 : l.stackTraces = false) {h : HH} {z : Z3} {x0 : Nat} {x1 : Int32} {r : RS} (hf : f_M_stepOf G.2.2.1 G.2.2.2 h z x0 x1 = some r) : CM G l y_M_stepOf (.code y_M_stepOf b_M_stepOf 3 (some .int)) 1 26 [.ref x0, .int x1] h z r := by
  refine CM.ofW hl0 rfl ?_
  intro p e s m below meth c C hr hex hin hs
  have hx := C.1
  have hb := C.2.1
  refine x_entry (n := 3) (Nat.le_of_ble_eq_true rfl) (fun ls hl => ?_)
  have hl : lv_has ls 3 [(0, .ref x0), (1, .int x1)] := hl
  unfold f_M_stepOf at hf
  refine lv_aload_n hx hb d_M_stepOf_0 rfl (lv_at hl 0 rfl) ?_
  refine r_getR C hs fl_M_46 d_M_stepOf_1 hf (fun v1 hf => ?_)
  refine lv_iload_n hx hb d_M_stepOf_4 rfl (lv_at hl 1 rfl) ?_
  refine r_iald C hs d_M_stepOf_5 hf (fun v2 hf => ?_)
  refine lv_if_ne (tgt := 73) hx hb d_M_stepOf_6 (by decide) (fun q3 => ?_) (fun q3 => ?_)
  · have hf := ifn q3 hf
    refine lv_iconst (v := 0) hx hb d_M_stepOf_73 (by decide) ?_
    refine lv_istore_n (lv' := [(2, .int 0), (0, .ref x0), (1, .int x1)]) hx hb d_M_stepOf_74 rfl hl (by decide) rfl (fun ls hl => ?_)
    exact t_M_stepOf_L75 hl0 C hr hex FU _ _ _ _ _ hf _ _ _ _ _ hs (lv_sub hl [1, 2, 0] rfl)
  · have hf := ifp q3 hf
    refine lv_iconst (v := 0) hx hb d_M_stepOf_9 (by decide) ?_
    refine lv_istore_n (lv' := [(2, .int 0), (0, .ref x0), (1, .int x1)]) hx hb d_M_stepOf_10 rfl hl (by decide) rfl (fun ls hl => ?_)
    exact t_M_stepOf_L11 hl0 C hr hex FU _ _ _ _ _ hf _ _ _ _ _ hs (lv_sub hl [1, 2, 0] rfl)
def fb_M_step_L7 (bs : Nat) (sE : Nat × Nat) (REC : HH → Z3 → Nat → Int32 → Option RS) (h : HH) (z : Z3) (x0 : Nat) (x1 : Int32) : Option RS :=
  if 4 ≤ x1 then
    (some (.inl (some (.int (-1))), h, z))
  else
    ((gR h x0 6 10).bind fun v3 =>
    (aI h v3 0 x1).bind fun v4 =>
    if v4 ≤ 1 then
      (if (0 : Int32) ≤ 0 then
        (REC h z x0 (x1 + 1))
      else
        (some (.inl (some (.int ((10 * x1) + 0))), h, z)))
    else
      ((oK h x0 6).bind fun _ =>
      cI (f_M_stepOf bs sE h z x0 x1) fun v9 h7 z8 =>
      if v9 ≤ 0 then
        (REC h7 z8 x0 (x1 + 1))
      else
        (some (.inl (some (.int ((10 * x1) + v9))), h7, z8))))
def f_M_step_L7 (bs : Nat) (sE : Nat × Nat) : Nat → HH → Z3 → Nat → Int32 → Option RS
  | 0 => fun _ _ _ _ => none
  | n + 1 => fb_M_step_L7 bs sE (f_M_step_L7 bs sE n)
set_option maxHeartbeats 4000000 in
set_option maxRecDepth 100000 in
theorem t_M_step_L7 {G : EN} {p : Program} {l : Launch} {e : Env} {s : State} {m : MethodId} {args : Array Value} {below : List Frame} {meth : Method} {c : Code} {z0 : Z3} (hl0 : l.stackTraces = false) (C : CX G p l s m meth c b_M_step 3 y_M_step.cls) (hr : meth.sig.returnType = (some .int)) (hex : c.exceptionTable.toList = []) {r : RS} :
    ∀ (n : Nat) (h : HH) (z : Z3) (x0 : Nat) (x1 : Int32), f_M_step_L7 G.2.2.1 G.2.2.2 n h z x0 x1 = some r → ∀ (H : Heap) (locs : List Loc) (cells slots : Nat) (ls : Array Slot), ST G (RM 2 48 z0) s h z H locs cells slots → lv_has ls 3 [(0, .ref x0), (1, .int x1)] → W p l e (RM 2 48 z0) s m args below meth c H locs cells slots (MX G below s r (RM 2 48 z0).cells (RM 2 48 z0).slots) (F0 m 7 ls []) := by
  have hx := C.1
  have hb := C.2.1
  intro n
  induction n with
  | zero => intro h z x0 x1 hf; exact nomatch (show (none : Option RS) = some r from hf)
  | succ n ih =>
    intro h z x0 x1 hf H locs cells slots ls hs hl
    have hf : fb_M_step_L7 G.2.2.1 G.2.2.2 (f_M_step_L7 G.2.2.1 G.2.2.2 n) h z x0 x1 = some r := hf
    unfold fb_M_step_L7 at hf
    refine lv_iload_n hx hb d_M_step_7 rfl (lv_at hl 1 rfl) ?_
    refine lv_iconst (v := 4) hx hb d_M_step_8 (by decide) ?_
    refine lv_icmp_ge (tgt := 49) hx hb d_M_step_9 (by decide) (fun q2 => ?_) (fun q2 => ?_)
    · have hf := ifp q2 hf
      refine lv_iconst (v := (-1)) hx hb d_M_step_49 (by decide) ?_
      exact r_ireturn C hs hr d_M_step_50 hf
    · have hf := ifn q2 hf
      refine lv_aload_n hx hb d_M_step_12 rfl (lv_at hl 0 rfl) ?_
      refine r_getR C hs fl_M_37 d_M_step_13 hf (fun v3 hf => ?_)
      refine lv_iload_n hx hb d_M_step_16 rfl (lv_at hl 1 rfl) ?_
      refine r_iald C hs d_M_step_17 hf (fun v4 hf => ?_)
      refine lv_iconst (v := 1) hx hb d_M_step_18 (by decide) ?_
      refine lv_icmp_le (tgt := 30) hx hb d_M_step_19 (by decide) (fun q5 => ?_) (fun q5 => ?_)
      · have hf := ifp q5 hf
        refine lv_iconst (v := 0) hx hb d_M_step_30 (by decide) ?_
        refine lv_istore_n (lv' := [(2, .int 0), (0, .ref x0), (1, .int x1)]) hx hb d_M_step_31 rfl hl (by decide) rfl (fun ls hl => ?_)
        refine lv_iload_n hx hb d_M_step_32 rfl (lv_at hl 0 rfl) ?_
        refine lv_if_le (tgt := 43) hx hb d_M_step_33 (by decide) (fun q6 => ?_) (fun q6 => ?_)
        · rw [if_pos q6] at hf
          refine lv_iinc (v := x1 + 1) (lv' := [(1, .int (x1 + 1)), (2, .int 0), (0, .ref x0)]) hx hb d_M_step_43 hl (k := 2) rfl rfl (by decide) rfl (fun ls hl => ?_)
          refine lv_goto (tgt := 7) hx hb d_M_step_46 (by decide) ?_
          exact ih _ _ _ _ hf _ _ _ _ _ hs (lv_sub hl [2, 0] rfl)
        · rw [if_neg q6] at hf
          refine lv_bipush (v := 10) hx hb d_M_step_36 (by decide) ?_
          refine lv_iload_n hx hb d_M_step_38 rfl (lv_at hl 2 rfl) ?_
          refine lv_imul hx hb d_M_step_39 ?_
          refine lv_iload_n hx hb d_M_step_40 rfl (lv_at hl 0 rfl) ?_
          refine lv_iadd hx hb d_M_step_41 ?_
          exact r_ireturn C hs hr d_M_step_42 hf
      · have hf := ifn q5 hf
        refine lv_aload_n hx hb d_M_step_22 rfl (lv_at hl 0 rfl) ?_
        refine lv_iload_n hx hb d_M_step_23 rfl (lv_at hl 1 rfl) ?_
        obtain ⟨_, ho, hf⟩ := bd hf
        refine k_I C hs hex hf (fun res e1 => iv_V (b := x0) (As := [.int x1]) (rest := []) C hs cv_M_122 (c_M_stepOf hl0 e1) (ci := 6) rfl rfl ho rfl hl.1 rfl (Nat.le_of_ble_eq_true rfl) d_M_step_24 ⟨Nat.le_of_ble_eq_true rfl, Nat.le_of_ble_eq_true rfl⟩) (fun v9 h7 z8 H locs cells slots hf hs => ?_)
        refine lv_goto (tgt := 31) hx hb d_M_step_27 (by decide) ?_
        refine lv_istore_n (lv' := [(2, .int v9), (0, .ref x0), (1, .int x1)]) hx hb d_M_step_31 rfl hl (by decide) rfl (fun ls hl => ?_)
        refine lv_iload_n hx hb d_M_step_32 rfl (lv_at hl 0 rfl) ?_
        refine lv_if_le (tgt := 43) hx hb d_M_step_33 (by decide) (fun q10 => ?_) (fun q10 => ?_)
        · have hf := ifp q10 hf
          refine lv_iinc (v := x1 + 1) (lv' := [(1, .int (x1 + 1)), (2, .int v9), (0, .ref x0)]) hx hb d_M_step_43 hl (k := 2) rfl rfl (by decide) rfl (fun ls hl => ?_)
          refine lv_goto (tgt := 7) hx hb d_M_step_46 (by decide) ?_
          exact ih _ _ _ _ hf _ _ _ _ _ hs (lv_sub hl [2, 0] rfl)
        · have hf := ifn q10 hf
          refine lv_bipush (v := 10) hx hb d_M_step_36 (by decide) ?_
          refine lv_iload_n hx hb d_M_step_38 rfl (lv_at hl 2 rfl) ?_
          refine lv_imul hx hb d_M_step_39 ?_
          refine lv_iload_n hx hb d_M_step_40 rfl (lv_at hl 0 rfl) ?_
          refine lv_iadd hx hb d_M_step_41 ?_
          exact r_ireturn C hs hr d_M_step_42 hf
def f_M_step (bs : Nat) (sE : Nat × Nat) (h : HH) (z : Z3) (x0 : Nat) : Option RS :=
  (pV bs h x0 6 0 (.inl 0)).bind fun h1 =>
  f_M_step_L7 bs sE FU h1 z x0 0
set_option maxHeartbeats 4000000 in
set_option maxRecDepth 100000 in
theorem c_M_step {G : EN} {l : Launch} (hl0 : l.stackTraces = false) {h : HH} {z : Z3} {x0 : Nat} {r : RS} (hf : f_M_step G.2.2.1 G.2.2.2 h z x0 = some r) : CM G l y_M_step (.code y_M_step b_M_step 3 (some .int)) 2 48 [.ref x0] h z r := by
  refine CM.ofW hl0 rfl ?_
  intro p e s m below meth c C hr hex hin hs
  have hx := C.1
  have hb := C.2.1
  refine x_entry (n := 3) (Nat.le_of_ble_eq_true rfl) (fun ls hl => ?_)
  have hl : lv_has ls 3 [(0, .ref x0)] := hl
  unfold f_M_step at hf
  refine lv_aload_n hx hb d_M_step_0 rfl (lv_at hl 0 rfl) ?_
  refine lv_iconst (v := 0) hx hb d_M_step_1 (by decide) ?_
  refine r_putV (v := (.inl 0)) C hs flp_M_71 rfl rfl d_M_step_2 hf (fun h1 H locs hf hs => ?_)
  refine lv_iconst (v := 0) hx hb d_M_step_5 (by decide) ?_
  refine lv_istore_n (lv' := [(1, .int 0), (0, .ref x0)]) hx hb d_M_step_6 rfl hl (by decide) rfl (fun ls hl => ?_)
  exact t_M_step_L7 hl0 C hr hex FU _ _ _ _ hf _ _ _ _ _ hs (lv_sub hl [1, 0] rfl)
def f_M_plain (bs : Nat) (sE : Nat × Nat) (h : HH) (z : Z3) (x0 : Nat) (x1 : Int32) (x2 : Int32) : Option RS :=
  (pV bs h x0 6 0 (.inl 0)).bind fun h1 =>
  (oK h1 x0 6).bind fun _ =>
  cI (f_M_out bs sE h1 z x0 x1 4) fun v4 h2 z3 =>
  if v4 = 0 then
    ((oK h2 x0 6).bind fun _ =>
    cI (f_M_full bs sE h2 z3 x0 x1) fun v8 h6 z7 =>
    if v8 = 0 then
      ((oK h6 x0 6).bind fun _ =>
      cI (f_M_put bs sE h6 z7 x0 x1 0 x2 (-1) (-1)) fun v12 h10 z11 =>
      some (.inl (some (.int v12)), h10, z11))
    else
      ((oK h6 x0 6).bind fun _ =>
      cI (f_M_fail bs sE h6 z7 x0 2) fun v15 h13 z14 =>
      some (.inl (some (.int v15)), h13, z14)))
  else
    ((oK h2 x0 6).bind fun _ =>
    cI (f_M_fail bs sE h2 z3 x0 1) fun v18 h16 z17 =>
    some (.inl (some (.int v18)), h16, z17))
set_option maxHeartbeats 4000000 in
set_option maxRecDepth 100000 in
theorem c_M_plain {G : EN} {l : Launch} (hl0 : l.stackTraces = false) {h : HH} {z : Z3} {x0 : Nat} {x1 : Int32} {x2 : Int32} {r : RS} (hf : f_M_plain G.2.2.1 G.2.2.2 h z x0 x1 x2 = some r) : CM G l y_M_plain (.code y_M_plain b_M_plain 3 (some .int)) 1 26 [.ref x0, .int x1, .int x2] h z r := by
  refine CM.ofW hl0 rfl ?_
  intro p e s m below meth c C hr hex hin hs
  have hx := C.1
  have hb := C.2.1
  refine x_entry (n := 3) (Nat.le_of_ble_eq_true rfl) (fun ls hl => ?_)
  have hl : lv_has ls 3 [(0, .ref x0), (1, .int x1), (2, .int x2)] := hl
  unfold f_M_plain at hf
  refine lv_aload_n hx hb d_M_plain_0 rfl (lv_at hl 0 rfl) ?_
  refine lv_iconst (v := 0) hx hb d_M_plain_1 (by decide) ?_
  refine r_putV (v := (.inl 0)) C hs flp_M_71 rfl rfl d_M_plain_2 hf (fun h1 H locs hf hs => ?_)
  refine lv_aload_n hx hb d_M_plain_5 rfl (lv_at hl 0 rfl) ?_
  refine lv_iload_n hx hb d_M_plain_6 rfl (lv_at hl 1 rfl) ?_
  refine lv_iconst (v := 4) hx hb d_M_plain_7 (by decide) ?_
  obtain ⟨_, ho, hf⟩ := bd hf
  refine k_I C hs hex hf (fun res e1 => iv_V (b := x0) (As := [.int x1, .int 4]) (rest := []) C hs cv_M_83 (c_M_out hl0 e1) (ci := 6) rfl rfl ho rfl hl.1 rfl (Nat.le_of_ble_eq_true rfl) d_M_plain_8 ⟨Nat.le_of_ble_eq_true rfl, Nat.le_of_ble_eq_true rfl⟩) (fun v4 h2 z3 H locs cells slots hf hs => ?_)
  refine lv_if_eq (tgt := 20) hx hb d_M_plain_11 (by decide) (fun q5 => ?_) (fun q5 => ?_)
  · have hf := ifp q5 hf
    refine lv_aload_n hx hb d_M_plain_20 rfl (lv_at hl 0 rfl) ?_
    refine lv_iload_n hx hb d_M_plain_21 rfl (lv_at hl 1 rfl) ?_
    obtain ⟨_, ho, hf⟩ := bd hf
    refine k_I C hs hex hf (fun res e1 => iv_V (b := x0) (As := [.int x1]) (rest := []) C hs cv_M_111 (c_M_full hl0 e1) (ci := 6) rfl rfl ho rfl hl.1 rfl (Nat.le_of_ble_eq_true rfl) d_M_plain_22 ⟨Nat.le_of_ble_eq_true rfl, Nat.le_of_ble_eq_true rfl⟩) (fun v8 h6 z7 H locs cells slots hf hs => ?_)
    refine lv_if_eq (tgt := 36) hx hb d_M_plain_25 (by decide) (fun q9 => ?_) (fun q9 => ?_)
    · have hf := ifp q9 hf
      refine lv_aload_n hx hb d_M_plain_36 rfl (lv_at hl 0 rfl) ?_
      refine lv_iload_n hx hb d_M_plain_37 rfl (lv_at hl 1 rfl) ?_
      refine lv_iconst (v := 0) hx hb d_M_plain_38 (by decide) ?_
      refine lv_iload_n hx hb d_M_plain_39 rfl (lv_at hl 2 rfl) ?_
      refine lv_iconst (v := (-1)) hx hb d_M_plain_40 (by decide) ?_
      refine lv_iconst (v := (-1)) hx hb d_M_plain_41 (by decide) ?_
      obtain ⟨_, ho, hf⟩ := bd hf
      refine k_I C hs hex hf (fun res e1 => iv_V (b := x0) (As := [.int x1, .int 0, .int x2, .int (-1), .int (-1)]) (rest := []) C hs cv_M_115 (c_M_put hl0 e1) (ci := 6) rfl rfl ho rfl hl.1 rfl (Nat.le_of_ble_eq_true rfl) d_M_plain_42 ⟨Nat.le_of_ble_eq_true rfl, Nat.le_of_ble_eq_true rfl⟩) (fun v12 h10 z11 H locs cells slots hf hs => ?_)
      exact r_ireturn C hs hr d_M_plain_45 hf
    · have hf := ifn q9 hf
      refine lv_aload_n hx hb d_M_plain_28 rfl (lv_at hl 0 rfl) ?_
      refine lv_iconst (v := 2) hx hb d_M_plain_29 (by decide) ?_
      obtain ⟨_, ho, hf⟩ := bd hf
      refine k_I C hs hex hf (fun res e1 => iv_V (b := x0) (As := [.int 2]) (rest := []) C hs cv_M_86 (c_M_fail hl0 e1) (ci := 6) rfl rfl ho rfl hl.1 rfl (Nat.le_of_ble_eq_true rfl) d_M_plain_30 ⟨Nat.le_of_ble_eq_true rfl, Nat.le_of_ble_eq_true rfl⟩) (fun v15 h13 z14 H locs cells slots hf hs => ?_)
      refine lv_goto (tgt := 45) hx hb d_M_plain_33 (by decide) ?_
      exact r_ireturn C hs hr d_M_plain_45 hf
  · have hf := ifn q5 hf
    refine lv_aload_n hx hb d_M_plain_14 rfl (lv_at hl 0 rfl) ?_
    refine lv_iconst (v := 1) hx hb d_M_plain_15 (by decide) ?_
    obtain ⟨_, ho, hf⟩ := bd hf
    refine k_I C hs hex hf (fun res e1 => iv_V (b := x0) (As := [.int 1]) (rest := []) C hs cv_M_86 (c_M_fail hl0 e1) (ci := 6) rfl rfl ho rfl hl.1 rfl (Nat.le_of_ble_eq_true rfl) d_M_plain_16 ⟨Nat.le_of_ble_eq_true rfl, Nat.le_of_ble_eq_true rfl⟩) (fun v18 h16 z17 H locs cells slots hf hs => ?_)
    exact r_ireturn C hs hr d_M_plain_19 hf
def f_M_copy (bs : Nat) (sE : Nat × Nat) (h : HH) (z : Z3) (x0 : Nat) (x1 : Int32) (x2 : Int32) : Option RS :=
  (pV bs h x0 6 0 (.inl 0)).bind fun h1 =>
  (oK h1 x0 6).bind fun _ =>
  cI (f_M_out bs sE h1 z x0 x1 4) fun v4 h2 z3 =>
  if v4 = 0 then
    (if x2 < 1 then
      ((oK h2 x0 6).bind fun _ =>
      cI (f_M_fail bs sE h2 z3 x0 1) fun v12 h10 z11 =>
      some (.inl (some (.int v12)), h10, z11))
    else
      (if x2 ≤ 40 then
        ((gR h2 x0 6 9).bind fun v14 =>
        (gR h2 x0 6 9).bind fun v15 =>
        (aI h2 v15 0 x1).bind fun v16 =>
        (gR h2 x0 6 7).bind fun v17 =>
        (aI h2 v17 0 x1).bind fun v18 =>
        if (v16 + x2) ≤ v18 then
          ((gR h2 x0 6 9).bind fun v20 =>
          (aI h2 v20 0 x1).bind fun v21 =>
          (aIs bs h2 v14 0 x1 (v21 + x2)).bind fun h22 =>
          (gR h22 x0 6 9).bind fun v23 =>
          (aI h22 v23 0 x1).bind fun v24 =>
          some (.inl (some (.int v24)), h22, z3))
        else
          ((gR h2 x0 6 7).bind fun v25 =>
          (aI h2 v25 0 x1).bind fun v26 =>
          (aIs bs h2 v14 0 x1 v26).bind fun h27 =>
          (gR h27 x0 6 9).bind fun v28 =>
          (aI h27 v28 0 x1).bind fun v29 =>
          some (.inl (some (.int v29)), h27, z3)))
      else
        ((oK h2 x0 6).bind fun _ =>
        cI (f_M_fail bs sE h2 z3 x0 1) fun v32 h30 z31 =>
        some (.inl (some (.int v32)), h30, z31))))
  else
    ((oK h2 x0 6).bind fun _ =>
    cI (f_M_fail bs sE h2 z3 x0 1) fun v8 h6 z7 =>
    some (.inl (some (.int v8)), h6, z7))
set_option maxHeartbeats 4000000 in
set_option maxRecDepth 100000 in
theorem c_M_copy {G : EN} {l : Launch} (hl0 : l.stackTraces = false) {h : HH} {z : Z3} {x0 : Nat} {x1 : Int32} {x2 : Int32} {r : RS} (hf : f_M_copy G.2.2.1 G.2.2.2 h z x0 x1 x2 = some r) : CM G l y_M_copy (.code y_M_copy b_M_copy 3 (some .int)) 1 22 [.ref x0, .int x1, .int x2] h z r := by
  refine CM.ofW hl0 rfl ?_
  intro p e s m below meth c C hr hex hin hs
  have hx := C.1
  have hb := C.2.1
  refine x_entry (n := 3) (Nat.le_of_ble_eq_true rfl) (fun ls hl => ?_)
  have hl : lv_has ls 3 [(0, .ref x0), (1, .int x1), (2, .int x2)] := hl
  unfold f_M_copy at hf
  refine lv_aload_n hx hb d_M_copy_0 rfl (lv_at hl 0 rfl) ?_
  refine lv_iconst (v := 0) hx hb d_M_copy_1 (by decide) ?_
  refine r_putV (v := (.inl 0)) C hs flp_M_71 rfl rfl d_M_copy_2 hf (fun h1 H locs hf hs => ?_)
  refine lv_aload_n hx hb d_M_copy_5 rfl (lv_at hl 0 rfl) ?_
  refine lv_iload_n hx hb d_M_copy_6 rfl (lv_at hl 1 rfl) ?_
  refine lv_iconst (v := 4) hx hb d_M_copy_7 (by decide) ?_
  obtain ⟨_, ho, hf⟩ := bd hf
  refine k_I C hs hex hf (fun res e1 => iv_V (b := x0) (As := [.int x1, .int 4]) (rest := []) C hs cv_M_83 (c_M_out hl0 e1) (ci := 6) rfl rfl ho rfl hl.1 rfl (Nat.le_of_ble_eq_true rfl) d_M_copy_8 ⟨Nat.le_of_ble_eq_true rfl, Nat.le_of_ble_eq_true rfl⟩) (fun v4 h2 z3 H locs cells slots hf hs => ?_)
  refine lv_if_ne (tgt := 25) hx hb d_M_copy_11 (by decide) (fun q5 => ?_) (fun q5 => ?_)
  · have hf := ifn q5 hf
    refine lv_aload_n hx hb d_M_copy_25 rfl (lv_at hl 0 rfl) ?_
    refine lv_iconst (v := 1) hx hb d_M_copy_26 (by decide) ?_
    obtain ⟨_, ho, hf⟩ := bd hf
    refine k_I C hs hex hf (fun res e1 => iv_V (b := x0) (As := [.int 1]) (rest := []) C hs cv_M_86 (c_M_fail hl0 e1) (ci := 6) rfl rfl ho rfl hl.1 rfl (Nat.le_of_ble_eq_true rfl) d_M_copy_27 ⟨Nat.le_of_ble_eq_true rfl, Nat.le_of_ble_eq_true rfl⟩) (fun v8 h6 z7 H locs cells slots hf hs => ?_)
    exact r_ireturn C hs hr d_M_copy_30 hf
  · have hf := ifp q5 hf
    refine lv_iload_n hx hb d_M_copy_14 rfl (lv_at hl 2 rfl) ?_
    refine lv_iconst (v := 1) hx hb d_M_copy_15 (by decide) ?_
    refine lv_icmp_lt (tgt := 25) hx hb d_M_copy_16 (by decide) (fun q9 => ?_) (fun q9 => ?_)
    · have hf := ifp q9 hf
      refine lv_aload_n hx hb d_M_copy_25 rfl (lv_at hl 0 rfl) ?_
      refine lv_iconst (v := 1) hx hb d_M_copy_26 (by decide) ?_
      obtain ⟨_, ho, hf⟩ := bd hf
      refine k_I C hs hex hf (fun res e1 => iv_V (b := x0) (As := [.int 1]) (rest := []) C hs cv_M_86 (c_M_fail hl0 e1) (ci := 6) rfl rfl ho rfl hl.1 rfl (Nat.le_of_ble_eq_true rfl) d_M_copy_27 ⟨Nat.le_of_ble_eq_true rfl, Nat.le_of_ble_eq_true rfl⟩) (fun v12 h10 z11 H locs cells slots hf hs => ?_)
      exact r_ireturn C hs hr d_M_copy_30 hf
    · have hf := ifn q9 hf
      refine lv_iload_n hx hb d_M_copy_19 rfl (lv_at hl 2 rfl) ?_
      refine lv_bipush (v := 40) hx hb d_M_copy_20 (by decide) ?_
      refine lv_icmp_le (tgt := 31) hx hb d_M_copy_22 (by decide) (fun q13 => ?_) (fun q13 => ?_)
      · have hf := ifp q13 hf
        refine lv_aload_n hx hb d_M_copy_31 rfl (lv_at hl 0 rfl) ?_
        refine r_getR C hs fl_M_34 d_M_copy_32 hf (fun v14 hf => ?_)
        refine lv_iload_n hx hb d_M_copy_35 rfl (lv_at hl 1 rfl) ?_
        refine lv_aload_n hx hb d_M_copy_36 rfl (lv_at hl 0 rfl) ?_
        refine r_getR C hs fl_M_34 d_M_copy_37 hf (fun v15 hf => ?_)
        refine lv_iload_n hx hb d_M_copy_40 rfl (lv_at hl 1 rfl) ?_
        refine r_iald C hs d_M_copy_41 hf (fun v16 hf => ?_)
        refine lv_iload_n hx hb d_M_copy_42 rfl (lv_at hl 2 rfl) ?_
        refine lv_iadd hx hb d_M_copy_43 ?_
        refine lv_aload_n hx hb d_M_copy_44 rfl (lv_at hl 0 rfl) ?_
        refine r_getR C hs fl_M_28 d_M_copy_45 hf (fun v17 hf => ?_)
        refine lv_iload_n hx hb d_M_copy_48 rfl (lv_at hl 1 rfl) ?_
        refine r_iald C hs d_M_copy_49 hf (fun v18 hf => ?_)
        refine lv_icmp_le (tgt := 62) hx hb d_M_copy_50 (by decide) (fun q19 => ?_) (fun q19 => ?_)
        · have hf := ifp q19 hf
          refine lv_aload_n hx hb d_M_copy_62 rfl (lv_at hl 0 rfl) ?_
          refine r_getR C hs fl_M_34 d_M_copy_63 hf (fun v20 hf => ?_)
          refine lv_iload_n hx hb d_M_copy_66 rfl (lv_at hl 1 rfl) ?_
          refine r_iald C hs d_M_copy_67 hf (fun v21 hf => ?_)
          refine lv_iload_n hx hb d_M_copy_68 rfl (lv_at hl 2 rfl) ?_
          refine lv_iadd hx hb d_M_copy_69 ?_
          refine r_iast C hs d_M_copy_70 hf (fun h22 H locs hf hs => ?_)
          refine lv_aload_n hx hb d_M_copy_71 rfl (lv_at hl 0 rfl) ?_
          refine r_getR C hs fl_M_34 d_M_copy_72 hf (fun v23 hf => ?_)
          refine lv_iload_n hx hb d_M_copy_75 rfl (lv_at hl 1 rfl) ?_
          refine r_iald C hs d_M_copy_76 hf (fun v24 hf => ?_)
          exact r_ireturn C hs hr d_M_copy_77 hf
        · have hf := ifn q19 hf
          refine lv_aload_n hx hb d_M_copy_53 rfl (lv_at hl 0 rfl) ?_
          refine r_getR C hs fl_M_28 d_M_copy_54 hf (fun v25 hf => ?_)
          refine lv_iload_n hx hb d_M_copy_57 rfl (lv_at hl 1 rfl) ?_
          refine r_iald C hs d_M_copy_58 hf (fun v26 hf => ?_)
          refine lv_goto (tgt := 70) hx hb d_M_copy_59 (by decide) ?_
          refine r_iast C hs d_M_copy_70 hf (fun h27 H locs hf hs => ?_)
          refine lv_aload_n hx hb d_M_copy_71 rfl (lv_at hl 0 rfl) ?_
          refine r_getR C hs fl_M_34 d_M_copy_72 hf (fun v28 hf => ?_)
          refine lv_iload_n hx hb d_M_copy_75 rfl (lv_at hl 1 rfl) ?_
          refine r_iald C hs d_M_copy_76 hf (fun v29 hf => ?_)
          exact r_ireturn C hs hr d_M_copy_77 hf
      · have hf := ifn q13 hf
        refine lv_aload_n hx hb d_M_copy_25 rfl (lv_at hl 0 rfl) ?_
        refine lv_iconst (v := 1) hx hb d_M_copy_26 (by decide) ?_
        obtain ⟨_, ho, hf⟩ := bd hf
        refine k_I C hs hex hf (fun res e1 => iv_V (b := x0) (As := [.int 1]) (rest := []) C hs cv_M_86 (c_M_fail hl0 e1) (ci := 6) rfl rfl ho rfl hl.1 rfl (Nat.le_of_ble_eq_true rfl) d_M_copy_27 ⟨Nat.le_of_ble_eq_true rfl, Nat.le_of_ble_eq_true rfl⟩) (fun v32 h30 z31 H locs cells slots hf hs => ?_)
        exact r_ireturn C hs hr d_M_copy_30 hf
def f_M_lose (bs : Nat) (sE : Nat × Nat) (h : HH) (z : Z3) (x0 : Nat) (x1 : Int32) : Option RS :=
  (pV bs h x0 6 0 (.inl 0)).bind fun h1 =>
  (oK h1 x0 6).bind fun _ =>
  cI (f_M_out bs sE h1 z x0 x1 4) fun v4 h2 z3 =>
  if v4 = 0 then
    ((gR h2 x0 6 7).bind fun v6 =>
    (aI h2 v6 0 x1).bind fun v7 =>
    (gR h2 x0 6 9).bind fun v8 =>
    (aI h2 v8 0 x1).bind fun v9 =>
    (gR h2 x0 6 7).bind fun v10 =>
    (gR h2 x0 6 9).bind fun v11 =>
    (aI h2 v11 0 x1).bind fun v12 =>
    (aIs bs h2 v10 0 x1 v12).bind fun h13 =>
    some (.inl (some (.int (v7 - v9))), h13, z3))
  else
    ((oK h2 x0 6).bind fun _ =>
    cI (f_M_fail bs sE h2 z3 x0 1) fun v16 h14 z15 =>
    some (.inl (some (.int v16)), h14, z15))
set_option maxHeartbeats 4000000 in
set_option maxRecDepth 100000 in
theorem c_M_lose {G : EN} {l : Launch} (hl0 : l.stackTraces = false) {h : HH} {z : Z3} {x0 : Nat} {x1 : Int32} {r : RS} (hf : f_M_lose G.2.2.1 G.2.2.2 h z x0 x1 = some r) : CM G l y_M_lose (.code y_M_lose b_M_lose 3 (some .int)) 1 22 [.ref x0, .int x1] h z r := by
  refine CM.ofW hl0 rfl ?_
  intro p e s m below meth c C hr hex hin hs
  have hx := C.1
  have hb := C.2.1
  refine x_entry (n := 3) (Nat.le_of_ble_eq_true rfl) (fun ls hl => ?_)
  have hl : lv_has ls 3 [(0, .ref x0), (1, .int x1)] := hl
  unfold f_M_lose at hf
  refine lv_aload_n hx hb d_M_lose_0 rfl (lv_at hl 0 rfl) ?_
  refine lv_iconst (v := 0) hx hb d_M_lose_1 (by decide) ?_
  refine r_putV (v := (.inl 0)) C hs flp_M_71 rfl rfl d_M_lose_2 hf (fun h1 H locs hf hs => ?_)
  refine lv_aload_n hx hb d_M_lose_5 rfl (lv_at hl 0 rfl) ?_
  refine lv_iload_n hx hb d_M_lose_6 rfl (lv_at hl 1 rfl) ?_
  refine lv_iconst (v := 4) hx hb d_M_lose_7 (by decide) ?_
  obtain ⟨_, ho, hf⟩ := bd hf
  refine k_I C hs hex hf (fun res e1 => iv_V (b := x0) (As := [.int x1, .int 4]) (rest := []) C hs cv_M_83 (c_M_out hl0 e1) (ci := 6) rfl rfl ho rfl hl.1 rfl (Nat.le_of_ble_eq_true rfl) d_M_lose_8 ⟨Nat.le_of_ble_eq_true rfl, Nat.le_of_ble_eq_true rfl⟩) (fun v4 h2 z3 H locs cells slots hf hs => ?_)
  refine lv_if_eq (tgt := 20) hx hb d_M_lose_11 (by decide) (fun q5 => ?_) (fun q5 => ?_)
  · have hf := ifp q5 hf
    refine lv_aload_n hx hb d_M_lose_20 rfl (lv_at hl 0 rfl) ?_
    refine r_getR C hs fl_M_28 d_M_lose_21 hf (fun v6 hf => ?_)
    refine lv_iload_n hx hb d_M_lose_24 rfl (lv_at hl 1 rfl) ?_
    refine r_iald C hs d_M_lose_25 hf (fun v7 hf => ?_)
    refine lv_aload_n hx hb d_M_lose_26 rfl (lv_at hl 0 rfl) ?_
    refine r_getR C hs fl_M_34 d_M_lose_27 hf (fun v8 hf => ?_)
    refine lv_iload_n hx hb d_M_lose_30 rfl (lv_at hl 1 rfl) ?_
    refine r_iald C hs d_M_lose_31 hf (fun v9 hf => ?_)
    refine lv_isub hx hb d_M_lose_32 ?_
    refine lv_istore_n (lv' := [(2, .int (v7 - v9)), (0, .ref x0), (1, .int x1)]) hx hb d_M_lose_33 rfl hl (by decide) rfl (fun ls hl => ?_)
    refine lv_aload_n hx hb d_M_lose_34 rfl (lv_at hl 1 rfl) ?_
    refine r_getR C hs fl_M_28 d_M_lose_35 hf (fun v10 hf => ?_)
    refine lv_iload_n hx hb d_M_lose_38 rfl (lv_at hl 2 rfl) ?_
    refine lv_aload_n hx hb d_M_lose_39 rfl (lv_at hl 1 rfl) ?_
    refine r_getR C hs fl_M_34 d_M_lose_40 hf (fun v11 hf => ?_)
    refine lv_iload_n hx hb d_M_lose_43 rfl (lv_at hl 2 rfl) ?_
    refine r_iald C hs d_M_lose_44 hf (fun v12 hf => ?_)
    refine r_iast C hs d_M_lose_45 hf (fun h13 H locs hf hs => ?_)
    refine lv_iload_n hx hb d_M_lose_46 rfl (lv_at hl 0 rfl) ?_
    exact r_ireturn C hs hr d_M_lose_47 hf
  · have hf := ifn q5 hf
    refine lv_aload_n hx hb d_M_lose_14 rfl (lv_at hl 0 rfl) ?_
    refine lv_iconst (v := 1) hx hb d_M_lose_15 (by decide) ?_
    obtain ⟨_, ho, hf⟩ := bd hf
    refine k_I C hs hex hf (fun res e1 => iv_V (b := x0) (As := [.int 1]) (rest := []) C hs cv_M_86 (c_M_fail hl0 e1) (ci := 6) rfl rfl ho rfl hl.1 rfl (Nat.le_of_ble_eq_true rfl) d_M_lose_16 ⟨Nat.le_of_ble_eq_true rfl, Nat.le_of_ble_eq_true rfl⟩) (fun v16 h14 z15 H locs cells slots hf hs => ?_)
    exact r_ireturn C hs hr d_M_lose_19 hf
def fb_M_stable_L2 (bs : Nat) (sE : Nat × Nat) (REC : HH → Z3 → Nat → Int32 → Int32 → Option RS) (h : HH) (z : Z3) (x0 : Nat) (x1 : Int32) (x2 : Int32) : Option RS :=
  (gR h x0 6 9).bind fun v1 =>
  (aI h v1 0 x1).bind fun v2 =>
  if v2 ≤ x2 then
    ((gR h x0 6 9).bind fun v4 =>
    (aI h v4 0 x1).bind fun v5 =>
    some (.inl (some (.int v5)), h, z))
  else
    ((gR h x0 6 1).bind fun v6 =>
    (aI h v6 0 ((520 * x1) + x2)).bind fun v7 =>
    if v7 = 1 then
      ((gR h x0 6 6).bind fun v9 =>
      (aI h v9 0 ((520 * x1) + x2)).bind fun v10 =>
      (gR h x0 6 9).bind fun v11 =>
      (aI h v11 0 x1).bind fun v12 =>
      (oK h x0 6).bind fun _ =>
      cI (f_M_marked bs sE h z x0 x1 v10 v12 0) fun v15 h13 z14 =>
      if v15 = 0 then
        (some (.inl (some (.int x2)), h13, z14))
      else
        (REC h13 z14 x0 x1 (x2 + 1)))
    else
      (REC h z x0 x1 (x2 + 1)))
def f_M_stable_L2 (bs : Nat) (sE : Nat × Nat) : Nat → HH → Z3 → Nat → Int32 → Int32 → Option RS
  | 0 => fun _ _ _ _ _ => none
  | n + 1 => fb_M_stable_L2 bs sE (f_M_stable_L2 bs sE n)
set_option maxHeartbeats 4000000 in
set_option maxRecDepth 100000 in
theorem t_M_stable_L2 {G : EN} {p : Program} {l : Launch} {e : Env} {s : State} {m : MethodId} {args : Array Value} {below : List Frame} {meth : Method} {c : Code} {z0 : Z3} (hl0 : l.stackTraces = false) (C : CX G p l s m meth c b_M_stable 4 y_M_stable.cls) (hr : meth.sig.returnType = (some .int)) (hex : c.exceptionTable.toList = []) {r : RS} :
    ∀ (n : Nat) (h : HH) (z : Z3) (x0 : Nat) (x1 : Int32) (x2 : Int32), f_M_stable_L2 G.2.2.1 G.2.2.2 n h z x0 x1 x2 = some r → ∀ (H : Heap) (locs : List Loc) (cells slots : Nat) (ls : Array Slot), ST G (RM 1 25 z0) s h z H locs cells slots → lv_has ls 4 [(0, .ref x0), (1, .int x1), (2, .int x2)] → W p l e (RM 1 25 z0) s m args below meth c H locs cells slots (MX G below s r (RM 1 25 z0).cells (RM 1 25 z0).slots) (F0 m 2 ls []) := by
  have hx := C.1
  have hb := C.2.1
  intro n
  induction n with
  | zero => intro h z x0 x1 x2 hf; exact nomatch (show (none : Option RS) = some r from hf)
  | succ n ih =>
    intro h z x0 x1 x2 hf H locs cells slots ls hs hl
    have hf : fb_M_stable_L2 G.2.2.1 G.2.2.2 (f_M_stable_L2 G.2.2.1 G.2.2.2 n) h z x0 x1 x2 = some r := hf
    unfold fb_M_stable_L2 at hf
    refine lv_iload_n hx hb d_M_stable_2 rfl (lv_at hl 2 rfl) ?_
    refine lv_aload_n hx hb d_M_stable_3 rfl (lv_at hl 0 rfl) ?_
    refine r_getR C hs fl_M_34 d_M_stable_4 hf (fun v1 hf => ?_)
    refine lv_iload_n hx hb d_M_stable_7 rfl (lv_at hl 1 rfl) ?_
    refine r_iald C hs d_M_stable_8 hf (fun v2 hf => ?_)
    refine lv_icmp_ge (tgt := 59) hx hb d_M_stable_9 (by decide) (fun q3 => ?_) (fun q3 => ?_)
    · have hf := ifp q3 hf
      refine lv_aload_n hx hb d_M_stable_59 rfl (lv_at hl 0 rfl) ?_
      refine r_getR C hs fl_M_34 d_M_stable_60 hf (fun v4 hf => ?_)
      refine lv_iload_n hx hb d_M_stable_63 rfl (lv_at hl 1 rfl) ?_
      refine r_iald C hs d_M_stable_64 hf (fun v5 hf => ?_)
      exact r_ireturn C hs hr d_M_stable_65 hf
    · have hf := ifn q3 hf
      refine lv_sipush (v := 520) hx hb d_M_stable_12 (by decide) ?_
      refine lv_iload_n hx hb d_M_stable_15 rfl (lv_at hl 1 rfl) ?_
      refine lv_imul hx hb d_M_stable_16 ?_
      refine lv_iload_n hx hb d_M_stable_17 rfl (lv_at hl 2 rfl) ?_
      refine lv_iadd hx hb d_M_stable_18 ?_
      refine lv_istore_n (lv' := [(3, .int ((520 * x1) + x2)), (0, .ref x0), (1, .int x1), (2, .int x2)]) hx hb d_M_stable_19 rfl hl (by decide) rfl (fun ls hl => ?_)
      refine lv_aload_n hx hb d_M_stable_20 rfl (lv_at hl 1 rfl) ?_
      refine r_getR C hs fl_M_7 d_M_stable_21 hf (fun v6 hf => ?_)
      refine lv_iload_n hx hb d_M_stable_24 rfl (lv_at hl 0 rfl) ?_
      refine r_iald C hs d_M_stable_25 hf (fun v7 hf => ?_)
      refine lv_iconst (v := 1) hx hb d_M_stable_26 (by decide) ?_
      refine lv_icmp_ne (tgt := 53) hx hb d_M_stable_27 (by decide) (fun q8 => ?_) (fun q8 => ?_)
      · have hf := ifn q8 hf
        refine lv_iinc (v := x2 + 1) (lv' := [(2, .int (x2 + 1)), (3, .int ((520 * x1) + x2)), (0, .ref x0), (1, .int x1)]) hx hb d_M_stable_53 hl (k := 3) rfl rfl (by decide) rfl (fun ls hl => ?_)
        refine lv_goto (tgt := 2) hx hb d_M_stable_56 (by decide) ?_
        exact ih _ _ _ _ _ hf _ _ _ _ _ hs (lv_sub hl [2, 3, 0] rfl)
      · have hf := ifp q8 hf
        refine lv_aload_n hx hb d_M_stable_30 rfl (lv_at hl 1 rfl) ?_
        refine lv_iload_n hx hb d_M_stable_31 rfl (lv_at hl 2 rfl) ?_
        refine lv_aload_n hx hb d_M_stable_32 rfl (lv_at hl 1 rfl) ?_
        refine r_getR C hs fl_M_25 d_M_stable_33 hf (fun v9 hf => ?_)
        refine lv_iload_n hx hb d_M_stable_36 rfl (lv_at hl 0 rfl) ?_
        refine r_iald C hs d_M_stable_37 hf (fun v10 hf => ?_)
        refine lv_aload_n hx hb d_M_stable_38 rfl (lv_at hl 1 rfl) ?_
        refine r_getR C hs fl_M_34 d_M_stable_39 hf (fun v11 hf => ?_)
        refine lv_iload_n hx hb d_M_stable_42 rfl (lv_at hl 2 rfl) ?_
        refine r_iald C hs d_M_stable_43 hf (fun v12 hf => ?_)
        refine lv_iconst (v := 0) hx hb d_M_stable_44 (by decide) ?_
        obtain ⟨_, ho, hf⟩ := bd hf
        refine k_I C hs hex hf (fun res e1 => iv_V (b := x0) (As := [.int x1, .int v10, .int v12, .int 0]) (rest := []) C hs cv_M_79 (c_M_marked hl0 e1) (ci := 6) rfl rfl ho rfl hl.1 rfl (Nat.le_of_ble_eq_true rfl) d_M_stable_45 ⟨Nat.le_of_ble_eq_true rfl, Nat.le_of_ble_eq_true rfl⟩) (fun v15 h13 z14 H locs cells slots hf hs => ?_)
        refine lv_if_ne (tgt := 53) hx hb d_M_stable_48 (by decide) (fun q16 => ?_) (fun q16 => ?_)
        · have hf := ifn q16 hf
          refine lv_iinc (v := x2 + 1) (lv' := [(2, .int (x2 + 1)), (3, .int ((520 * x1) + x2)), (0, .ref x0), (1, .int x1)]) hx hb d_M_stable_53 hl (k := 3) rfl rfl (by decide) rfl (fun ls hl => ?_)
          refine lv_goto (tgt := 2) hx hb d_M_stable_56 (by decide) ?_
          exact ih _ _ _ _ _ hf _ _ _ _ _ hs (lv_sub hl [2, 3, 0] rfl)
        · have hf := ifp q16 hf
          refine lv_iload_n hx hb d_M_stable_51 rfl (lv_at hl 3 rfl) ?_
          exact r_ireturn C hs hr d_M_stable_52 hf
def f_M_stable (bs : Nat) (sE : Nat × Nat) (h : HH) (z : Z3) (x0 : Nat) (x1 : Int32) : Option RS :=
  f_M_stable_L2 bs sE FU h z x0 x1 0
set_option maxHeartbeats 4000000 in
set_option maxRecDepth 100000 in
theorem c_M_stable {G : EN} {l : Launch} (hl0 : l.stackTraces = false) {h : HH} {z : Z3} {x0 : Nat} {x1 : Int32} {r : RS} (hf : f_M_stable G.2.2.1 G.2.2.2 h z x0 x1 = some r) : CM G l y_M_stable (.code y_M_stable b_M_stable 4 (some .int)) 1 25 [.ref x0, .int x1] h z r := by
  refine CM.ofW hl0 rfl ?_
  intro p e s m below meth c C hr hex hin hs
  have hx := C.1
  have hb := C.2.1
  refine x_entry (n := 4) (Nat.le_of_ble_eq_true rfl) (fun ls hl => ?_)
  have hl : lv_has ls 4 [(0, .ref x0), (1, .int x1)] := hl
  unfold f_M_stable at hf
  refine lv_iconst (v := 0) hx hb d_M_stable_0 (by decide) ?_
  refine lv_istore_n (lv' := [(2, .int 0), (0, .ref x0), (1, .int x1)]) hx hb d_M_stable_1 rfl hl (by decide) rfl (fun ls hl => ?_)
  exact t_M_stable_L2 hl0 C hr hex FU _ _ _ _ _ hf _ _ _ _ _ hs (lv_sub hl [1, 2, 0] rfl)
def fb_M_fetch_L70 (bs : Nat) (sE : Nat × Nat) (REC : HH → Z3 → Nat → Int32 → Int32 → Int32 → Int32 → Option RS) (h : HH) (z : Z3) (x0 : Nat) (x1 : Int32) (x3 : Int32) (x4 : Int32) (x5 : Int32) : Option RS :=
  if x4 ≤ x5 then
    ((oK h x0 6).bind fun _ =>
    cI (f_M_fail bs sE h z x0 3) fun v22 h20 z21 =>
    some (.inl (some (.int v22)), h20, z21))
  else
    ((gR h x0 6 1).bind fun v23 =>
    (aI h v23 0 ((520 * x1) + x5)).bind fun v24 =>
    if v24 ≤ 1 then
      (if x3 = 0 then
        ((gR h x0 6 2).bind fun v27 =>
        (aI h v27 0 ((520 * x1) + x5)).bind fun v28 =>
        (pV bs h x0 6 23 (.inl v28)).bind fun h29 =>
        some (.inl (some (.int x5)), h29, z))
      else
        ((gR h x0 6 1).bind fun v30 =>
        (aI h v30 0 ((520 * x1) + x5)).bind fun v31 =>
        if v31 = 1 then
          ((gR h x0 6 6).bind fun v36 =>
          (aI h v36 0 ((520 * x1) + x5)).bind fun v37 =>
          (gR h x0 6 9).bind fun v38 =>
          (aI h v38 0 x1).bind fun v39 =>
          (oK h x0 6).bind fun _ =>
          cI (f_M_marked bs sE h z x0 x1 v37 v39 1) fun v42 h40 z41 =>
          if v42 = 0 then
            ((gR h40 x0 6 2).bind fun v44 =>
            (aI h40 v44 0 ((520 * x1) + x5)).bind fun v45 =>
            (pV bs h40 x0 6 23 (.inl v45)).bind fun h46 =>
            some (.inl (some (.int x5)), h46, z41))
          else
            (REC h40 z41 x0 x1 x3 x4 (x5 + 1)))
        else
          ((gR h x0 6 2).bind fun v33 =>
          (aI h v33 0 ((520 * x1) + x5)).bind fun v34 =>
          (pV bs h x0 6 23 (.inl v34)).bind fun h35 =>
          some (.inl (some (.int x5)), h35, z))))
    else
      (REC h z x0 x1 x3 x4 (x5 + 1)))
def f_M_fetch_L70 (bs : Nat) (sE : Nat × Nat) : Nat → HH → Z3 → Nat → Int32 → Int32 → Int32 → Int32 → Option RS
  | 0 => fun _ _ _ _ _ _ _ => none
  | n + 1 => fb_M_fetch_L70 bs sE (f_M_fetch_L70 bs sE n)
set_option maxHeartbeats 4000000 in
set_option maxRecDepth 100000 in
theorem t_M_fetch_L70 {G : EN} {p : Program} {l : Launch} {e : Env} {s : State} {m : MethodId} {args : Array Value} {below : List Frame} {meth : Method} {c : Code} {z0 : Z3} (hl0 : l.stackTraces = false) (C : CX G p l s m meth c b_M_fetch 7 y_M_fetch.cls) (hr : meth.sig.returnType = (some .int)) (hex : c.exceptionTable.toList = []) {r : RS} :
    ∀ (n : Nat) (h : HH) (z : Z3) (x0 : Nat) (x1 : Int32) (x3 : Int32) (x4 : Int32) (x5 : Int32), f_M_fetch_L70 G.2.2.1 G.2.2.2 n h z x0 x1 x3 x4 x5 = some r → ∀ (H : Heap) (locs : List Loc) (cells slots : Nat) (ls : Array Slot), ST G (RM 2 48 z0) s h z H locs cells slots → lv_has ls 7 [(0, .ref x0), (1, .int x1), (3, .int x3), (4, .int x4), (5, .int x5)] → W p l e (RM 2 48 z0) s m args below meth c H locs cells slots (MX G below s r (RM 2 48 z0).cells (RM 2 48 z0).slots) (F0 m 70 ls []) := by
  have hx := C.1
  have hb := C.2.1
  intro n
  induction n with
  | zero => intro h z x0 x1 x3 x4 x5 hf; exact nomatch (show (none : Option RS) = some r from hf)
  | succ n ih =>
    intro h z x0 x1 x3 x4 x5 hf H locs cells slots ls hs hl
    have hf : fb_M_fetch_L70 G.2.2.1 G.2.2.2 (f_M_fetch_L70 G.2.2.1 G.2.2.2 n) h z x0 x1 x3 x4 x5 = some r := hf
    unfold fb_M_fetch_L70 at hf
    refine lv_iload hx hb d_M_fetch_70 (lv_at hl 4 rfl) ?_
    refine lv_iload hx hb d_M_fetch_72 (lv_at hl 3 rfl) ?_
    refine lv_icmp_ge (tgt := 161) hx hb d_M_fetch_74 (by decide) (fun q19 => ?_) (fun q19 => ?_)
    · have hf := ifp q19 hf
      refine lv_aload_n hx hb d_M_fetch_161 rfl (lv_at hl 0 rfl) ?_
      refine lv_iconst (v := 3) hx hb d_M_fetch_162 (by decide) ?_
      obtain ⟨_, ho, hf⟩ := bd hf
      refine k_I C hs hex hf (fun res e1 => iv_V (b := x0) (As := [.int 3]) (rest := []) C hs cv_M_86 (c_M_fail hl0 e1) (ci := 6) rfl rfl ho rfl hl.1 rfl (Nat.le_of_ble_eq_true rfl) d_M_fetch_163 ⟨Nat.le_of_ble_eq_true rfl, Nat.le_of_ble_eq_true rfl⟩) (fun v22 h20 z21 H locs cells slots hf hs => ?_)
      exact r_ireturn C hs hr d_M_fetch_166 hf
    · have hf := ifn q19 hf
      refine lv_sipush (v := 520) hx hb d_M_fetch_77 (by decide) ?_
      refine lv_iload_n hx hb d_M_fetch_80 rfl (lv_at hl 1 rfl) ?_
      refine lv_imul hx hb d_M_fetch_81 ?_
      refine lv_iload hx hb d_M_fetch_82 (lv_at hl 4 rfl) ?_
      refine lv_iadd hx hb d_M_fetch_84 ?_
      refine lv_istore (lv' := [(6, .int ((520 * x1) + x5)), (0, .ref x0), (1, .int x1), (3, .int x3), (4, .int x4), (5, .int x5)]) hx hb d_M_fetch_85 hl (by decide) rfl (fun ls hl => ?_)
      refine lv_aload_n hx hb d_M_fetch_87 rfl (lv_at hl 1 rfl) ?_
      refine r_getR C hs fl_M_7 d_M_fetch_88 hf (fun v23 hf => ?_)
      refine lv_iload hx hb d_M_fetch_91 (lv_at hl 0 rfl) ?_
      refine r_iald C hs d_M_fetch_93 hf (fun v24 hf => ?_)
      refine lv_iconst (v := 1) hx hb d_M_fetch_94 (by decide) ?_
      refine lv_icmp_le (tgt := 101) hx hb d_M_fetch_95 (by decide) (fun q25 => ?_) (fun q25 => ?_)
      · have hf := ifp q25 hf
        refine lv_iload_n hx hb d_M_fetch_101 rfl (lv_at hl 3 rfl) ?_
        refine lv_if_eq (tgt := 141) hx hb d_M_fetch_102 (by decide) (fun q26 => ?_) (fun q26 => ?_)
        · have hf := ifp q26 hf
          refine lv_aload_n hx hb d_M_fetch_141 rfl (lv_at hl 1 rfl) ?_
          refine lv_aload_n hx hb d_M_fetch_142 rfl (lv_at hl 1 rfl) ?_
          refine r_getR C hs fl_M_13 d_M_fetch_143 hf (fun v27 hf => ?_)
          refine lv_iload hx hb d_M_fetch_146 (lv_at hl 0 rfl) ?_
          refine r_iald C hs d_M_fetch_148 hf (fun v28 hf => ?_)
          refine r_putV (v := (.inl v28)) C hs flp_M_128 rfl rfl d_M_fetch_149 hf (fun h29 H locs hf hs => ?_)
          refine lv_iload hx hb d_M_fetch_152 (lv_at hl 5 rfl) ?_
          exact r_ireturn C hs hr d_M_fetch_154 hf
        · have hf := ifn q26 hf
          refine lv_aload_n hx hb d_M_fetch_105 rfl (lv_at hl 1 rfl) ?_
          refine r_getR C hs fl_M_7 d_M_fetch_106 hf (fun v30 hf => ?_)
          refine lv_iload hx hb d_M_fetch_109 (lv_at hl 0 rfl) ?_
          refine r_iald C hs d_M_fetch_111 hf (fun v31 hf => ?_)
          refine lv_iconst (v := 1) hx hb d_M_fetch_112 (by decide) ?_
          refine lv_icmp_ne (tgt := 141) hx hb d_M_fetch_113 (by decide) (fun q32 => ?_) (fun q32 => ?_)
          · have hf := ifn q32 hf
            refine lv_aload_n hx hb d_M_fetch_141 rfl (lv_at hl 1 rfl) ?_
            refine lv_aload_n hx hb d_M_fetch_142 rfl (lv_at hl 1 rfl) ?_
            refine r_getR C hs fl_M_13 d_M_fetch_143 hf (fun v33 hf => ?_)
            refine lv_iload hx hb d_M_fetch_146 (lv_at hl 0 rfl) ?_
            refine r_iald C hs d_M_fetch_148 hf (fun v34 hf => ?_)
            refine r_putV (v := (.inl v34)) C hs flp_M_128 rfl rfl d_M_fetch_149 hf (fun h35 H locs hf hs => ?_)
            refine lv_iload hx hb d_M_fetch_152 (lv_at hl 5 rfl) ?_
            exact r_ireturn C hs hr d_M_fetch_154 hf
          · have hf := ifp q32 hf
            refine lv_aload_n hx hb d_M_fetch_116 rfl (lv_at hl 1 rfl) ?_
            refine lv_iload_n hx hb d_M_fetch_117 rfl (lv_at hl 2 rfl) ?_
            refine lv_aload_n hx hb d_M_fetch_118 rfl (lv_at hl 1 rfl) ?_
            refine r_getR C hs fl_M_25 d_M_fetch_119 hf (fun v36 hf => ?_)
            refine lv_iload hx hb d_M_fetch_122 (lv_at hl 0 rfl) ?_
            refine r_iald C hs d_M_fetch_124 hf (fun v37 hf => ?_)
            refine lv_aload_n hx hb d_M_fetch_125 rfl (lv_at hl 1 rfl) ?_
            refine r_getR C hs fl_M_34 d_M_fetch_126 hf (fun v38 hf => ?_)
            refine lv_iload_n hx hb d_M_fetch_129 rfl (lv_at hl 2 rfl) ?_
            refine r_iald C hs d_M_fetch_130 hf (fun v39 hf => ?_)
            refine lv_iconst (v := 1) hx hb d_M_fetch_131 (by decide) ?_
            obtain ⟨_, ho, hf⟩ := bd hf
            refine k_I C hs hex hf (fun res e1 => iv_V (b := x0) (As := [.int x1, .int v37, .int v39, .int 1]) (rest := []) C hs cv_M_79 (c_M_marked hl0 e1) (ci := 6) rfl rfl ho rfl hl.1 rfl (Nat.le_of_ble_eq_true rfl) d_M_fetch_132 ⟨Nat.le_of_ble_eq_true rfl, Nat.le_of_ble_eq_true rfl⟩) (fun v42 h40 z41 H locs cells slots hf hs => ?_)
            refine lv_if_eq (tgt := 141) hx hb d_M_fetch_135 (by decide) (fun q43 => ?_) (fun q43 => ?_)
            · have hf := ifp q43 hf
              refine lv_aload_n hx hb d_M_fetch_141 rfl (lv_at hl 1 rfl) ?_
              refine lv_aload_n hx hb d_M_fetch_142 rfl (lv_at hl 1 rfl) ?_
              refine r_getR C hs fl_M_13 d_M_fetch_143 hf (fun v44 hf => ?_)
              refine lv_iload hx hb d_M_fetch_146 (lv_at hl 0 rfl) ?_
              refine r_iald C hs d_M_fetch_148 hf (fun v45 hf => ?_)
              refine r_putV (v := (.inl v45)) C hs flp_M_128 rfl rfl d_M_fetch_149 hf (fun h46 H locs hf hs => ?_)
              refine lv_iload hx hb d_M_fetch_152 (lv_at hl 5 rfl) ?_
              exact r_ireturn C hs hr d_M_fetch_154 hf
            · have hf := ifn q43 hf
              refine lv_goto (tgt := 155) hx hb d_M_fetch_138 (by decide) ?_
              refine lv_iinc (v := x5 + 1) (lv' := [(5, .int (x5 + 1)), (6, .int ((520 * x1) + x5)), (0, .ref x0), (1, .int x1), (3, .int x3), (4, .int x4)]) hx hb d_M_fetch_155 hl (k := 5) rfl rfl (by decide) rfl (fun ls hl => ?_)
              refine lv_goto (tgt := 70) hx hb d_M_fetch_158 (by decide) ?_
              exact ih _ _ _ _ _ _ _ hf _ _ _ _ _ hs (lv_sub hl [2, 3, 4, 5, 0] rfl)
      · have hf := ifn q25 hf
        refine lv_goto (tgt := 155) hx hb d_M_fetch_98 (by decide) ?_
        refine lv_iinc (v := x5 + 1) (lv' := [(5, .int (x5 + 1)), (6, .int ((520 * x1) + x5)), (0, .ref x0), (1, .int x1), (3, .int x3), (4, .int x4)]) hx hb d_M_fetch_155 hl (k := 5) rfl rfl (by decide) rfl (fun ls hl => ?_)
        refine lv_goto (tgt := 70) hx hb d_M_fetch_158 (by decide) ?_
        exact ih _ _ _ _ _ _ _ hf _ _ _ _ _ hs (lv_sub hl [2, 3, 4, 5, 0] rfl)
def f_M_fetch_B65 (bs : Nat) (sE : Nat × Nat) (h : HH) (z : Z3) (x0 : Nat) (x1 : Int32) (x2 : Int32) (x3 : Int32) (w0 : Int32) : Option RS :=
  f_M_fetch_L70 bs sE FU h z x0 x1 x3 w0 x2
set_option maxHeartbeats 4000000 in
set_option maxRecDepth 100000 in
theorem t_M_fetch_B65 {G : EN} {p : Program} {l : Launch} {e : Env} {s : State} {m : MethodId} {args : Array Value} {below : List Frame} {meth : Method} {c : Code} {z0 : Z3} (hl0 : l.stackTraces = false) (C : CX G p l s m meth c b_M_fetch 7 y_M_fetch.cls) (hr : meth.sig.returnType = (some .int)) (hex : c.exceptionTable.toList = []) {r : RS} :
    ∀ (h : HH) (z : Z3) (x0 : Nat) (x1 : Int32) (x2 : Int32) (x3 : Int32) (w0 : Int32), f_M_fetch_B65 G.2.2.1 G.2.2.2 h z x0 x1 x2 x3 w0 = some r → ∀ (H : Heap) (locs : List Loc) (cells slots : Nat) (ls : Array Slot), ST G (RM 2 48 z0) s h z H locs cells slots → lv_has ls 7 [(0, .ref x0), (1, .int x1), (2, .int x2), (3, .int x3)] → W p l e (RM 2 48 z0) s m args below meth c H locs cells slots (MX G below s r (RM 2 48 z0).cells (RM 2 48 z0).slots) (F0 m 65 ls [.int w0]) := by
  have hx := C.1
  have hb := C.2.1
  intro h z x0 x1 x2 x3 w0 hf H locs cells slots ls hs hl
  unfold f_M_fetch_B65 at hf
  refine lv_istore (lv' := [(4, .int w0), (0, .ref x0), (1, .int x1), (2, .int x2), (3, .int x3)]) hx hb d_M_fetch_65 hl (by decide) rfl (fun ls hl => ?_)
  refine lv_iload_n hx hb d_M_fetch_67 rfl (lv_at hl 3 rfl) ?_
  refine lv_istore (lv' := [(5, .int x2), (4, .int w0), (0, .ref x0), (1, .int x1), (2, .int x2), (3, .int x3)]) hx hb d_M_fetch_68 hl (by decide) rfl (fun ls hl => ?_)
  exact t_M_fetch_L70 hl0 C hr hex FU _ _ _ _ _ _ _ hf _ _ _ _ _ hs (lv_sub hl [2, 3, 5, 1, 0] rfl)
def f_M_fetch (bs : Nat) (sE : Nat × Nat) (h : HH) (z : Z3) (x0 : Nat) (x1 : Int32) (x2 : Int32) (x3 : Int32) : Option RS :=
  (pV bs h x0 6 0 (.inl 0)).bind fun h1 =>
  (oK h1 x0 6).bind fun _ =>
  cI (f_M_out bs sE h1 z x0 x1 4) fun v4 h2 z3 =>
  if v4 = 0 then
    ((oK h2 x0 6).bind fun _ =>
    cI (f_M_out bs sE h2 z3 x0 x2 601) fun v11 h9 z10 =>
    if v11 = 0 then
      ((gR h9 x0 6 8).bind fun v13 =>
      (aI h9 v13 0 x1).bind fun v14 =>
      if v14 ≤ x2 then
        (if x3 = 0 then
          ((gR h9 x0 6 9).bind fun v17 =>
          (aI h9 v17 0 x1).bind fun v18 =>
          f_M_fetch_B65 bs sE h9 z10 x0 x1 x2 x3 v18)
        else
          ((oK h9 x0 6).bind fun _ =>
          cI (f_M_stable bs sE h9 z10 x0 x1) fun v49 h47 z48 =>
          f_M_fetch_B65 bs sE h47 z48 x0 x1 x2 x3 v49))
      else
        ((oK h9 x0 6).bind fun _ =>
        cI (f_M_fail bs sE h9 z10 x0 2) fun v52 h50 z51 =>
        some (.inl (some (.int v52)), h50, z51)))
    else
      ((oK h9 x0 6).bind fun _ =>
      cI (f_M_fail bs sE h9 z10 x0 1) fun v55 h53 z54 =>
      some (.inl (some (.int v55)), h53, z54)))
  else
    ((oK h2 x0 6).bind fun _ =>
    cI (f_M_fail bs sE h2 z3 x0 1) fun v8 h6 z7 =>
    some (.inl (some (.int v8)), h6, z7))
set_option maxHeartbeats 4000000 in
set_option maxRecDepth 100000 in
theorem c_M_fetch {G : EN} {l : Launch} (hl0 : l.stackTraces = false) {h : HH} {z : Z3} {x0 : Nat} {x1 : Int32} {x2 : Int32} {x3 : Int32} {r : RS} (hf : f_M_fetch G.2.2.1 G.2.2.2 h z x0 x1 x2 x3 = some r) : CM G l y_M_fetch (.code y_M_fetch b_M_fetch 7 (some .int)) 2 48 [.ref x0, .int x1, .int x2, .int x3] h z r := by
  refine CM.ofW hl0 rfl ?_
  intro p e s m below meth c C hr hex hin hs
  have hx := C.1
  have hb := C.2.1
  refine x_entry (n := 7) (Nat.le_of_ble_eq_true rfl) (fun ls hl => ?_)
  have hl : lv_has ls 7 [(0, .ref x0), (1, .int x1), (2, .int x2), (3, .int x3)] := hl
  unfold f_M_fetch at hf
  refine lv_aload_n hx hb d_M_fetch_0 rfl (lv_at hl 0 rfl) ?_
  refine lv_iconst (v := 0) hx hb d_M_fetch_1 (by decide) ?_
  refine r_putV (v := (.inl 0)) C hs flp_M_71 rfl rfl d_M_fetch_2 hf (fun h1 H locs hf hs => ?_)
  refine lv_aload_n hx hb d_M_fetch_5 rfl (lv_at hl 0 rfl) ?_
  refine lv_iload_n hx hb d_M_fetch_6 rfl (lv_at hl 1 rfl) ?_
  refine lv_iconst (v := 4) hx hb d_M_fetch_7 (by decide) ?_
  obtain ⟨_, ho, hf⟩ := bd hf
  refine k_I C hs hex hf (fun res e1 => iv_V (b := x0) (As := [.int x1, .int 4]) (rest := []) C hs cv_M_83 (c_M_out hl0 e1) (ci := 6) rfl rfl ho rfl hl.1 rfl (Nat.le_of_ble_eq_true rfl) d_M_fetch_8 ⟨Nat.le_of_ble_eq_true rfl, Nat.le_of_ble_eq_true rfl⟩) (fun v4 h2 z3 H locs cells slots hf hs => ?_)
  refine lv_if_ne (tgt := 25) hx hb d_M_fetch_11 (by decide) (fun q5 => ?_) (fun q5 => ?_)
  · have hf := ifn q5 hf
    refine lv_aload_n hx hb d_M_fetch_25 rfl (lv_at hl 0 rfl) ?_
    refine lv_iconst (v := 1) hx hb d_M_fetch_26 (by decide) ?_
    obtain ⟨_, ho, hf⟩ := bd hf
    refine k_I C hs hex hf (fun res e1 => iv_V (b := x0) (As := [.int 1]) (rest := []) C hs cv_M_86 (c_M_fail hl0 e1) (ci := 6) rfl rfl ho rfl hl.1 rfl (Nat.le_of_ble_eq_true rfl) d_M_fetch_27 ⟨Nat.le_of_ble_eq_true rfl, Nat.le_of_ble_eq_true rfl⟩) (fun v8 h6 z7 H locs cells slots hf hs => ?_)
    exact r_ireturn C hs hr d_M_fetch_30 hf
  · have hf := ifp q5 hf
    refine lv_aload_n hx hb d_M_fetch_14 rfl (lv_at hl 0 rfl) ?_
    refine lv_iload_n hx hb d_M_fetch_15 rfl (lv_at hl 2 rfl) ?_
    refine lv_sipush (v := 601) hx hb d_M_fetch_16 (by decide) ?_
    obtain ⟨_, ho, hf⟩ := bd hf
    refine k_I C hs hex hf (fun res e1 => iv_V (b := x0) (As := [.int x2, .int 601]) (rest := []) C hs cv_M_83 (c_M_out hl0 e1) (ci := 6) rfl rfl ho rfl hl.1 rfl (Nat.le_of_ble_eq_true rfl) d_M_fetch_19 ⟨Nat.le_of_ble_eq_true rfl, Nat.le_of_ble_eq_true rfl⟩) (fun v11 h9 z10 H locs cells slots hf hs => ?_)
    refine lv_if_eq (tgt := 31) hx hb d_M_fetch_22 (by decide) (fun q12 => ?_) (fun q12 => ?_)
    · have hf := ifp q12 hf
      refine lv_iload_n hx hb d_M_fetch_31 rfl (lv_at hl 2 rfl) ?_
      refine lv_aload_n hx hb d_M_fetch_32 rfl (lv_at hl 0 rfl) ?_
      refine r_getR C hs fl_M_31 d_M_fetch_33 hf (fun v13 hf => ?_)
      refine lv_iload_n hx hb d_M_fetch_36 rfl (lv_at hl 1 rfl) ?_
      refine r_iald C hs d_M_fetch_37 hf (fun v14 hf => ?_)
      refine lv_icmp_ge (tgt := 47) hx hb d_M_fetch_38 (by decide) (fun q15 => ?_) (fun q15 => ?_)
      · have hf := ifp q15 hf
        refine lv_iload_n hx hb d_M_fetch_47 rfl (lv_at hl 3 rfl) ?_
        refine lv_if_eq (tgt := 59) hx hb d_M_fetch_48 (by decide) (fun q16 => ?_) (fun q16 => ?_)
        · have hf := ifp q16 hf
          refine lv_aload_n hx hb d_M_fetch_59 rfl (lv_at hl 0 rfl) ?_
          refine r_getR C hs fl_M_34 d_M_fetch_60 hf (fun v17 hf => ?_)
          refine lv_iload_n hx hb d_M_fetch_63 rfl (lv_at hl 1 rfl) ?_
          refine r_iald C hs d_M_fetch_64 hf (fun v18 hf => ?_)
          exact t_M_fetch_B65 hl0 C hr hex _ _ _ _ _ _ _ hf _ _ _ _ _ hs (lv_sub hl [0, 1, 2, 3] rfl)
        · have hf := ifn q16 hf
          refine lv_aload_n hx hb d_M_fetch_51 rfl (lv_at hl 0 rfl) ?_
          refine lv_iload_n hx hb d_M_fetch_52 rfl (lv_at hl 1 rfl) ?_
          obtain ⟨_, ho, hf⟩ := bd hf
          refine k_I C hs hex hf (fun res e1 => iv_V (b := x0) (As := [.int x1]) (rest := []) C hs cv_M_125 (c_M_stable hl0 e1) (ci := 6) rfl rfl ho rfl hl.1 rfl (Nat.le_of_ble_eq_true rfl) d_M_fetch_53 ⟨Nat.le_of_ble_eq_true rfl, Nat.le_of_ble_eq_true rfl⟩) (fun v49 h47 z48 H locs cells slots hf hs => ?_)
          refine lv_goto (tgt := 65) hx hb d_M_fetch_56 (by decide) ?_
          exact t_M_fetch_B65 hl0 C hr hex _ _ _ _ _ _ _ hf _ _ _ _ _ hs (lv_sub hl [0, 1, 2, 3] rfl)
      · have hf := ifn q15 hf
        refine lv_aload_n hx hb d_M_fetch_41 rfl (lv_at hl 0 rfl) ?_
        refine lv_iconst (v := 2) hx hb d_M_fetch_42 (by decide) ?_
        obtain ⟨_, ho, hf⟩ := bd hf
        refine k_I C hs hex hf (fun res e1 => iv_V (b := x0) (As := [.int 2]) (rest := []) C hs cv_M_86 (c_M_fail hl0 e1) (ci := 6) rfl rfl ho rfl hl.1 rfl (Nat.le_of_ble_eq_true rfl) d_M_fetch_43 ⟨Nat.le_of_ble_eq_true rfl, Nat.le_of_ble_eq_true rfl⟩) (fun v52 h50 z51 H locs cells slots hf hs => ?_)
        exact r_ireturn C hs hr d_M_fetch_46 hf
    · have hf := ifn q12 hf
      refine lv_aload_n hx hb d_M_fetch_25 rfl (lv_at hl 0 rfl) ?_
      refine lv_iconst (v := 1) hx hb d_M_fetch_26 (by decide) ?_
      obtain ⟨_, ho, hf⟩ := bd hf
      refine k_I C hs hex hf (fun res e1 => iv_V (b := x0) (As := [.int 1]) (rest := []) C hs cv_M_86 (c_M_fail hl0 e1) (ci := 6) rfl rfl ho rfl hl.1 rfl (Nat.le_of_ble_eq_true rfl) d_M_fetch_27 ⟨Nat.le_of_ble_eq_true rfl, Nat.le_of_ble_eq_true rfl⟩) (fun v55 h53 z54 H locs cells slots hf hs => ?_)
      exact r_ireturn C hs hr d_M_fetch_30 hf
def f_M_last (bs : Nat) (sE : Nat × Nat) (h : HH) (z : Z3) (x0 : Nat) : Option RS :=
  (pV bs h x0 6 0 (.inl 0)).bind fun h1 =>
  (gI h1 x0 6 23).bind fun v2 =>
  some (.inl (some (.int v2)), h1, z)
set_option maxHeartbeats 4000000 in
set_option maxRecDepth 100000 in
theorem c_M_last {G : EN} {l : Launch} (hl0 : l.stackTraces = false) {h : HH} {z : Z3} {x0 : Nat} {r : RS} (hf : f_M_last G.2.2.1 G.2.2.2 h z x0 = some r) : CM G l y_M_last (.code y_M_last b_M_last 1 (some .int)) 0 0 [.ref x0] h z r := by
  refine CM.ofW hl0 rfl ?_
  intro p e s m below meth c C hr hex hin hs
  have hx := C.1
  have hb := C.2.1
  refine x_entry (n := 1) (Nat.le_of_ble_eq_true rfl) (fun ls hl => ?_)
  have hl : lv_has ls 1 [(0, .ref x0)] := hl
  unfold f_M_last at hf
  refine lv_aload_n hx hb d_M_last_0 rfl (lv_at hl 0 rfl) ?_
  refine lv_iconst (v := 0) hx hb d_M_last_1 (by decide) ?_
  refine r_putV (v := (.inl 0)) C hs flp_M_71 rfl rfl d_M_last_2 hf (fun h1 H locs hf hs => ?_)
  refine lv_aload_n hx hb d_M_last_5 rfl (lv_at hl 0 rfl) ?_
  refine r_getI C hs fl_M_128 d_M_last_6 hf (fun v2 hf => ?_)
  exact r_ireturn C hs hr d_M_last_9 hf
def f_M_trim (bs : Nat) (sE : Nat × Nat) (h : HH) (z : Z3) (x0 : Nat) (x1 : Int32) (x2 : Int32) : Option RS :=
  (pV bs h x0 6 0 (.inl 0)).bind fun h1 =>
  (oK h1 x0 6).bind fun _ =>
  cI (f_M_out bs sE h1 z x0 x1 4) fun v4 h2 z3 =>
  if v4 = 0 then
    ((oK h2 x0 6).bind fun _ =>
    cI (f_M_out bs sE h2 z3 x0 x2 601) fun v11 h9 z10 =>
    if v11 = 0 then
      ((gR h9 x0 6 8).bind fun v13 =>
      (aI h9 v13 0 x1).bind fun v14 =>
      if x2 < v14 then
        ((oK h9 x0 6).bind fun _ =>
        cI (f_M_fail bs sE h9 z10 x0 2) fun v18 h16 z17 =>
        some (.inl (some (.int v18)), h16, z17))
      else
        ((oK h9 x0 6).bind fun _ =>
        cI (f_M_stable bs sE h9 z10 x0 x1) fun v21 h19 z20 =>
        if x2 ≤ v21 then
          ((gR h19 x0 6 8).bind fun v23 =>
          (aI h19 v23 0 x1).bind fun v24 =>
          (gR h19 x0 6 8).bind fun v25 =>
          (aIs bs h19 v25 0 x1 x2).bind fun h26 =>
          some (.inl (some (.int (x2 - v24))), h26, z20))
        else
          ((oK h19 x0 6).bind fun _ =>
          cI (f_M_fail bs sE h19 z20 x0 2) fun v29 h27 z28 =>
          some (.inl (some (.int v29)), h27, z28))))
    else
      ((oK h9 x0 6).bind fun _ =>
      cI (f_M_fail bs sE h9 z10 x0 1) fun v32 h30 z31 =>
      some (.inl (some (.int v32)), h30, z31)))
  else
    ((oK h2 x0 6).bind fun _ =>
    cI (f_M_fail bs sE h2 z3 x0 1) fun v8 h6 z7 =>
    some (.inl (some (.int v8)), h6, z7))
set_option maxHeartbeats 4000000 in
set_option maxRecDepth 100000 in
theorem c_M_trim {G : EN} {l : Launch} (hl0 : l.stackTraces = false) {h : HH} {z : Z3} {x0 : Nat} {x1 : Int32} {x2 : Int32} {r : RS} (hf : f_M_trim G.2.2.1 G.2.2.2 h z x0 x1 x2 = some r) : CM G l y_M_trim (.code y_M_trim b_M_trim 4 (some .int)) 2 48 [.ref x0, .int x1, .int x2] h z r := by
  refine CM.ofW hl0 rfl ?_
  intro p e s m below meth c C hr hex hin hs
  have hx := C.1
  have hb := C.2.1
  refine x_entry (n := 4) (Nat.le_of_ble_eq_true rfl) (fun ls hl => ?_)
  have hl : lv_has ls 4 [(0, .ref x0), (1, .int x1), (2, .int x2)] := hl
  unfold f_M_trim at hf
  refine lv_aload_n hx hb d_M_trim_0 rfl (lv_at hl 0 rfl) ?_
  refine lv_iconst (v := 0) hx hb d_M_trim_1 (by decide) ?_
  refine r_putV (v := (.inl 0)) C hs flp_M_71 rfl rfl d_M_trim_2 hf (fun h1 H locs hf hs => ?_)
  refine lv_aload_n hx hb d_M_trim_5 rfl (lv_at hl 0 rfl) ?_
  refine lv_iload_n hx hb d_M_trim_6 rfl (lv_at hl 1 rfl) ?_
  refine lv_iconst (v := 4) hx hb d_M_trim_7 (by decide) ?_
  obtain ⟨_, ho, hf⟩ := bd hf
  refine k_I C hs hex hf (fun res e1 => iv_V (b := x0) (As := [.int x1, .int 4]) (rest := []) C hs cv_M_83 (c_M_out hl0 e1) (ci := 6) rfl rfl ho rfl hl.1 rfl (Nat.le_of_ble_eq_true rfl) d_M_trim_8 ⟨Nat.le_of_ble_eq_true rfl, Nat.le_of_ble_eq_true rfl⟩) (fun v4 h2 z3 H locs cells slots hf hs => ?_)
  refine lv_if_ne (tgt := 25) hx hb d_M_trim_11 (by decide) (fun q5 => ?_) (fun q5 => ?_)
  · have hf := ifn q5 hf
    refine lv_aload_n hx hb d_M_trim_25 rfl (lv_at hl 0 rfl) ?_
    refine lv_iconst (v := 1) hx hb d_M_trim_26 (by decide) ?_
    obtain ⟨_, ho, hf⟩ := bd hf
    refine k_I C hs hex hf (fun res e1 => iv_V (b := x0) (As := [.int 1]) (rest := []) C hs cv_M_86 (c_M_fail hl0 e1) (ci := 6) rfl rfl ho rfl hl.1 rfl (Nat.le_of_ble_eq_true rfl) d_M_trim_27 ⟨Nat.le_of_ble_eq_true rfl, Nat.le_of_ble_eq_true rfl⟩) (fun v8 h6 z7 H locs cells slots hf hs => ?_)
    exact r_ireturn C hs hr d_M_trim_30 hf
  · have hf := ifp q5 hf
    refine lv_aload_n hx hb d_M_trim_14 rfl (lv_at hl 0 rfl) ?_
    refine lv_iload_n hx hb d_M_trim_15 rfl (lv_at hl 2 rfl) ?_
    refine lv_sipush (v := 601) hx hb d_M_trim_16 (by decide) ?_
    obtain ⟨_, ho, hf⟩ := bd hf
    refine k_I C hs hex hf (fun res e1 => iv_V (b := x0) (As := [.int x2, .int 601]) (rest := []) C hs cv_M_83 (c_M_out hl0 e1) (ci := 6) rfl rfl ho rfl hl.1 rfl (Nat.le_of_ble_eq_true rfl) d_M_trim_19 ⟨Nat.le_of_ble_eq_true rfl, Nat.le_of_ble_eq_true rfl⟩) (fun v11 h9 z10 H locs cells slots hf hs => ?_)
    refine lv_if_eq (tgt := 31) hx hb d_M_trim_22 (by decide) (fun q12 => ?_) (fun q12 => ?_)
    · have hf := ifp q12 hf
      refine lv_iload_n hx hb d_M_trim_31 rfl (lv_at hl 2 rfl) ?_
      refine lv_aload_n hx hb d_M_trim_32 rfl (lv_at hl 0 rfl) ?_
      refine r_getR C hs fl_M_31 d_M_trim_33 hf (fun v13 hf => ?_)
      refine lv_iload_n hx hb d_M_trim_36 rfl (lv_at hl 1 rfl) ?_
      refine r_iald C hs d_M_trim_37 hf (fun v14 hf => ?_)
      refine lv_icmp_lt (tgt := 50) hx hb d_M_trim_38 (by decide) (fun q15 => ?_) (fun q15 => ?_)
      · have hf := ifp q15 hf
        refine lv_aload_n hx hb d_M_trim_50 rfl (lv_at hl 0 rfl) ?_
        refine lv_iconst (v := 2) hx hb d_M_trim_51 (by decide) ?_
        obtain ⟨_, ho, hf⟩ := bd hf
        refine k_I C hs hex hf (fun res e1 => iv_V (b := x0) (As := [.int 2]) (rest := []) C hs cv_M_86 (c_M_fail hl0 e1) (ci := 6) rfl rfl ho rfl hl.1 rfl (Nat.le_of_ble_eq_true rfl) d_M_trim_52 ⟨Nat.le_of_ble_eq_true rfl, Nat.le_of_ble_eq_true rfl⟩) (fun v18 h16 z17 H locs cells slots hf hs => ?_)
        exact r_ireturn C hs hr d_M_trim_55 hf
      · have hf := ifn q15 hf
        refine lv_iload_n hx hb d_M_trim_41 rfl (lv_at hl 2 rfl) ?_
        refine lv_aload_n hx hb d_M_trim_42 rfl (lv_at hl 0 rfl) ?_
        refine lv_iload_n hx hb d_M_trim_43 rfl (lv_at hl 1 rfl) ?_
        obtain ⟨_, ho, hf⟩ := bd hf
        refine k_I C hs hex hf (fun res e1 => iv_V (b := x0) (As := [.int x1]) (rest := [.int x2]) C hs cv_M_125 (c_M_stable hl0 e1) (ci := 6) rfl rfl ho rfl hl.1 rfl (Nat.le_of_ble_eq_true rfl) d_M_trim_44 ⟨Nat.le_of_ble_eq_true rfl, Nat.le_of_ble_eq_true rfl⟩) (fun v21 h19 z20 H locs cells slots hf hs => ?_)
        refine lv_icmp_le (tgt := 56) hx hb d_M_trim_47 (by decide) (fun q22 => ?_) (fun q22 => ?_)
        · have hf := ifp q22 hf
          refine lv_iload_n hx hb d_M_trim_56 rfl (lv_at hl 2 rfl) ?_
          refine lv_aload_n hx hb d_M_trim_57 rfl (lv_at hl 0 rfl) ?_
          refine r_getR C hs fl_M_31 d_M_trim_58 hf (fun v23 hf => ?_)
          refine lv_iload_n hx hb d_M_trim_61 rfl (lv_at hl 1 rfl) ?_
          refine r_iald C hs d_M_trim_62 hf (fun v24 hf => ?_)
          refine lv_isub hx hb d_M_trim_63 ?_
          refine lv_istore_n (lv' := [(3, .int (x2 - v24)), (0, .ref x0), (1, .int x1), (2, .int x2)]) hx hb d_M_trim_64 rfl hl (by decide) rfl (fun ls hl => ?_)
          refine lv_aload_n hx hb d_M_trim_65 rfl (lv_at hl 1 rfl) ?_
          refine r_getR C hs fl_M_31 d_M_trim_66 hf (fun v25 hf => ?_)
          refine lv_iload_n hx hb d_M_trim_69 rfl (lv_at hl 2 rfl) ?_
          refine lv_iload_n hx hb d_M_trim_70 rfl (lv_at hl 3 rfl) ?_
          refine r_iast C hs d_M_trim_71 hf (fun h26 H locs hf hs => ?_)
          refine lv_iload_n hx hb d_M_trim_72 rfl (lv_at hl 0 rfl) ?_
          exact r_ireturn C hs hr d_M_trim_73 hf
        · have hf := ifn q22 hf
          refine lv_aload_n hx hb d_M_trim_50 rfl (lv_at hl 0 rfl) ?_
          refine lv_iconst (v := 2) hx hb d_M_trim_51 (by decide) ?_
          obtain ⟨_, ho, hf⟩ := bd hf
          refine k_I C hs hex hf (fun res e1 => iv_V (b := x0) (As := [.int 2]) (rest := []) C hs cv_M_86 (c_M_fail hl0 e1) (ci := 6) rfl rfl ho rfl hl.1 rfl (Nat.le_of_ble_eq_true rfl) d_M_trim_52 ⟨Nat.le_of_ble_eq_true rfl, Nat.le_of_ble_eq_true rfl⟩) (fun v29 h27 z28 H locs cells slots hf hs => ?_)
          exact r_ireturn C hs hr d_M_trim_55 hf
    · have hf := ifn q12 hf
      refine lv_aload_n hx hb d_M_trim_25 rfl (lv_at hl 0 rfl) ?_
      refine lv_iconst (v := 1) hx hb d_M_trim_26 (by decide) ?_
      obtain ⟨_, ho, hf⟩ := bd hf
      refine k_I C hs hex hf (fun res e1 => iv_V (b := x0) (As := [.int 1]) (rest := []) C hs cv_M_86 (c_M_fail hl0 e1) (ci := 6) rfl rfl ho rfl hl.1 rfl (Nat.le_of_ble_eq_true rfl) d_M_trim_27 ⟨Nat.le_of_ble_eq_true rfl, Nat.le_of_ble_eq_true rfl⟩) (fun v32 h30 z31 H locs cells slots hf hs => ?_)
      exact r_ireturn C hs hr d_M_trim_30 hf
def fb_M_has_L5 (bs : Nat) (sE : Nat × Nat) (REC : HH → Z3 → Nat → Int32 → Int32 → Int32 → Int32 → Option RS) (h : HH) (z : Z3) (x0 : Nat) (x1 : Int32) (x2 : Int32) (x3 : Int32) (x4 : Int32) : Option RS :=
  if 4 ≤ x4 then
    (some (.inl (some (.int x3)), h, z))
  else
    ((gR h x0 6 20).bind fun v2 =>
    (aI h v2 0 ((4 * x1) + x4)).bind fun v3 =>
    if v3 = x2 then
      (REC h z x0 x1 x2 (x3 + 1) (x4 + 1))
    else
      (REC h z x0 x1 x2 (x3 + 0) (x4 + 1)))
def f_M_has_L5 (bs : Nat) (sE : Nat × Nat) : Nat → HH → Z3 → Nat → Int32 → Int32 → Int32 → Int32 → Option RS
  | 0 => fun _ _ _ _ _ _ _ => none
  | n + 1 => fb_M_has_L5 bs sE (f_M_has_L5 bs sE n)
set_option maxHeartbeats 4000000 in
set_option maxRecDepth 100000 in
theorem t_M_has_L5 {G : EN} {p : Program} {l : Launch} {e : Env} {s : State} {m : MethodId} {args : Array Value} {below : List Frame} {meth : Method} {c : Code} {z0 : Z3} (hl0 : l.stackTraces = false) (C : CX G p l s m meth c b_M_has 5 y_M_has.cls) (hr : meth.sig.returnType = (some .int)) (hex : c.exceptionTable.toList = []) {r : RS} :
    ∀ (n : Nat) (h : HH) (z : Z3) (x0 : Nat) (x1 : Int32) (x2 : Int32) (x3 : Int32) (x4 : Int32), f_M_has_L5 G.2.2.1 G.2.2.2 n h z x0 x1 x2 x3 x4 = some r → ∀ (H : Heap) (locs : List Loc) (cells slots : Nat) (ls : Array Slot), ST G (RM 0 0 z0) s h z H locs cells slots → lv_has ls 5 [(0, .ref x0), (1, .int x1), (2, .int x2), (3, .int x3), (4, .int x4)] → W p l e (RM 0 0 z0) s m args below meth c H locs cells slots (MX G below s r (RM 0 0 z0).cells (RM 0 0 z0).slots) (F0 m 5 ls []) := by
  have hx := C.1
  have hb := C.2.1
  intro n
  induction n with
  | zero => intro h z x0 x1 x2 x3 x4 hf; exact nomatch (show (none : Option RS) = some r from hf)
  | succ n ih =>
    intro h z x0 x1 x2 x3 x4 hf H locs cells slots ls hs hl
    have hf : fb_M_has_L5 G.2.2.1 G.2.2.2 (f_M_has_L5 G.2.2.1 G.2.2.2 n) h z x0 x1 x2 x3 x4 = some r := hf
    unfold fb_M_has_L5 at hf
    refine lv_iload hx hb d_M_has_5 (lv_at hl 4 rfl) ?_
    refine lv_iconst (v := 4) hx hb d_M_has_7 (by decide) ?_
    refine lv_icmp_ge (tgt := 40) hx hb d_M_has_8 (by decide) (fun q1 => ?_) (fun q1 => ?_)
    · have hf := ifp q1 hf
      refine lv_iload_n hx hb d_M_has_40 rfl (lv_at hl 3 rfl) ?_
      exact r_ireturn C hs hr d_M_has_41 hf
    · have hf := ifn q1 hf
      refine lv_iload_n hx hb d_M_has_11 rfl (lv_at hl 3 rfl) ?_
      refine lv_aload_n hx hb d_M_has_12 rfl (lv_at hl 0 rfl) ?_
      refine r_getR C hs fl_M_65 d_M_has_13 hf (fun v2 hf => ?_)
      refine lv_iconst (v := 4) hx hb d_M_has_16 (by decide) ?_
      refine lv_iload_n hx hb d_M_has_17 rfl (lv_at hl 1 rfl) ?_
      refine lv_imul hx hb d_M_has_18 ?_
      refine lv_iload hx hb d_M_has_19 (lv_at hl 4 rfl) ?_
      refine lv_iadd hx hb d_M_has_21 ?_
      refine r_iald C hs d_M_has_22 hf (fun v3 hf => ?_)
      refine lv_iload_n hx hb d_M_has_23 rfl (lv_at hl 2 rfl) ?_
      refine lv_icmp_ne (tgt := 31) hx hb d_M_has_24 (by decide) (fun q4 => ?_) (fun q4 => ?_)
      · have hf := ifn q4 hf
        refine lv_iconst (v := 0) hx hb d_M_has_31 (by decide) ?_
        refine lv_iadd hx hb d_M_has_32 ?_
        refine lv_istore_n (lv' := [(3, .int (x3 + 0)), (0, .ref x0), (1, .int x1), (2, .int x2), (4, .int x4)]) hx hb d_M_has_33 rfl hl (by decide) rfl (fun ls hl => ?_)
        refine lv_iinc (v := x4 + 1) (lv' := [(4, .int (x4 + 1)), (3, .int (x3 + 0)), (0, .ref x0), (1, .int x1), (2, .int x2)]) hx hb d_M_has_34 hl (k := 4) rfl rfl (by decide) rfl (fun ls hl => ?_)
        refine lv_goto (tgt := 5) hx hb d_M_has_37 (by decide) ?_
        exact ih _ _ _ _ _ _ _ hf _ _ _ _ _ hs (lv_sub hl [2, 3, 4, 1, 0] rfl)
      · have hf := ifp q4 hf
        refine lv_iconst (v := 1) hx hb d_M_has_27 (by decide) ?_
        refine lv_goto (tgt := 32) hx hb d_M_has_28 (by decide) ?_
        refine lv_iadd hx hb d_M_has_32 ?_
        refine lv_istore_n (lv' := [(3, .int (x3 + 1)), (0, .ref x0), (1, .int x1), (2, .int x2), (4, .int x4)]) hx hb d_M_has_33 rfl hl (by decide) rfl (fun ls hl => ?_)
        refine lv_iinc (v := x4 + 1) (lv' := [(4, .int (x4 + 1)), (3, .int (x3 + 1)), (0, .ref x0), (1, .int x1), (2, .int x2)]) hx hb d_M_has_34 hl (k := 4) rfl rfl (by decide) rfl (fun ls hl => ?_)
        refine lv_goto (tgt := 5) hx hb d_M_has_37 (by decide) ?_
        exact ih _ _ _ _ _ _ _ hf _ _ _ _ _ hs (lv_sub hl [2, 3, 4, 1, 0] rfl)
def f_M_has (bs : Nat) (sE : Nat × Nat) (h : HH) (z : Z3) (x0 : Nat) (x1 : Int32) (x2 : Int32) : Option RS :=
  f_M_has_L5 bs sE FU h z x0 x1 x2 0 0
set_option maxHeartbeats 4000000 in
set_option maxRecDepth 100000 in
theorem c_M_has {G : EN} {l : Launch} (hl0 : l.stackTraces = false) {h : HH} {z : Z3} {x0 : Nat} {x1 : Int32} {x2 : Int32} {r : RS} (hf : f_M_has G.2.2.1 G.2.2.2 h z x0 x1 x2 = some r) : CM G l y_M_has (.code y_M_has b_M_has 5 (some .int)) 0 0 [.ref x0, .int x1, .int x2] h z r := by
  refine CM.ofW hl0 rfl ?_
  intro p e s m below meth c C hr hex hin hs
  have hx := C.1
  have hb := C.2.1
  refine x_entry (n := 5) (Nat.le_of_ble_eq_true rfl) (fun ls hl => ?_)
  have hl : lv_has ls 5 [(0, .ref x0), (1, .int x1), (2, .int x2)] := hl
  unfold f_M_has at hf
  refine lv_iconst (v := 0) hx hb d_M_has_0 (by decide) ?_
  refine lv_istore_n (lv' := [(3, .int 0), (0, .ref x0), (1, .int x1), (2, .int x2)]) hx hb d_M_has_1 rfl hl (by decide) rfl (fun ls hl => ?_)
  refine lv_iconst (v := 0) hx hb d_M_has_2 (by decide) ?_
  refine lv_istore (lv' := [(4, .int 0), (3, .int 0), (0, .ref x0), (1, .int x1), (2, .int x2)]) hx hb d_M_has_3 hl (by decide) rfl (fun ls hl => ?_)
  exact t_M_has_L5 hl0 C hr hex FU _ _ _ _ _ _ _ hf _ _ _ _ _ hs (lv_sub hl [2, 3, 4, 1, 0] rfl)
def fb_M_fewest_L4 (bs : Nat) (sE : Nat × Nat) (REC : HH → Z3 → Nat → Int32 → Int32 → Int32 → Option RS) (h : HH) (z : Z3) (x0 : Nat) (x1 : Int32) (x2 : Int32) (x3 : Int32) : Option RS :=
  if 4 ≤ x3 then
    (some (.inl (some (.int x2)), h, z))
  else
    ((gR h x0 6 18).bind fun v2 =>
    (aI h v2 1 ((4 * x1) + x3)).bind fun v3 =>
    if v3 = 0 then
      (REC h z x0 x1 x2 (x3 + 1))
    else
      (if x2 < 0 then
        (REC h z x0 x1 x3 (x3 + 1))
      else
        ((oK h x0 6).bind fun _ =>
        cI (f_M_has bs sE h z x0 x1 x3) fun v8 h6 z7 =>
        (oK h6 x0 6).bind fun _ =>
        cI (f_M_has bs sE h6 z7 x0 x1 x2) fun v11 h9 z10 =>
        if v11 ≤ v8 then
          (REC h9 z10 x0 x1 x2 (x3 + 1))
        else
          (REC h9 z10 x0 x1 x3 (x3 + 1)))))
def f_M_fewest_L4 (bs : Nat) (sE : Nat × Nat) : Nat → HH → Z3 → Nat → Int32 → Int32 → Int32 → Option RS
  | 0 => fun _ _ _ _ _ _ => none
  | n + 1 => fb_M_fewest_L4 bs sE (f_M_fewest_L4 bs sE n)
set_option maxHeartbeats 4000000 in
set_option maxRecDepth 100000 in
theorem t_M_fewest_L4 {G : EN} {p : Program} {l : Launch} {e : Env} {s : State} {m : MethodId} {args : Array Value} {below : List Frame} {meth : Method} {c : Code} {z0 : Z3} (hl0 : l.stackTraces = false) (C : CX G p l s m meth c b_M_fewest 4 y_M_fewest.cls) (hr : meth.sig.returnType = (some .int)) (hex : c.exceptionTable.toList = []) {r : RS} :
    ∀ (n : Nat) (h : HH) (z : Z3) (x0 : Nat) (x1 : Int32) (x2 : Int32) (x3 : Int32), f_M_fewest_L4 G.2.2.1 G.2.2.2 n h z x0 x1 x2 x3 = some r → ∀ (H : Heap) (locs : List Loc) (cells slots : Nat) (ls : Array Slot), ST G (RM 1 24 z0) s h z H locs cells slots → lv_has ls 4 [(0, .ref x0), (1, .int x1), (2, .int x2), (3, .int x3)] → W p l e (RM 1 24 z0) s m args below meth c H locs cells slots (MX G below s r (RM 1 24 z0).cells (RM 1 24 z0).slots) (F0 m 4 ls []) := by
  have hx := C.1
  have hb := C.2.1
  intro n
  induction n with
  | zero => intro h z x0 x1 x2 x3 hf; exact nomatch (show (none : Option RS) = some r from hf)
  | succ n ih =>
    intro h z x0 x1 x2 x3 hf H locs cells slots ls hs hl
    have hf : fb_M_fewest_L4 G.2.2.1 G.2.2.2 (f_M_fewest_L4 G.2.2.1 G.2.2.2 n) h z x0 x1 x2 x3 = some r := hf
    unfold fb_M_fewest_L4 at hf
    refine lv_iload_n hx hb d_M_fewest_4 rfl (lv_at hl 3 rfl) ?_
    refine lv_iconst (v := 4) hx hb d_M_fewest_5 (by decide) ?_
    refine lv_icmp_ge (tgt := 49) hx hb d_M_fewest_6 (by decide) (fun q1 => ?_) (fun q1 => ?_)
    · have hf := ifp q1 hf
      refine lv_iload_n hx hb d_M_fewest_49 rfl (lv_at hl 2 rfl) ?_
      exact r_ireturn C hs hr d_M_fewest_50 hf
    · have hf := ifn q1 hf
      refine lv_aload_n hx hb d_M_fewest_9 rfl (lv_at hl 0 rfl) ?_
      refine r_getR C hs fl_M_58 d_M_fewest_10 hf (fun v2 hf => ?_)
      refine lv_iconst (v := 4) hx hb d_M_fewest_13 (by decide) ?_
      refine lv_iload_n hx hb d_M_fewest_14 rfl (lv_at hl 1 rfl) ?_
      refine lv_imul hx hb d_M_fewest_15 ?_
      refine lv_iload_n hx hb d_M_fewest_16 rfl (lv_at hl 3 rfl) ?_
      refine lv_iadd hx hb d_M_fewest_17 ?_
      refine r_zald C hs d_M_fewest_18 hf (fun v3 hf => ?_)
      refine lv_if_eq (tgt := 43) hx hb d_M_fewest_19 (by decide) (fun q4 => ?_) (fun q4 => ?_)
      · have hf := ifp q4 hf
        refine lv_iinc (v := x3 + 1) (lv' := [(3, .int (x3 + 1)), (0, .ref x0), (1, .int x1), (2, .int x2)]) hx hb d_M_fewest_43 hl (k := 3) rfl rfl (by decide) rfl (fun ls hl => ?_)
        refine lv_goto (tgt := 4) hx hb d_M_fewest_46 (by decide) ?_
        exact ih _ _ _ _ _ _ hf _ _ _ _ _ hs (lv_sub hl [1, 2, 3, 0] rfl)
      · have hf := ifn q4 hf
        refine lv_iload_n hx hb d_M_fewest_22 rfl (lv_at hl 2 rfl) ?_
        refine lv_if_lt (tgt := 41) hx hb d_M_fewest_23 (by decide) (fun q5 => ?_) (fun q5 => ?_)
        · have hf := ifp q5 hf
          refine lv_iload_n hx hb d_M_fewest_41 rfl (lv_at hl 3 rfl) ?_
          refine lv_istore_n (lv' := [(2, .int x3), (0, .ref x0), (1, .int x1), (3, .int x3)]) hx hb d_M_fewest_42 rfl hl (by decide) rfl (fun ls hl => ?_)
          refine lv_iinc (v := x3 + 1) (lv' := [(3, .int (x3 + 1)), (2, .int x3), (0, .ref x0), (1, .int x1)]) hx hb d_M_fewest_43 hl (k := 3) rfl rfl (by decide) rfl (fun ls hl => ?_)
          refine lv_goto (tgt := 4) hx hb d_M_fewest_46 (by decide) ?_
          exact ih _ _ _ _ _ _ hf _ _ _ _ _ hs (lv_sub hl [2, 3, 1, 0] rfl)
        · have hf := ifn q5 hf
          refine lv_aload_n hx hb d_M_fewest_26 rfl (lv_at hl 0 rfl) ?_
          refine lv_iload_n hx hb d_M_fewest_27 rfl (lv_at hl 1 rfl) ?_
          refine lv_iload_n hx hb d_M_fewest_28 rfl (lv_at hl 3 rfl) ?_
          obtain ⟨_, ho, hf⟩ := bd hf
          refine k_I C hs hex hf (fun res e1 => iv_V (b := x0) (As := [.int x1, .int x3]) (rest := []) C hs cv_M_131 (c_M_has hl0 e1) (ci := 6) rfl rfl ho rfl hl.1 rfl (Nat.le_of_ble_eq_true rfl) d_M_fewest_29 ⟨Nat.le_of_ble_eq_true rfl, Nat.le_of_ble_eq_true rfl⟩) (fun v8 h6 z7 H locs cells slots hf hs => ?_)
          refine lv_aload_n hx hb d_M_fewest_32 rfl (lv_at hl 0 rfl) ?_
          refine lv_iload_n hx hb d_M_fewest_33 rfl (lv_at hl 1 rfl) ?_
          refine lv_iload_n hx hb d_M_fewest_34 rfl (lv_at hl 2 rfl) ?_
          obtain ⟨_, ho, hf⟩ := bd hf
          refine k_I C hs hex hf (fun res e1 => iv_V (b := x0) (As := [.int x1, .int x2]) (rest := [.int v8]) C hs cv_M_131 (c_M_has hl0 e1) (ci := 6) rfl rfl ho rfl hl.1 rfl (Nat.le_of_ble_eq_true rfl) d_M_fewest_35 ⟨Nat.le_of_ble_eq_true rfl, Nat.le_of_ble_eq_true rfl⟩) (fun v11 h9 z10 H locs cells slots hf hs => ?_)
          refine lv_icmp_ge (tgt := 43) hx hb d_M_fewest_38 (by decide) (fun q12 => ?_) (fun q12 => ?_)
          · have hf := ifp q12 hf
            refine lv_iinc (v := x3 + 1) (lv' := [(3, .int (x3 + 1)), (0, .ref x0), (1, .int x1), (2, .int x2)]) hx hb d_M_fewest_43 hl (k := 3) rfl rfl (by decide) rfl (fun ls hl => ?_)
            refine lv_goto (tgt := 4) hx hb d_M_fewest_46 (by decide) ?_
            exact ih _ _ _ _ _ _ hf _ _ _ _ _ hs (lv_sub hl [1, 2, 3, 0] rfl)
          · have hf := ifn q12 hf
            refine lv_iload_n hx hb d_M_fewest_41 rfl (lv_at hl 3 rfl) ?_
            refine lv_istore_n (lv' := [(2, .int x3), (0, .ref x0), (1, .int x1), (3, .int x3)]) hx hb d_M_fewest_42 rfl hl (by decide) rfl (fun ls hl => ?_)
            refine lv_iinc (v := x3 + 1) (lv' := [(3, .int (x3 + 1)), (2, .int x3), (0, .ref x0), (1, .int x1)]) hx hb d_M_fewest_43 hl (k := 3) rfl rfl (by decide) rfl (fun ls hl => ?_)
            refine lv_goto (tgt := 4) hx hb d_M_fewest_46 (by decide) ?_
            exact ih _ _ _ _ _ _ hf _ _ _ _ _ hs (lv_sub hl [2, 3, 1, 0] rfl)
def f_M_fewest (bs : Nat) (sE : Nat × Nat) (h : HH) (z : Z3) (x0 : Nat) (x1 : Int32) : Option RS :=
  f_M_fewest_L4 bs sE FU h z x0 x1 (-1) 0
set_option maxHeartbeats 4000000 in
set_option maxRecDepth 100000 in
theorem c_M_fewest {G : EN} {l : Launch} (hl0 : l.stackTraces = false) {h : HH} {z : Z3} {x0 : Nat} {x1 : Int32} {r : RS} (hf : f_M_fewest G.2.2.1 G.2.2.2 h z x0 x1 = some r) : CM G l y_M_fewest (.code y_M_fewest b_M_fewest 4 (some .int)) 1 24 [.ref x0, .int x1] h z r := by
  refine CM.ofW hl0 rfl ?_
  intro p e s m below meth c C hr hex hin hs
  have hx := C.1
  have hb := C.2.1
  refine x_entry (n := 4) (Nat.le_of_ble_eq_true rfl) (fun ls hl => ?_)
  have hl : lv_has ls 4 [(0, .ref x0), (1, .int x1)] := hl
  unfold f_M_fewest at hf
  refine lv_iconst (v := (-1)) hx hb d_M_fewest_0 (by decide) ?_
  refine lv_istore_n (lv' := [(2, .int (-1)), (0, .ref x0), (1, .int x1)]) hx hb d_M_fewest_1 rfl hl (by decide) rfl (fun ls hl => ?_)
  refine lv_iconst (v := 0) hx hb d_M_fewest_2 (by decide) ?_
  refine lv_istore_n (lv' := [(3, .int 0), (2, .int (-1)), (0, .ref x0), (1, .int x1)]) hx hb d_M_fewest_3 rfl hl (by decide) rfl (fun ls hl => ?_)
  exact t_M_fewest_L4 hl0 C hr hex FU _ _ _ _ _ _ hf _ _ _ _ _ hs (lv_sub hl [2, 3, 1, 0] rfl)
def fb_M_share_L221 (bs : Nat) (sE : Nat × Nat) (REC : HH → Z3 → Nat → Int32 → Int32 → Option RS) (h : HH) (z : Z3) (x0 : Nat) (x1 : Int32) (x5 : Int32) : Option RS :=
  if 4 ≤ x5 then
    (some (.inl none, h, z))
  else
    ((gR h x0 6 20).bind fun v9 =>
    (aI h v9 0 ((4 * x1) + x5)).bind fun v10 =>
    if 0 ≤ v10 then
      (REC h z x0 x1 (x5 + 1))
    else
      ((gR h x0 6 20).bind fun v12 =>
      (oK h x0 6).bind fun _ =>
      cI (f_M_fewest bs sE h z x0 x1) fun v15 h13 z14 =>
      (aIs bs h13 v12 0 ((4 * x1) + x5) v15).bind fun h16 =>
      REC h16 z14 x0 x1 (x5 + 1)))
def f_M_share_L221 (bs : Nat) (sE : Nat × Nat) : Nat → HH → Z3 → Nat → Int32 → Int32 → Option RS
  | 0 => fun _ _ _ _ _ => none
  | n + 1 => fb_M_share_L221 bs sE (f_M_share_L221 bs sE n)
set_option maxHeartbeats 4000000 in
set_option maxRecDepth 100000 in
theorem t_M_share_L221 {G : EN} {p : Program} {l : Launch} {e : Env} {s : State} {m : MethodId} {args : Array Value} {below : List Frame} {meth : Method} {c : Code} {z0 : Z3} (hl0 : l.stackTraces = false) (C : CX G p l s m meth c b_M_share 9 y_M_share.cls) (hr : meth.sig.returnType = none) (hex : c.exceptionTable.toList = []) {r : RS} :
    ∀ (n : Nat) (h : HH) (z : Z3) (x0 : Nat) (x1 : Int32) (x5 : Int32), f_M_share_L221 G.2.2.1 G.2.2.2 n h z x0 x1 x5 = some r → ∀ (H : Heap) (locs : List Loc) (cells slots : Nat) (ls : Array Slot), ST G (RM 2 47 z0) s h z H locs cells slots → lv_has ls 9 [(0, .ref x0), (1, .int x1), (5, .int x5)] → W p l e (RM 2 47 z0) s m args below meth c H locs cells slots (MX G below s r (RM 2 47 z0).cells (RM 2 47 z0).slots) (F0 m 221 ls []) := by
  have hx := C.1
  have hb := C.2.1
  intro n
  induction n with
  | zero => intro h z x0 x1 x5 hf; exact nomatch (show (none : Option RS) = some r from hf)
  | succ n ih =>
    intro h z x0 x1 x5 hf H locs cells slots ls hs hl
    have hf : fb_M_share_L221 G.2.2.1 G.2.2.2 (f_M_share_L221 G.2.2.1 G.2.2.2 n) h z x0 x1 x5 = some r := hf
    unfold fb_M_share_L221 at hf
    refine lv_iload hx hb d_M_share_221 (lv_at hl 2 rfl) ?_
    refine lv_iconst (v := 4) hx hb d_M_share_223 (by decide) ?_
    refine lv_icmp_ge (tgt := 263) hx hb d_M_share_224 (by decide) (fun q8 => ?_) (fun q8 => ?_)
    · have hf := ifp q8 hf
      exact r_vreturn C hs hr d_M_share_263 hf
    · have hf := ifn q8 hf
      refine lv_aload_n hx hb d_M_share_227 rfl (lv_at hl 0 rfl) ?_
      refine r_getR C hs fl_M_65 d_M_share_228 hf (fun v9 hf => ?_)
      refine lv_iconst (v := 4) hx hb d_M_share_231 (by decide) ?_
      refine lv_iload_n hx hb d_M_share_232 rfl (lv_at hl 1 rfl) ?_
      refine lv_imul hx hb d_M_share_233 ?_
      refine lv_iload hx hb d_M_share_234 (lv_at hl 2 rfl) ?_
      refine lv_iadd hx hb d_M_share_236 ?_
      refine r_iald C hs d_M_share_237 hf (fun v10 hf => ?_)
      refine lv_if_ge (tgt := 257) hx hb d_M_share_238 (by decide) (fun q11 => ?_) (fun q11 => ?_)
      · have hf := ifp q11 hf
        refine lv_iinc (v := x5 + 1) (lv' := [(5, .int (x5 + 1)), (0, .ref x0), (1, .int x1)]) hx hb d_M_share_257 hl (k := 2) rfl rfl (by decide) rfl (fun ls hl => ?_)
        refine lv_goto (tgt := 221) hx hb d_M_share_260 (by decide) ?_
        exact ih _ _ _ _ _ hf _ _ _ _ _ hs (lv_sub hl [1, 2, 0] rfl)
      · have hf := ifn q11 hf
        refine lv_aload_n hx hb d_M_share_241 rfl (lv_at hl 0 rfl) ?_
        refine r_getR C hs fl_M_65 d_M_share_242 hf (fun v12 hf => ?_)
        refine lv_iconst (v := 4) hx hb d_M_share_245 (by decide) ?_
        refine lv_iload_n hx hb d_M_share_246 rfl (lv_at hl 1 rfl) ?_
        refine lv_imul hx hb d_M_share_247 ?_
        refine lv_iload hx hb d_M_share_248 (lv_at hl 2 rfl) ?_
        refine lv_iadd hx hb d_M_share_250 ?_
        refine lv_aload_n hx hb d_M_share_251 rfl (lv_at hl 0 rfl) ?_
        refine lv_iload_n hx hb d_M_share_252 rfl (lv_at hl 1 rfl) ?_
        obtain ⟨_, ho, hf⟩ := bd hf
        refine k_I C hs hex hf (fun res e1 => iv_V (b := x0) (As := [.int x1]) (rest := [.int ((4 * x1) + x5), .ref v12]) C hs cv_M_134 (c_M_fewest hl0 e1) (ci := 6) rfl rfl ho rfl hl.1 rfl (Nat.le_of_ble_eq_true rfl) d_M_share_253 ⟨Nat.le_of_ble_eq_true rfl, Nat.le_of_ble_eq_true rfl⟩) (fun v15 h13 z14 H locs cells slots hf hs => ?_)
        refine r_iast C hs d_M_share_256 hf (fun h16 H locs hf hs => ?_)
        refine lv_iinc (v := x5 + 1) (lv' := [(5, .int (x5 + 1)), (0, .ref x0), (1, .int x1)]) hx hb d_M_share_257 hl (k := 2) rfl rfl (by decide) rfl (fun ls hl => ?_)
        refine lv_goto (tgt := 221) hx hb d_M_share_260 (by decide) ?_
        exact ih _ _ _ _ _ hf _ _ _ _ _ hs (lv_sub hl [1, 2, 0] rfl)
def fb_M_share_L159 (bs : Nat) (sE : Nat × Nat) (K212 : HH → Z3 → Nat → Int32 → Int32 → Int32 → Int32 → Option RS) (REC : HH → Z3 → Nat → Int32 → Int32 → Int32 → Int32 → Int32 → Int32 → Int32 → Option RS) (h : HH) (z : Z3) (x0 : Nat) (x1 : Int32) (x3 : Int32) (x4 : Int32) (x5 : Int32) (x6 : Int32) (x7 : Int32) (x8 : Int32) : Option RS :=
  if 4 ≤ x8 then
    (K212 h z x0 x1 x3 x4 x5)
  else
    ((gR h x0 6 20).bind fun v22 =>
    (aI h v22 0 ((4 * x1) + x8)).bind fun v23 =>
    if v23 = x5 then
      (if (x7 + 1) ≤ x6 then
        (REC h z x0 x1 x3 x4 x5 x6 (x7 + 1) (x8 + 1))
      else
        ((gR h x0 6 20).bind fun v26 =>
        (aIs bs h v26 0 ((4 * x1) + x8) (-1)).bind fun h27 =>
        REC h27 z x0 x1 x3 x4 x5 x6 (x7 + 1) (x8 + 1)))
    else
      (REC h z x0 x1 x3 x4 x5 x6 x7 (x8 + 1)))
def f_M_share_L159 (bs : Nat) (sE : Nat × Nat) (K212 : HH → Z3 → Nat → Int32 → Int32 → Int32 → Int32 → Option RS) : Nat → HH → Z3 → Nat → Int32 → Int32 → Int32 → Int32 → Int32 → Int32 → Int32 → Option RS
  | 0 => fun _ _ _ _ _ _ _ _ _ _ => none
  | n + 1 => fb_M_share_L159 bs sE K212 (f_M_share_L159 bs sE K212 n)
set_option maxHeartbeats 4000000 in
set_option maxRecDepth 100000 in
theorem t_M_share_L159 {G : EN} {p : Program} {l : Launch} {e : Env} {s : State} {m : MethodId} {args : Array Value} {below : List Frame} {meth : Method} {c : Code} {z0 : Z3} (hl0 : l.stackTraces = false) (C : CX G p l s m meth c b_M_share 9 y_M_share.cls) (hr : meth.sig.returnType = none) (hex : c.exceptionTable.toList = []) {r : RS} {K212 : HH → Z3 → Nat → Int32 → Int32 → Int32 → Int32 → Option RS}
    (hK212 : ∀ (h : HH) (z : Z3) (y0 : Nat) (y1 : Int32) (y2 : Int32) (y3 : Int32) (y4 : Int32), K212 h z y0 y1 y2 y3 y4 = some r → ∀ (H : Heap) (locs : List Loc) (cells slots : Nat) (ls : Array Slot), ST G (RM 2 47 z0) s h z H locs cells slots → lv_has ls 9 [(0, .ref y0), (1, .int y1), (3, .int y2), (4, .int y3), (5, .int y4)] → W p l e (RM 2 47 z0) s m args below meth c H locs cells slots (MX G below s r (RM 2 47 z0).cells (RM 2 47 z0).slots) (F0 m 212 ls [])) :
    ∀ (n : Nat) (h : HH) (z : Z3) (x0 : Nat) (x1 : Int32) (x3 : Int32) (x4 : Int32) (x5 : Int32) (x6 : Int32) (x7 : Int32) (x8 : Int32), f_M_share_L159 G.2.2.1 G.2.2.2 K212 n h z x0 x1 x3 x4 x5 x6 x7 x8 = some r → ∀ (H : Heap) (locs : List Loc) (cells slots : Nat) (ls : Array Slot), ST G (RM 2 47 z0) s h z H locs cells slots → lv_has ls 9 [(0, .ref x0), (1, .int x1), (3, .int x3), (4, .int x4), (5, .int x5), (6, .int x6), (7, .int x7), (8, .int x8)] → W p l e (RM 2 47 z0) s m args below meth c H locs cells slots (MX G below s r (RM 2 47 z0).cells (RM 2 47 z0).slots) (F0 m 159 ls []) := by
  have hx := C.1
  have hb := C.2.1
  intro n
  induction n with
  | zero => intro h z x0 x1 x3 x4 x5 x6 x7 x8 hf; exact nomatch (show (none : Option RS) = some r from hf)
  | succ n ih =>
    intro h z x0 x1 x3 x4 x5 x6 x7 x8 hf H locs cells slots ls hs hl
    have hf : fb_M_share_L159 G.2.2.1 G.2.2.2 K212 (f_M_share_L159 G.2.2.1 G.2.2.2 K212 n) h z x0 x1 x3 x4 x5 x6 x7 x8 = some r := hf
    unfold fb_M_share_L159 at hf
    refine lv_iload hx hb d_M_share_159 (lv_at hl 7 rfl) ?_
    refine lv_iconst (v := 4) hx hb d_M_share_161 (by decide) ?_
    refine lv_icmp_ge (tgt := 212) hx hb d_M_share_162 (by decide) (fun q21 => ?_) (fun q21 => ?_)
    · have hf := ifp q21 hf
      exact hK212 _ _ _ _ _ _ _ hf _ _ _ _ _ hs (lv_sub hl [0, 1, 2, 3, 4] rfl)
    · have hf := ifn q21 hf
      refine lv_aload_n hx hb d_M_share_165 rfl (lv_at hl 0 rfl) ?_
      refine r_getR C hs fl_M_65 d_M_share_166 hf (fun v22 hf => ?_)
      refine lv_iconst (v := 4) hx hb d_M_share_169 (by decide) ?_
      refine lv_iload_n hx hb d_M_share_170 rfl (lv_at hl 1 rfl) ?_
      refine lv_imul hx hb d_M_share_171 ?_
      refine lv_iload hx hb d_M_share_172 (lv_at hl 7 rfl) ?_
      refine lv_iadd hx hb d_M_share_174 ?_
      refine r_iald C hs d_M_share_175 hf (fun v23 hf => ?_)
      refine lv_iload hx hb d_M_share_176 (lv_at hl 4 rfl) ?_
      refine lv_icmp_eq (tgt := 184) hx hb d_M_share_178 (by decide) (fun q24 => ?_) (fun q24 => ?_)
      · have hf := ifp q24 hf
        refine lv_iinc (v := x7 + 1) (lv' := [(7, .int (x7 + 1)), (0, .ref x0), (1, .int x1), (3, .int x3), (4, .int x4), (5, .int x5), (6, .int x6), (8, .int x8)]) hx hb d_M_share_184 hl (k := 6) rfl rfl (by decide) rfl (fun ls hl => ?_)
        refine lv_iload hx hb d_M_share_187 (lv_at hl 0 rfl) ?_
        refine lv_iload hx hb d_M_share_189 (lv_at hl 6 rfl) ?_
        refine lv_icmp_le (tgt := 206) hx hb d_M_share_191 (by decide) (fun q25 => ?_) (fun q25 => ?_)
        · have hf := ifp q25 hf
          refine lv_iinc (v := x8 + 1) (lv' := [(8, .int (x8 + 1)), (7, .int (x7 + 1)), (0, .ref x0), (1, .int x1), (3, .int x3), (4, .int x4), (5, .int x5), (6, .int x6)]) hx hb d_M_share_206 hl (k := 7) rfl rfl (by decide) rfl (fun ls hl => ?_)
          refine lv_goto (tgt := 159) hx hb d_M_share_209 (by decide) ?_
          exact ih _ _ _ _ _ _ _ _ _ _ hf _ _ _ _ _ hs (lv_sub hl [2, 3, 4, 5, 6, 7, 1, 0] rfl)
        · have hf := ifn q25 hf
          refine lv_aload_n hx hb d_M_share_194 rfl (lv_at hl 1 rfl) ?_
          refine r_getR C hs fl_M_65 d_M_share_195 hf (fun v26 hf => ?_)
          refine lv_iconst (v := 4) hx hb d_M_share_198 (by decide) ?_
          refine lv_iload_n hx hb d_M_share_199 rfl (lv_at hl 2 rfl) ?_
          refine lv_imul hx hb d_M_share_200 ?_
          refine lv_iload hx hb d_M_share_201 (lv_at hl 7 rfl) ?_
          refine lv_iadd hx hb d_M_share_203 ?_
          refine lv_iconst (v := (-1)) hx hb d_M_share_204 (by decide) ?_
          refine r_iast C hs d_M_share_205 hf (fun h27 H locs hf hs => ?_)
          refine lv_iinc (v := x8 + 1) (lv' := [(8, .int (x8 + 1)), (7, .int (x7 + 1)), (0, .ref x0), (1, .int x1), (3, .int x3), (4, .int x4), (5, .int x5), (6, .int x6)]) hx hb d_M_share_206 hl (k := 7) rfl rfl (by decide) rfl (fun ls hl => ?_)
          refine lv_goto (tgt := 159) hx hb d_M_share_209 (by decide) ?_
          exact ih _ _ _ _ _ _ _ _ _ _ hf _ _ _ _ _ hs (lv_sub hl [2, 3, 4, 5, 6, 7, 1, 0] rfl)
      · have hf := ifn q24 hf
        refine lv_goto (tgt := 206) hx hb d_M_share_181 (by decide) ?_
        refine lv_iinc (v := x8 + 1) (lv' := [(8, .int (x8 + 1)), (0, .ref x0), (1, .int x1), (3, .int x3), (4, .int x4), (5, .int x5), (6, .int x6), (7, .int x7)]) hx hb d_M_share_206 hl (k := 7) rfl rfl (by decide) rfl (fun ls hl => ?_)
        refine lv_goto (tgt := 159) hx hb d_M_share_209 (by decide) ?_
        exact ih _ _ _ _ _ _ _ _ _ _ hf _ _ _ _ _ hs (lv_sub hl [1, 2, 3, 4, 5, 6, 7, 0] rfl)
def fb_M_share_L122 (bs : Nat) (sE : Nat × Nat) (REC : HH → Z3 → Nat → Int32 → Int32 → Int32 → Int32 → Option RS) (h : HH) (z : Z3) (x0 : Nat) (x1 : Int32) (x3 : Int32) (x4 : Int32) (x5 : Int32) : Option RS :=
  if 4 ≤ x5 then
    (f_M_share_L221 bs sE FU h z x0 x1 0)
  else
    ((oK h x0 6).bind fun _ =>
    cI (f_M_has bs sE h z x0 x1 x5) fun v19 h17 z18 =>
    if v19 ≤ x3 then
      (f_M_share_L159 bs sE (fun h28 z29 x0_212 x1_212 x3_212 x4_212 x5_212 =>
        REC h28 z29 x0_212 x1_212 x3_212 x4_212 (x5_212 + 1)) FU h17 z18 x0 x1 x3 x4 x5 x3 0 0)
    else
      (if x4 ≤ 0 then
        (f_M_share_L159 bs sE (fun h31 z32 x0_212 x1_212 x3_212 x4_212 x5_212 =>
          REC h31 z32 x0_212 x1_212 x3_212 x4_212 (x5_212 + 1)) FU h17 z18 x0 x1 x3 x4 x5 x3 0 0)
      else
        (f_M_share_L159 bs sE (fun h33 z34 x0_212 x1_212 x3_212 x4_212 x5_212 =>
          REC h33 z34 x0_212 x1_212 x3_212 x4_212 (x5_212 + 1)) FU h17 z18 x0 x1 x3 (x4 + (-1)) x5 (x3 + 1) 0 0)))
def f_M_share_L122 (bs : Nat) (sE : Nat × Nat) : Nat → HH → Z3 → Nat → Int32 → Int32 → Int32 → Int32 → Option RS
  | 0 => fun _ _ _ _ _ _ _ => none
  | n + 1 => fb_M_share_L122 bs sE (f_M_share_L122 bs sE n)
set_option maxHeartbeats 4000000 in
set_option maxRecDepth 100000 in
theorem t_M_share_L122 {G : EN} {p : Program} {l : Launch} {e : Env} {s : State} {m : MethodId} {args : Array Value} {below : List Frame} {meth : Method} {c : Code} {z0 : Z3} (hl0 : l.stackTraces = false) (C : CX G p l s m meth c b_M_share 9 y_M_share.cls) (hr : meth.sig.returnType = none) (hex : c.exceptionTable.toList = []) {r : RS} :
    ∀ (n : Nat) (h : HH) (z : Z3) (x0 : Nat) (x1 : Int32) (x3 : Int32) (x4 : Int32) (x5 : Int32), f_M_share_L122 G.2.2.1 G.2.2.2 n h z x0 x1 x3 x4 x5 = some r → ∀ (H : Heap) (locs : List Loc) (cells slots : Nat) (ls : Array Slot), ST G (RM 2 47 z0) s h z H locs cells slots → lv_has ls 9 [(0, .ref x0), (1, .int x1), (3, .int x3), (4, .int x4), (5, .int x5)] → W p l e (RM 2 47 z0) s m args below meth c H locs cells slots (MX G below s r (RM 2 47 z0).cells (RM 2 47 z0).slots) (F0 m 122 ls []) := by
  have hx := C.1
  have hb := C.2.1
  intro n
  induction n with
  | zero => intro h z x0 x1 x3 x4 x5 hf; exact nomatch (show (none : Option RS) = some r from hf)
  | succ n ih =>
    intro h z x0 x1 x3 x4 x5 hf H locs cells slots ls hs hl
    have hf : fb_M_share_L122 G.2.2.1 G.2.2.2 (f_M_share_L122 G.2.2.1 G.2.2.2 n) h z x0 x1 x3 x4 x5 = some r := hf
    unfold fb_M_share_L122 at hf
    refine lv_iload hx hb d_M_share_122 (lv_at hl 4 rfl) ?_
    refine lv_iconst (v := 4) hx hb d_M_share_124 (by decide) ?_
    refine lv_icmp_ge (tgt := 218) hx hb d_M_share_125 (by decide) (fun q7 => ?_) (fun q7 => ?_)
    · have hf := ifp q7 hf
      refine lv_iconst (v := 0) hx hb d_M_share_218 (by decide) ?_
      refine lv_istore (lv' := [(5, .int 0), (0, .ref x0), (1, .int x1), (3, .int x3), (4, .int x4)]) hx hb d_M_share_219 hl (by decide) rfl (fun ls hl => ?_)
      exact t_M_share_L221 hl0 C hr hex FU _ _ _ _ _ hf _ _ _ _ _ hs (lv_sub hl [1, 2, 0] rfl)
    · have hf := ifn q7 hf
      refine lv_iload_n hx hb d_M_share_128 rfl (lv_at hl 2 rfl) ?_
      refine lv_istore (lv' := [(6, .int x3), (0, .ref x0), (1, .int x1), (3, .int x3), (4, .int x4), (5, .int x5)]) hx hb d_M_share_129 hl (by decide) rfl (fun ls hl => ?_)
      refine lv_aload_n hx hb d_M_share_131 rfl (lv_at hl 1 rfl) ?_
      refine lv_iload_n hx hb d_M_share_132 rfl (lv_at hl 2 rfl) ?_
      refine lv_iload hx hb d_M_share_133 (lv_at hl 5 rfl) ?_
      obtain ⟨_, ho, hf⟩ := bd hf
      refine k_I C hs hex hf (fun res e1 => iv_V (b := x0) (As := [.int x1, .int x5]) (rest := []) C hs cv_M_131 (c_M_has hl0 e1) (ci := 6) rfl rfl ho rfl hl.1 rfl (Nat.le_of_ble_eq_true rfl) d_M_share_135 ⟨Nat.le_of_ble_eq_true rfl, Nat.le_of_ble_eq_true rfl⟩) (fun v19 h17 z18 H locs cells slots hf hs => ?_)
      refine lv_iload_n hx hb d_M_share_138 rfl (lv_at hl 3 rfl) ?_
      refine lv_icmp_le (tgt := 153) hx hb d_M_share_139 (by decide) (fun q20 => ?_) (fun q20 => ?_)
      · have hf := ifp q20 hf
        refine lv_iconst (v := 0) hx hb d_M_share_153 (by decide) ?_
        refine lv_istore (lv' := [(7, .int 0), (6, .int x3), (0, .ref x0), (1, .int x1), (3, .int x3), (4, .int x4), (5, .int x5)]) hx hb d_M_share_154 hl (by decide) rfl (fun ls hl => ?_)
        refine lv_iconst (v := 0) hx hb d_M_share_156 (by decide) ?_
        refine lv_istore (lv' := [(8, .int 0), (7, .int 0), (6, .int x3), (0, .ref x0), (1, .int x1), (3, .int x3), (4, .int x4), (5, .int x5)]) hx hb d_M_share_157 hl (by decide) rfl (fun ls hl => ?_)
        refine t_M_share_L159 hl0 C hr hex ?_ FU _ _ _ _ _ _ _ _ _ _ hf _ _ _ _ _ hs (lv_sub hl [3, 4, 5, 6, 7, 2, 1, 0] rfl)
        · intro h28 z29 x0_212 x1_212 x3_212 x4_212 x5_212 hf H locs cells slots ls hs hl
          refine lv_iinc (v := x5_212 + 1) (lv' := [(5, .int (x5_212 + 1)), (0, .ref x0_212), (1, .int x1_212), (3, .int x3_212), (4, .int x4_212)]) hx hb d_M_share_212 hl (k := 4) rfl rfl (by decide) rfl (fun ls hl => ?_)
          refine lv_goto (tgt := 122) hx hb d_M_share_215 (by decide) ?_
          exact ih _ _ _ _ _ _ _ hf _ _ _ _ _ hs (lv_sub hl [1, 2, 3, 4, 0] rfl)
      · have hf := ifn q20 hf
        refine lv_iload hx hb d_M_share_142 (lv_at hl 4 rfl) ?_
        refine lv_if_le (tgt := 153) hx hb d_M_share_144 (by decide) (fun q30 => ?_) (fun q30 => ?_)
        · have hf := ifp q30 hf
          refine lv_iconst (v := 0) hx hb d_M_share_153 (by decide) ?_
          refine lv_istore (lv' := [(7, .int 0), (6, .int x3), (0, .ref x0), (1, .int x1), (3, .int x3), (4, .int x4), (5, .int x5)]) hx hb d_M_share_154 hl (by decide) rfl (fun ls hl => ?_)
          refine lv_iconst (v := 0) hx hb d_M_share_156 (by decide) ?_
          refine lv_istore (lv' := [(8, .int 0), (7, .int 0), (6, .int x3), (0, .ref x0), (1, .int x1), (3, .int x3), (4, .int x4), (5, .int x5)]) hx hb d_M_share_157 hl (by decide) rfl (fun ls hl => ?_)
          refine t_M_share_L159 hl0 C hr hex ?_ FU _ _ _ _ _ _ _ _ _ _ hf _ _ _ _ _ hs (lv_sub hl [3, 4, 5, 6, 7, 2, 1, 0] rfl)
          · intro h31 z32 x0_212 x1_212 x3_212 x4_212 x5_212 hf H locs cells slots ls hs hl
            refine lv_iinc (v := x5_212 + 1) (lv' := [(5, .int (x5_212 + 1)), (0, .ref x0_212), (1, .int x1_212), (3, .int x3_212), (4, .int x4_212)]) hx hb d_M_share_212 hl (k := 4) rfl rfl (by decide) rfl (fun ls hl => ?_)
            refine lv_goto (tgt := 122) hx hb d_M_share_215 (by decide) ?_
            exact ih _ _ _ _ _ _ _ hf _ _ _ _ _ hs (lv_sub hl [1, 2, 3, 4, 0] rfl)
        · have hf := ifn q30 hf
          refine lv_iinc (v := x3 + 1) (lv' := [(6, .int (x3 + 1)), (0, .ref x0), (1, .int x1), (3, .int x3), (4, .int x4), (5, .int x5)]) hx hb d_M_share_147 hl (k := 0) rfl rfl (by decide) rfl (fun ls hl => ?_)
          refine lv_iinc (v := x4 + (-1)) (lv' := [(4, .int (x4 + (-1))), (6, .int (x3 + 1)), (0, .ref x0), (1, .int x1), (3, .int x3), (5, .int x5)]) hx hb d_M_share_150 hl (k := 4) rfl rfl (by decide) rfl (fun ls hl => ?_)
          refine lv_iconst (v := 0) hx hb d_M_share_153 (by decide) ?_
          refine lv_istore (lv' := [(7, .int 0), (4, .int (x4 + (-1))), (6, .int (x3 + 1)), (0, .ref x0), (1, .int x1), (3, .int x3), (5, .int x5)]) hx hb d_M_share_154 hl (by decide) rfl (fun ls hl => ?_)
          refine lv_iconst (v := 0) hx hb d_M_share_156 (by decide) ?_
          refine lv_istore (lv' := [(8, .int 0), (7, .int 0), (4, .int (x4 + (-1))), (6, .int (x3 + 1)), (0, .ref x0), (1, .int x1), (3, .int x3), (5, .int x5)]) hx hb d_M_share_157 hl (by decide) rfl (fun ls hl => ?_)
          refine t_M_share_L159 hl0 C hr hex ?_ FU _ _ _ _ _ _ _ _ _ _ hf _ _ _ _ _ hs (lv_sub hl [4, 5, 6, 2, 7, 3, 1, 0] rfl)
          · intro h33 z34 x0_212 x1_212 x3_212 x4_212 x5_212 hf H locs cells slots ls hs hl
            refine lv_iinc (v := x5_212 + 1) (lv' := [(5, .int (x5_212 + 1)), (0, .ref x0_212), (1, .int x1_212), (3, .int x3_212), (4, .int x4_212)]) hx hb d_M_share_212 hl (k := 4) rfl rfl (by decide) rfl (fun ls hl => ?_)
            refine lv_goto (tgt := 122) hx hb d_M_share_215 (by decide) ?_
            exact ih _ _ _ _ _ _ _ hf _ _ _ _ _ hs (lv_sub hl [1, 2, 3, 4, 0] rfl)
def fb_M_share_L48 (bs : Nat) (sE : Nat × Nat) (REC : HH → Z3 → Nat → Int32 → Int32 → Int32 → Option RS) (h : HH) (z : Z3) (x0 : Nat) (x1 : Int32) (x2 : Int32) (x3 : Int32) : Option RS :=
  if 4 ≤ x3 then
    (if x2 = 0 then
      (some (.inl none, h, z))
    else
      (if x2 = 0 then none else
      if x2 = 0 then none else
      f_M_share_L122 bs sE FU h z x0 x1 (4 / x2) (4 - 4 / x2 * x2) 0))
  else
    ((gR h x0 6 20).bind fun v35 =>
    (aI h v35 0 ((4 * x1) + x3)).bind fun v36 =>
    if v36 < 0 then
      (REC h z x0 x1 x2 (x3 + 1))
    else
      ((gR h x0 6 18).bind fun v38 =>
      (gR h x0 6 20).bind fun v39 =>
      (aI h v39 0 ((4 * x1) + x3)).bind fun v40 =>
      (aI h v38 1 ((4 * x1) + v40)).bind fun v41 =>
      if v41 = 0 then
        ((gR h x0 6 20).bind fun v43 =>
        (aIs bs h v43 0 ((4 * x1) + x3) (-1)).bind fun h44 =>
        REC h44 z x0 x1 x2 (x3 + 1))
      else
        (REC h z x0 x1 x2 (x3 + 1))))
def f_M_share_L48 (bs : Nat) (sE : Nat × Nat) : Nat → HH → Z3 → Nat → Int32 → Int32 → Int32 → Option RS
  | 0 => fun _ _ _ _ _ _ => none
  | n + 1 => fb_M_share_L48 bs sE (f_M_share_L48 bs sE n)
set_option maxHeartbeats 4000000 in
set_option maxRecDepth 100000 in
theorem t_M_share_L48 {G : EN} {p : Program} {l : Launch} {e : Env} {s : State} {m : MethodId} {args : Array Value} {below : List Frame} {meth : Method} {c : Code} {z0 : Z3} (hl0 : l.stackTraces = false) (C : CX G p l s m meth c b_M_share 9 y_M_share.cls) (hr : meth.sig.returnType = none) (hex : c.exceptionTable.toList = []) {r : RS} :
    ∀ (n : Nat) (h : HH) (z : Z3) (x0 : Nat) (x1 : Int32) (x2 : Int32) (x3 : Int32), f_M_share_L48 G.2.2.1 G.2.2.2 n h z x0 x1 x2 x3 = some r → ∀ (H : Heap) (locs : List Loc) (cells slots : Nat) (ls : Array Slot), ST G (RM 2 47 z0) s h z H locs cells slots → lv_has ls 9 [(0, .ref x0), (1, .int x1), (2, .int x2), (3, .int x3)] → W p l e (RM 2 47 z0) s m args below meth c H locs cells slots (MX G below s r (RM 2 47 z0).cells (RM 2 47 z0).slots) (F0 m 48 ls []) := by
  have hx := C.1
  have hb := C.2.1
  intro n
  induction n with
  | zero => intro h z x0 x1 x2 x3 hf; exact nomatch (show (none : Option RS) = some r from hf)
  | succ n ih =>
    intro h z x0 x1 x2 x3 hf H locs cells slots ls hs hl
    have hf : fb_M_share_L48 G.2.2.1 G.2.2.2 (f_M_share_L48 G.2.2.1 G.2.2.2 n) h z x0 x1 x2 x3 = some r := hf
    unfold fb_M_share_L48 at hf
    refine lv_iload_n hx hb d_M_share_48 rfl (lv_at hl 3 rfl) ?_
    refine lv_iconst (v := 4) hx hb d_M_share_49 (by decide) ?_
    refine lv_icmp_ge (tgt := 105) hx hb d_M_share_50 (by decide) (fun q5 => ?_) (fun q5 => ?_)
    · have hf := ifp q5 hf
      refine lv_iload_n hx hb d_M_share_105 rfl (lv_at hl 2 rfl) ?_
      refine lv_if_ne (tgt := 110) hx hb d_M_share_106 (by decide) (fun q6 => ?_) (fun q6 => ?_)
      · have hf := ifn q6 hf
        refine lv_iconst (v := 4) hx hb d_M_share_110 (by decide) ?_
        refine lv_iload_n hx hb d_M_share_111 rfl (lv_at hl 2 rfl) ?_
        by_cases q0 : x2 = 0
        · exact nomatch (show (none : Option RS) = some r from ifp q0 hf)
        have hf := ifn q0 hf
        refine lv_idiv hx hb d_M_share_112 q0 ?_
        refine lv_istore_n (lv' := [(3, .int (4 / x2)), (0, .ref x0), (1, .int x1), (2, .int x2)]) hx hb d_M_share_113 rfl hl (by decide) rfl (fun ls hl => ?_)
        refine lv_iconst (v := 4) hx hb d_M_share_114 (by decide) ?_
        refine lv_iload_n hx hb d_M_share_115 rfl (lv_at hl 3 rfl) ?_
        by_cases q0 : x2 = 0
        · exact nomatch (show (none : Option RS) = some r from ifp q0 hf)
        have hf := ifn q0 hf
        refine lv_irem hx hb d_M_share_116 q0 ?_
        refine lv_istore (lv' := [(4, .int (4 - 4 / x2 * x2)), (3, .int (4 / x2)), (0, .ref x0), (1, .int x1), (2, .int x2)]) hx hb d_M_share_117 hl (by decide) rfl (fun ls hl => ?_)
        refine lv_iconst (v := 0) hx hb d_M_share_119 (by decide) ?_
        refine lv_istore (lv' := [(5, .int 0), (4, .int (4 - 4 / x2 * x2)), (3, .int (4 / x2)), (0, .ref x0), (1, .int x1), (2, .int x2)]) hx hb d_M_share_120 hl (by decide) rfl (fun ls hl => ?_)
        exact t_M_share_L122 hl0 C hr hex FU _ _ _ _ _ _ _ hf _ _ _ _ _ hs (lv_sub hl [3, 4, 2, 1, 0] rfl)
      · have hf := ifp q6 hf
        exact r_vreturn C hs hr d_M_share_109 hf
    · have hf := ifn q5 hf
      refine lv_aload_n hx hb d_M_share_53 rfl (lv_at hl 0 rfl) ?_
      refine r_getR C hs fl_M_65 d_M_share_54 hf (fun v35 hf => ?_)
      refine lv_iconst (v := 4) hx hb d_M_share_57 (by decide) ?_
      refine lv_iload_n hx hb d_M_share_58 rfl (lv_at hl 1 rfl) ?_
      refine lv_imul hx hb d_M_share_59 ?_
      refine lv_iload_n hx hb d_M_share_60 rfl (lv_at hl 3 rfl) ?_
      refine lv_iadd hx hb d_M_share_61 ?_
      refine r_iald C hs d_M_share_62 hf (fun v36 hf => ?_)
      refine lv_if_lt (tgt := 99) hx hb d_M_share_63 (by decide) (fun q37 => ?_) (fun q37 => ?_)
      · have hf := ifp q37 hf
        refine lv_iinc (v := x3 + 1) (lv' := [(3, .int (x3 + 1)), (0, .ref x0), (1, .int x1), (2, .int x2)]) hx hb d_M_share_99 hl (k := 3) rfl rfl (by decide) rfl (fun ls hl => ?_)
        refine lv_goto (tgt := 48) hx hb d_M_share_102 (by decide) ?_
        exact ih _ _ _ _ _ _ hf _ _ _ _ _ hs (lv_sub hl [1, 2, 3, 0] rfl)
      · have hf := ifn q37 hf
        refine lv_aload_n hx hb d_M_share_66 rfl (lv_at hl 0 rfl) ?_
        refine r_getR C hs fl_M_58 d_M_share_67 hf (fun v38 hf => ?_)
        refine lv_iconst (v := 4) hx hb d_M_share_70 (by decide) ?_
        refine lv_iload_n hx hb d_M_share_71 rfl (lv_at hl 1 rfl) ?_
        refine lv_imul hx hb d_M_share_72 ?_
        refine lv_aload_n hx hb d_M_share_73 rfl (lv_at hl 0 rfl) ?_
        refine r_getR C hs fl_M_65 d_M_share_74 hf (fun v39 hf => ?_)
        refine lv_iconst (v := 4) hx hb d_M_share_77 (by decide) ?_
        refine lv_iload_n hx hb d_M_share_78 rfl (lv_at hl 1 rfl) ?_
        refine lv_imul hx hb d_M_share_79 ?_
        refine lv_iload_n hx hb d_M_share_80 rfl (lv_at hl 3 rfl) ?_
        refine lv_iadd hx hb d_M_share_81 ?_
        refine r_iald C hs d_M_share_82 hf (fun v40 hf => ?_)
        refine lv_iadd hx hb d_M_share_83 ?_
        refine r_zald C hs d_M_share_84 hf (fun v41 hf => ?_)
        refine lv_if_ne (tgt := 99) hx hb d_M_share_85 (by decide) (fun q42 => ?_) (fun q42 => ?_)
        · have hf := ifn q42 hf
          refine lv_iinc (v := x3 + 1) (lv' := [(3, .int (x3 + 1)), (0, .ref x0), (1, .int x1), (2, .int x2)]) hx hb d_M_share_99 hl (k := 3) rfl rfl (by decide) rfl (fun ls hl => ?_)
          refine lv_goto (tgt := 48) hx hb d_M_share_102 (by decide) ?_
          exact ih _ _ _ _ _ _ hf _ _ _ _ _ hs (lv_sub hl [1, 2, 3, 0] rfl)
        · have hf := ifp q42 hf
          refine lv_aload_n hx hb d_M_share_88 rfl (lv_at hl 0 rfl) ?_
          refine r_getR C hs fl_M_65 d_M_share_89 hf (fun v43 hf => ?_)
          refine lv_iconst (v := 4) hx hb d_M_share_92 (by decide) ?_
          refine lv_iload_n hx hb d_M_share_93 rfl (lv_at hl 1 rfl) ?_
          refine lv_imul hx hb d_M_share_94 ?_
          refine lv_iload_n hx hb d_M_share_95 rfl (lv_at hl 3 rfl) ?_
          refine lv_iadd hx hb d_M_share_96 ?_
          refine lv_iconst (v := (-1)) hx hb d_M_share_97 (by decide) ?_
          refine r_iast C hs d_M_share_98 hf (fun h44 H locs hf hs => ?_)
          refine lv_iinc (v := x3 + 1) (lv' := [(3, .int (x3 + 1)), (0, .ref x0), (1, .int x1), (2, .int x2)]) hx hb d_M_share_99 hl (k := 3) rfl rfl (by decide) rfl (fun ls hl => ?_)
          refine lv_goto (tgt := 48) hx hb d_M_share_102 (by decide) ?_
          exact ih _ _ _ _ _ _ hf _ _ _ _ _ hs (lv_sub hl [1, 2, 3, 0] rfl)
def fb_M_share_L14 (bs : Nat) (sE : Nat × Nat) (REC : HH → Z3 → Nat → Int32 → Int32 → Int32 → Option RS) (h : HH) (z : Z3) (x0 : Nat) (x1 : Int32) (x2 : Int32) (x3 : Int32) : Option RS :=
  if 4 ≤ x3 then
    (f_M_share_L48 bs sE FU h z x0 x1 x2 0)
  else
    ((gR h x0 6 18).bind fun v45 =>
    (aI h v45 1 ((4 * x1) + x3)).bind fun v46 =>
    if v46 = 0 then
      (REC h z x0 x1 (x2 + 0) (x3 + 1))
    else
      (REC h z x0 x1 (x2 + 1) (x3 + 1)))
def f_M_share_L14 (bs : Nat) (sE : Nat × Nat) : Nat → HH → Z3 → Nat → Int32 → Int32 → Int32 → Option RS
  | 0 => fun _ _ _ _ _ _ => none
  | n + 1 => fb_M_share_L14 bs sE (f_M_share_L14 bs sE n)
set_option maxHeartbeats 4000000 in
set_option maxRecDepth 100000 in
theorem t_M_share_L14 {G : EN} {p : Program} {l : Launch} {e : Env} {s : State} {m : MethodId} {args : Array Value} {below : List Frame} {meth : Method} {c : Code} {z0 : Z3} (hl0 : l.stackTraces = false) (C : CX G p l s m meth c b_M_share 9 y_M_share.cls) (hr : meth.sig.returnType = none) (hex : c.exceptionTable.toList = []) {r : RS} :
    ∀ (n : Nat) (h : HH) (z : Z3) (x0 : Nat) (x1 : Int32) (x2 : Int32) (x3 : Int32), f_M_share_L14 G.2.2.1 G.2.2.2 n h z x0 x1 x2 x3 = some r → ∀ (H : Heap) (locs : List Loc) (cells slots : Nat) (ls : Array Slot), ST G (RM 2 47 z0) s h z H locs cells slots → lv_has ls 9 [(0, .ref x0), (1, .int x1), (2, .int x2), (3, .int x3)] → W p l e (RM 2 47 z0) s m args below meth c H locs cells slots (MX G below s r (RM 2 47 z0).cells (RM 2 47 z0).slots) (F0 m 14 ls []) := by
  have hx := C.1
  have hb := C.2.1
  intro n
  induction n with
  | zero => intro h z x0 x1 x2 x3 hf; exact nomatch (show (none : Option RS) = some r from hf)
  | succ n ih =>
    intro h z x0 x1 x2 x3 hf H locs cells slots ls hs hl
    have hf : fb_M_share_L14 G.2.2.1 G.2.2.2 (f_M_share_L14 G.2.2.1 G.2.2.2 n) h z x0 x1 x2 x3 = some r := hf
    unfold fb_M_share_L14 at hf
    refine lv_iload_n hx hb d_M_share_14 rfl (lv_at hl 3 rfl) ?_
    refine lv_iconst (v := 4) hx hb d_M_share_15 (by decide) ?_
    refine lv_icmp_ge (tgt := 46) hx hb d_M_share_16 (by decide) (fun q4 => ?_) (fun q4 => ?_)
    · have hf := ifp q4 hf
      refine lv_iconst (v := 0) hx hb d_M_share_46 (by decide) ?_
      refine lv_istore_n (lv' := [(3, .int 0), (0, .ref x0), (1, .int x1), (2, .int x2)]) hx hb d_M_share_47 rfl hl (by decide) rfl (fun ls hl => ?_)
      exact t_M_share_L48 hl0 C hr hex FU _ _ _ _ _ _ hf _ _ _ _ _ hs (lv_sub hl [1, 2, 3, 0] rfl)
    · have hf := ifn q4 hf
      refine lv_iload_n hx hb d_M_share_19 rfl (lv_at hl 2 rfl) ?_
      refine lv_aload_n hx hb d_M_share_20 rfl (lv_at hl 0 rfl) ?_
      refine r_getR C hs fl_M_58 d_M_share_21 hf (fun v45 hf => ?_)
      refine lv_iconst (v := 4) hx hb d_M_share_24 (by decide) ?_
      refine lv_iload_n hx hb d_M_share_25 rfl (lv_at hl 1 rfl) ?_
      refine lv_imul hx hb d_M_share_26 ?_
      refine lv_iload_n hx hb d_M_share_27 rfl (lv_at hl 3 rfl) ?_
      refine lv_iadd hx hb d_M_share_28 ?_
      refine r_zald C hs d_M_share_29 hf (fun v46 hf => ?_)
      refine lv_if_eq (tgt := 37) hx hb d_M_share_30 (by decide) (fun q47 => ?_) (fun q47 => ?_)
      · have hf := ifp q47 hf
        refine lv_iconst (v := 0) hx hb d_M_share_37 (by decide) ?_
        refine lv_iadd hx hb d_M_share_38 ?_
        refine lv_istore_n (lv' := [(2, .int (x2 + 0)), (0, .ref x0), (1, .int x1), (3, .int x3)]) hx hb d_M_share_39 rfl hl (by decide) rfl (fun ls hl => ?_)
        refine lv_iinc (v := x3 + 1) (lv' := [(3, .int (x3 + 1)), (2, .int (x2 + 0)), (0, .ref x0), (1, .int x1)]) hx hb d_M_share_40 hl (k := 3) rfl rfl (by decide) rfl (fun ls hl => ?_)
        refine lv_goto (tgt := 14) hx hb d_M_share_43 (by decide) ?_
        exact ih _ _ _ _ _ _ hf _ _ _ _ _ hs (lv_sub hl [2, 3, 1, 0] rfl)
      · have hf := ifn q47 hf
        refine lv_iconst (v := 1) hx hb d_M_share_33 (by decide) ?_
        refine lv_goto (tgt := 38) hx hb d_M_share_34 (by decide) ?_
        refine lv_iadd hx hb d_M_share_38 ?_
        refine lv_istore_n (lv' := [(2, .int (x2 + 1)), (0, .ref x0), (1, .int x1), (3, .int x3)]) hx hb d_M_share_39 rfl hl (by decide) rfl (fun ls hl => ?_)
        refine lv_iinc (v := x3 + 1) (lv' := [(3, .int (x3 + 1)), (2, .int (x2 + 1)), (0, .ref x0), (1, .int x1)]) hx hb d_M_share_40 hl (k := 3) rfl rfl (by decide) rfl (fun ls hl => ?_)
        refine lv_goto (tgt := 14) hx hb d_M_share_43 (by decide) ?_
        exact ih _ _ _ _ _ _ hf _ _ _ _ _ hs (lv_sub hl [2, 3, 1, 0] rfl)
def f_M_share (bs : Nat) (sE : Nat × Nat) (h : HH) (z : Z3) (x0 : Nat) (x1 : Int32) : Option RS :=
  (gR h x0 6 17).bind fun v1 =>
  (aI h v1 0 x1).bind fun v2 =>
  (aIs bs h v1 0 x1 (v2 + 1)).bind fun h3 =>
  f_M_share_L14 bs sE FU h3 z x0 x1 0 0
set_option maxHeartbeats 4000000 in
set_option maxRecDepth 100000 in
theorem c_M_share {G : EN} {l : Launch} (hl0 : l.stackTraces = false) {h : HH} {z : Z3} {x0 : Nat} {x1 : Int32} {r : RS} (hf : f_M_share G.2.2.1 G.2.2.2 h z x0 x1 = some r) : CM G l y_M_share (.code y_M_share b_M_share 9 none) 2 47 [.ref x0, .int x1] h z r := by
  refine CM.ofW hl0 rfl ?_
  intro p e s m below meth c C hr hex hin hs
  have hx := C.1
  have hb := C.2.1
  refine x_entry (n := 9) (Nat.le_of_ble_eq_true rfl) (fun ls hl => ?_)
  have hl : lv_has ls 9 [(0, .ref x0), (1, .int x1)] := hl
  unfold f_M_share at hf
  refine lv_aload_n hx hb d_M_share_0 rfl (lv_at hl 0 rfl) ?_
  refine r_getR C hs fl_M_55 d_M_share_1 hf (fun v1 hf => ?_)
  refine lv_iload_n hx hb d_M_share_4 rfl (lv_at hl 1 rfl) ?_
  refine lv_dup2_11 hx hb d_M_share_5 rfl rfl ?_
  refine r_iald C hs d_M_share_6 hf (fun v2 hf => ?_)
  refine lv_iconst (v := 1) hx hb d_M_share_7 (by decide) ?_
  refine lv_iadd hx hb d_M_share_8 ?_
  refine r_iast C hs d_M_share_9 hf (fun h3 H locs hf hs => ?_)
  refine lv_iconst (v := 0) hx hb d_M_share_10 (by decide) ?_
  refine lv_istore_n (lv' := [(2, .int 0), (0, .ref x0), (1, .int x1)]) hx hb d_M_share_11 rfl hl (by decide) rfl (fun ls hl => ?_)
  refine lv_iconst (v := 0) hx hb d_M_share_12 (by decide) ?_
  refine lv_istore_n (lv' := [(3, .int 0), (2, .int 0), (0, .ref x0), (1, .int x1)]) hx hb d_M_share_13 rfl hl (by decide) rfl (fun ls hl => ?_)
  exact t_M_share_L14 hl0 C hr hex FU _ _ _ _ _ _ hf _ _ _ _ _ hs (lv_sub hl [2, 3, 1, 0] rfl)
def f_M_join (bs : Nat) (sE : Nat × Nat) (h : HH) (z : Z3) (x0 : Nat) (x1 : Int32) (x2 : Int32) : Option RS :=
  (pV bs h x0 6 0 (.inl 0)).bind fun h1 =>
  (oK h1 x0 6).bind fun _ =>
  cI (f_M_out bs sE h1 z x0 x1 2) fun v4 h2 z3 =>
  if v4 = 0 then
    ((oK h2 x0 6).bind fun _ =>
    cI (f_M_out bs sE h2 z3 x0 x2 4) fun v11 h9 z10 =>
    if v11 = 0 then
      ((gR h9 x0 6 18).bind fun v13 =>
      (aI h9 v13 1 ((4 * x1) + x2)).bind fun v14 =>
      if v14 = 0 then
        ((gR h9 x0 6 18).bind fun v16 =>
        (aIs bs h9 v16 1 ((4 * x1) + x2) (vp_nar .boolean 1)).bind fun h17 =>
        (gR h17 x0 6 19).bind fun v18 =>
        (gI h17 x0 6 22).bind fun v19 =>
        (aIs bs h17 v18 0 ((4 * x1) + x2) v19).bind fun h20 =>
        (oK h20 x0 6).bind fun _ =>
        cV (f_M_share bs sE h20 z10 x0 x1) fun h21 z22 =>
        (gR h21 x0 6 17).bind fun v24 =>
        (aI h21 v24 0 x1).bind fun v25 =>
        some (.inl (some (.int v25)), h21, z22))
      else
        ((oK h9 x0 6).bind fun _ =>
        cI (f_M_fail bs sE h9 z10 x0 2) fun v28 h26 z27 =>
        some (.inl (some (.int v28)), h26, z27)))
    else
      ((oK h9 x0 6).bind fun _ =>
      cI (f_M_fail bs sE h9 z10 x0 1) fun v31 h29 z30 =>
      some (.inl (some (.int v31)), h29, z30)))
  else
    ((oK h2 x0 6).bind fun _ =>
    cI (f_M_fail bs sE h2 z3 x0 1) fun v8 h6 z7 =>
    some (.inl (some (.int v8)), h6, z7))
set_option maxHeartbeats 4000000 in
set_option maxRecDepth 100000 in
theorem c_M_join {G : EN} {l : Launch} (hl0 : l.stackTraces = false) {h : HH} {z : Z3} {x0 : Nat} {x1 : Int32} {x2 : Int32} {r : RS} (hf : f_M_join G.2.2.1 G.2.2.2 h z x0 x1 x2 = some r) : CM G l y_M_join (.code y_M_join b_M_join 3 (some .int)) 3 75 [.ref x0, .int x1, .int x2] h z r := by
  refine CM.ofW hl0 rfl ?_
  intro p e s m below meth c C hr hex hin hs
  have hx := C.1
  have hb := C.2.1
  refine x_entry (n := 3) (Nat.le_of_ble_eq_true rfl) (fun ls hl => ?_)
  have hl : lv_has ls 3 [(0, .ref x0), (1, .int x1), (2, .int x2)] := hl
  unfold f_M_join at hf
  refine lv_aload_n hx hb d_M_join_0 rfl (lv_at hl 0 rfl) ?_
  refine lv_iconst (v := 0) hx hb d_M_join_1 (by decide) ?_
  refine r_putV (v := (.inl 0)) C hs flp_M_71 rfl rfl d_M_join_2 hf (fun h1 H locs hf hs => ?_)
  refine lv_aload_n hx hb d_M_join_5 rfl (lv_at hl 0 rfl) ?_
  refine lv_iload_n hx hb d_M_join_6 rfl (lv_at hl 1 rfl) ?_
  refine lv_iconst (v := 2) hx hb d_M_join_7 (by decide) ?_
  obtain ⟨_, ho, hf⟩ := bd hf
  refine k_I C hs hex hf (fun res e1 => iv_V (b := x0) (As := [.int x1, .int 2]) (rest := []) C hs cv_M_83 (c_M_out hl0 e1) (ci := 6) rfl rfl ho rfl hl.1 rfl (Nat.le_of_ble_eq_true rfl) d_M_join_8 ⟨Nat.le_of_ble_eq_true rfl, Nat.le_of_ble_eq_true rfl⟩) (fun v4 h2 z3 H locs cells slots hf hs => ?_)
  refine lv_if_ne (tgt := 23) hx hb d_M_join_11 (by decide) (fun q5 => ?_) (fun q5 => ?_)
  · have hf := ifn q5 hf
    refine lv_aload_n hx hb d_M_join_23 rfl (lv_at hl 0 rfl) ?_
    refine lv_iconst (v := 1) hx hb d_M_join_24 (by decide) ?_
    obtain ⟨_, ho, hf⟩ := bd hf
    refine k_I C hs hex hf (fun res e1 => iv_V (b := x0) (As := [.int 1]) (rest := []) C hs cv_M_86 (c_M_fail hl0 e1) (ci := 6) rfl rfl ho rfl hl.1 rfl (Nat.le_of_ble_eq_true rfl) d_M_join_25 ⟨Nat.le_of_ble_eq_true rfl, Nat.le_of_ble_eq_true rfl⟩) (fun v8 h6 z7 H locs cells slots hf hs => ?_)
    exact r_ireturn C hs hr d_M_join_28 hf
  · have hf := ifp q5 hf
    refine lv_aload_n hx hb d_M_join_14 rfl (lv_at hl 0 rfl) ?_
    refine lv_iload_n hx hb d_M_join_15 rfl (lv_at hl 2 rfl) ?_
    refine lv_iconst (v := 4) hx hb d_M_join_16 (by decide) ?_
    obtain ⟨_, ho, hf⟩ := bd hf
    refine k_I C hs hex hf (fun res e1 => iv_V (b := x0) (As := [.int x2, .int 4]) (rest := []) C hs cv_M_83 (c_M_out hl0 e1) (ci := 6) rfl rfl ho rfl hl.1 rfl (Nat.le_of_ble_eq_true rfl) d_M_join_17 ⟨Nat.le_of_ble_eq_true rfl, Nat.le_of_ble_eq_true rfl⟩) (fun v11 h9 z10 H locs cells slots hf hs => ?_)
    refine lv_if_eq (tgt := 29) hx hb d_M_join_20 (by decide) (fun q12 => ?_) (fun q12 => ?_)
    · have hf := ifp q12 hf
      refine lv_aload_n hx hb d_M_join_29 rfl (lv_at hl 0 rfl) ?_
      refine r_getR C hs fl_M_58 d_M_join_30 hf (fun v13 hf => ?_)
      refine lv_iconst (v := 4) hx hb d_M_join_33 (by decide) ?_
      refine lv_iload_n hx hb d_M_join_34 rfl (lv_at hl 1 rfl) ?_
      refine lv_imul hx hb d_M_join_35 ?_
      refine lv_iload_n hx hb d_M_join_36 rfl (lv_at hl 2 rfl) ?_
      refine lv_iadd hx hb d_M_join_37 ?_
      refine r_zald C hs d_M_join_38 hf (fun v14 hf => ?_)
      refine lv_if_eq (tgt := 48) hx hb d_M_join_39 (by decide) (fun q15 => ?_) (fun q15 => ?_)
      · have hf := ifp q15 hf
        refine lv_aload_n hx hb d_M_join_48 rfl (lv_at hl 0 rfl) ?_
        refine r_getR C hs fl_M_58 d_M_join_49 hf (fun v16 hf => ?_)
        refine lv_iconst (v := 4) hx hb d_M_join_52 (by decide) ?_
        refine lv_iload_n hx hb d_M_join_53 rfl (lv_at hl 1 rfl) ?_
        refine lv_imul hx hb d_M_join_54 ?_
        refine lv_iload_n hx hb d_M_join_55 rfl (lv_at hl 2 rfl) ?_
        refine lv_iadd hx hb d_M_join_56 ?_
        refine lv_iconst (v := 1) hx hb d_M_join_57 (by decide) ?_
        refine r_zast C hs d_M_join_58 hf (fun h17 H locs hf hs => ?_)
        refine lv_aload_n hx hb d_M_join_59 rfl (lv_at hl 0 rfl) ?_
        refine r_getR C hs fl_M_62 d_M_join_60 hf (fun v18 hf => ?_)
        refine lv_iconst (v := 4) hx hb d_M_join_63 (by decide) ?_
        refine lv_iload_n hx hb d_M_join_64 rfl (lv_at hl 1 rfl) ?_
        refine lv_imul hx hb d_M_join_65 ?_
        refine lv_iload_n hx hb d_M_join_66 rfl (lv_at hl 2 rfl) ?_
        refine lv_iadd hx hb d_M_join_67 ?_
        refine lv_aload_n hx hb d_M_join_68 rfl (lv_at hl 0 rfl) ?_
        refine r_getI C hs fl_M_101 d_M_join_69 hf (fun v19 hf => ?_)
        refine r_iast C hs d_M_join_72 hf (fun h20 H locs hf hs => ?_)
        refine lv_aload_n hx hb d_M_join_73 rfl (lv_at hl 0 rfl) ?_
        refine lv_iload_n hx hb d_M_join_74 rfl (lv_at hl 1 rfl) ?_
        obtain ⟨_, ho, hf⟩ := bd hf
        refine k_V C hs hex hf (fun res e1 => iv_V (b := x0) (As := [.int x1]) (rest := []) C hs cv_M_137 (c_M_share hl0 e1) (ci := 6) rfl rfl ho rfl hl.1 rfl (Nat.le_of_ble_eq_true rfl) d_M_join_75 ⟨Nat.le_of_ble_eq_true rfl, Nat.le_of_ble_eq_true rfl⟩) (fun h21 z22 H locs cells slots hf hs => ?_)
        refine lv_aload_n hx hb d_M_join_78 rfl (lv_at hl 0 rfl) ?_
        refine r_getR C hs fl_M_55 d_M_join_79 hf (fun v24 hf => ?_)
        refine lv_iload_n hx hb d_M_join_82 rfl (lv_at hl 1 rfl) ?_
        refine r_iald C hs d_M_join_83 hf (fun v25 hf => ?_)
        exact r_ireturn C hs hr d_M_join_84 hf
      · have hf := ifn q15 hf
        refine lv_aload_n hx hb d_M_join_42 rfl (lv_at hl 0 rfl) ?_
        refine lv_iconst (v := 2) hx hb d_M_join_43 (by decide) ?_
        obtain ⟨_, ho, hf⟩ := bd hf
        refine k_I C hs hex hf (fun res e1 => iv_V (b := x0) (As := [.int 2]) (rest := []) C hs cv_M_86 (c_M_fail hl0 e1) (ci := 6) rfl rfl ho rfl hl.1 rfl (Nat.le_of_ble_eq_true rfl) d_M_join_44 ⟨Nat.le_of_ble_eq_true rfl, Nat.le_of_ble_eq_true rfl⟩) (fun v28 h26 z27 H locs cells slots hf hs => ?_)
        exact r_ireturn C hs hr d_M_join_47 hf
    · have hf := ifn q12 hf
      refine lv_aload_n hx hb d_M_join_23 rfl (lv_at hl 0 rfl) ?_
      refine lv_iconst (v := 1) hx hb d_M_join_24 (by decide) ?_
      obtain ⟨_, ho, hf⟩ := bd hf
      refine k_I C hs hex hf (fun res e1 => iv_V (b := x0) (As := [.int 1]) (rest := []) C hs cv_M_86 (c_M_fail hl0 e1) (ci := 6) rfl rfl ho rfl hl.1 rfl (Nat.le_of_ble_eq_true rfl) d_M_join_25 ⟨Nat.le_of_ble_eq_true rfl, Nat.le_of_ble_eq_true rfl⟩) (fun v31 h29 z30 H locs cells slots hf hs => ?_)
      exact r_ireturn C hs hr d_M_join_28 hf
def f_M_leave (bs : Nat) (sE : Nat × Nat) (h : HH) (z : Z3) (x0 : Nat) (x1 : Int32) (x2 : Int32) : Option RS :=
  (pV bs h x0 6 0 (.inl 0)).bind fun h1 =>
  (oK h1 x0 6).bind fun _ =>
  cI (f_M_out bs sE h1 z x0 x1 2) fun v4 h2 z3 =>
  if v4 = 0 then
    ((oK h2 x0 6).bind fun _ =>
    cI (f_M_out bs sE h2 z3 x0 x2 4) fun v11 h9 z10 =>
    if v11 = 0 then
      ((gR h9 x0 6 18).bind fun v13 =>
      (aI h9 v13 1 ((4 * x1) + x2)).bind fun v14 =>
      if v14 = 0 then
        ((oK h9 x0 6).bind fun _ =>
        cI (f_M_fail bs sE h9 z10 x0 2) fun v25 h23 z24 =>
        some (.inl (some (.int v25)), h23, z24))
      else
        ((gR h9 x0 6 18).bind fun v16 =>
        (aIs bs h9 v16 1 ((4 * x1) + x2) (vp_nar .boolean 0)).bind fun h17 =>
        (oK h17 x0 6).bind fun _ =>
        cV (f_M_share bs sE h17 z10 x0 x1) fun h18 z19 =>
        (gR h18 x0 6 17).bind fun v21 =>
        (aI h18 v21 0 x1).bind fun v22 =>
        some (.inl (some (.int v22)), h18, z19)))
    else
      ((oK h9 x0 6).bind fun _ =>
      cI (f_M_fail bs sE h9 z10 x0 1) fun v28 h26 z27 =>
      some (.inl (some (.int v28)), h26, z27)))
  else
    ((oK h2 x0 6).bind fun _ =>
    cI (f_M_fail bs sE h2 z3 x0 1) fun v8 h6 z7 =>
    some (.inl (some (.int v8)), h6, z7))
set_option maxHeartbeats 4000000 in
set_option maxRecDepth 100000 in
theorem c_M_leave {G : EN} {l : Launch} (hl0 : l.stackTraces = false) {h : HH} {z : Z3} {x0 : Nat} {x1 : Int32} {x2 : Int32} {r : RS} (hf : f_M_leave G.2.2.1 G.2.2.2 h z x0 x1 x2 = some r) : CM G l y_M_leave (.code y_M_leave b_M_leave 3 (some .int)) 3 75 [.ref x0, .int x1, .int x2] h z r := by
  refine CM.ofW hl0 rfl ?_
  intro p e s m below meth c C hr hex hin hs
  have hx := C.1
  have hb := C.2.1
  refine x_entry (n := 3) (Nat.le_of_ble_eq_true rfl) (fun ls hl => ?_)
  have hl : lv_has ls 3 [(0, .ref x0), (1, .int x1), (2, .int x2)] := hl
  unfold f_M_leave at hf
  refine lv_aload_n hx hb d_M_leave_0 rfl (lv_at hl 0 rfl) ?_
  refine lv_iconst (v := 0) hx hb d_M_leave_1 (by decide) ?_
  refine r_putV (v := (.inl 0)) C hs flp_M_71 rfl rfl d_M_leave_2 hf (fun h1 H locs hf hs => ?_)
  refine lv_aload_n hx hb d_M_leave_5 rfl (lv_at hl 0 rfl) ?_
  refine lv_iload_n hx hb d_M_leave_6 rfl (lv_at hl 1 rfl) ?_
  refine lv_iconst (v := 2) hx hb d_M_leave_7 (by decide) ?_
  obtain ⟨_, ho, hf⟩ := bd hf
  refine k_I C hs hex hf (fun res e1 => iv_V (b := x0) (As := [.int x1, .int 2]) (rest := []) C hs cv_M_83 (c_M_out hl0 e1) (ci := 6) rfl rfl ho rfl hl.1 rfl (Nat.le_of_ble_eq_true rfl) d_M_leave_8 ⟨Nat.le_of_ble_eq_true rfl, Nat.le_of_ble_eq_true rfl⟩) (fun v4 h2 z3 H locs cells slots hf hs => ?_)
  refine lv_if_ne (tgt := 23) hx hb d_M_leave_11 (by decide) (fun q5 => ?_) (fun q5 => ?_)
  · have hf := ifn q5 hf
    refine lv_aload_n hx hb d_M_leave_23 rfl (lv_at hl 0 rfl) ?_
    refine lv_iconst (v := 1) hx hb d_M_leave_24 (by decide) ?_
    obtain ⟨_, ho, hf⟩ := bd hf
    refine k_I C hs hex hf (fun res e1 => iv_V (b := x0) (As := [.int 1]) (rest := []) C hs cv_M_86 (c_M_fail hl0 e1) (ci := 6) rfl rfl ho rfl hl.1 rfl (Nat.le_of_ble_eq_true rfl) d_M_leave_25 ⟨Nat.le_of_ble_eq_true rfl, Nat.le_of_ble_eq_true rfl⟩) (fun v8 h6 z7 H locs cells slots hf hs => ?_)
    exact r_ireturn C hs hr d_M_leave_28 hf
  · have hf := ifp q5 hf
    refine lv_aload_n hx hb d_M_leave_14 rfl (lv_at hl 0 rfl) ?_
    refine lv_iload_n hx hb d_M_leave_15 rfl (lv_at hl 2 rfl) ?_
    refine lv_iconst (v := 4) hx hb d_M_leave_16 (by decide) ?_
    obtain ⟨_, ho, hf⟩ := bd hf
    refine k_I C hs hex hf (fun res e1 => iv_V (b := x0) (As := [.int x2, .int 4]) (rest := []) C hs cv_M_83 (c_M_out hl0 e1) (ci := 6) rfl rfl ho rfl hl.1 rfl (Nat.le_of_ble_eq_true rfl) d_M_leave_17 ⟨Nat.le_of_ble_eq_true rfl, Nat.le_of_ble_eq_true rfl⟩) (fun v11 h9 z10 H locs cells slots hf hs => ?_)
    refine lv_if_eq (tgt := 29) hx hb d_M_leave_20 (by decide) (fun q12 => ?_) (fun q12 => ?_)
    · have hf := ifp q12 hf
      refine lv_aload_n hx hb d_M_leave_29 rfl (lv_at hl 0 rfl) ?_
      refine r_getR C hs fl_M_58 d_M_leave_30 hf (fun v13 hf => ?_)
      refine lv_iconst (v := 4) hx hb d_M_leave_33 (by decide) ?_
      refine lv_iload_n hx hb d_M_leave_34 rfl (lv_at hl 1 rfl) ?_
      refine lv_imul hx hb d_M_leave_35 ?_
      refine lv_iload_n hx hb d_M_leave_36 rfl (lv_at hl 2 rfl) ?_
      refine lv_iadd hx hb d_M_leave_37 ?_
      refine r_zald C hs d_M_leave_38 hf (fun v14 hf => ?_)
      refine lv_if_ne (tgt := 48) hx hb d_M_leave_39 (by decide) (fun q15 => ?_) (fun q15 => ?_)
      · have hf := ifn q15 hf
        refine lv_aload_n hx hb d_M_leave_48 rfl (lv_at hl 0 rfl) ?_
        refine r_getR C hs fl_M_58 d_M_leave_49 hf (fun v16 hf => ?_)
        refine lv_iconst (v := 4) hx hb d_M_leave_52 (by decide) ?_
        refine lv_iload_n hx hb d_M_leave_53 rfl (lv_at hl 1 rfl) ?_
        refine lv_imul hx hb d_M_leave_54 ?_
        refine lv_iload_n hx hb d_M_leave_55 rfl (lv_at hl 2 rfl) ?_
        refine lv_iadd hx hb d_M_leave_56 ?_
        refine lv_iconst (v := 0) hx hb d_M_leave_57 (by decide) ?_
        refine r_zast C hs d_M_leave_58 hf (fun h17 H locs hf hs => ?_)
        refine lv_aload_n hx hb d_M_leave_59 rfl (lv_at hl 0 rfl) ?_
        refine lv_iload_n hx hb d_M_leave_60 rfl (lv_at hl 1 rfl) ?_
        obtain ⟨_, ho, hf⟩ := bd hf
        refine k_V C hs hex hf (fun res e1 => iv_V (b := x0) (As := [.int x1]) (rest := []) C hs cv_M_137 (c_M_share hl0 e1) (ci := 6) rfl rfl ho rfl hl.1 rfl (Nat.le_of_ble_eq_true rfl) d_M_leave_61 ⟨Nat.le_of_ble_eq_true rfl, Nat.le_of_ble_eq_true rfl⟩) (fun h18 z19 H locs cells slots hf hs => ?_)
        refine lv_aload_n hx hb d_M_leave_64 rfl (lv_at hl 0 rfl) ?_
        refine r_getR C hs fl_M_55 d_M_leave_65 hf (fun v21 hf => ?_)
        refine lv_iload_n hx hb d_M_leave_68 rfl (lv_at hl 1 rfl) ?_
        refine r_iald C hs d_M_leave_69 hf (fun v22 hf => ?_)
        exact r_ireturn C hs hr d_M_leave_70 hf
      · have hf := ifp q15 hf
        refine lv_aload_n hx hb d_M_leave_42 rfl (lv_at hl 0 rfl) ?_
        refine lv_iconst (v := 2) hx hb d_M_leave_43 (by decide) ?_
        obtain ⟨_, ho, hf⟩ := bd hf
        refine k_I C hs hex hf (fun res e1 => iv_V (b := x0) (As := [.int 2]) (rest := []) C hs cv_M_86 (c_M_fail hl0 e1) (ci := 6) rfl rfl ho rfl hl.1 rfl (Nat.le_of_ble_eq_true rfl) d_M_leave_44 ⟨Nat.le_of_ble_eq_true rfl, Nat.le_of_ble_eq_true rfl⟩) (fun v25 h23 z24 H locs cells slots hf hs => ?_)
        exact r_ireturn C hs hr d_M_leave_47 hf
    · have hf := ifn q12 hf
      refine lv_aload_n hx hb d_M_leave_23 rfl (lv_at hl 0 rfl) ?_
      refine lv_iconst (v := 1) hx hb d_M_leave_24 (by decide) ?_
      obtain ⟨_, ho, hf⟩ := bd hf
      refine k_I C hs hex hf (fun res e1 => iv_V (b := x0) (As := [.int 1]) (rest := []) C hs cv_M_86 (c_M_fail hl0 e1) (ci := 6) rfl rfl ho rfl hl.1 rfl (Nat.le_of_ble_eq_true rfl) d_M_leave_25 ⟨Nat.le_of_ble_eq_true rfl, Nat.le_of_ble_eq_true rfl⟩) (fun v28 h26 z27 H locs cells slots hf hs => ?_)
      exact r_ireturn C hs hr d_M_leave_28 hf
def fb_M_beat_L84 (bs : Nat) (sE : Nat × Nat) (REC : HH → Z3 → Nat → Int32 → Int32 → Int32 → Int32 → Option RS) (h : HH) (z : Z3) (x0 : Nat) (x1 : Int32) (x2 : Int32) (x4 : Int32) (x5 : Int32) : Option RS :=
  if 4 ≤ x5 then
    (some (.inl (some (.int x4)), h, z))
  else
    ((gR h x0 6 20).bind fun v23 =>
    (aI h v23 0 ((4 * x1) + x5)).bind fun v24 =>
    if v24 = x2 then
      (REC h z x0 x1 x2 (x4 ||| (1 <<< (x5 &&& 31))) (x5 + 1))
    else
      (REC h z x0 x1 x2 (x4 ||| 0) (x5 + 1)))
def f_M_beat_L84 (bs : Nat) (sE : Nat × Nat) : Nat → HH → Z3 → Nat → Int32 → Int32 → Int32 → Int32 → Option RS
  | 0 => fun _ _ _ _ _ _ _ => none
  | n + 1 => fb_M_beat_L84 bs sE (f_M_beat_L84 bs sE n)
set_option maxHeartbeats 4000000 in
set_option maxRecDepth 100000 in
theorem t_M_beat_L84 {G : EN} {p : Program} {l : Launch} {e : Env} {s : State} {m : MethodId} {args : Array Value} {below : List Frame} {meth : Method} {c : Code} {z0 : Z3} (hl0 : l.stackTraces = false) (C : CX G p l s m meth c b_M_beat 6 y_M_beat.cls) (hr : meth.sig.returnType = (some .int)) (hex : c.exceptionTable.toList = []) {r : RS} :
    ∀ (n : Nat) (h : HH) (z : Z3) (x0 : Nat) (x1 : Int32) (x2 : Int32) (x4 : Int32) (x5 : Int32), f_M_beat_L84 G.2.2.1 G.2.2.2 n h z x0 x1 x2 x4 x5 = some r → ∀ (H : Heap) (locs : List Loc) (cells slots : Nat) (ls : Array Slot), ST G (RM 1 22 z0) s h z H locs cells slots → lv_has ls 6 [(0, .ref x0), (1, .int x1), (2, .int x2), (4, .int x4), (5, .int x5)] → W p l e (RM 1 22 z0) s m args below meth c H locs cells slots (MX G below s r (RM 1 22 z0).cells (RM 1 22 z0).slots) (F0 m 84 ls []) := by
  have hx := C.1
  have hb := C.2.1
  intro n
  induction n with
  | zero => intro h z x0 x1 x2 x4 x5 hf; exact nomatch (show (none : Option RS) = some r from hf)
  | succ n ih =>
    intro h z x0 x1 x2 x4 x5 hf H locs cells slots ls hs hl
    have hf : fb_M_beat_L84 G.2.2.1 G.2.2.2 (f_M_beat_L84 G.2.2.1 G.2.2.2 n) h z x0 x1 x2 x4 x5 = some r := hf
    unfold fb_M_beat_L84 at hf
    refine lv_iload hx hb d_M_beat_84 (lv_at hl 4 rfl) ?_
    refine lv_iconst (v := 4) hx hb d_M_beat_86 (by decide) ?_
    refine lv_icmp_ge (tgt := 124) hx hb d_M_beat_87 (by decide) (fun q22 => ?_) (fun q22 => ?_)
    · have hf := ifp q22 hf
      refine lv_iload hx hb d_M_beat_124 (lv_at hl 3 rfl) ?_
      exact r_ireturn C hs hr d_M_beat_126 hf
    · have hf := ifn q22 hf
      refine lv_iload hx hb d_M_beat_90 (lv_at hl 3 rfl) ?_
      refine lv_aload_n hx hb d_M_beat_92 rfl (lv_at hl 0 rfl) ?_
      refine r_getR C hs fl_M_65 d_M_beat_93 hf (fun v23 hf => ?_)
      refine lv_iconst (v := 4) hx hb d_M_beat_96 (by decide) ?_
      refine lv_iload_n hx hb d_M_beat_97 rfl (lv_at hl 1 rfl) ?_
      refine lv_imul hx hb d_M_beat_98 ?_
      refine lv_iload hx hb d_M_beat_99 (lv_at hl 4 rfl) ?_
      refine lv_iadd hx hb d_M_beat_101 ?_
      refine r_iald C hs d_M_beat_102 hf (fun v24 hf => ?_)
      refine lv_iload_n hx hb d_M_beat_103 rfl (lv_at hl 2 rfl) ?_
      refine lv_icmp_ne (tgt := 114) hx hb d_M_beat_104 (by decide) (fun q25 => ?_) (fun q25 => ?_)
      · have hf := ifn q25 hf
        refine lv_iconst (v := 0) hx hb d_M_beat_114 (by decide) ?_
        refine lv_ior hx hb d_M_beat_115 ?_
        refine lv_istore (lv' := [(4, .int (x4 ||| 0)), (0, .ref x0), (1, .int x1), (2, .int x2), (5, .int x5)]) hx hb d_M_beat_116 hl (by decide) rfl (fun ls hl => ?_)
        refine lv_iinc (v := x5 + 1) (lv' := [(5, .int (x5 + 1)), (4, .int (x4 ||| 0)), (0, .ref x0), (1, .int x1), (2, .int x2)]) hx hb d_M_beat_118 hl (k := 4) rfl rfl (by decide) rfl (fun ls hl => ?_)
        refine lv_goto (tgt := 84) hx hb d_M_beat_121 (by decide) ?_
        exact ih _ _ _ _ _ _ _ hf _ _ _ _ _ hs (lv_sub hl [2, 3, 4, 1, 0] rfl)
      · have hf := ifp q25 hf
        refine lv_iconst (v := 1) hx hb d_M_beat_107 (by decide) ?_
        refine lv_iload hx hb d_M_beat_108 (lv_at hl 4 rfl) ?_
        refine lv_ishl hx hb d_M_beat_110 ?_
        refine lv_goto (tgt := 115) hx hb d_M_beat_111 (by decide) ?_
        refine lv_ior hx hb d_M_beat_115 ?_
        refine lv_istore (lv' := [(4, .int (x4 ||| (1 <<< (x5 &&& 31)))), (0, .ref x0), (1, .int x1), (2, .int x2), (5, .int x5)]) hx hb d_M_beat_116 hl (by decide) rfl (fun ls hl => ?_)
        refine lv_iinc (v := x5 + 1) (lv' := [(5, .int (x5 + 1)), (4, .int (x4 ||| (1 <<< (x5 &&& 31)))), (0, .ref x0), (1, .int x1), (2, .int x2)]) hx hb d_M_beat_118 hl (k := 4) rfl rfl (by decide) rfl (fun ls hl => ?_)
        refine lv_goto (tgt := 84) hx hb d_M_beat_121 (by decide) ?_
        exact ih _ _ _ _ _ _ _ hf _ _ _ _ _ hs (lv_sub hl [2, 3, 4, 1, 0] rfl)
def f_M_beat (bs : Nat) (sE : Nat × Nat) (h : HH) (z : Z3) (x0 : Nat) (x1 : Int32) (x2 : Int32) (x3 : Int32) : Option RS :=
  (pV bs h x0 6 0 (.inl 0)).bind fun h1 =>
  (oK h1 x0 6).bind fun _ =>
  cI (f_M_out bs sE h1 z x0 x1 2) fun v4 h2 z3 =>
  if v4 = 0 then
    ((oK h2 x0 6).bind fun _ =>
    cI (f_M_out bs sE h2 z3 x0 x2 4) fun v11 h9 z10 =>
    if v11 = 0 then
      ((gR h9 x0 6 18).bind fun v13 =>
      (aI h9 v13 1 ((4 * x1) + x2)).bind fun v14 =>
      if v14 = 0 then
        ((oK h9 x0 6).bind fun _ =>
        cI (f_M_fail bs sE h9 z10 x0 2) fun v31 h29 z30 =>
        some (.inl (some (.int v31)), h29, z30))
      else
        ((gR h9 x0 6 17).bind fun v16 =>
        (aI h9 v16 0 x1).bind fun v17 =>
        if x3 = v17 then
          ((gR h9 x0 6 19).bind fun v19 =>
          (gI h9 x0 6 22).bind fun v20 =>
          (aIs bs h9 v19 0 ((4 * x1) + x2) v20).bind fun h21 =>
          f_M_beat_L84 bs sE FU h21 z10 x0 x1 x2 0 0)
        else
          ((oK h9 x0 6).bind fun _ =>
          cI (f_M_fail bs sE h9 z10 x0 3) fun v28 h26 z27 =>
          some (.inl (some (.int v28)), h26, z27))))
    else
      ((oK h9 x0 6).bind fun _ =>
      cI (f_M_fail bs sE h9 z10 x0 1) fun v34 h32 z33 =>
      some (.inl (some (.int v34)), h32, z33)))
  else
    ((oK h2 x0 6).bind fun _ =>
    cI (f_M_fail bs sE h2 z3 x0 1) fun v8 h6 z7 =>
    some (.inl (some (.int v8)), h6, z7))
set_option maxHeartbeats 4000000 in
set_option maxRecDepth 100000 in
theorem c_M_beat {G : EN} {l : Launch} (hl0 : l.stackTraces = false) {h : HH} {z : Z3} {x0 : Nat} {x1 : Int32} {x2 : Int32} {x3 : Int32} {r : RS} (hf : f_M_beat G.2.2.1 G.2.2.2 h z x0 x1 x2 x3 = some r) : CM G l y_M_beat (.code y_M_beat b_M_beat 6 (some .int)) 1 22 [.ref x0, .int x1, .int x2, .int x3] h z r := by
  refine CM.ofW hl0 rfl ?_
  intro p e s m below meth c C hr hex hin hs
  have hx := C.1
  have hb := C.2.1
  refine x_entry (n := 6) (Nat.le_of_ble_eq_true rfl) (fun ls hl => ?_)
  have hl : lv_has ls 6 [(0, .ref x0), (1, .int x1), (2, .int x2), (3, .int x3)] := hl
  unfold f_M_beat at hf
  refine lv_aload_n hx hb d_M_beat_0 rfl (lv_at hl 0 rfl) ?_
  refine lv_iconst (v := 0) hx hb d_M_beat_1 (by decide) ?_
  refine r_putV (v := (.inl 0)) C hs flp_M_71 rfl rfl d_M_beat_2 hf (fun h1 H locs hf hs => ?_)
  refine lv_aload_n hx hb d_M_beat_5 rfl (lv_at hl 0 rfl) ?_
  refine lv_iload_n hx hb d_M_beat_6 rfl (lv_at hl 1 rfl) ?_
  refine lv_iconst (v := 2) hx hb d_M_beat_7 (by decide) ?_
  obtain ⟨_, ho, hf⟩ := bd hf
  refine k_I C hs hex hf (fun res e1 => iv_V (b := x0) (As := [.int x1, .int 2]) (rest := []) C hs cv_M_83 (c_M_out hl0 e1) (ci := 6) rfl rfl ho rfl hl.1 rfl (Nat.le_of_ble_eq_true rfl) d_M_beat_8 ⟨Nat.le_of_ble_eq_true rfl, Nat.le_of_ble_eq_true rfl⟩) (fun v4 h2 z3 H locs cells slots hf hs => ?_)
  refine lv_if_ne (tgt := 23) hx hb d_M_beat_11 (by decide) (fun q5 => ?_) (fun q5 => ?_)
  · have hf := ifn q5 hf
    refine lv_aload_n hx hb d_M_beat_23 rfl (lv_at hl 0 rfl) ?_
    refine lv_iconst (v := 1) hx hb d_M_beat_24 (by decide) ?_
    obtain ⟨_, ho, hf⟩ := bd hf
    refine k_I C hs hex hf (fun res e1 => iv_V (b := x0) (As := [.int 1]) (rest := []) C hs cv_M_86 (c_M_fail hl0 e1) (ci := 6) rfl rfl ho rfl hl.1 rfl (Nat.le_of_ble_eq_true rfl) d_M_beat_25 ⟨Nat.le_of_ble_eq_true rfl, Nat.le_of_ble_eq_true rfl⟩) (fun v8 h6 z7 H locs cells slots hf hs => ?_)
    exact r_ireturn C hs hr d_M_beat_28 hf
  · have hf := ifp q5 hf
    refine lv_aload_n hx hb d_M_beat_14 rfl (lv_at hl 0 rfl) ?_
    refine lv_iload_n hx hb d_M_beat_15 rfl (lv_at hl 2 rfl) ?_
    refine lv_iconst (v := 4) hx hb d_M_beat_16 (by decide) ?_
    obtain ⟨_, ho, hf⟩ := bd hf
    refine k_I C hs hex hf (fun res e1 => iv_V (b := x0) (As := [.int x2, .int 4]) (rest := []) C hs cv_M_83 (c_M_out hl0 e1) (ci := 6) rfl rfl ho rfl hl.1 rfl (Nat.le_of_ble_eq_true rfl) d_M_beat_17 ⟨Nat.le_of_ble_eq_true rfl, Nat.le_of_ble_eq_true rfl⟩) (fun v11 h9 z10 H locs cells slots hf hs => ?_)
    refine lv_if_eq (tgt := 29) hx hb d_M_beat_20 (by decide) (fun q12 => ?_) (fun q12 => ?_)
    · have hf := ifp q12 hf
      refine lv_aload_n hx hb d_M_beat_29 rfl (lv_at hl 0 rfl) ?_
      refine r_getR C hs fl_M_58 d_M_beat_30 hf (fun v13 hf => ?_)
      refine lv_iconst (v := 4) hx hb d_M_beat_33 (by decide) ?_
      refine lv_iload_n hx hb d_M_beat_34 rfl (lv_at hl 1 rfl) ?_
      refine lv_imul hx hb d_M_beat_35 ?_
      refine lv_iload_n hx hb d_M_beat_36 rfl (lv_at hl 2 rfl) ?_
      refine lv_iadd hx hb d_M_beat_37 ?_
      refine r_zald C hs d_M_beat_38 hf (fun v14 hf => ?_)
      refine lv_if_ne (tgt := 48) hx hb d_M_beat_39 (by decide) (fun q15 => ?_) (fun q15 => ?_)
      · have hf := ifn q15 hf
        refine lv_iload_n hx hb d_M_beat_48 rfl (lv_at hl 3 rfl) ?_
        refine lv_aload_n hx hb d_M_beat_49 rfl (lv_at hl 0 rfl) ?_
        refine r_getR C hs fl_M_55 d_M_beat_50 hf (fun v16 hf => ?_)
        refine lv_iload_n hx hb d_M_beat_53 rfl (lv_at hl 1 rfl) ?_
        refine r_iald C hs d_M_beat_54 hf (fun v17 hf => ?_)
        refine lv_icmp_eq (tgt := 64) hx hb d_M_beat_55 (by decide) (fun q18 => ?_) (fun q18 => ?_)
        · have hf := ifp q18 hf
          refine lv_aload_n hx hb d_M_beat_64 rfl (lv_at hl 0 rfl) ?_
          refine r_getR C hs fl_M_62 d_M_beat_65 hf (fun v19 hf => ?_)
          refine lv_iconst (v := 4) hx hb d_M_beat_68 (by decide) ?_
          refine lv_iload_n hx hb d_M_beat_69 rfl (lv_at hl 1 rfl) ?_
          refine lv_imul hx hb d_M_beat_70 ?_
          refine lv_iload_n hx hb d_M_beat_71 rfl (lv_at hl 2 rfl) ?_
          refine lv_iadd hx hb d_M_beat_72 ?_
          refine lv_aload_n hx hb d_M_beat_73 rfl (lv_at hl 0 rfl) ?_
          refine r_getI C hs fl_M_101 d_M_beat_74 hf (fun v20 hf => ?_)
          refine r_iast C hs d_M_beat_77 hf (fun h21 H locs hf hs => ?_)
          refine lv_iconst (v := 0) hx hb d_M_beat_78 (by decide) ?_
          refine lv_istore (lv' := [(4, .int 0), (0, .ref x0), (1, .int x1), (2, .int x2), (3, .int x3)]) hx hb d_M_beat_79 hl (by decide) rfl (fun ls hl => ?_)
          refine lv_iconst (v := 0) hx hb d_M_beat_81 (by decide) ?_
          refine lv_istore (lv' := [(5, .int 0), (4, .int 0), (0, .ref x0), (1, .int x1), (2, .int x2), (3, .int x3)]) hx hb d_M_beat_82 hl (by decide) rfl (fun ls hl => ?_)
          exact t_M_beat_L84 hl0 C hr hex FU _ _ _ _ _ _ _ hf _ _ _ _ _ hs (lv_sub hl [2, 3, 4, 1, 0] rfl)
        · have hf := ifn q18 hf
          refine lv_aload_n hx hb d_M_beat_58 rfl (lv_at hl 0 rfl) ?_
          refine lv_iconst (v := 3) hx hb d_M_beat_59 (by decide) ?_
          obtain ⟨_, ho, hf⟩ := bd hf
          refine k_I C hs hex hf (fun res e1 => iv_V (b := x0) (As := [.int 3]) (rest := []) C hs cv_M_86 (c_M_fail hl0 e1) (ci := 6) rfl rfl ho rfl hl.1 rfl (Nat.le_of_ble_eq_true rfl) d_M_beat_60 ⟨Nat.le_of_ble_eq_true rfl, Nat.le_of_ble_eq_true rfl⟩) (fun v28 h26 z27 H locs cells slots hf hs => ?_)
          exact r_ireturn C hs hr d_M_beat_63 hf
      · have hf := ifp q15 hf
        refine lv_aload_n hx hb d_M_beat_42 rfl (lv_at hl 0 rfl) ?_
        refine lv_iconst (v := 2) hx hb d_M_beat_43 (by decide) ?_
        obtain ⟨_, ho, hf⟩ := bd hf
        refine k_I C hs hex hf (fun res e1 => iv_V (b := x0) (As := [.int 2]) (rest := []) C hs cv_M_86 (c_M_fail hl0 e1) (ci := 6) rfl rfl ho rfl hl.1 rfl (Nat.le_of_ble_eq_true rfl) d_M_beat_44 ⟨Nat.le_of_ble_eq_true rfl, Nat.le_of_ble_eq_true rfl⟩) (fun v31 h29 z30 H locs cells slots hf hs => ?_)
        exact r_ireturn C hs hr d_M_beat_47 hf
    · have hf := ifn q12 hf
      refine lv_aload_n hx hb d_M_beat_23 rfl (lv_at hl 0 rfl) ?_
      refine lv_iconst (v := 1) hx hb d_M_beat_24 (by decide) ?_
      obtain ⟨_, ho, hf⟩ := bd hf
      refine k_I C hs hex hf (fun res e1 => iv_V (b := x0) (As := [.int 1]) (rest := []) C hs cv_M_86 (c_M_fail hl0 e1) (ci := 6) rfl rfl ho rfl hl.1 rfl (Nat.le_of_ble_eq_true rfl) d_M_beat_25 ⟨Nat.le_of_ble_eq_true rfl, Nat.le_of_ble_eq_true rfl⟩) (fun v34 h32 z33 H locs cells slots hf hs => ?_)
      exact r_ireturn C hs hr d_M_beat_28 hf
def f_M_mark (bs : Nat) (sE : Nat × Nat) (h : HH) (z : Z3) (x0 : Nat) (x1 : Int32) (x2 : Int32) (x3 : Int32) (x4 : Int32) (x5 : Int32) : Option RS :=
  (pV bs h x0 6 0 (.inl 0)).bind fun h1 =>
  (oK h1 x0 6).bind fun _ =>
  cI (f_M_out bs sE h1 z x0 x1 2) fun v4 h2 z3 =>
  if v4 = 0 then
    ((oK h2 x0 6).bind fun _ =>
    cI (f_M_out bs sE h2 z3 x0 x2 4) fun v11 h9 z10 =>
    if v11 = 0 then
      ((oK h9 x0 6).bind fun _ =>
      cI (f_M_out bs sE h9 z10 x0 x4 4) fun v18 h16 z17 =>
      if v18 = 0 then
        ((oK h16 x0 6).bind fun _ =>
        cI (f_M_out bs sE h16 z17 x0 x5 601) fun v25 h23 z24 =>
        if v25 = 0 then
          ((gR h23 x0 6 18).bind fun v27 =>
          (aI h23 v27 1 ((4 * x1) + x2)).bind fun v28 =>
          if v28 = 0 then
            ((oK h23 x0 6).bind fun _ =>
            cI (f_M_fail bs sE h23 z24 x0 2) fun v48 h46 z47 =>
            some (.inl (some (.int v48)), h46, z47))
          else
            ((gR h23 x0 6 17).bind fun v30 =>
            (aI h23 v30 0 x1).bind fun v31 =>
            if x3 = v31 then
              ((gR h23 x0 6 20).bind fun v33 =>
              (aI h23 v33 0 ((4 * x1) + x4)).bind fun v34 =>
              if v34 = x2 then
                ((gR h23 x0 6 21).bind fun v36 =>
                (aI h23 v36 0 ((4 * x1) + x4)).bind fun v37 =>
                (gR h23 x0 6 21).bind fun v38 =>
                (aIs bs h23 v38 0 ((4 * x1) + x4) x5).bind fun h39 =>
                some (.inl (some (.int v37)), h39, z24))
              else
                ((oK h23 x0 6).bind fun _ =>
                cI (f_M_fail bs sE h23 z24 x0 4) fun v42 h40 z41 =>
                some (.inl (some (.int v42)), h40, z41)))
            else
              ((oK h23 x0 6).bind fun _ =>
              cI (f_M_fail bs sE h23 z24 x0 3) fun v45 h43 z44 =>
              some (.inl (some (.int v45)), h43, z44))))
        else
          ((oK h23 x0 6).bind fun _ =>
          cI (f_M_fail bs sE h23 z24 x0 1) fun v51 h49 z50 =>
          some (.inl (some (.int v51)), h49, z50)))
      else
        ((oK h16 x0 6).bind fun _ =>
        cI (f_M_fail bs sE h16 z17 x0 1) fun v22 h20 z21 =>
        some (.inl (some (.int v22)), h20, z21)))
    else
      ((oK h9 x0 6).bind fun _ =>
      cI (f_M_fail bs sE h9 z10 x0 1) fun v15 h13 z14 =>
      some (.inl (some (.int v15)), h13, z14)))
  else
    ((oK h2 x0 6).bind fun _ =>
    cI (f_M_fail bs sE h2 z3 x0 1) fun v8 h6 z7 =>
    some (.inl (some (.int v8)), h6, z7))
set_option maxHeartbeats 4000000 in
set_option maxRecDepth 100000 in
theorem c_M_mark {G : EN} {l : Launch} (hl0 : l.stackTraces = false) {h : HH} {z : Z3} {x0 : Nat} {x1 : Int32} {x2 : Int32} {x3 : Int32} {x4 : Int32} {x5 : Int32} {r : RS} (hf : f_M_mark G.2.2.1 G.2.2.2 h z x0 x1 x2 x3 x4 x5 = some r) : CM G l y_M_mark (.code y_M_mark b_M_mark 7 (some .int)) 1 22 [.ref x0, .int x1, .int x2, .int x3, .int x4, .int x5] h z r := by
  refine CM.ofW hl0 rfl ?_
  intro p e s m below meth c C hr hex hin hs
  have hx := C.1
  have hb := C.2.1
  refine x_entry (n := 7) (Nat.le_of_ble_eq_true rfl) (fun ls hl => ?_)
  have hl : lv_has ls 7 [(0, .ref x0), (1, .int x1), (2, .int x2), (3, .int x3), (4, .int x4), (5, .int x5)] := hl
  unfold f_M_mark at hf
  refine lv_aload_n hx hb d_M_mark_0 rfl (lv_at hl 0 rfl) ?_
  refine lv_iconst (v := 0) hx hb d_M_mark_1 (by decide) ?_
  refine r_putV (v := (.inl 0)) C hs flp_M_71 rfl rfl d_M_mark_2 hf (fun h1 H locs hf hs => ?_)
  refine lv_aload_n hx hb d_M_mark_5 rfl (lv_at hl 0 rfl) ?_
  refine lv_iload_n hx hb d_M_mark_6 rfl (lv_at hl 1 rfl) ?_
  refine lv_iconst (v := 2) hx hb d_M_mark_7 (by decide) ?_
  obtain ⟨_, ho, hf⟩ := bd hf
  refine k_I C hs hex hf (fun res e1 => iv_V (b := x0) (As := [.int x1, .int 2]) (rest := []) C hs cv_M_83 (c_M_out hl0 e1) (ci := 6) rfl rfl ho rfl hl.1 rfl (Nat.le_of_ble_eq_true rfl) d_M_mark_8 ⟨Nat.le_of_ble_eq_true rfl, Nat.le_of_ble_eq_true rfl⟩) (fun v4 h2 z3 H locs cells slots hf hs => ?_)
  refine lv_if_ne (tgt := 45) hx hb d_M_mark_11 (by decide) (fun q5 => ?_) (fun q5 => ?_)
  · have hf := ifn q5 hf
    refine lv_aload_n hx hb d_M_mark_45 rfl (lv_at hl 0 rfl) ?_
    refine lv_iconst (v := 1) hx hb d_M_mark_46 (by decide) ?_
    obtain ⟨_, ho, hf⟩ := bd hf
    refine k_I C hs hex hf (fun res e1 => iv_V (b := x0) (As := [.int 1]) (rest := []) C hs cv_M_86 (c_M_fail hl0 e1) (ci := 6) rfl rfl ho rfl hl.1 rfl (Nat.le_of_ble_eq_true rfl) d_M_mark_47 ⟨Nat.le_of_ble_eq_true rfl, Nat.le_of_ble_eq_true rfl⟩) (fun v8 h6 z7 H locs cells slots hf hs => ?_)
    exact r_ireturn C hs hr d_M_mark_50 hf
  · have hf := ifp q5 hf
    refine lv_aload_n hx hb d_M_mark_14 rfl (lv_at hl 0 rfl) ?_
    refine lv_iload_n hx hb d_M_mark_15 rfl (lv_at hl 2 rfl) ?_
    refine lv_iconst (v := 4) hx hb d_M_mark_16 (by decide) ?_
    obtain ⟨_, ho, hf⟩ := bd hf
    refine k_I C hs hex hf (fun res e1 => iv_V (b := x0) (As := [.int x2, .int 4]) (rest := []) C hs cv_M_83 (c_M_out hl0 e1) (ci := 6) rfl rfl ho rfl hl.1 rfl (Nat.le_of_ble_eq_true rfl) d_M_mark_17 ⟨Nat.le_of_ble_eq_true rfl, Nat.le_of_ble_eq_true rfl⟩) (fun v11 h9 z10 H locs cells slots hf hs => ?_)
    refine lv_if_ne (tgt := 45) hx hb d_M_mark_20 (by decide) (fun q12 => ?_) (fun q12 => ?_)
    · have hf := ifn q12 hf
      refine lv_aload_n hx hb d_M_mark_45 rfl (lv_at hl 0 rfl) ?_
      refine lv_iconst (v := 1) hx hb d_M_mark_46 (by decide) ?_
      obtain ⟨_, ho, hf⟩ := bd hf
      refine k_I C hs hex hf (fun res e1 => iv_V (b := x0) (As := [.int 1]) (rest := []) C hs cv_M_86 (c_M_fail hl0 e1) (ci := 6) rfl rfl ho rfl hl.1 rfl (Nat.le_of_ble_eq_true rfl) d_M_mark_47 ⟨Nat.le_of_ble_eq_true rfl, Nat.le_of_ble_eq_true rfl⟩) (fun v15 h13 z14 H locs cells slots hf hs => ?_)
      exact r_ireturn C hs hr d_M_mark_50 hf
    · have hf := ifp q12 hf
      refine lv_aload_n hx hb d_M_mark_23 rfl (lv_at hl 0 rfl) ?_
      refine lv_iload hx hb d_M_mark_24 (lv_at hl 4 rfl) ?_
      refine lv_iconst (v := 4) hx hb d_M_mark_26 (by decide) ?_
      obtain ⟨_, ho, hf⟩ := bd hf
      refine k_I C hs hex hf (fun res e1 => iv_V (b := x0) (As := [.int x4, .int 4]) (rest := []) C hs cv_M_83 (c_M_out hl0 e1) (ci := 6) rfl rfl ho rfl hl.1 rfl (Nat.le_of_ble_eq_true rfl) d_M_mark_27 ⟨Nat.le_of_ble_eq_true rfl, Nat.le_of_ble_eq_true rfl⟩) (fun v18 h16 z17 H locs cells slots hf hs => ?_)
      refine lv_if_ne (tgt := 45) hx hb d_M_mark_30 (by decide) (fun q19 => ?_) (fun q19 => ?_)
      · have hf := ifn q19 hf
        refine lv_aload_n hx hb d_M_mark_45 rfl (lv_at hl 0 rfl) ?_
        refine lv_iconst (v := 1) hx hb d_M_mark_46 (by decide) ?_
        obtain ⟨_, ho, hf⟩ := bd hf
        refine k_I C hs hex hf (fun res e1 => iv_V (b := x0) (As := [.int 1]) (rest := []) C hs cv_M_86 (c_M_fail hl0 e1) (ci := 6) rfl rfl ho rfl hl.1 rfl (Nat.le_of_ble_eq_true rfl) d_M_mark_47 ⟨Nat.le_of_ble_eq_true rfl, Nat.le_of_ble_eq_true rfl⟩) (fun v22 h20 z21 H locs cells slots hf hs => ?_)
        exact r_ireturn C hs hr d_M_mark_50 hf
      · have hf := ifp q19 hf
        refine lv_aload_n hx hb d_M_mark_33 rfl (lv_at hl 0 rfl) ?_
        refine lv_iload hx hb d_M_mark_34 (lv_at hl 5 rfl) ?_
        refine lv_sipush (v := 601) hx hb d_M_mark_36 (by decide) ?_
        obtain ⟨_, ho, hf⟩ := bd hf
        refine k_I C hs hex hf (fun res e1 => iv_V (b := x0) (As := [.int x5, .int 601]) (rest := []) C hs cv_M_83 (c_M_out hl0 e1) (ci := 6) rfl rfl ho rfl hl.1 rfl (Nat.le_of_ble_eq_true rfl) d_M_mark_39 ⟨Nat.le_of_ble_eq_true rfl, Nat.le_of_ble_eq_true rfl⟩) (fun v25 h23 z24 H locs cells slots hf hs => ?_)
        refine lv_if_eq (tgt := 51) hx hb d_M_mark_42 (by decide) (fun q26 => ?_) (fun q26 => ?_)
        · have hf := ifp q26 hf
          refine lv_aload_n hx hb d_M_mark_51 rfl (lv_at hl 0 rfl) ?_
          refine r_getR C hs fl_M_58 d_M_mark_52 hf (fun v27 hf => ?_)
          refine lv_iconst (v := 4) hx hb d_M_mark_55 (by decide) ?_
          refine lv_iload_n hx hb d_M_mark_56 rfl (lv_at hl 1 rfl) ?_
          refine lv_imul hx hb d_M_mark_57 ?_
          refine lv_iload_n hx hb d_M_mark_58 rfl (lv_at hl 2 rfl) ?_
          refine lv_iadd hx hb d_M_mark_59 ?_
          refine r_zald C hs d_M_mark_60 hf (fun v28 hf => ?_)
          refine lv_if_ne (tgt := 70) hx hb d_M_mark_61 (by decide) (fun q29 => ?_) (fun q29 => ?_)
          · have hf := ifn q29 hf
            refine lv_iload_n hx hb d_M_mark_70 rfl (lv_at hl 3 rfl) ?_
            refine lv_aload_n hx hb d_M_mark_71 rfl (lv_at hl 0 rfl) ?_
            refine r_getR C hs fl_M_55 d_M_mark_72 hf (fun v30 hf => ?_)
            refine lv_iload_n hx hb d_M_mark_75 rfl (lv_at hl 1 rfl) ?_
            refine r_iald C hs d_M_mark_76 hf (fun v31 hf => ?_)
            refine lv_icmp_eq (tgt := 86) hx hb d_M_mark_77 (by decide) (fun q32 => ?_) (fun q32 => ?_)
            · have hf := ifp q32 hf
              refine lv_aload_n hx hb d_M_mark_86 rfl (lv_at hl 0 rfl) ?_
              refine r_getR C hs fl_M_65 d_M_mark_87 hf (fun v33 hf => ?_)
              refine lv_iconst (v := 4) hx hb d_M_mark_90 (by decide) ?_
              refine lv_iload_n hx hb d_M_mark_91 rfl (lv_at hl 1 rfl) ?_
              refine lv_imul hx hb d_M_mark_92 ?_
              refine lv_iload hx hb d_M_mark_93 (lv_at hl 4 rfl) ?_
              refine lv_iadd hx hb d_M_mark_95 ?_
              refine r_iald C hs d_M_mark_96 hf (fun v34 hf => ?_)
              refine lv_iload_n hx hb d_M_mark_97 rfl (lv_at hl 2 rfl) ?_
              refine lv_icmp_eq (tgt := 107) hx hb d_M_mark_98 (by decide) (fun q35 => ?_) (fun q35 => ?_)
              · have hf := ifp q35 hf
                refine lv_aload_n hx hb d_M_mark_107 rfl (lv_at hl 0 rfl) ?_
                refine r_getR C hs fl_M_68 d_M_mark_108 hf (fun v36 hf => ?_)
                refine lv_iconst (v := 4) hx hb d_M_mark_111 (by decide) ?_
                refine lv_iload_n hx hb d_M_mark_112 rfl (lv_at hl 1 rfl) ?_
                refine lv_imul hx hb d_M_mark_113 ?_
                refine lv_iload hx hb d_M_mark_114 (lv_at hl 4 rfl) ?_
                refine lv_iadd hx hb d_M_mark_116 ?_
                refine r_iald C hs d_M_mark_117 hf (fun v37 hf => ?_)
                refine lv_istore (lv' := [(6, .int v37), (0, .ref x0), (1, .int x1), (2, .int x2), (3, .int x3), (4, .int x4), (5, .int x5)]) hx hb d_M_mark_118 hl (by decide) rfl (fun ls hl => ?_)
                refine lv_aload_n hx hb d_M_mark_120 rfl (lv_at hl 1 rfl) ?_
                refine r_getR C hs fl_M_68 d_M_mark_121 hf (fun v38 hf => ?_)
                refine lv_iconst (v := 4) hx hb d_M_mark_124 (by decide) ?_
                refine lv_iload_n hx hb d_M_mark_125 rfl (lv_at hl 2 rfl) ?_
                refine lv_imul hx hb d_M_mark_126 ?_
                refine lv_iload hx hb d_M_mark_127 (lv_at hl 5 rfl) ?_
                refine lv_iadd hx hb d_M_mark_129 ?_
                refine lv_iload hx hb d_M_mark_130 (lv_at hl 6 rfl) ?_
                refine r_iast C hs d_M_mark_132 hf (fun h39 H locs hf hs => ?_)
                refine lv_iload hx hb d_M_mark_133 (lv_at hl 0 rfl) ?_
                exact r_ireturn C hs hr d_M_mark_135 hf
              · have hf := ifn q35 hf
                refine lv_aload_n hx hb d_M_mark_101 rfl (lv_at hl 0 rfl) ?_
                refine lv_iconst (v := 4) hx hb d_M_mark_102 (by decide) ?_
                obtain ⟨_, ho, hf⟩ := bd hf
                refine k_I C hs hex hf (fun res e1 => iv_V (b := x0) (As := [.int 4]) (rest := []) C hs cv_M_86 (c_M_fail hl0 e1) (ci := 6) rfl rfl ho rfl hl.1 rfl (Nat.le_of_ble_eq_true rfl) d_M_mark_103 ⟨Nat.le_of_ble_eq_true rfl, Nat.le_of_ble_eq_true rfl⟩) (fun v42 h40 z41 H locs cells slots hf hs => ?_)
                exact r_ireturn C hs hr d_M_mark_106 hf
            · have hf := ifn q32 hf
              refine lv_aload_n hx hb d_M_mark_80 rfl (lv_at hl 0 rfl) ?_
              refine lv_iconst (v := 3) hx hb d_M_mark_81 (by decide) ?_
              obtain ⟨_, ho, hf⟩ := bd hf
              refine k_I C hs hex hf (fun res e1 => iv_V (b := x0) (As := [.int 3]) (rest := []) C hs cv_M_86 (c_M_fail hl0 e1) (ci := 6) rfl rfl ho rfl hl.1 rfl (Nat.le_of_ble_eq_true rfl) d_M_mark_82 ⟨Nat.le_of_ble_eq_true rfl, Nat.le_of_ble_eq_true rfl⟩) (fun v45 h43 z44 H locs cells slots hf hs => ?_)
              exact r_ireturn C hs hr d_M_mark_85 hf
          · have hf := ifp q29 hf
            refine lv_aload_n hx hb d_M_mark_64 rfl (lv_at hl 0 rfl) ?_
            refine lv_iconst (v := 2) hx hb d_M_mark_65 (by decide) ?_
            obtain ⟨_, ho, hf⟩ := bd hf
            refine k_I C hs hex hf (fun res e1 => iv_V (b := x0) (As := [.int 2]) (rest := []) C hs cv_M_86 (c_M_fail hl0 e1) (ci := 6) rfl rfl ho rfl hl.1 rfl (Nat.le_of_ble_eq_true rfl) d_M_mark_66 ⟨Nat.le_of_ble_eq_true rfl, Nat.le_of_ble_eq_true rfl⟩) (fun v48 h46 z47 H locs cells slots hf hs => ?_)
            exact r_ireturn C hs hr d_M_mark_69 hf
        · have hf := ifn q26 hf
          refine lv_aload_n hx hb d_M_mark_45 rfl (lv_at hl 0 rfl) ?_
          refine lv_iconst (v := 1) hx hb d_M_mark_46 (by decide) ?_
          obtain ⟨_, ho, hf⟩ := bd hf
          refine k_I C hs hex hf (fun res e1 => iv_V (b := x0) (As := [.int 1]) (rest := []) C hs cv_M_86 (c_M_fail hl0 e1) (ci := 6) rfl rfl ho rfl hl.1 rfl (Nat.le_of_ble_eq_true rfl) d_M_mark_47 ⟨Nat.le_of_ble_eq_true rfl, Nat.le_of_ble_eq_true rfl⟩) (fun v51 h49 z50 H locs cells slots hf hs => ?_)
          exact r_ireturn C hs hr d_M_mark_50 hf
def fb_M_tick_L95 (bs : Nat) (sE : Nat × Nat) (K149 : HH → Z3 → Nat → Int32 → Int32 → Int32 → Option RS) (REC : HH → Z3 → Nat → Int32 → Int32 → Int32 → Int32 → Option RS) (h : HH) (z : Z3) (x0 : Nat) (x2 : Int32) (x3 : Int32) (x4 : Int32) (x5 : Int32) : Option RS :=
  if ((4 * x3) + 4) ≤ x5 then
    (K149 h z x0 x2 x3 x4)
  else
    ((gR h x0 6 18).bind fun v11 =>
    (aI h v11 1 x5).bind fun v12 =>
    if v12 = 0 then
      (REC h z x0 x2 x3 x4 (x5 + 1))
    else
      ((gR h x0 6 19).bind fun v14 =>
      (aI h v14 0 x5).bind fun v15 =>
      (gI h x0 6 22).bind fun v16 =>
      if v16 < (v15 + 20) then
        (REC h z x0 x2 x3 x4 (x5 + 1))
      else
        ((gR h x0 6 18).bind fun v18 =>
        (aIs bs h v18 1 x5 (vp_nar .boolean 0)).bind fun h19 =>
        REC h19 z x0 x2 x3 (x4 + 1) (x5 + 1))))
def f_M_tick_L95 (bs : Nat) (sE : Nat × Nat) (K149 : HH → Z3 → Nat → Int32 → Int32 → Int32 → Option RS) : Nat → HH → Z3 → Nat → Int32 → Int32 → Int32 → Int32 → Option RS
  | 0 => fun _ _ _ _ _ _ _ => none
  | n + 1 => fb_M_tick_L95 bs sE K149 (f_M_tick_L95 bs sE K149 n)
set_option maxHeartbeats 4000000 in
set_option maxRecDepth 100000 in
theorem t_M_tick_L95 {G : EN} {p : Program} {l : Launch} {e : Env} {s : State} {m : MethodId} {args : Array Value} {below : List Frame} {meth : Method} {c : Code} {z0 : Z3} (hl0 : l.stackTraces = false) (C : CX G p l s m meth c b_M_tick 6 y_M_tick.cls) (hr : meth.sig.returnType = (some .int)) (hex : c.exceptionTable.toList = []) {r : RS} {K149 : HH → Z3 → Nat → Int32 → Int32 → Int32 → Option RS}
    (hK149 : ∀ (h : HH) (z : Z3) (y0 : Nat) (y1 : Int32) (y2 : Int32) (y3 : Int32), K149 h z y0 y1 y2 y3 = some r → ∀ (H : Heap) (locs : List Loc) (cells slots : Nat) (ls : Array Slot), ST G (RM 3 75 z0) s h z H locs cells slots → lv_has ls 6 [(0, .ref y0), (2, .int y1), (3, .int y2), (4, .int y3)] → W p l e (RM 3 75 z0) s m args below meth c H locs cells slots (MX G below s r (RM 3 75 z0).cells (RM 3 75 z0).slots) (F0 m 149 ls [])) :
    ∀ (n : Nat) (h : HH) (z : Z3) (x0 : Nat) (x2 : Int32) (x3 : Int32) (x4 : Int32) (x5 : Int32), f_M_tick_L95 G.2.2.1 G.2.2.2 K149 n h z x0 x2 x3 x4 x5 = some r → ∀ (H : Heap) (locs : List Loc) (cells slots : Nat) (ls : Array Slot), ST G (RM 3 75 z0) s h z H locs cells slots → lv_has ls 6 [(0, .ref x0), (2, .int x2), (3, .int x3), (4, .int x4), (5, .int x5)] → W p l e (RM 3 75 z0) s m args below meth c H locs cells slots (MX G below s r (RM 3 75 z0).cells (RM 3 75 z0).slots) (F0 m 95 ls []) := by
  have hx := C.1
  have hb := C.2.1
  intro n
  induction n with
  | zero => intro h z x0 x2 x3 x4 x5 hf; exact nomatch (show (none : Option RS) = some r from hf)
  | succ n ih =>
    intro h z x0 x2 x3 x4 x5 hf H locs cells slots ls hs hl
    have hf : fb_M_tick_L95 G.2.2.1 G.2.2.2 K149 (f_M_tick_L95 G.2.2.1 G.2.2.2 K149 n) h z x0 x2 x3 x4 x5 = some r := hf
    unfold fb_M_tick_L95 at hf
    refine lv_iload hx hb d_M_tick_95 (lv_at hl 4 rfl) ?_
    refine lv_iconst (v := 4) hx hb d_M_tick_97 (by decide) ?_
    refine lv_iload_n hx hb d_M_tick_98 rfl (lv_at hl 2 rfl) ?_
    refine lv_imul hx hb d_M_tick_99 ?_
    refine lv_iconst (v := 4) hx hb d_M_tick_100 (by decide) ?_
    refine lv_iadd hx hb d_M_tick_101 ?_
    refine lv_icmp_ge (tgt := 149) hx hb d_M_tick_102 (by decide) (fun q10 => ?_) (fun q10 => ?_)
    · have hf := ifp q10 hf
      exact hK149 _ _ _ _ _ _ hf _ _ _ _ _ hs (lv_sub hl [0, 1, 2, 3] rfl)
    · have hf := ifn q10 hf
      refine lv_aload_n hx hb d_M_tick_105 rfl (lv_at hl 0 rfl) ?_
      refine r_getR C hs fl_M_58 d_M_tick_106 hf (fun v11 hf => ?_)
      refine lv_iload hx hb d_M_tick_109 (lv_at hl 4 rfl) ?_
      refine r_zald C hs d_M_tick_111 hf (fun v12 hf => ?_)
      refine lv_if_eq (tgt := 143) hx hb d_M_tick_112 (by decide) (fun q13 => ?_) (fun q13 => ?_)
      · have hf := ifp q13 hf
        refine lv_iinc (v := x5 + 1) (lv' := [(5, .int (x5 + 1)), (0, .ref x0), (2, .int x2), (3, .int x3), (4, .int x4)]) hx hb d_M_tick_143 hl (k := 4) rfl rfl (by decide) rfl (fun ls hl => ?_)
        refine lv_goto (tgt := 95) hx hb d_M_tick_146 (by decide) ?_
        exact ih _ _ _ _ _ _ _ hf _ _ _ _ _ hs (lv_sub hl [1, 2, 3, 4, 0] rfl)
      · have hf := ifn q13 hf
        refine lv_aload_n hx hb d_M_tick_115 rfl (lv_at hl 0 rfl) ?_
        refine r_getR C hs fl_M_62 d_M_tick_116 hf (fun v14 hf => ?_)
        refine lv_iload hx hb d_M_tick_119 (lv_at hl 4 rfl) ?_
        refine r_iald C hs d_M_tick_121 hf (fun v15 hf => ?_)
        refine lv_bipush (v := 20) hx hb d_M_tick_122 (by decide) ?_
        refine lv_iadd hx hb d_M_tick_124 ?_
        refine lv_aload_n hx hb d_M_tick_125 rfl (lv_at hl 0 rfl) ?_
        refine r_getI C hs fl_M_101 d_M_tick_126 hf (fun v16 hf => ?_)
        refine lv_icmp_gt (tgt := 143) hx hb d_M_tick_129 (by decide) (fun q17 => ?_) (fun q17 => ?_)
        · have hf := ifp q17 hf
          refine lv_iinc (v := x5 + 1) (lv' := [(5, .int (x5 + 1)), (0, .ref x0), (2, .int x2), (3, .int x3), (4, .int x4)]) hx hb d_M_tick_143 hl (k := 4) rfl rfl (by decide) rfl (fun ls hl => ?_)
          refine lv_goto (tgt := 95) hx hb d_M_tick_146 (by decide) ?_
          exact ih _ _ _ _ _ _ _ hf _ _ _ _ _ hs (lv_sub hl [1, 2, 3, 4, 0] rfl)
        · have hf := ifn q17 hf
          refine lv_aload_n hx hb d_M_tick_132 rfl (lv_at hl 0 rfl) ?_
          refine r_getR C hs fl_M_58 d_M_tick_133 hf (fun v18 hf => ?_)
          refine lv_iload hx hb d_M_tick_136 (lv_at hl 4 rfl) ?_
          refine lv_iconst (v := 0) hx hb d_M_tick_138 (by decide) ?_
          refine r_zast C hs d_M_tick_139 hf (fun h19 H locs hf hs => ?_)
          refine lv_iinc (v := x4 + 1) (lv' := [(4, .int (x4 + 1)), (0, .ref x0), (2, .int x2), (3, .int x3), (5, .int x5)]) hx hb d_M_tick_140 hl (k := 3) rfl rfl (by decide) rfl (fun ls hl => ?_)
          refine lv_iinc (v := x5 + 1) (lv' := [(5, .int (x5 + 1)), (4, .int (x4 + 1)), (0, .ref x0), (2, .int x2), (3, .int x3)]) hx hb d_M_tick_143 hl (k := 4) rfl rfl (by decide) rfl (fun ls hl => ?_)
          refine lv_goto (tgt := 95) hx hb d_M_tick_146 (by decide) ?_
          exact ih _ _ _ _ _ _ _ hf _ _ _ _ _ hs (lv_sub hl [2, 3, 4, 1, 0] rfl)
def fb_M_tick_L82 (bs : Nat) (sE : Nat × Nat) (REC : HH → Z3 → Nat → Int32 → Int32 → Option RS) (h : HH) (z : Z3) (x0 : Nat) (x2 : Int32) (x3 : Int32) : Option RS :=
  if 2 ≤ x3 then
    (some (.inl (some (.int x2)), h, z))
  else
    (f_M_tick_L95 bs sE (fun h20 z21 x0_149 x2_149 x3_149 x4_149 =>
      if x4_149 ≤ 0 then
        (REC h20 z21 x0_149 (x2_149 + x4_149) (x3_149 + 1))
      else
        ((oK h20 x0_149 6).bind fun _ =>
        cV (f_M_share bs sE h20 z21 x0_149 x3_149) fun h23 z24 =>
        REC h23 z24 x0_149 (x2_149 + x4_149) (x3_149 + 1))) FU h z x0 x2 x3 0 (4 * x3))
def f_M_tick_L82 (bs : Nat) (sE : Nat × Nat) : Nat → HH → Z3 → Nat → Int32 → Int32 → Option RS
  | 0 => fun _ _ _ _ _ => none
  | n + 1 => fb_M_tick_L82 bs sE (f_M_tick_L82 bs sE n)
set_option maxHeartbeats 4000000 in
set_option maxRecDepth 100000 in
theorem t_M_tick_L82 {G : EN} {p : Program} {l : Launch} {e : Env} {s : State} {m : MethodId} {args : Array Value} {below : List Frame} {meth : Method} {c : Code} {z0 : Z3} (hl0 : l.stackTraces = false) (C : CX G p l s m meth c b_M_tick 6 y_M_tick.cls) (hr : meth.sig.returnType = (some .int)) (hex : c.exceptionTable.toList = []) {r : RS} :
    ∀ (n : Nat) (h : HH) (z : Z3) (x0 : Nat) (x2 : Int32) (x3 : Int32), f_M_tick_L82 G.2.2.1 G.2.2.2 n h z x0 x2 x3 = some r → ∀ (H : Heap) (locs : List Loc) (cells slots : Nat) (ls : Array Slot), ST G (RM 3 75 z0) s h z H locs cells slots → lv_has ls 6 [(0, .ref x0), (2, .int x2), (3, .int x3)] → W p l e (RM 3 75 z0) s m args below meth c H locs cells slots (MX G below s r (RM 3 75 z0).cells (RM 3 75 z0).slots) (F0 m 82 ls []) := by
  have hx := C.1
  have hb := C.2.1
  intro n
  induction n with
  | zero => intro h z x0 x2 x3 hf; exact nomatch (show (none : Option RS) = some r from hf)
  | succ n ih =>
    intro h z x0 x2 x3 hf H locs cells slots ls hs hl
    have hf : fb_M_tick_L82 G.2.2.1 G.2.2.2 (f_M_tick_L82 G.2.2.1 G.2.2.2 n) h z x0 x2 x3 = some r := hf
    unfold fb_M_tick_L82 at hf
    refine lv_iload_n hx hb d_M_tick_82 rfl (lv_at hl 2 rfl) ?_
    refine lv_iconst (v := 2) hx hb d_M_tick_83 (by decide) ?_
    refine lv_icmp_ge (tgt := 170) hx hb d_M_tick_84 (by decide) (fun q9 => ?_) (fun q9 => ?_)
    · have hf := ifp q9 hf
      refine lv_iload_n hx hb d_M_tick_170 rfl (lv_at hl 1 rfl) ?_
      exact r_ireturn C hs hr d_M_tick_171 hf
    · have hf := ifn q9 hf
      refine lv_iconst (v := 0) hx hb d_M_tick_87 (by decide) ?_
      refine lv_istore (lv' := [(4, .int 0), (0, .ref x0), (2, .int x2), (3, .int x3)]) hx hb d_M_tick_88 hl (by decide) rfl (fun ls hl => ?_)
      refine lv_iconst (v := 4) hx hb d_M_tick_90 (by decide) ?_
      refine lv_iload_n hx hb d_M_tick_91 rfl (lv_at hl 3 rfl) ?_
      refine lv_imul hx hb d_M_tick_92 ?_
      refine lv_istore (lv' := [(5, .int (4 * x3)), (4, .int 0), (0, .ref x0), (2, .int x2), (3, .int x3)]) hx hb d_M_tick_93 hl (by decide) rfl (fun ls hl => ?_)
      refine t_M_tick_L95 hl0 C hr hex ?_ FU _ _ _ _ _ _ _ hf _ _ _ _ _ hs (lv_sub hl [2, 3, 4, 1, 0] rfl)
      · intro h20 z21 x0_149 x2_149 x3_149 x4_149 hf H locs cells slots ls hs hl
        refine lv_iload hx hb d_M_tick_149 (lv_at hl 3 rfl) ?_
        refine lv_if_le (tgt := 159) hx hb d_M_tick_151 (by decide) (fun q22 => ?_) (fun q22 => ?_)
        · have hf := ifp q22 hf
          refine lv_iload_n hx hb d_M_tick_159 rfl (lv_at hl 1 rfl) ?_
          refine lv_iload hx hb d_M_tick_160 (lv_at hl 3 rfl) ?_
          refine lv_iadd hx hb d_M_tick_162 ?_
          refine lv_istore_n (lv' := [(2, .int (x2_149 + x4_149)), (0, .ref x0_149), (3, .int x3_149), (4, .int x4_149)]) hx hb d_M_tick_163 rfl hl (by decide) rfl (fun ls hl => ?_)
          refine lv_iinc (v := x3_149 + 1) (lv' := [(3, .int (x3_149 + 1)), (2, .int (x2_149 + x4_149)), (0, .ref x0_149), (4, .int x4_149)]) hx hb d_M_tick_164 hl (k := 2) rfl rfl (by decide) rfl (fun ls hl => ?_)
          refine lv_goto (tgt := 82) hx hb d_M_tick_167 (by decide) ?_
          exact ih _ _ _ _ _ hf _ _ _ _ _ hs (lv_sub hl [2, 1, 0] rfl)
        · have hf := ifn q22 hf
          refine lv_aload_n hx hb d_M_tick_154 rfl (lv_at hl 0 rfl) ?_
          refine lv_iload_n hx hb d_M_tick_155 rfl (lv_at hl 2 rfl) ?_
          obtain ⟨_, ho, hf⟩ := bd hf
          refine k_V C hs hex hf (fun res e1 => iv_V (b := x0_149) (As := [.int x3_149]) (rest := []) C hs cv_M_137 (c_M_share hl0 e1) (ci := 6) rfl rfl ho rfl hl.1 rfl (Nat.le_of_ble_eq_true rfl) d_M_tick_156 ⟨Nat.le_of_ble_eq_true rfl, Nat.le_of_ble_eq_true rfl⟩) (fun h23 z24 H locs cells slots hf hs => ?_)
          refine lv_iload_n hx hb d_M_tick_159 rfl (lv_at hl 1 rfl) ?_
          refine lv_iload hx hb d_M_tick_160 (lv_at hl 3 rfl) ?_
          refine lv_iadd hx hb d_M_tick_162 ?_
          refine lv_istore_n (lv' := [(2, .int (x2_149 + x4_149)), (0, .ref x0_149), (3, .int x3_149), (4, .int x4_149)]) hx hb d_M_tick_163 rfl hl (by decide) rfl (fun ls hl => ?_)
          refine lv_iinc (v := x3_149 + 1) (lv' := [(3, .int (x3_149 + 1)), (2, .int (x2_149 + x4_149)), (0, .ref x0_149), (4, .int x4_149)]) hx hb d_M_tick_164 hl (k := 2) rfl rfl (by decide) rfl (fun ls hl => ?_)
          refine lv_goto (tgt := 82) hx hb d_M_tick_167 (by decide) ?_
          exact ih _ _ _ _ _ hf _ _ _ _ _ hs (lv_sub hl [2, 1, 0] rfl)
def fb_M_tick_L35 (bs : Nat) (sE : Nat × Nat) (REC : HH → Z3 → Nat → Int32 → Int32 → Option RS) (h : HH) (z : Z3) (x0 : Nat) (x2 : Int32) (x3 : Int32) : Option RS :=
  if 4 ≤ x3 then
    (f_M_tick_L82 bs sE FU h z x0 x2 0)
  else
    ((gR h x0 6 10).bind fun v26 =>
    (aI h v26 0 x3).bind fun v27 =>
    if v27 = 1 then
      ((gR h x0 6 14).bind fun v29 =>
      (aI h v29 0 x3).bind fun v30 =>
      (gI h x0 6 22).bind fun v31 =>
      if v31 < (v30 + 30) then
        (REC h z x0 x2 (x3 + 1))
      else
        ((oK h x0 6).bind fun _ =>
        cV (f_M_abort bs sE h z x0 x3) fun h33 z34 =>
        REC h33 z34 x0 (x2 + 1) (x3 + 1)))
    else
      (REC h z x0 x2 (x3 + 1)))
def f_M_tick_L35 (bs : Nat) (sE : Nat × Nat) : Nat → HH → Z3 → Nat → Int32 → Int32 → Option RS
  | 0 => fun _ _ _ _ _ => none
  | n + 1 => fb_M_tick_L35 bs sE (f_M_tick_L35 bs sE n)
set_option maxHeartbeats 4000000 in
set_option maxRecDepth 100000 in
theorem t_M_tick_L35 {G : EN} {p : Program} {l : Launch} {e : Env} {s : State} {m : MethodId} {args : Array Value} {below : List Frame} {meth : Method} {c : Code} {z0 : Z3} (hl0 : l.stackTraces = false) (C : CX G p l s m meth c b_M_tick 6 y_M_tick.cls) (hr : meth.sig.returnType = (some .int)) (hex : c.exceptionTable.toList = []) {r : RS} :
    ∀ (n : Nat) (h : HH) (z : Z3) (x0 : Nat) (x2 : Int32) (x3 : Int32), f_M_tick_L35 G.2.2.1 G.2.2.2 n h z x0 x2 x3 = some r → ∀ (H : Heap) (locs : List Loc) (cells slots : Nat) (ls : Array Slot), ST G (RM 3 75 z0) s h z H locs cells slots → lv_has ls 6 [(0, .ref x0), (2, .int x2), (3, .int x3)] → W p l e (RM 3 75 z0) s m args below meth c H locs cells slots (MX G below s r (RM 3 75 z0).cells (RM 3 75 z0).slots) (F0 m 35 ls []) := by
  have hx := C.1
  have hb := C.2.1
  intro n
  induction n with
  | zero => intro h z x0 x2 x3 hf; exact nomatch (show (none : Option RS) = some r from hf)
  | succ n ih =>
    intro h z x0 x2 x3 hf H locs cells slots ls hs hl
    have hf : fb_M_tick_L35 G.2.2.1 G.2.2.2 (f_M_tick_L35 G.2.2.1 G.2.2.2 n) h z x0 x2 x3 = some r := hf
    unfold fb_M_tick_L35 at hf
    refine lv_iload_n hx hb d_M_tick_35 rfl (lv_at hl 2 rfl) ?_
    refine lv_iconst (v := 4) hx hb d_M_tick_36 (by decide) ?_
    refine lv_icmp_ge (tgt := 80) hx hb d_M_tick_37 (by decide) (fun q8 => ?_) (fun q8 => ?_)
    · have hf := ifp q8 hf
      refine lv_iconst (v := 0) hx hb d_M_tick_80 (by decide) ?_
      refine lv_istore_n (lv' := [(3, .int 0), (0, .ref x0), (2, .int x2)]) hx hb d_M_tick_81 rfl hl (by decide) rfl (fun ls hl => ?_)
      exact t_M_tick_L82 hl0 C hr hex FU _ _ _ _ _ hf _ _ _ _ _ hs (lv_sub hl [1, 2, 0] rfl)
    · have hf := ifn q8 hf
      refine lv_aload_n hx hb d_M_tick_40 rfl (lv_at hl 0 rfl) ?_
      refine r_getR C hs fl_M_37 d_M_tick_41 hf (fun v26 hf => ?_)
      refine lv_iload_n hx hb d_M_tick_44 rfl (lv_at hl 2 rfl) ?_
      refine r_iald C hs d_M_tick_45 hf (fun v27 hf => ?_)
      refine lv_iconst (v := 1) hx hb d_M_tick_46 (by decide) ?_
      refine lv_icmp_ne (tgt := 74) hx hb d_M_tick_47 (by decide) (fun q28 => ?_) (fun q28 => ?_)
      · have hf := ifn q28 hf
        refine lv_iinc (v := x3 + 1) (lv' := [(3, .int (x3 + 1)), (0, .ref x0), (2, .int x2)]) hx hb d_M_tick_74 hl (k := 2) rfl rfl (by decide) rfl (fun ls hl => ?_)
        refine lv_goto (tgt := 35) hx hb d_M_tick_77 (by decide) ?_
        exact ih _ _ _ _ _ hf _ _ _ _ _ hs (lv_sub hl [1, 2, 0] rfl)
      · have hf := ifp q28 hf
        refine lv_aload_n hx hb d_M_tick_50 rfl (lv_at hl 0 rfl) ?_
        refine r_getR C hs fl_M_49 d_M_tick_51 hf (fun v29 hf => ?_)
        refine lv_iload_n hx hb d_M_tick_54 rfl (lv_at hl 2 rfl) ?_
        refine r_iald C hs d_M_tick_55 hf (fun v30 hf => ?_)
        refine lv_bipush (v := 30) hx hb d_M_tick_56 (by decide) ?_
        refine lv_iadd hx hb d_M_tick_58 ?_
        refine lv_aload_n hx hb d_M_tick_59 rfl (lv_at hl 0 rfl) ?_
        refine r_getI C hs fl_M_101 d_M_tick_60 hf (fun v31 hf => ?_)
        refine lv_icmp_gt (tgt := 74) hx hb d_M_tick_63 (by decide) (fun q32 => ?_) (fun q32 => ?_)
        · have hf := ifp q32 hf
          refine lv_iinc (v := x3 + 1) (lv' := [(3, .int (x3 + 1)), (0, .ref x0), (2, .int x2)]) hx hb d_M_tick_74 hl (k := 2) rfl rfl (by decide) rfl (fun ls hl => ?_)
          refine lv_goto (tgt := 35) hx hb d_M_tick_77 (by decide) ?_
          exact ih _ _ _ _ _ hf _ _ _ _ _ hs (lv_sub hl [1, 2, 0] rfl)
        · have hf := ifn q32 hf
          refine lv_aload_n hx hb d_M_tick_66 rfl (lv_at hl 0 rfl) ?_
          refine lv_iload_n hx hb d_M_tick_67 rfl (lv_at hl 2 rfl) ?_
          obtain ⟨_, ho, hf⟩ := bd hf
          refine k_V C hs hex hf (fun res e1 => iv_V (b := x0) (As := [.int x3]) (rest := []) C hs cv_M_90 (c_M_abort hl0 e1) (ci := 6) rfl rfl ho rfl hl.1 rfl (Nat.le_of_ble_eq_true rfl) d_M_tick_68 ⟨Nat.le_of_ble_eq_true rfl, Nat.le_of_ble_eq_true rfl⟩) (fun h33 z34 H locs cells slots hf hs => ?_)
          refine lv_iinc (v := x2 + 1) (lv' := [(2, .int (x2 + 1)), (0, .ref x0), (3, .int x3)]) hx hb d_M_tick_71 hl (k := 1) rfl rfl (by decide) rfl (fun ls hl => ?_)
          refine lv_iinc (v := x3 + 1) (lv' := [(3, .int (x3 + 1)), (2, .int (x2 + 1)), (0, .ref x0)]) hx hb d_M_tick_74 hl (k := 2) rfl rfl (by decide) rfl (fun ls hl => ?_)
          refine lv_goto (tgt := 35) hx hb d_M_tick_77 (by decide) ?_
          exact ih _ _ _ _ _ hf _ _ _ _ _ hs (lv_sub hl [2, 1, 0] rfl)
def f_M_tick (bs : Nat) (sE : Nat × Nat) (h : HH) (z : Z3) (x0 : Nat) (x1 : Int32) : Option RS :=
  (pV bs h x0 6 0 (.inl 0)).bind fun h1 =>
  (oK h1 x0 6).bind fun _ =>
  cI (f_M_out bs sE h1 z x0 x1 31) fun v4 h2 z3 =>
  if v4 = 0 then
    ((gI h2 x0 6 22).bind fun v6 =>
    (pV bs h2 x0 6 22 (.inl (v6 + x1))).bind fun h7 =>
    f_M_tick_L35 bs sE FU h7 z3 x0 0 0)
  else
    ((oK h2 x0 6).bind fun _ =>
    cI (f_M_fail bs sE h2 z3 x0 1) fun v38 h36 z37 =>
    some (.inl (some (.int v38)), h36, z37))
set_option maxHeartbeats 4000000 in
set_option maxRecDepth 100000 in
theorem c_M_tick {G : EN} {l : Launch} (hl0 : l.stackTraces = false) {h : HH} {z : Z3} {x0 : Nat} {x1 : Int32} {r : RS} (hf : f_M_tick G.2.2.1 G.2.2.2 h z x0 x1 = some r) : CM G l y_M_tick (.code y_M_tick b_M_tick 6 (some .int)) 3 75 [.ref x0, .int x1] h z r := by
  refine CM.ofW hl0 rfl ?_
  intro p e s m below meth c C hr hex hin hs
  have hx := C.1
  have hb := C.2.1
  refine x_entry (n := 6) (Nat.le_of_ble_eq_true rfl) (fun ls hl => ?_)
  have hl : lv_has ls 6 [(0, .ref x0), (1, .int x1)] := hl
  unfold f_M_tick at hf
  refine lv_aload_n hx hb d_M_tick_0 rfl (lv_at hl 0 rfl) ?_
  refine lv_iconst (v := 0) hx hb d_M_tick_1 (by decide) ?_
  refine r_putV (v := (.inl 0)) C hs flp_M_71 rfl rfl d_M_tick_2 hf (fun h1 H locs hf hs => ?_)
  refine lv_aload_n hx hb d_M_tick_5 rfl (lv_at hl 0 rfl) ?_
  refine lv_iload_n hx hb d_M_tick_6 rfl (lv_at hl 1 rfl) ?_
  refine lv_bipush (v := 31) hx hb d_M_tick_7 (by decide) ?_
  obtain ⟨_, ho, hf⟩ := bd hf
  refine k_I C hs hex hf (fun res e1 => iv_V (b := x0) (As := [.int x1, .int 31]) (rest := []) C hs cv_M_83 (c_M_out hl0 e1) (ci := 6) rfl rfl ho rfl hl.1 rfl (Nat.le_of_ble_eq_true rfl) d_M_tick_9 ⟨Nat.le_of_ble_eq_true rfl, Nat.le_of_ble_eq_true rfl⟩) (fun v4 h2 z3 H locs cells slots hf hs => ?_)
  refine lv_if_eq (tgt := 21) hx hb d_M_tick_12 (by decide) (fun q5 => ?_) (fun q5 => ?_)
  · have hf := ifp q5 hf
    refine lv_aload_n hx hb d_M_tick_21 rfl (lv_at hl 0 rfl) ?_
    refine lv_dup hx hb d_M_tick_22 rfl ?_
    refine r_getI C hs fl_M_101 d_M_tick_23 hf (fun v6 hf => ?_)
    refine lv_iload_n hx hb d_M_tick_26 rfl (lv_at hl 1 rfl) ?_
    refine lv_iadd hx hb d_M_tick_27 ?_
    refine r_putV (v := (.inl (v6 + x1))) C hs flp_M_101 rfl rfl d_M_tick_28 hf (fun h7 H locs hf hs => ?_)
    refine lv_iconst (v := 0) hx hb d_M_tick_31 (by decide) ?_
    refine lv_istore_n (lv' := [(2, .int 0), (0, .ref x0), (1, .int x1)]) hx hb d_M_tick_32 rfl hl (by decide) rfl (fun ls hl => ?_)
    refine lv_iconst (v := 0) hx hb d_M_tick_33 (by decide) ?_
    refine lv_istore_n (lv' := [(3, .int 0), (2, .int 0), (0, .ref x0), (1, .int x1)]) hx hb d_M_tick_34 rfl hl (by decide) rfl (fun ls hl => ?_)
    exact t_M_tick_L35 hl0 C hr hex FU _ _ _ _ _ hf _ _ _ _ _ hs (lv_sub hl [2, 1, 0] rfl)
  · have hf := ifn q5 hf
    refine lv_aload_n hx hb d_M_tick_15 rfl (lv_at hl 0 rfl) ?_
    refine lv_iconst (v := 1) hx hb d_M_tick_16 (by decide) ?_
    obtain ⟨_, ho, hf⟩ := bd hf
    refine k_I C hs hex hf (fun res e1 => iv_V (b := x0) (As := [.int 1]) (rest := []) C hs cv_M_86 (c_M_fail hl0 e1) (ci := 6) rfl rfl ho rfl hl.1 rfl (Nat.le_of_ble_eq_true rfl) d_M_tick_17 ⟨Nat.le_of_ble_eq_true rfl, Nat.le_of_ble_eq_true rfl⟩) (fun v38 h36 z37 H locs cells slots hf hs => ?_)
    exact r_ireturn C hs hr d_M_tick_20 hf
def f_M_edge (bs : Nat) (sE : Nat × Nat) (h : HH) (z : Z3) (x0 : Nat) (x1 : Int32) (x2 : Int32) : Option RS :=
  (pV bs h x0 6 0 (.inl 0)).bind fun h1 =>
  (oK h1 x0 6).bind fun _ =>
  cI (f_M_out bs sE h1 z x0 x1 4) fun v4 h2 z3 =>
  if v4 = 0 then
    ((oK h2 x0 6).bind fun _ =>
    cI (f_M_out bs sE h2 z3 x0 x2 6) fun v11 h9 z10 =>
    if v11 = 0 then
      (if x2 = 0 then
        ((gR h9 x0 6 8).bind fun v14 =>
        (aI h9 v14 0 x1).bind fun v15 =>
        some (.inl (some (.int v15)), h9, z10))
      else
      if x2 = 1 then
        ((oK h9 x0 6).bind fun _ =>
        cI (f_M_stable bs sE h9 z10 x0 x1) fun v19 h17 z18 =>
        some (.inl (some (.int v19)), h17, z18))
      else
      if x2 = 2 then
        ((gR h9 x0 6 9).bind fun v21 =>
        (aI h9 v21 0 x1).bind fun v22 =>
        some (.inl (some (.int v22)), h9, z10))
      else
      if x2 = 3 then
        ((gR h9 x0 6 7).bind fun v24 =>
        (aI h9 v24 0 x1).bind fun v25 =>
        some (.inl (some (.int v25)), h9, z10))
      else
      ((gR h9 x0 6 21).bind fun v26 =>
      (aI h9 v26 0 ((4 * (x2 - 4)) + x1)).bind fun v27 =>
      some (.inl (some (.int v27)), h9, z10)))
    else
      ((oK h9 x0 6).bind fun _ =>
      cI (f_M_fail bs sE h9 z10 x0 1) fun v30 h28 z29 =>
      some (.inl (some (.int v30)), h28, z29)))
  else
    ((oK h2 x0 6).bind fun _ =>
    cI (f_M_fail bs sE h2 z3 x0 1) fun v8 h6 z7 =>
    some (.inl (some (.int v8)), h6, z7))
set_option maxHeartbeats 4000000 in
set_option maxRecDepth 100000 in
theorem c_M_edge {G : EN} {l : Launch} (hl0 : l.stackTraces = false) {h : HH} {z : Z3} {x0 : Nat} {x1 : Int32} {x2 : Int32} {r : RS} (hf : f_M_edge G.2.2.1 G.2.2.2 h z x0 x1 x2 = some r) : CM G l y_M_edge (.code y_M_edge b_M_edge 3 (some .int)) 2 48 [.ref x0, .int x1, .int x2] h z r := by
  refine CM.ofW hl0 rfl ?_
  intro p e s m below meth c C hr hex hin hs
  have hx := C.1
  have hb := C.2.1
  refine x_entry (n := 3) (Nat.le_of_ble_eq_true rfl) (fun ls hl => ?_)
  have hl : lv_has ls 3 [(0, .ref x0), (1, .int x1), (2, .int x2)] := hl
  unfold f_M_edge at hf
  refine lv_aload_n hx hb d_M_edge_0 rfl (lv_at hl 0 rfl) ?_
  refine lv_iconst (v := 0) hx hb d_M_edge_1 (by decide) ?_
  refine r_putV (v := (.inl 0)) C hs flp_M_71 rfl rfl d_M_edge_2 hf (fun h1 H locs hf hs => ?_)
  refine lv_aload_n hx hb d_M_edge_5 rfl (lv_at hl 0 rfl) ?_
  refine lv_iload_n hx hb d_M_edge_6 rfl (lv_at hl 1 rfl) ?_
  refine lv_iconst (v := 4) hx hb d_M_edge_7 (by decide) ?_
  obtain ⟨_, ho, hf⟩ := bd hf
  refine k_I C hs hex hf (fun res e1 => iv_V (b := x0) (As := [.int x1, .int 4]) (rest := []) C hs cv_M_83 (c_M_out hl0 e1) (ci := 6) rfl rfl ho rfl hl.1 rfl (Nat.le_of_ble_eq_true rfl) d_M_edge_8 ⟨Nat.le_of_ble_eq_true rfl, Nat.le_of_ble_eq_true rfl⟩) (fun v4 h2 z3 H locs cells slots hf hs => ?_)
  refine lv_if_ne (tgt := 24) hx hb d_M_edge_11 (by decide) (fun q5 => ?_) (fun q5 => ?_)
  · have hf := ifn q5 hf
    refine lv_aload_n hx hb d_M_edge_24 rfl (lv_at hl 0 rfl) ?_
    refine lv_iconst (v := 1) hx hb d_M_edge_25 (by decide) ?_
    obtain ⟨_, ho, hf⟩ := bd hf
    refine k_I C hs hex hf (fun res e1 => iv_V (b := x0) (As := [.int 1]) (rest := []) C hs cv_M_86 (c_M_fail hl0 e1) (ci := 6) rfl rfl ho rfl hl.1 rfl (Nat.le_of_ble_eq_true rfl) d_M_edge_26 ⟨Nat.le_of_ble_eq_true rfl, Nat.le_of_ble_eq_true rfl⟩) (fun v8 h6 z7 H locs cells slots hf hs => ?_)
    exact r_ireturn C hs hr d_M_edge_29 hf
  · have hf := ifp q5 hf
    refine lv_aload_n hx hb d_M_edge_14 rfl (lv_at hl 0 rfl) ?_
    refine lv_iload_n hx hb d_M_edge_15 rfl (lv_at hl 2 rfl) ?_
    refine lv_bipush (v := 6) hx hb d_M_edge_16 (by decide) ?_
    obtain ⟨_, ho, hf⟩ := bd hf
    refine k_I C hs hex hf (fun res e1 => iv_V (b := x0) (As := [.int x2, .int 6]) (rest := []) C hs cv_M_83 (c_M_out hl0 e1) (ci := 6) rfl rfl ho rfl hl.1 rfl (Nat.le_of_ble_eq_true rfl) d_M_edge_18 ⟨Nat.le_of_ble_eq_true rfl, Nat.le_of_ble_eq_true rfl⟩) (fun v11 h9 z10 H locs cells slots hf hs => ?_)
    refine lv_if_eq (tgt := 30) hx hb d_M_edge_21 (by decide) (fun q12 => ?_) (fun q12 => ?_)
    · have hf := ifp q12 hf
      refine lv_iload_n hx hb d_M_edge_30 rfl (lv_at hl 2 rfl) ?_
      by_cases q13 : x2 = 0
      · have hf := ifp q13 hf
        refine lv_tableIn (tgt := 60) (off := 29) hx hb d_M_edge_31 (by rw [q13]; decide) (by rw [q13]; decide) (by rw [q13]; rfl) (by decide) ?_
        refine lv_aload_n hx hb d_M_edge_60 rfl (lv_at hl 0 rfl) ?_
        refine r_getR C hs fl_M_31 d_M_edge_61 hf (fun v14 hf => ?_)
        refine lv_iload_n hx hb d_M_edge_64 rfl (lv_at hl 1 rfl) ?_
        refine r_iald C hs d_M_edge_65 hf (fun v15 hf => ?_)
        exact r_ireturn C hs hr d_M_edge_66 hf
      have hf := ifn q13 hf
      by_cases q16 : x2 = 1
      · have hf := ifp q16 hf
        refine lv_tableIn (tgt := 67) (off := 36) hx hb d_M_edge_31 (by rw [q16]; decide) (by rw [q16]; decide) (by rw [q16]; rfl) (by decide) ?_
        refine lv_aload_n hx hb d_M_edge_67 rfl (lv_at hl 0 rfl) ?_
        refine lv_iload_n hx hb d_M_edge_68 rfl (lv_at hl 1 rfl) ?_
        obtain ⟨_, ho, hf⟩ := bd hf
        refine k_I C hs hex hf (fun res e1 => iv_V (b := x0) (As := [.int x1]) (rest := []) C hs cv_M_125 (c_M_stable hl0 e1) (ci := 6) rfl rfl ho rfl hl.1 rfl (Nat.le_of_ble_eq_true rfl) d_M_edge_69 ⟨Nat.le_of_ble_eq_true rfl, Nat.le_of_ble_eq_true rfl⟩) (fun v19 h17 z18 H locs cells slots hf hs => ?_)
        exact r_ireturn C hs hr d_M_edge_72 hf
      have hf := ifn q16 hf
      by_cases q20 : x2 = 2
      · have hf := ifp q20 hf
        refine lv_tableIn (tgt := 73) (off := 42) hx hb d_M_edge_31 (by rw [q20]; decide) (by rw [q20]; decide) (by rw [q20]; rfl) (by decide) ?_
        refine lv_aload_n hx hb d_M_edge_73 rfl (lv_at hl 0 rfl) ?_
        refine r_getR C hs fl_M_34 d_M_edge_74 hf (fun v21 hf => ?_)
        refine lv_iload_n hx hb d_M_edge_77 rfl (lv_at hl 1 rfl) ?_
        refine r_iald C hs d_M_edge_78 hf (fun v22 hf => ?_)
        exact r_ireturn C hs hr d_M_edge_79 hf
      have hf := ifn q20 hf
      by_cases q23 : x2 = 3
      · have hf := ifp q23 hf
        refine lv_tableIn (tgt := 80) (off := 49) hx hb d_M_edge_31 (by rw [q23]; decide) (by rw [q23]; decide) (by rw [q23]; rfl) (by decide) ?_
        refine lv_aload_n hx hb d_M_edge_80 rfl (lv_at hl 0 rfl) ?_
        refine r_getR C hs fl_M_28 d_M_edge_81 hf (fun v24 hf => ?_)
        refine lv_iload_n hx hb d_M_edge_84 rfl (lv_at hl 1 rfl) ?_
        refine r_iald C hs d_M_edge_85 hf (fun v25 hf => ?_)
        exact r_ireturn C hs hr d_M_edge_86 hf
      have hf := ifn q23 hf
      refine lv_tableOut (tgt := 87) hx hb d_M_edge_31 (tab_out4 q13 q16 q20 q23) (by decide) ?_
      refine lv_aload_n hx hb d_M_edge_87 rfl (lv_at hl 0 rfl) ?_
      refine r_getR C hs fl_M_68 d_M_edge_88 hf (fun v26 hf => ?_)
      refine lv_iconst (v := 4) hx hb d_M_edge_91 (by decide) ?_
      refine lv_iload_n hx hb d_M_edge_92 rfl (lv_at hl 2 rfl) ?_
      refine lv_iconst (v := 4) hx hb d_M_edge_93 (by decide) ?_
      refine lv_isub hx hb d_M_edge_94 ?_
      refine lv_imul hx hb d_M_edge_95 ?_
      refine lv_iload_n hx hb d_M_edge_96 rfl (lv_at hl 1 rfl) ?_
      refine lv_iadd hx hb d_M_edge_97 ?_
      refine r_iald C hs d_M_edge_98 hf (fun v27 hf => ?_)
      exact r_ireturn C hs hr d_M_edge_99 hf
    · have hf := ifn q12 hf
      refine lv_aload_n hx hb d_M_edge_24 rfl (lv_at hl 0 rfl) ?_
      refine lv_iconst (v := 1) hx hb d_M_edge_25 (by decide) ?_
      obtain ⟨_, ho, hf⟩ := bd hf
      refine k_I C hs hex hf (fun res e1 => iv_V (b := x0) (As := [.int 1]) (rest := []) C hs cv_M_86 (c_M_fail hl0 e1) (ci := 6) rfl rfl ho rfl hl.1 rfl (Nat.le_of_ble_eq_true rfl) d_M_edge_26 ⟨Nat.le_of_ble_eq_true rfl, Nat.le_of_ble_eq_true rfl⟩) (fun v30 h28 z29 H locs cells slots hf hs => ?_)
      exact r_ireturn C hs hr d_M_edge_29 hf
def f_M_fact_B43 (bs : Nat) (sE : Nat × Nat) (h : HH) (z : Z3) (x0 : Nat) (x1 : Int32) (x2 : Int32) : Option RS :=
  if x2 = 0 then
    ((gR h x0 6 10).bind fun v15 =>
    (aI h v15 0 x1).bind fun v16 =>
    some (.inl (some (.int v16)), h, z))
  else
    (some (.inl (some (.int (-1))), h, z))
set_option maxHeartbeats 4000000 in
set_option maxRecDepth 100000 in
theorem t_M_fact_B43 {G : EN} {p : Program} {l : Launch} {e : Env} {s : State} {m : MethodId} {args : Array Value} {below : List Frame} {meth : Method} {c : Code} {z0 : Z3} (hl0 : l.stackTraces = false) (C : CX G p l s m meth c b_M_fact 3 y_M_fact.cls) (hr : meth.sig.returnType = (some .int)) (hex : c.exceptionTable.toList = []) {r : RS} :
    ∀ (h : HH) (z : Z3) (x0 : Nat) (x1 : Int32) (x2 : Int32), f_M_fact_B43 G.2.2.1 G.2.2.2 h z x0 x1 x2 = some r → ∀ (H : Heap) (locs : List Loc) (cells slots : Nat) (ls : Array Slot), ST G (RM 2 46 z0) s h z H locs cells slots → lv_has ls 3 [(0, .ref x0), (1, .int x1), (2, .int x2)] → W p l e (RM 2 46 z0) s m args below meth c H locs cells slots (MX G below s r (RM 2 46 z0).cells (RM 2 46 z0).slots) (F0 m 43 ls []) := by
  have hx := C.1
  have hb := C.2.1
  intro h z x0 x1 x2 hf H locs cells slots ls hs hl
  unfold f_M_fact_B43 at hf
  refine lv_iload_n hx hb d_M_fact_43 rfl (lv_at hl 2 rfl) ?_
  refine lv_if_ne (tgt := 56) hx hb d_M_fact_44 (by decide) (fun q14 => ?_) (fun q14 => ?_)
  · have hf := ifn q14 hf
    refine lv_iconst (v := (-1)) hx hb d_M_fact_56 (by decide) ?_
    exact r_ireturn C hs hr d_M_fact_57 hf
  · have hf := ifp q14 hf
    refine lv_aload_n hx hb d_M_fact_47 rfl (lv_at hl 0 rfl) ?_
    refine r_getR C hs fl_M_37 d_M_fact_48 hf (fun v15 hf => ?_)
    refine lv_iload_n hx hb d_M_fact_51 rfl (lv_at hl 1 rfl) ?_
    refine r_iald C hs d_M_fact_52 hf (fun v16 hf => ?_)
    refine lv_goto (tgt := 57) hx hb d_M_fact_53 (by decide) ?_
    exact r_ireturn C hs hr d_M_fact_57 hf
def f_M_fact (bs : Nat) (sE : Nat × Nat) (h : HH) (z : Z3) (x0 : Nat) (x1 : Int32) (x2 : Int32) : Option RS :=
  (pV bs h x0 6 0 (.inl 0)).bind fun h1 =>
  (oK h1 x0 6).bind fun _ =>
  cI (f_M_out bs sE h1 z x0 x1 4) fun v4 h2 z3 =>
  if v4 = 0 then
    ((oK h2 x0 6).bind fun _ =>
    cI (f_M_out bs sE h2 z3 x0 x2 8) fun v11 h9 z10 =>
    if v11 = 0 then
      (if x2 = 0 then
        (f_M_fact_B43 bs sE h9 z10 x0 x1 x2)
      else
        ((gR h9 x0 6 10).bind fun v17 =>
        (aI h9 v17 0 x1).bind fun v18 =>
        if 0 ≤ v18 then
          (if x2 = 1 then
            ((gR h9 x0 6 11).bind fun v33 =>
            (aI h9 v33 0 x1).bind fun v34 =>
            some (.inl (some (.int v34)), h9, z10))
          else
            (if 4 ≤ x2 then
              ((oK h9 x0 6).bind fun _ =>
              cI (f_M_next bs sE h9 z10 x0 x1 (x2 - 4)) fun v24 h22 z23 =>
              some (.inl (some (.int v24)), h22, z23))
            else
              ((gR h9 x0 6 10).bind fun v25 =>
              (aI h9 v25 0 x1).bind fun v26 =>
              if v26 = 0 then
                (some (.inl (some (.int 0)), h9, z10))
              else
                (if x2 = 2 then
                  ((gR h9 x0 6 12).bind fun v31 =>
                  (aI h9 v31 0 x1).bind fun v32 =>
                  some (.inl (some (.int v32)), h9, z10))
                else
                  ((gR h9 x0 6 13).bind fun v29 =>
                  (aI h9 v29 0 x1).bind fun v30 =>
                  some (.inl (some (.int v30)), h9, z10))))))
        else
          (f_M_fact_B43 bs sE h9 z10 x0 x1 x2)))
    else
      ((oK h9 x0 6).bind fun _ =>
      cI (f_M_fail bs sE h9 z10 x0 1) fun v37 h35 z36 =>
      some (.inl (some (.int v37)), h35, z36)))
  else
    ((oK h2 x0 6).bind fun _ =>
    cI (f_M_fail bs sE h2 z3 x0 1) fun v8 h6 z7 =>
    some (.inl (some (.int v8)), h6, z7))
set_option maxHeartbeats 4000000 in
set_option maxRecDepth 100000 in
theorem c_M_fact {G : EN} {l : Launch} (hl0 : l.stackTraces = false) {h : HH} {z : Z3} {x0 : Nat} {x1 : Int32} {x2 : Int32} {r : RS} (hf : f_M_fact G.2.2.1 G.2.2.2 h z x0 x1 x2 = some r) : CM G l y_M_fact (.code y_M_fact b_M_fact 3 (some .int)) 2 46 [.ref x0, .int x1, .int x2] h z r := by
  refine CM.ofW hl0 rfl ?_
  intro p e s m below meth c C hr hex hin hs
  have hx := C.1
  have hb := C.2.1
  refine x_entry (n := 3) (Nat.le_of_ble_eq_true rfl) (fun ls hl => ?_)
  have hl : lv_has ls 3 [(0, .ref x0), (1, .int x1), (2, .int x2)] := hl
  unfold f_M_fact at hf
  refine lv_aload_n hx hb d_M_fact_0 rfl (lv_at hl 0 rfl) ?_
  refine lv_iconst (v := 0) hx hb d_M_fact_1 (by decide) ?_
  refine r_putV (v := (.inl 0)) C hs flp_M_71 rfl rfl d_M_fact_2 hf (fun h1 H locs hf hs => ?_)
  refine lv_aload_n hx hb d_M_fact_5 rfl (lv_at hl 0 rfl) ?_
  refine lv_iload_n hx hb d_M_fact_6 rfl (lv_at hl 1 rfl) ?_
  refine lv_iconst (v := 4) hx hb d_M_fact_7 (by decide) ?_
  obtain ⟨_, ho, hf⟩ := bd hf
  refine k_I C hs hex hf (fun res e1 => iv_V (b := x0) (As := [.int x1, .int 4]) (rest := []) C hs cv_M_83 (c_M_out hl0 e1) (ci := 6) rfl rfl ho rfl hl.1 rfl (Nat.le_of_ble_eq_true rfl) d_M_fact_8 ⟨Nat.le_of_ble_eq_true rfl, Nat.le_of_ble_eq_true rfl⟩) (fun v4 h2 z3 H locs cells slots hf hs => ?_)
  refine lv_if_ne (tgt := 24) hx hb d_M_fact_11 (by decide) (fun q5 => ?_) (fun q5 => ?_)
  · have hf := ifn q5 hf
    refine lv_aload_n hx hb d_M_fact_24 rfl (lv_at hl 0 rfl) ?_
    refine lv_iconst (v := 1) hx hb d_M_fact_25 (by decide) ?_
    obtain ⟨_, ho, hf⟩ := bd hf
    refine k_I C hs hex hf (fun res e1 => iv_V (b := x0) (As := [.int 1]) (rest := []) C hs cv_M_86 (c_M_fail hl0 e1) (ci := 6) rfl rfl ho rfl hl.1 rfl (Nat.le_of_ble_eq_true rfl) d_M_fact_26 ⟨Nat.le_of_ble_eq_true rfl, Nat.le_of_ble_eq_true rfl⟩) (fun v8 h6 z7 H locs cells slots hf hs => ?_)
    exact r_ireturn C hs hr d_M_fact_29 hf
  · have hf := ifp q5 hf
    refine lv_aload_n hx hb d_M_fact_14 rfl (lv_at hl 0 rfl) ?_
    refine lv_iload_n hx hb d_M_fact_15 rfl (lv_at hl 2 rfl) ?_
    refine lv_bipush (v := 8) hx hb d_M_fact_16 (by decide) ?_
    obtain ⟨_, ho, hf⟩ := bd hf
    refine k_I C hs hex hf (fun res e1 => iv_V (b := x0) (As := [.int x2, .int 8]) (rest := []) C hs cv_M_83 (c_M_out hl0 e1) (ci := 6) rfl rfl ho rfl hl.1 rfl (Nat.le_of_ble_eq_true rfl) d_M_fact_18 ⟨Nat.le_of_ble_eq_true rfl, Nat.le_of_ble_eq_true rfl⟩) (fun v11 h9 z10 H locs cells slots hf hs => ?_)
    refine lv_if_eq (tgt := 30) hx hb d_M_fact_21 (by decide) (fun q12 => ?_) (fun q12 => ?_)
    · have hf := ifp q12 hf
      refine lv_iload_n hx hb d_M_fact_30 rfl (lv_at hl 2 rfl) ?_
      refine lv_if_eq (tgt := 43) hx hb d_M_fact_31 (by decide) (fun q13 => ?_) (fun q13 => ?_)
      · have hf := ifp q13 hf
        exact t_M_fact_B43 hl0 C hr hex _ _ _ _ _ hf _ _ _ _ _ hs (lv_sub hl [0, 1, 2] rfl)
      · have hf := ifn q13 hf
        refine lv_aload_n hx hb d_M_fact_34 rfl (lv_at hl 0 rfl) ?_
        refine r_getR C hs fl_M_37 d_M_fact_35 hf (fun v17 hf => ?_)
        refine lv_iload_n hx hb d_M_fact_38 rfl (lv_at hl 1 rfl) ?_
        refine r_iald C hs d_M_fact_39 hf (fun v18 hf => ?_)
        refine lv_if_ge (tgt := 58) hx hb d_M_fact_40 (by decide) (fun q19 => ?_) (fun q19 => ?_)
        · have hf := ifp q19 hf
          refine lv_iload_n hx hb d_M_fact_58 rfl (lv_at hl 2 rfl) ?_
          refine lv_iconst (v := 1) hx hb d_M_fact_59 (by decide) ?_
          refine lv_icmp_ne (tgt := 70) hx hb d_M_fact_60 (by decide) (fun q20 => ?_) (fun q20 => ?_)
          · have hf := ifn q20 hf
            refine lv_iload_n hx hb d_M_fact_70 rfl (lv_at hl 2 rfl) ?_
            refine lv_iconst (v := 4) hx hb d_M_fact_71 (by decide) ?_
            refine lv_icmp_ge (tgt := 109) hx hb d_M_fact_72 (by decide) (fun q21 => ?_) (fun q21 => ?_)
            · have hf := ifp q21 hf
              refine lv_aload_n hx hb d_M_fact_109 rfl (lv_at hl 0 rfl) ?_
              refine lv_iload_n hx hb d_M_fact_110 rfl (lv_at hl 1 rfl) ?_
              refine lv_iload_n hx hb d_M_fact_111 rfl (lv_at hl 2 rfl) ?_
              refine lv_iconst (v := 4) hx hb d_M_fact_112 (by decide) ?_
              refine lv_isub hx hb d_M_fact_113 ?_
              obtain ⟨_, ho, hf⟩ := bd hf
              refine k_I C hs hex hf (fun res e1 => iv_V (b := x0) (As := [.int x1, .int (x2 - 4)]) (rest := []) C hs cv_M_107 (c_M_next hl0 e1) (ci := 6) rfl rfl ho rfl hl.1 rfl (Nat.le_of_ble_eq_true rfl) d_M_fact_114 ⟨Nat.le_of_ble_eq_true rfl, Nat.le_of_ble_eq_true rfl⟩) (fun v24 h22 z23 H locs cells slots hf hs => ?_)
              exact r_ireturn C hs hr d_M_fact_117 hf
            · have hf := ifn q21 hf
              refine lv_aload_n hx hb d_M_fact_75 rfl (lv_at hl 0 rfl) ?_
              refine r_getR C hs fl_M_37 d_M_fact_76 hf (fun v25 hf => ?_)
              refine lv_iload_n hx hb d_M_fact_79 rfl (lv_at hl 1 rfl) ?_
              refine r_iald C hs d_M_fact_80 hf (fun v26 hf => ?_)
              refine lv_if_ne (tgt := 88) hx hb d_M_fact_81 (by decide) (fun q27 => ?_) (fun q27 => ?_)
              · have hf := ifn q27 hf
                refine lv_iload_n hx hb d_M_fact_88 rfl (lv_at hl 2 rfl) ?_
                refine lv_iconst (v := 2) hx hb d_M_fact_89 (by decide) ?_
                refine lv_icmp_ne (tgt := 102) hx hb d_M_fact_90 (by decide) (fun q28 => ?_) (fun q28 => ?_)
                · have hf := ifn q28 hf
                  refine lv_aload_n hx hb d_M_fact_102 rfl (lv_at hl 0 rfl) ?_
                  refine r_getR C hs fl_M_46 d_M_fact_103 hf (fun v29 hf => ?_)
                  refine lv_iload_n hx hb d_M_fact_106 rfl (lv_at hl 1 rfl) ?_
                  refine r_iald C hs d_M_fact_107 hf (fun v30 hf => ?_)
                  exact r_ireturn C hs hr d_M_fact_108 hf
                · have hf := ifp q28 hf
                  refine lv_aload_n hx hb d_M_fact_93 rfl (lv_at hl 0 rfl) ?_
                  refine r_getR C hs fl_M_43 d_M_fact_94 hf (fun v31 hf => ?_)
                  refine lv_iload_n hx hb d_M_fact_97 rfl (lv_at hl 1 rfl) ?_
                  refine r_iald C hs d_M_fact_98 hf (fun v32 hf => ?_)
                  refine lv_goto (tgt := 108) hx hb d_M_fact_99 (by decide) ?_
                  exact r_ireturn C hs hr d_M_fact_108 hf
              · have hf := ifp q27 hf
                refine lv_iconst (v := 0) hx hb d_M_fact_84 (by decide) ?_
                refine lv_goto (tgt := 108) hx hb d_M_fact_85 (by decide) ?_
                exact r_ireturn C hs hr d_M_fact_108 hf
          · have hf := ifp q20 hf
            refine lv_aload_n hx hb d_M_fact_63 rfl (lv_at hl 0 rfl) ?_
            refine r_getR C hs fl_M_40 d_M_fact_64 hf (fun v33 hf => ?_)
            refine lv_iload_n hx hb d_M_fact_67 rfl (lv_at hl 1 rfl) ?_
            refine r_iald C hs d_M_fact_68 hf (fun v34 hf => ?_)
            exact r_ireturn C hs hr d_M_fact_69 hf
        · have hf := ifn q19 hf
          exact t_M_fact_B43 hl0 C hr hex _ _ _ _ _ hf _ _ _ _ _ hs (lv_sub hl [0, 1, 2] rfl)
    · have hf := ifn q12 hf
      refine lv_aload_n hx hb d_M_fact_24 rfl (lv_at hl 0 rfl) ?_
      refine lv_iconst (v := 1) hx hb d_M_fact_25 (by decide) ?_
      obtain ⟨_, ho, hf⟩ := bd hf
      refine k_I C hs hex hf (fun res e1 => iv_V (b := x0) (As := [.int 1]) (rest := []) C hs cv_M_86 (c_M_fail hl0 e1) (ci := 6) rfl rfl ho rfl hl.1 rfl (Nat.le_of_ble_eq_true rfl) d_M_fact_26 ⟨Nat.le_of_ble_eq_true rfl, Nat.le_of_ble_eq_true rfl⟩) (fun v37 h35 z36 H locs cells slots hf hs => ?_)
      exact r_ireturn C hs hr d_M_fact_29 hf
