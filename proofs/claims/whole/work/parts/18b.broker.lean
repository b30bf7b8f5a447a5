def fb_B_ctor_L98 (bs : Nat) (sE : Nat × Nat) (REC : HH → Z3 → Nat → Int32 → Option RS) (h : HH) (z : Z3) (x0 : Nat) (x1 : Int32) : Option RS :=
  if 2 ≤ x1 then
    (some (.inl none, h, z))
  else
    ((gR h x0 4 2).bind fun v16 =>
    (nO z 5).bind fun _ =>
    (some (va_up h z.1 (some (.inl (1, dfl 1))))).bind fun h17 =>
    (some (nZ z 5)).bind fun z18 =>
    cV (f_G_ctor bs sE h17 z18 z.1) fun h19 z20 =>
    (oK h19 z.1 1).bind fun _ =>
    (aQs bs h19 v16 6 x1 (some z.1)).bind fun h22 =>
    REC h22 z20 x0 (x1 + 1))
def f_B_ctor_L98 (bs : Nat) (sE : Nat × Nat) : Nat → HH → Z3 → Nat → Int32 → Option RS
  | 0 => fun _ _ _ _ => none
  | n + 1 => fb_B_ctor_L98 bs sE (f_B_ctor_L98 bs sE n)
set_option maxHeartbeats 4000000 in
set_option maxRecDepth 100000 in
theorem t_B_ctor_L98 {G : EN} {p : Program} {l : Launch} {e : Env} {s : State} {m : MethodId} {args : Array Value} {below : List Frame} {meth : Method} {c : Code} {z0 : Z3} (hl0 : l.stackTraces = false) (C : CX G p l s m meth c b_B_ctor 2 y_B_ctor.cls) (hr : meth.sig.returnType = none) (hex : c.exceptionTable.toList = []) {r : RS} :
    ∀ (n : Nat) (h : HH) (z : Z3) (x0 : Nat) (x1 : Int32), f_B_ctor_L98 G.2.2.1 G.2.2.2 n h z x0 x1 = some r → ∀ (H : Heap) (locs : List Loc) (cells slots : Nat) (ls : Array Slot), ST G (RM 5 100 z0) s h z H locs cells slots → lv_has ls 2 [(0, .ref x0), (1, .int x1)] → W p l e (RM 5 100 z0) s m args below meth c H locs cells slots (MX G below s r (RM 5 100 z0).cells (RM 5 100 z0).slots) (F0 m 98 ls []) := by
  have hx := C.1
  have hb := C.2.1
  intro n
  induction n with
  | zero => intro h z x0 x1 hf; exact nomatch (show (none : Option RS) = some r from hf)
  | succ n ih =>
    intro h z x0 x1 hf H locs cells slots ls hs hl
    have hf : fb_B_ctor_L98 G.2.2.1 G.2.2.2 (f_B_ctor_L98 G.2.2.1 G.2.2.2 n) h z x0 x1 = some r := hf
    unfold fb_B_ctor_L98 at hf
    refine lv_iload_n hx hb d_B_ctor_98 rfl (lv_at hl 1 rfl) ?_
    refine lv_iconst (v := 2) hx hb d_B_ctor_99 (by decide) ?_
    refine lv_icmp_ge (tgt := 122) hx hb d_B_ctor_100 (by decide) (fun q15 => ?_) (fun q15 => ?_)
    · have hf := ifp q15 hf
      exact r_vreturn C hs hr d_B_ctor_122 hf
    · have hf := ifn q15 hf
      refine lv_aload_n hx hb d_B_ctor_103 rfl (lv_at hl 0 rfl) ?_
      refine r_getR C hs fl_B_23 d_B_ctor_104 hf (fun v16 hf => ?_)
      refine lv_iload_n hx hb d_B_ctor_107 rfl (lv_at hl 1 rfl) ?_
      refine r_new (ci := 1) C hs rfl (tm (i := 37) (by decide +kernel)) (tm (i := 126) (by decide +kernel)) (tm (i := 8) (by decide +kernel)) d_B_ctor_108 hf (fun H hf hs => ?_)
      obtain ⟨h17, eh17, hf⟩ := bd hf
      obtain ⟨z18, ez18, hf⟩ := bd hf
      rw [Option.some.inj eh17, Option.some.inj ez18] at hs
      refine lv_dup hx hb d_B_ctor_111 rfl ?_
      refine k_V C hs hex hf (fun res e1 => iv_I (b := z.1) (As := []) (rest := [.ref z.1, .int x1, .ref v16]) C hs ci_B_41 (c_G_ctor hl0 e1) rfl hl.1 rfl (Nat.le_of_ble_eq_true rfl) d_B_ctor_112 ⟨Nat.le_of_ble_eq_true rfl, Nat.le_of_ble_eq_true rfl⟩) (fun h19 z20 H locs cells slots hf hs => ?_)
      refine r_aast (kd := 6) (ci := 1) C hs rfl rfl (Or.inl rfl) d_B_ctor_115 hf (fun h22 H locs hf hs => ?_)
      refine lv_iinc (v := x1 + 1) (lv' := [(1, .int (x1 + 1)), (0, .ref x0)]) hx hb d_B_ctor_116 hl (k := 1) rfl rfl (by decide) rfl (fun ls hl => ?_)
      refine lv_goto (tgt := 98) hx hb d_B_ctor_119 (by decide) ?_
      exact ih _ _ _ _ hf _ _ _ _ _ hs (lv_sub hl [1, 0] rfl)
def fb_B_ctor_L71 (bs : Nat) (sE : Nat × Nat) (REC : HH → Z3 → Nat → Int32 → Option RS) (h : HH) (z : Z3) (x0 : Nat) (x1 : Int32) : Option RS :=
  if 4 ≤ x1 then
    (f_B_ctor_L98 bs sE FU h z x0 0)
  else
    ((gR h x0 4 1).bind fun v23 =>
    (nO z 7).bind fun _ =>
    (some (va_up h z.1 (some (.inl (3, dfl 3))))).bind fun h24 =>
    (some (nZ z 7)).bind fun z25 =>
    cV (f_P_ctor bs sE h24 z25 z.1 x1) fun h26 z27 =>
    (oK h26 z.1 3).bind fun _ =>
    (aQs bs h26 v23 5 x1 (some z.1)).bind fun h29 =>
    REC h29 z27 x0 (x1 + 1))
def f_B_ctor_L71 (bs : Nat) (sE : Nat × Nat) : Nat → HH → Z3 → Nat → Int32 → Option RS
  | 0 => fun _ _ _ _ => none
  | n + 1 => fb_B_ctor_L71 bs sE (f_B_ctor_L71 bs sE n)
set_option maxHeartbeats 4000000 in
set_option maxRecDepth 100000 in
theorem t_B_ctor_L71 {G : EN} {p : Program} {l : Launch} {e : Env} {s : State} {m : MethodId} {args : Array Value} {below : List Frame} {meth : Method} {c : Code} {z0 : Z3} (hl0 : l.stackTraces = false) (C : CX G p l s m meth c b_B_ctor 2 y_B_ctor.cls) (hr : meth.sig.returnType = none) (hex : c.exceptionTable.toList = []) {r : RS} :
    ∀ (n : Nat) (h : HH) (z : Z3) (x0 : Nat) (x1 : Int32), f_B_ctor_L71 G.2.2.1 G.2.2.2 n h z x0 x1 = some r → ∀ (H : Heap) (locs : List Loc) (cells slots : Nat) (ls : Array Slot), ST G (RM 5 100 z0) s h z H locs cells slots → lv_has ls 2 [(0, .ref x0), (1, .int x1)] → W p l e (RM 5 100 z0) s m args below meth c H locs cells slots (MX G below s r (RM 5 100 z0).cells (RM 5 100 z0).slots) (F0 m 71 ls []) := by
  have hx := C.1
  have hb := C.2.1
  intro n
  induction n with
  | zero => intro h z x0 x1 hf; exact nomatch (show (none : Option RS) = some r from hf)
  | succ n ih =>
    intro h z x0 x1 hf H locs cells slots ls hs hl
    have hf : fb_B_ctor_L71 G.2.2.1 G.2.2.2 (f_B_ctor_L71 G.2.2.1 G.2.2.2 n) h z x0 x1 = some r := hf
    unfold fb_B_ctor_L71 at hf
    refine lv_iload_n hx hb d_B_ctor_71 rfl (lv_at hl 1 rfl) ?_
    refine lv_iconst (v := 4) hx hb d_B_ctor_72 (by decide) ?_
    refine lv_icmp_ge (tgt := 96) hx hb d_B_ctor_73 (by decide) (fun q14 => ?_) (fun q14 => ?_)
    · have hf := ifp q14 hf
      refine lv_iconst (v := 0) hx hb d_B_ctor_96 (by decide) ?_
      refine lv_istore_n (lv' := [(1, .int 0), (0, .ref x0)]) hx hb d_B_ctor_97 rfl hl (by decide) rfl (fun ls hl => ?_)
      exact t_B_ctor_L98 hl0 C hr hex FU _ _ _ _ hf _ _ _ _ _ hs (lv_sub hl [1, 0] rfl)
    · have hf := ifn q14 hf
      refine lv_aload_n hx hb d_B_ctor_76 rfl (lv_at hl 0 rfl) ?_
      refine r_getR C hs fl_B_17 d_B_ctor_77 hf (fun v23 hf => ?_)
      refine lv_iload_n hx hb d_B_ctor_80 rfl (lv_at hl 1 rfl) ?_
      refine r_new (ci := 3) C hs rfl (tm (i := 35) (by decide +kernel)) (tm (i := 89) (by decide +kernel)) (tm (i := 7) (by decide +kernel)) d_B_ctor_81 hf (fun H hf hs => ?_)
      obtain ⟨h24, eh24, hf⟩ := bd hf
      obtain ⟨z25, ez25, hf⟩ := bd hf
      rw [Option.some.inj eh24, Option.some.inj ez25] at hs
      refine lv_dup hx hb d_B_ctor_84 rfl ?_
      refine lv_iload_n hx hb d_B_ctor_85 rfl (lv_at hl 1 rfl) ?_
      refine k_V C hs hex hf (fun res e1 => iv_I (b := z.1) (As := [.int x1]) (rest := [.ref z.1, .int x1, .ref v23]) C hs ci_B_38 (c_P_ctor hl0 e1) rfl hl.1 rfl (Nat.le_of_ble_eq_true rfl) d_B_ctor_86 ⟨Nat.le_of_ble_eq_true rfl, Nat.le_of_ble_eq_true rfl⟩) (fun h26 z27 H locs cells slots hf hs => ?_)
      refine r_aast (kd := 5) (ci := 3) C hs rfl rfl (Or.inl rfl) d_B_ctor_89 hf (fun h29 H locs hf hs => ?_)
      refine lv_iinc (v := x1 + 1) (lv' := [(1, .int (x1 + 1)), (0, .ref x0)]) hx hb d_B_ctor_90 hl (k := 1) rfl rfl (by decide) rfl (fun ls hl => ?_)
      refine lv_goto (tgt := 71) hx hb d_B_ctor_93 (by decide) ?_
      exact ih _ _ _ _ hf _ _ _ _ _ hs (lv_sub hl [1, 0] rfl)
def fb_B_ctor_L45 (bs : Nat) (sE : Nat × Nat) (REC : HH → Z3 → Nat → Int32 → Option RS) (h : HH) (z : Z3) (x0 : Nat) (x1 : Int32) : Option RS :=
  if 4 ≤ x1 then
    (f_B_ctor_L71 bs sE FU h z x0 0)
  else
    ((gR h x0 4 0).bind fun v30 =>
    (nO z 4).bind fun _ =>
    (some (va_up h z.1 (some (.inl (2, dfl 2))))).bind fun h31 =>
    (some (nZ z 4)).bind fun z32 =>
    cV (f_L_ctor bs sE h31 z32 z.1) fun h33 z34 =>
    (oK h33 z.1 2).bind fun _ =>
    (aQs bs h33 v30 4 x1 (some z.1)).bind fun h36 =>
    REC h36 z34 x0 (x1 + 1))
def f_B_ctor_L45 (bs : Nat) (sE : Nat × Nat) : Nat → HH → Z3 → Nat → Int32 → Option RS
  | 0 => fun _ _ _ _ => none
  | n + 1 => fb_B_ctor_L45 bs sE (f_B_ctor_L45 bs sE n)
set_option maxHeartbeats 4000000 in
set_option maxRecDepth 100000 in
theorem t_B_ctor_L45 {G : EN} {p : Program} {l : Launch} {e : Env} {s : State} {m : MethodId} {args : Array Value} {below : List Frame} {meth : Method} {c : Code} {z0 : Z3} (hl0 : l.stackTraces = false) (C : CX G p l s m meth c b_B_ctor 2 y_B_ctor.cls) (hr : meth.sig.returnType = none) (hex : c.exceptionTable.toList = []) {r : RS} :
    ∀ (n : Nat) (h : HH) (z : Z3) (x0 : Nat) (x1 : Int32), f_B_ctor_L45 G.2.2.1 G.2.2.2 n h z x0 x1 = some r → ∀ (H : Heap) (locs : List Loc) (cells slots : Nat) (ls : Array Slot), ST G (RM 5 100 z0) s h z H locs cells slots → lv_has ls 2 [(0, .ref x0), (1, .int x1)] → W p l e (RM 5 100 z0) s m args below meth c H locs cells slots (MX G below s r (RM 5 100 z0).cells (RM 5 100 z0).slots) (F0 m 45 ls []) := by
  have hx := C.1
  have hb := C.2.1
  intro n
  induction n with
  | zero => intro h z x0 x1 hf; exact nomatch (show (none : Option RS) = some r from hf)
  | succ n ih =>
    intro h z x0 x1 hf H locs cells slots ls hs hl
    have hf : fb_B_ctor_L45 G.2.2.1 G.2.2.2 (f_B_ctor_L45 G.2.2.1 G.2.2.2 n) h z x0 x1 = some r := hf
    unfold fb_B_ctor_L45 at hf
    refine lv_iload_n hx hb d_B_ctor_45 rfl (lv_at hl 1 rfl) ?_
    refine lv_iconst (v := 4) hx hb d_B_ctor_46 (by decide) ?_
    refine lv_icmp_ge (tgt := 69) hx hb d_B_ctor_47 (by decide) (fun q13 => ?_) (fun q13 => ?_)
    · have hf := ifp q13 hf
      refine lv_iconst (v := 0) hx hb d_B_ctor_69 (by decide) ?_
      refine lv_istore_n (lv' := [(1, .int 0), (0, .ref x0)]) hx hb d_B_ctor_70 rfl hl (by decide) rfl (fun ls hl => ?_)
      exact t_B_ctor_L71 hl0 C hr hex FU _ _ _ _ hf _ _ _ _ _ hs (lv_sub hl [1, 0] rfl)
    · have hf := ifn q13 hf
      refine lv_aload_n hx hb d_B_ctor_50 rfl (lv_at hl 0 rfl) ?_
      refine r_getR C hs fl_B_11 d_B_ctor_51 hf (fun v30 hf => ?_)
      refine lv_iload_n hx hb d_B_ctor_54 rfl (lv_at hl 1 rfl) ?_
      refine r_new (ci := 2) C hs rfl (tm (i := 33) (by decide +kernel)) (tm (i := 39) (by decide +kernel)) (tm (i := 2) (by decide +kernel)) d_B_ctor_55 hf (fun H hf hs => ?_)
      obtain ⟨h31, eh31, hf⟩ := bd hf
      obtain ⟨z32, ez32, hf⟩ := bd hf
      rw [Option.some.inj eh31, Option.some.inj ez32] at hs
      refine lv_dup hx hb d_B_ctor_58 rfl ?_
      refine k_V C hs hex hf (fun res e1 => iv_I (b := z.1) (As := []) (rest := [.ref z.1, .int x1, .ref v30]) C hs ci_B_37 (c_L_ctor hl0 e1) rfl hl.1 rfl (Nat.le_of_ble_eq_true rfl) d_B_ctor_59 ⟨Nat.le_of_ble_eq_true rfl, Nat.le_of_ble_eq_true rfl⟩) (fun h33 z34 H locs cells slots hf hs => ?_)
      refine r_aast (kd := 4) (ci := 2) C hs rfl rfl (Or.inl rfl) d_B_ctor_62 hf (fun h36 H locs hf hs => ?_)
      refine lv_iinc (v := x1 + 1) (lv' := [(1, .int (x1 + 1)), (0, .ref x0)]) hx hb d_B_ctor_63 hl (k := 1) rfl rfl (by decide) rfl (fun ls hl => ?_)
      refine lv_goto (tgt := 45) hx hb d_B_ctor_66 (by decide) ?_
      exact ih _ _ _ _ hf _ _ _ _ _ hs (lv_sub hl [1, 0] rfl)
def f_B_ctor (bs : Nat) (sE : Nat × Nat) (h : HH) (z : Z3) (x0 : Nat) : Option RS :=
  (nA 4 4).bind fun _ =>
  (nO z 4).bind fun _ =>
  (some (va_up h z.1 (some (.inr (4, (4 : Int32).toNatClampNeg, .inr (.inr (fun _ => none))))))).bind fun h1 =>
  (some (nZ z 4)).bind fun z2 =>
  (pV bs h1 x0 4 0 (.inr (some z.1))).bind fun h3 =>
  (nA 4 4).bind fun _ =>
  (nO z2 4).bind fun _ =>
  (some (va_up h3 z2.1 (some (.inr (5, (4 : Int32).toNatClampNeg, .inr (.inr (fun _ => none))))))).bind fun h4 =>
  (some (nZ z2 4)).bind fun z5 =>
  (pV bs h4 x0 4 1 (.inr (some z2.1))).bind fun h6 =>
  (nA 2 2).bind fun _ =>
  (nO z5 2).bind fun _ =>
  (some (va_up h6 z5.1 (some (.inr (6, (2 : Int32).toNatClampNeg, .inr (.inr (fun _ => none))))))).bind fun h7 =>
  (some (nZ z5 2)).bind fun z8 =>
  (pV bs h7 x0 4 2 (.inr (some z5.1))).bind fun h9 =>
  (pV bs h9 x0 4 3 (.inl 0)).bind fun h10 =>
  (pV bs h10 x0 4 4 (.inl 0)).bind fun h11 =>
  (pV bs h11 x0 4 5 (.inl 0)).bind fun h12 =>
  f_B_ctor_L45 bs sE FU h12 z8 x0 0
set_option maxHeartbeats 4000000 in
set_option maxRecDepth 100000 in
theorem c_B_ctor {G : EN} {l : Launch} (hl0 : l.stackTraces = false) {h : HH} {z : Z3} {x0 : Nat} {r : RS} (hf : f_B_ctor G.2.2.1 G.2.2.2 h z x0 = some r) : CM G l y_B_ctor (.code y_B_ctor b_B_ctor 2 none) 5 100 [.ref x0] h z r := by
  refine CM.ofW hl0 rfl ?_
  intro p e s m below meth c C hr hex hin hs
  have hin : meth.name = "<init>" := hin
  have hx := C.1
  have hb := C.2.1
  refine x_entry (n := 2) (Nat.le_of_ble_eq_true rfl) (fun ls hl => ?_)
  have hl : lv_has ls 2 [(0, .ref x0)] := hl
  unfold f_B_ctor at hf
  refine lv_aload_n hx hb d_B_ctor_0 rfl (lv_at hl 0 rfl) ?_
  refine r_objInit C hl.1 (tm (i := 30) (by decide +kernel)) (tm (i := 31) (by decide +kernel)) (tm (i := 32) (by decide +kernel)) d_B_ctor_1 ⟨Nat.le_of_ble_eq_true rfl, Nat.le_of_ble_eq_true rfl⟩ ?_
  refine lv_aload_n hx hb d_B_ctor_4 rfl (lv_at hl 0 rfl) ?_
  refine lv_iconst (v := 4) hx hb d_B_ctor_5 (by decide) ?_
  refine r_anew (kd := 4) (NB := 4) C hs rfl (by decide) (tm (i := 33) (by decide +kernel)) (tm (i := 34) (by decide +kernel)) d_B_ctor_6 hf (fun H slots hf hs => ?_)
  obtain ⟨h1, eh1, hf⟩ := bd hf
  obtain ⟨z2, ez2, hf⟩ := bd hf
  rw [Option.some.inj eh1, Option.some.inj ez2] at hs
  refine r_putF (v := (.inr (some z.1))) C hs hin flf_B_11 rfl rfl d_B_ctor_9 hf (fun h3 H locs hf hs => ?_)
  refine lv_aload_n hx hb d_B_ctor_12 rfl (lv_at hl 0 rfl) ?_
  refine lv_iconst (v := 4) hx hb d_B_ctor_13 (by decide) ?_
  refine r_anew (kd := 5) (NB := 4) C hs rfl (by decide) (tm (i := 35) (by decide +kernel)) (tm (i := 36) (by decide +kernel)) d_B_ctor_14 hf (fun H slots hf hs => ?_)
  obtain ⟨h4, eh4, hf⟩ := bd hf
  obtain ⟨z5, ez5, hf⟩ := bd hf
  rw [Option.some.inj eh4, Option.some.inj ez5] at hs
  refine r_putF (v := (.inr (some z2.1))) C hs hin flf_B_17 rfl rfl d_B_ctor_17 hf (fun h6 H locs hf hs => ?_)
  refine lv_aload_n hx hb d_B_ctor_20 rfl (lv_at hl 0 rfl) ?_
  refine lv_iconst (v := 2) hx hb d_B_ctor_21 (by decide) ?_
  refine r_anew (kd := 6) (NB := 2) C hs rfl (by decide) (tm (i := 37) (by decide +kernel)) (tm (i := 38) (by decide +kernel)) d_B_ctor_22 hf (fun H slots hf hs => ?_)
  obtain ⟨h7, eh7, hf⟩ := bd hf
  obtain ⟨z8, ez8, hf⟩ := bd hf
  rw [Option.some.inj eh7, Option.some.inj ez8] at hs
  refine r_putF (v := (.inr (some z5.1))) C hs hin flf_B_23 rfl rfl d_B_ctor_25 hf (fun h9 H locs hf hs => ?_)
  refine lv_aload_n hx hb d_B_ctor_28 rfl (lv_at hl 0 rfl) ?_
  refine lv_iconst (v := 0) hx hb d_B_ctor_29 (by decide) ?_
  refine r_putV (v := (.inl 0)) C hs flp_B_27 rfl rfl d_B_ctor_30 hf (fun h10 H locs hf hs => ?_)
  refine lv_aload_n hx hb d_B_ctor_33 rfl (lv_at hl 0 rfl) ?_
  refine lv_iconst (v := 0) hx hb d_B_ctor_34 (by decide) ?_
  refine r_putV (v := (.inl 0)) C hs flp_B_31 rfl rfl d_B_ctor_35 hf (fun h11 H locs hf hs => ?_)
  refine lv_aload_n hx hb d_B_ctor_38 rfl (lv_at hl 0 rfl) ?_
  refine lv_iconst (v := 0) hx hb d_B_ctor_39 (by decide) ?_
  refine r_putV (v := (.inl 0)) C hs flp_B_34 rfl rfl d_B_ctor_40 hf (fun h12 H locs hf hs => ?_)
  refine lv_iconst (v := 0) hx hb d_B_ctor_43 (by decide) ?_
  refine lv_istore_n (lv' := [(1, .int 0), (0, .ref x0)]) hx hb d_B_ctor_44 rfl hl (by decide) rfl (fun ls hl => ?_)
  exact t_B_ctor_L45 hl0 C hr hex FU _ _ _ _ hf _ _ _ _ _ hs (lv_sub hl [1, 0] rfl)
def fb_B_endTransaction_L9 (bs : Nat) (sE : Nat × Nat) (REC : HH → Z3 → Nat → Nat → Int32 → Option RS) (h : HH) (z : Z3) (x0 : Nat) (x1 : Nat) (x2 : Int32) : Option RS :=
  if 2 ≤ x2 then
    ((oK h x1 3).bind fun _ =>
    cV (f_P_becomeIdle bs sE h z x1) fun h9 z10 =>
    some (.inl none, h9, z10))
  else
    ((gR h x0 4 2).bind fun v12 =>
    (aR h v12 6 x2).bind fun v13 =>
    (gR h v13 1 4).bind fun v14 =>
    (oK h x1 3).bind fun _ =>
    cV (f_P_commitPending bs sE h z x1 x2 v14) fun h15 z16 =>
    REC h15 z16 x0 x1 (x2 + 1))
def f_B_endTransaction_L9 (bs : Nat) (sE : Nat × Nat) : Nat → HH → Z3 → Nat → Nat → Int32 → Option RS
  | 0 => fun _ _ _ _ _ => none
  | n + 1 => fb_B_endTransaction_L9 bs sE (f_B_endTransaction_L9 bs sE n)
set_option maxHeartbeats 4000000 in
set_option maxRecDepth 100000 in
theorem t_B_endTransaction_L9 {G : EN} {p : Program} {l : Launch} {e : Env} {s : State} {m : MethodId} {args : Array Value} {below : List Frame} {meth : Method} {c : Code} {z0 : Z3} (hl0 : l.stackTraces = false) (C : CX G p l s m meth c b_B_endTransaction 3 y_B_endTransaction.cls) (hr : meth.sig.returnType = none) (hex : c.exceptionTable.toList = []) {r : RS} :
    ∀ (n : Nat) (h : HH) (z : Z3) (x0 : Nat) (x1 : Nat) (x2 : Int32), f_B_endTransaction_L9 G.2.2.1 G.2.2.2 n h z x0 x1 x2 = some r → ∀ (H : Heap) (locs : List Loc) (cells slots : Nat) (ls : Array Slot), ST G (RM 2 43 z0) s h z H locs cells slots → lv_has ls 3 [(0, .ref x0), (1, .ref x1), (2, .int x2)] → W p l e (RM 2 43 z0) s m args below meth c H locs cells slots (MX G below s r (RM 2 43 z0).cells (RM 2 43 z0).slots) (F0 m 9 ls []) := by
  have hx := C.1
  have hb := C.2.1
  intro n
  induction n with
  | zero => intro h z x0 x1 x2 hf; exact nomatch (show (none : Option RS) = some r from hf)
  | succ n ih =>
    intro h z x0 x1 x2 hf H locs cells slots ls hs hl
    have hf : fb_B_endTransaction_L9 G.2.2.1 G.2.2.2 (f_B_endTransaction_L9 G.2.2.1 G.2.2.2 n) h z x0 x1 x2 = some r := hf
    unfold fb_B_endTransaction_L9 at hf
    refine lv_iload_n hx hb d_B_endTransaction_9 rfl (lv_at hl 2 rfl) ?_
    refine lv_iconst (v := 2) hx hb d_B_endTransaction_10 (by decide) ?_
    refine lv_icmp_ge (tgt := 34) hx hb d_B_endTransaction_11 (by decide) (fun q8 => ?_) (fun q8 => ?_)
    · have hf := ifp q8 hf
      refine lv_aload_n hx hb d_B_endTransaction_34 rfl (lv_at hl 1 rfl) ?_
      obtain ⟨_, ho, hf⟩ := bd hf
      refine k_V C hs hex hf (fun res e1 => iv_V (b := x1) (As := []) (rest := []) C hs cv_B_295 (c_P_becomeIdle hl0 e1) (ci := 3) rfl rfl ho rfl hl.1 rfl (Nat.le_of_ble_eq_true rfl) d_B_endTransaction_35 ⟨Nat.le_of_ble_eq_true rfl, Nat.le_of_ble_eq_true rfl⟩) (fun h9 z10 H locs cells slots hf hs => ?_)
      exact r_vreturn C hs hr d_B_endTransaction_38 hf
    · have hf := ifn q8 hf
      refine lv_aload_n hx hb d_B_endTransaction_14 rfl (lv_at hl 1 rfl) ?_
      refine lv_iload_n hx hb d_B_endTransaction_15 rfl (lv_at hl 2 rfl) ?_
      refine lv_aload_n hx hb d_B_endTransaction_16 rfl (lv_at hl 0 rfl) ?_
      refine r_getR C hs fl_B_23 d_B_endTransaction_17 hf (fun v12 hf => ?_)
      refine lv_iload_n hx hb d_B_endTransaction_20 rfl (lv_at hl 2 rfl) ?_
      refine r_aald (kd := 6) C hs (by decide) d_B_endTransaction_21 hf (fun v13 hf => ?_)
      refine r_getR C hs fl_B_213 d_B_endTransaction_22 hf (fun v14 hf => ?_)
      obtain ⟨_, ho, hf⟩ := bd hf
      refine k_V C hs hex hf (fun res e1 => iv_V (b := x1) (As := [.int x2, .ref v14]) (rest := []) C hs cv_B_291 (c_P_commitPending hl0 e1) (ci := 3) rfl rfl ho rfl hl.1 rfl (Nat.le_of_ble_eq_true rfl) d_B_endTransaction_25 ⟨Nat.le_of_ble_eq_true rfl, Nat.le_of_ble_eq_true rfl⟩) (fun h15 z16 H locs cells slots hf hs => ?_)
      refine lv_iinc (v := x2 + 1) (lv' := [(2, .int (x2 + 1)), (0, .ref x0), (1, .ref x1)]) hx hb d_B_endTransaction_28 hl (k := 2) rfl rfl (by decide) rfl (fun ls hl => ?_)
      refine lv_goto (tgt := 9) hx hb d_B_endTransaction_31 (by decide) ?_
      exact ih _ _ _ _ _ hf _ _ _ _ _ hs (lv_sub hl [1, 2, 0] rfl)
def f_B_endTransaction (bs : Nat) (sE : Nat × Nat) (h : HH) (z : Z3) (x0 : Nat) (x1 : Nat) : Option RS :=
  (oK h x1 3).bind fun _ =>
  cI (f_P_isCommitting bs sE h z x1) fun v3 h1 z2 =>
  if v3 = 0 then
    ((oK h1 x1 3).bind fun _ =>
    cV (f_P_becomeIdle bs sE h1 z2 x1) fun h5 z6 =>
    some (.inl none, h5, z6))
  else
    (f_B_endTransaction_L9 bs sE FU h1 z2 x0 x1 0)
set_option maxHeartbeats 4000000 in
set_option maxRecDepth 100000 in
theorem c_B_endTransaction {G : EN} {l : Launch} (hl0 : l.stackTraces = false) {h : HH} {z : Z3} {x0 : Nat} {x1 : Nat} {r : RS} (hf : f_B_endTransaction G.2.2.1 G.2.2.2 h z x0 x1 = some r) : CM G l y_B_endTransaction (.code y_B_endTransaction b_B_endTransaction 3 none) 2 43 [.ref x0, .ref x1] h z r := by
  refine CM.ofW hl0 rfl ?_
  intro p e s m below meth c C hr hex hin hs
  have hx := C.1
  have hb := C.2.1
  refine x_entry (n := 3) (Nat.le_of_ble_eq_true rfl) (fun ls hl => ?_)
  have hl : lv_has ls 3 [(0, .ref x0), (1, .ref x1)] := hl
  unfold f_B_endTransaction at hf
  refine lv_aload_n hx hb d_B_endTransaction_0 rfl (lv_at hl 1 rfl) ?_
  obtain ⟨_, ho, hf⟩ := bd hf
  refine k_I C hs hex hf (fun res e1 => iv_V (b := x1) (As := []) (rest := []) C hs cv_B_284 (c_P_isCommitting hl0 e1) (ci := 3) rfl rfl ho rfl hl.1 rfl (Nat.le_of_ble_eq_true rfl) d_B_endTransaction_1 ⟨Nat.le_of_ble_eq_true rfl, Nat.le_of_ble_eq_true rfl⟩) (fun v3 h1 z2 H locs cells slots hf hs => ?_)
  refine lv_if_eq (tgt := 34) hx hb d_B_endTransaction_4 (by decide) (fun q4 => ?_) (fun q4 => ?_)
  · have hf := ifp q4 hf
    refine lv_aload_n hx hb d_B_endTransaction_34 rfl (lv_at hl 1 rfl) ?_
    obtain ⟨_, ho, hf⟩ := bd hf
    refine k_V C hs hex hf (fun res e1 => iv_V (b := x1) (As := []) (rest := []) C hs cv_B_295 (c_P_becomeIdle hl0 e1) (ci := 3) rfl rfl ho rfl hl.1 rfl (Nat.le_of_ble_eq_true rfl) d_B_endTransaction_35 ⟨Nat.le_of_ble_eq_true rfl, Nat.le_of_ble_eq_true rfl⟩) (fun h5 z6 H locs cells slots hf hs => ?_)
    exact r_vreturn C hs hr d_B_endTransaction_38 hf
  · have hf := ifn q4 hf
    refine lv_iconst (v := 0) hx hb d_B_endTransaction_7 (by decide) ?_
    refine lv_istore_n (lv' := [(2, .int 0), (0, .ref x0), (1, .ref x1)]) hx hb d_B_endTransaction_8 rfl hl (by decide) rfl (fun ls hl => ?_)
    exact t_B_endTransaction_L9 hl0 C hr hex FU _ _ _ _ _ hf _ _ _ _ _ hs (lv_sub hl [1, 2, 0] rfl)
def f_B_advanceIn (bs : Nat) (sE : Nat × Nat) (h : HH) (z : Z3) (x0 : Nat) (x1 : Nat) (x2 : Int32) : Option RS :=
  (gR h x0 4 0).bind fun v1 =>
  (aR h v1 4 x2).bind fun v2 =>
  (gI h x1 3 3).bind fun v3 =>
  (oK h v2 2).bind fun _ =>
  cI (f_L_hasEnded bs sE h z v2 v3) fun v6 h4 z5 =>
  if v6 = 0 then
    ((gI h4 x1 3 3).bind fun v8 =>
    (oK h4 v2 2).bind fun _ =>
    cI (f_L_hasMarker bs sE h4 z5 v2 v8) fun v11 h9 z10 =>
    if v11 = 0 then
      ((gI h9 x1 3 3).bind fun v13 =>
      (oK h9 x1 3).bind fun _ =>
      cI (f_P_isCommitting bs sE h9 z10 x1) fun v16 h14 z15 =>
      (oK h14 v2 2).bind fun _ =>
      cV (f_L_putMarker bs sE h14 z15 v2 v13 v16) fun h17 z18 =>
      some (.inl (some (.int 1)), h17, z18))
    else
      (some (.inl (some (.int 0)), h9, z10)))
  else
    ((oK h4 x1 3).bind fun _ =>
    cV (f_P_untouch bs sE h4 z5 x1 x2) fun h20 z21 =>
    some (.inl (some (.int 2)), h20, z21))
set_option maxHeartbeats 4000000 in
set_option maxRecDepth 100000 in
theorem c_B_advanceIn {G : EN} {l : Launch} (hl0 : l.stackTraces = false) {h : HH} {z : Z3} {x0 : Nat} {x1 : Nat} {x2 : Int32} {r : RS} (hf : f_B_advanceIn G.2.2.1 G.2.2.2 h z x0 x1 x2 = some r) : CM G l y_B_advanceIn (.code y_B_advanceIn b_B_advanceIn 4 (some .int)) 9 234 [.ref x0, .ref x1, .int x2] h z r := by
  refine CM.ofW hl0 rfl ?_
  intro p e s m below meth c C hr hex hin hs
  have hx := C.1
  have hb := C.2.1
  refine x_entry (n := 4) (Nat.le_of_ble_eq_true rfl) (fun ls hl => ?_)
  have hl : lv_has ls 4 [(0, .ref x0), (1, .ref x1), (2, .int x2)] := hl
  unfold f_B_advanceIn at hf
  refine lv_aload_n hx hb d_B_advanceIn_0 rfl (lv_at hl 0 rfl) ?_
  refine r_getR C hs fl_B_11 d_B_advanceIn_1 hf (fun v1 hf => ?_)
  refine lv_iload_n hx hb d_B_advanceIn_4 rfl (lv_at hl 2 rfl) ?_
  refine r_aald (kd := 4) C hs (by decide) d_B_advanceIn_5 hf (fun v2 hf => ?_)
  refine lv_astore_n (lv' := [(3, .ref v2), (0, .ref x0), (1, .ref x1), (2, .int x2)]) hx hb d_B_advanceIn_6 rfl hl (by decide) rfl (fun ls hl => ?_)
  refine lv_aload_n hx hb d_B_advanceIn_7 rfl (lv_at hl 0 rfl) ?_
  refine lv_aload_n hx hb d_B_advanceIn_8 rfl (lv_at hl 2 rfl) ?_
  refine r_getI C hs fl_B_101 d_B_advanceIn_9 hf (fun v3 hf => ?_)
  obtain ⟨_, ho, hf⟩ := bd hf
  refine k_I C hs hex hf (fun res e1 => iv_V (b := v2) (As := [.int v3]) (rest := []) C hs cv_B_275 (c_L_hasEnded hl0 e1) (ci := 2) rfl rfl ho rfl hl.1 rfl (Nat.le_of_ble_eq_true rfl) d_B_advanceIn_12 ⟨Nat.le_of_ble_eq_true rfl, Nat.le_of_ble_eq_true rfl⟩) (fun v6 h4 z5 H locs cells slots hf hs => ?_)
  refine lv_if_eq (tgt := 25) hx hb d_B_advanceIn_15 (by decide) (fun q7 => ?_) (fun q7 => ?_)
  · have hf := ifp q7 hf
    refine lv_aload_n hx hb d_B_advanceIn_25 rfl (lv_at hl 0 rfl) ?_
    refine lv_aload_n hx hb d_B_advanceIn_26 rfl (lv_at hl 2 rfl) ?_
    refine r_getI C hs fl_B_101 d_B_advanceIn_27 hf (fun v8 hf => ?_)
    obtain ⟨_, ho, hf⟩ := bd hf
    refine k_I C hs hex hf (fun res e1 => iv_V (b := v2) (As := [.int v8]) (rest := []) C hs cv_B_281 (c_L_hasMarker hl0 e1) (ci := 2) rfl rfl ho rfl hl.1 rfl (Nat.le_of_ble_eq_true rfl) d_B_advanceIn_30 ⟨Nat.le_of_ble_eq_true rfl, Nat.le_of_ble_eq_true rfl⟩) (fun v11 h9 z10 H locs cells slots hf hs => ?_)
    refine lv_if_eq (tgt := 38) hx hb d_B_advanceIn_33 (by decide) (fun q12 => ?_) (fun q12 => ?_)
    · have hf := ifp q12 hf
      refine lv_aload_n hx hb d_B_advanceIn_38 rfl (lv_at hl 0 rfl) ?_
      refine lv_aload_n hx hb d_B_advanceIn_39 rfl (lv_at hl 2 rfl) ?_
      refine r_getI C hs fl_B_101 d_B_advanceIn_40 hf (fun v13 hf => ?_)
      refine lv_aload_n hx hb d_B_advanceIn_43 rfl (lv_at hl 2 rfl) ?_
      obtain ⟨_, ho, hf⟩ := bd hf
      refine k_I C hs hex hf (fun res e1 => iv_V (b := x1) (As := []) (rest := [.int v13, .ref v2]) C hs cv_B_284 (c_P_isCommitting hl0 e1) (ci := 3) rfl rfl ho rfl hl.1 rfl (Nat.le_of_ble_eq_true rfl) d_B_advanceIn_44 ⟨Nat.le_of_ble_eq_true rfl, Nat.le_of_ble_eq_true rfl⟩) (fun v16 h14 z15 H locs cells slots hf hs => ?_)
      obtain ⟨_, ho, hf⟩ := bd hf
      refine k_V C hs hex hf (fun res e1 => iv_V (b := v2) (As := [.int v13, .int v16]) (rest := []) C hs cv_B_287 (c_L_putMarker hl0 e1) (ci := 2) rfl rfl ho rfl hl.1 rfl (Nat.le_of_ble_eq_true rfl) d_B_advanceIn_47 ⟨Nat.le_of_ble_eq_true rfl, Nat.le_of_ble_eq_true rfl⟩) (fun h17 z18 H locs cells slots hf hs => ?_)
      refine lv_iconst (v := 1) hx hb d_B_advanceIn_50 (by decide) ?_
      exact r_ireturn C hs hr d_B_advanceIn_51 hf
    · have hf := ifn q12 hf
      refine lv_iconst (v := 0) hx hb d_B_advanceIn_36 (by decide) ?_
      exact r_ireturn C hs hr d_B_advanceIn_37 hf
  · have hf := ifn q7 hf
    refine lv_aload_n hx hb d_B_advanceIn_18 rfl (lv_at hl 2 rfl) ?_
    refine lv_iload_n hx hb d_B_advanceIn_19 rfl (lv_at hl 3 rfl) ?_
    obtain ⟨_, ho, hf⟩ := bd hf
    refine k_V C hs hex hf (fun res e1 => iv_V (b := x1) (As := [.int x2]) (rest := []) C hs cv_B_278 (c_P_untouch hl0 e1) (ci := 3) rfl rfl ho rfl hl.1 rfl (Nat.le_of_ble_eq_true rfl) d_B_advanceIn_20 ⟨Nat.le_of_ble_eq_true rfl, Nat.le_of_ble_eq_true rfl⟩) (fun h20 z21 H locs cells slots hf hs => ?_)
    refine lv_iconst (v := 2) hx hb d_B_advanceIn_23 (by decide) ?_
    exact r_ireturn C hs hr d_B_advanceIn_24 hf
def fb_B_advance_L25 (bs : Nat) (sE : Nat × Nat) (REC : HH → Z3 → Nat → Nat → Int32 → Option RS) (h : HH) (z : Z3) (x0 : Nat) (x1 : Nat) (x2 : Int32) : Option RS :=
  if 4 ≤ x2 then
    (some (.inl (some (.int 0)), h, z))
  else
    ((gI h x1 3 5).bind fun v8 =>
    cI (f_B_has bs sE h z v8 x2) fun v11 h9 z10 =>
    if v11 = 0 then
      (if (0 : Int32) = 0 then
        (REC h9 z10 x0 x1 (x2 + 1))
      else
        (some (.inl (some (.int 0)), h9, z10)))
    else
      ((oK h9 x0 4).bind fun _ =>
      cI (f_B_advanceIn bs sE h9 z10 x0 x1 x2) fun v16 h14 z15 =>
      if v16 = 0 then
        (REC h14 z15 x0 x1 (x2 + 1))
      else
        (some (.inl (some (.int v16)), h14, z15))))
def f_B_advance_L25 (bs : Nat) (sE : Nat × Nat) : Nat → HH → Z3 → Nat → Nat → Int32 → Option RS
  | 0 => fun _ _ _ _ _ => none
  | n + 1 => fb_B_advance_L25 bs sE (f_B_advance_L25 bs sE n)
set_option maxHeartbeats 4000000 in
set_option maxRecDepth 100000 in
theorem t_B_advance_L25 {G : EN} {p : Program} {l : Launch} {e : Env} {s : State} {m : MethodId} {args : Array Value} {below : List Frame} {meth : Method} {c : Code} {z0 : Z3} (hl0 : l.stackTraces = false) (C : CX G p l s m meth c b_B_advance 4 y_B_advance.cls) (hr : meth.sig.returnType = (some .int)) (hex : c.exceptionTable.toList = []) {r : RS} :
    ∀ (n : Nat) (h : HH) (z : Z3) (x0 : Nat) (x1 : Nat) (x2 : Int32), f_B_advance_L25 G.2.2.1 G.2.2.2 n h z x0 x1 x2 = some r → ∀ (H : Heap) (locs : List Loc) (cells slots : Nat) (ls : Array Slot), ST G (RM 10 257 z0) s h z H locs cells slots → lv_has ls 4 [(0, .ref x0), (1, .ref x1), (2, .int x2)] → W p l e (RM 10 257 z0) s m args below meth c H locs cells slots (MX G below s r (RM 10 257 z0).cells (RM 10 257 z0).slots) (F0 m 25 ls []) := by
  have hx := C.1
  have hb := C.2.1
  intro n
  induction n with
  | zero => intro h z x0 x1 x2 hf; exact nomatch (show (none : Option RS) = some r from hf)
  | succ n ih =>
    intro h z x0 x1 x2 hf H locs cells slots ls hs hl
    have hf : fb_B_advance_L25 G.2.2.1 G.2.2.2 (f_B_advance_L25 G.2.2.1 G.2.2.2 n) h z x0 x1 x2 = some r := hf
    unfold fb_B_advance_L25 at hf
    refine lv_iload_n hx hb d_B_advance_25 rfl (lv_at hl 2 rfl) ?_
    refine lv_iconst (v := 4) hx hb d_B_advance_26 (by decide) ?_
    refine lv_icmp_ge (tgt := 64) hx hb d_B_advance_27 (by decide) (fun q7 => ?_) (fun q7 => ?_)
    · have hf := ifp q7 hf
      refine lv_iconst (v := 0) hx hb d_B_advance_64 (by decide) ?_
      exact r_ireturn C hs hr d_B_advance_65 hf
    · have hf := ifn q7 hf
      refine lv_aload_n hx hb d_B_advance_30 rfl (lv_at hl 1 rfl) ?_
      refine r_getI C hs fl_B_117 d_B_advance_31 hf (fun v8 hf => ?_)
      refine lv_iload_n hx hb d_B_advance_34 rfl (lv_at hl 2 rfl) ?_
      refine k_I C hs hex hf (fun res e1 => iv_S (As := [.int v8, .int x2]) (rest := []) C hs cs_B_207 (c_B_has hl0 e1) rfl hl.1 rfl (Nat.le_of_ble_eq_true rfl) d_B_advance_35 ⟨Nat.le_of_ble_eq_true rfl, Nat.le_of_ble_eq_true rfl⟩) (fun v11 h9 z10 H locs cells slots hf hs => ?_)
      refine lv_if_eq (tgt := 50) hx hb d_B_advance_38 (by decide) (fun q12 => ?_) (fun q12 => ?_)
      · have hf := ifp q12 hf
        refine lv_iconst (v := 0) hx hb d_B_advance_50 (by decide) ?_
        refine lv_istore_n (lv' := [(3, .int 0), (0, .ref x0), (1, .ref x1), (2, .int x2)]) hx hb d_B_advance_51 rfl hl (by decide) rfl (fun ls hl => ?_)
        refine lv_iload_n hx hb d_B_advance_52 rfl (lv_at hl 0 rfl) ?_
        refine lv_if_eq (tgt := 58) hx hb d_B_advance_53 (by decide) (fun q13 => ?_) (fun q13 => ?_)
        · rw [if_pos q13] at hf
          refine lv_iinc (v := x2 + 1) (lv' := [(2, .int (x2 + 1)), (3, .int 0), (0, .ref x0), (1, .ref x1)]) hx hb d_B_advance_58 hl (k := 3) rfl rfl (by decide) rfl (fun ls hl => ?_)
          refine lv_goto (tgt := 25) hx hb d_B_advance_61 (by decide) ?_
          exact ih _ _ _ _ _ hf _ _ _ _ _ hs (lv_sub hl [2, 3, 0] rfl)
        · rw [if_neg q13] at hf
          refine lv_iload_n hx hb d_B_advance_56 rfl (lv_at hl 0 rfl) ?_
          exact r_ireturn C hs hr d_B_advance_57 hf
      · have hf := ifn q12 hf
        refine lv_aload_n hx hb d_B_advance_41 rfl (lv_at hl 0 rfl) ?_
        refine lv_aload_n hx hb d_B_advance_42 rfl (lv_at hl 1 rfl) ?_
        refine lv_iload_n hx hb d_B_advance_43 rfl (lv_at hl 2 rfl) ?_
        obtain ⟨_, ho, hf⟩ := bd hf
        refine k_I C hs hex hf (fun res e1 => iv_V (b := x0) (As := [.ref x1, .int x2]) (rest := []) C hs cv_B_271 (c_B_advanceIn hl0 e1) (ci := 4) rfl rfl ho rfl hl.1 rfl (Nat.le_of_ble_eq_true rfl) d_B_advance_44 ⟨Nat.le_of_ble_eq_true rfl, Nat.le_of_ble_eq_true rfl⟩) (fun v16 h14 z15 H locs cells slots hf hs => ?_)
        refine lv_goto (tgt := 51) hx hb d_B_advance_47 (by decide) ?_
        refine lv_istore_n (lv' := [(3, .int v16), (0, .ref x0), (1, .ref x1), (2, .int x2)]) hx hb d_B_advance_51 rfl hl (by decide) rfl (fun ls hl => ?_)
        refine lv_iload_n hx hb d_B_advance_52 rfl (lv_at hl 0 rfl) ?_
        refine lv_if_eq (tgt := 58) hx hb d_B_advance_53 (by decide) (fun q17 => ?_) (fun q17 => ?_)
        · have hf := ifp q17 hf
          refine lv_iinc (v := x2 + 1) (lv' := [(2, .int (x2 + 1)), (3, .int v16), (0, .ref x0), (1, .ref x1)]) hx hb d_B_advance_58 hl (k := 3) rfl rfl (by decide) rfl (fun ls hl => ?_)
          refine lv_goto (tgt := 25) hx hb d_B_advance_61 (by decide) ?_
          exact ih _ _ _ _ _ hf _ _ _ _ _ hs (lv_sub hl [2, 3, 0] rfl)
        · have hf := ifn q17 hf
          refine lv_iload_n hx hb d_B_advance_56 rfl (lv_at hl 0 rfl) ?_
          exact r_ireturn C hs hr d_B_advance_57 hf
def f_B_advance (bs : Nat) (sE : Nat × Nat) (h : HH) (z : Z3) (x0 : Nat) (x1 : Nat) : Option RS :=
  (oK h x1 3).bind fun _ =>
  cI (f_P_isEnding bs sE h z x1) fun v3 h1 z2 =>
  if v3 = 0 then
    (some (.inl (some (.int 0)), h1, z2))
  else
    ((gI h1 x1 3 5).bind fun v5 =>
    if v5 = 0 then
      ((oK h1 x0 4).bind fun _ =>
      cV (f_B_endTransaction bs sE h1 z2 x0 x1) fun h18 z19 =>
      some (.inl (some (.int 3)), h18, z19))
    else
      (f_B_advance_L25 bs sE FU h1 z2 x0 x1 0))
set_option maxHeartbeats 4000000 in
set_option maxRecDepth 100000 in
theorem c_B_advance {G : EN} {l : Launch} (hl0 : l.stackTraces = false) {h : HH} {z : Z3} {x0 : Nat} {x1 : Nat} {r : RS} (hf : f_B_advance G.2.2.1 G.2.2.2 h z x0 x1 = some r) : CM G l y_B_advance (.code y_B_advance b_B_advance 4 (some .int)) 10 257 [.ref x0, .ref x1] h z r := by
  refine CM.ofW hl0 rfl ?_
  intro p e s m below meth c C hr hex hin hs
  have hx := C.1
  have hb := C.2.1
  refine x_entry (n := 4) (Nat.le_of_ble_eq_true rfl) (fun ls hl => ?_)
  have hl : lv_has ls 4 [(0, .ref x0), (1, .ref x1)] := hl
  unfold f_B_advance at hf
  refine lv_aload_n hx hb d_B_advance_0 rfl (lv_at hl 1 rfl) ?_
  obtain ⟨_, ho, hf⟩ := bd hf
  refine k_I C hs hex hf (fun res e1 => iv_V (b := x1) (As := []) (rest := []) C hs cv_B_46 (c_P_isEnding hl0 e1) (ci := 3) rfl rfl ho rfl hl.1 rfl (Nat.le_of_ble_eq_true rfl) d_B_advance_1 ⟨Nat.le_of_ble_eq_true rfl, Nat.le_of_ble_eq_true rfl⟩) (fun v3 h1 z2 H locs cells slots hf hs => ?_)
  refine lv_if_ne (tgt := 9) hx hb d_B_advance_4 (by decide) (fun q4 => ?_) (fun q4 => ?_)
  · have hf := ifn q4 hf
    refine lv_aload_n hx hb d_B_advance_9 rfl (lv_at hl 1 rfl) ?_
    refine r_getI C hs fl_B_117 d_B_advance_10 hf (fun v5 hf => ?_)
    refine lv_if_ne (tgt := 23) hx hb d_B_advance_13 (by decide) (fun q6 => ?_) (fun q6 => ?_)
    · have hf := ifn q6 hf
      refine lv_iconst (v := 0) hx hb d_B_advance_23 (by decide) ?_
      refine lv_istore_n (lv' := [(2, .int 0), (0, .ref x0), (1, .ref x1)]) hx hb d_B_advance_24 rfl hl (by decide) rfl (fun ls hl => ?_)
      exact t_B_advance_L25 hl0 C hr hex FU _ _ _ _ _ hf _ _ _ _ _ hs (lv_sub hl [1, 2, 0] rfl)
    · have hf := ifp q6 hf
      refine lv_aload_n hx hb d_B_advance_16 rfl (lv_at hl 0 rfl) ?_
      refine lv_aload_n hx hb d_B_advance_17 rfl (lv_at hl 1 rfl) ?_
      obtain ⟨_, ho, hf⟩ := bd hf
      refine k_V C hs hex hf (fun res e1 => iv_V (b := x0) (As := [.ref x1]) (rest := []) C hs cv_B_267 (c_B_endTransaction hl0 e1) (ci := 4) rfl rfl ho rfl hl.1 rfl (Nat.le_of_ble_eq_true rfl) d_B_advance_18 ⟨Nat.le_of_ble_eq_true rfl, Nat.le_of_ble_eq_true rfl⟩) (fun h18 z19 H locs cells slots hf hs => ?_)
      refine lv_iconst (v := 3) hx hb d_B_advance_21 (by decide) ?_
      exact r_ireturn C hs hr d_B_advance_22 hf
  · have hf := ifp q4 hf
    refine lv_iconst (v := 0) hx hb d_B_advance_7 (by decide) ?_
    exact r_ireturn C hs hr d_B_advance_8 hf
def fb_B_step_L2 (bs : Nat) (sE : Nat × Nat) (REC : HH → Z3 → Nat → Int32 → Option RS) (h : HH) (z : Z3) (x0 : Nat) (x1 : Int32) : Option RS :=
  if 4 ≤ x1 then
    (some (.inl (some (.int (-1))), h, z))
  else
    ((gR h x0 4 1).bind fun v2 =>
    (aR h v2 5 x1).bind fun v3 =>
    (oK h x0 4).bind fun _ =>
    cI (f_B_advance bs sE h z x0 v3) fun v6 h4 z5 =>
    if v6 = 0 then
      (REC h4 z5 x0 (x1 + 1))
    else
      (some (.inl (some (.int ((10 * x1) + v6))), h4, z5)))
def f_B_step_L2 (bs : Nat) (sE : Nat × Nat) : Nat → HH → Z3 → Nat → Int32 → Option RS
  | 0 => fun _ _ _ _ => none
  | n + 1 => fb_B_step_L2 bs sE (f_B_step_L2 bs sE n)
set_option maxHeartbeats 4000000 in
set_option maxRecDepth 100000 in
theorem t_B_step_L2 {G : EN} {p : Program} {l : Launch} {e : Env} {s : State} {m : MethodId} {args : Array Value} {below : List Frame} {meth : Method} {c : Code} {z0 : Z3} (hl0 : l.stackTraces = false) (C : CX G p l s m meth c b_B_step 3 y_B_step.cls) (hr : meth.sig.returnType = (some .int)) (hex : c.exceptionTable.toList = []) {r : RS} :
    ∀ (n : Nat) (h : HH) (z : Z3) (x0 : Nat) (x1 : Int32), f_B_step_L2 G.2.2.1 G.2.2.2 n h z x0 x1 = some r → ∀ (H : Heap) (locs : List Loc) (cells slots : Nat) (ls : Array Slot), ST G (RM 11 280 z0) s h z H locs cells slots → lv_has ls 3 [(0, .ref x0), (1, .int x1)] → W p l e (RM 11 280 z0) s m args below meth c H locs cells slots (MX G below s r (RM 11 280 z0).cells (RM 11 280 z0).slots) (F0 m 2 ls []) := by
  have hx := C.1
  have hb := C.2.1
  intro n
  induction n with
  | zero => intro h z x0 x1 hf; exact nomatch (show (none : Option RS) = some r from hf)
  | succ n ih =>
    intro h z x0 x1 hf H locs cells slots ls hs hl
    have hf : fb_B_step_L2 G.2.2.1 G.2.2.2 (f_B_step_L2 G.2.2.1 G.2.2.2 n) h z x0 x1 = some r := hf
    unfold fb_B_step_L2 at hf
    refine lv_iload_n hx hb d_B_step_2 rfl (lv_at hl 1 rfl) ?_
    refine lv_iconst (v := 4) hx hb d_B_step_3 (by decide) ?_
    refine lv_icmp_ge (tgt := 35) hx hb d_B_step_4 (by decide) (fun q1 => ?_) (fun q1 => ?_)
    · have hf := ifp q1 hf
      refine lv_iconst (v := (-1)) hx hb d_B_step_35 (by decide) ?_
      exact r_ireturn C hs hr d_B_step_36 hf
    · have hf := ifn q1 hf
      refine lv_aload_n hx hb d_B_step_7 rfl (lv_at hl 0 rfl) ?_
      refine lv_aload_n hx hb d_B_step_8 rfl (lv_at hl 0 rfl) ?_
      refine r_getR C hs fl_B_17 d_B_step_9 hf (fun v2 hf => ?_)
      refine lv_iload_n hx hb d_B_step_12 rfl (lv_at hl 1 rfl) ?_
      refine r_aald (kd := 5) C hs (by decide) d_B_step_13 hf (fun v3 hf => ?_)
      obtain ⟨_, ho, hf⟩ := bd hf
      refine k_I C hs hex hf (fun res e1 => iv_V (b := x0) (As := [.ref v3]) (rest := []) C hs cv_B_126 (c_B_advance hl0 e1) (ci := 4) rfl rfl ho rfl hl.1 rfl (Nat.le_of_ble_eq_true rfl) d_B_step_14 ⟨Nat.le_of_ble_eq_true rfl, Nat.le_of_ble_eq_true rfl⟩) (fun v6 h4 z5 H locs cells slots hf hs => ?_)
      refine lv_istore_n (lv' := [(2, .int v6), (0, .ref x0), (1, .int x1)]) hx hb d_B_step_17 rfl hl (by decide) rfl (fun ls hl => ?_)
      refine lv_iload_n hx hb d_B_step_18 rfl (lv_at hl 0 rfl) ?_
      refine lv_if_eq (tgt := 29) hx hb d_B_step_19 (by decide) (fun q7 => ?_) (fun q7 => ?_)
      · have hf := ifp q7 hf
        refine lv_iinc (v := x1 + 1) (lv' := [(1, .int (x1 + 1)), (2, .int v6), (0, .ref x0)]) hx hb d_B_step_29 hl (k := 2) rfl rfl (by decide) rfl (fun ls hl => ?_)
        refine lv_goto (tgt := 2) hx hb d_B_step_32 (by decide) ?_
        exact ih _ _ _ _ hf _ _ _ _ _ hs (lv_sub hl [2, 0] rfl)
      · have hf := ifn q7 hf
        refine lv_bipush (v := 10) hx hb d_B_step_22 (by decide) ?_
        refine lv_iload_n hx hb d_B_step_24 rfl (lv_at hl 2 rfl) ?_
        refine lv_imul hx hb d_B_step_25 ?_
        refine lv_iload_n hx hb d_B_step_26 rfl (lv_at hl 0 rfl) ?_
        refine lv_iadd hx hb d_B_step_27 ?_
        exact r_ireturn C hs hr d_B_step_28 hf
def f_B_step (bs : Nat) (sE : Nat × Nat) (h : HH) (z : Z3) (x0 : Nat) : Option RS :=
  f_B_step_L2 bs sE FU h z x0 0
set_option maxHeartbeats 4000000 in
set_option maxRecDepth 100000 in
theorem c_B_step {G : EN} {l : Launch} (hl0 : l.stackTraces = false) {h : HH} {z : Z3} {x0 : Nat} {r : RS} (hf : f_B_step G.2.2.1 G.2.2.2 h z x0 = some r) : CM G l y_B_step (.code y_B_step b_B_step 3 (some .int)) 11 280 [.ref x0] h z r := by
  refine CM.ofW hl0 rfl ?_
  intro p e s m below meth c C hr hex hin hs
  have hx := C.1
  have hb := C.2.1
  refine x_entry (n := 3) (Nat.le_of_ble_eq_true rfl) (fun ls hl => ?_)
  have hl : lv_has ls 3 [(0, .ref x0)] := hl
  unfold f_B_step at hf
  refine lv_iconst (v := 0) hx hb d_B_step_0 (by decide) ?_
  refine lv_istore_n (lv' := [(1, .int 0), (0, .ref x0)]) hx hb d_B_step_1 rfl hl (by decide) rfl (fun ls hl => ?_)
  exact t_B_step_L2 hl0 C hr hex FU _ _ _ _ hf _ _ _ _ _ hs (lv_sub hl [1, 0] rfl)
def f_B_last (bs : Nat) (sE : Nat × Nat) (h : HH) (z : Z3) (x0 : Nat) : Option RS :=
  (gI h x0 4 5).bind fun v1 =>
  some (.inl (some (.int v1)), h, z)
set_option maxHeartbeats 4000000 in
set_option maxRecDepth 100000 in
theorem c_B_last {G : EN} {l : Launch} (hl0 : l.stackTraces = false) {h : HH} {z : Z3} {x0 : Nat} {r : RS} (hf : f_B_last G.2.2.1 G.2.2.2 h z x0 = some r) : CM G l y_B_last (.code y_B_last b_B_last 1 (some .int)) 0 0 [.ref x0] h z r := by
  refine CM.ofW hl0 rfl ?_
  intro p e s m below meth c C hr hex hin hs
  have hx := C.1
  have hb := C.2.1
  refine x_entry (n := 1) (Nat.le_of_ble_eq_true rfl) (fun ls hl => ?_)
  have hl : lv_has ls 1 [(0, .ref x0)] := hl
  unfold f_B_last at hf
  refine lv_aload_n hx hb d_B_last_0 rfl (lv_at hl 0 rfl) ?_
  refine r_getI C hs fl_B_34 d_B_last_1 hf (fun v1 hf => ?_)
  exact r_ireturn C hs hr d_B_last_4 hf
def f_B_requireRange (bs : Nat) (sE : Nat × Nat) (h : HH) (z : Z3) (x0 : Int32) (x1 : Int32) (x2 : Int32) : Option RS :=
  if x0 < x1 then
    (tO h z "java/lang/IllegalArgumentException")
  else
    (if x0 ≤ x2 then
      (some (.inl none, h, z))
    else
      (tO h z "java/lang/IllegalArgumentException"))
set_option maxHeartbeats 4000000 in
set_option maxRecDepth 100000 in
theorem c_B_requireRange {G : EN} {l : Launch} (hl0 : l.stackTraces = false) {h : HH} {z : Z3} {x0 : Int32} {x1 : Int32} {x2 : Int32} {r : RS} (hf : f_B_requireRange G.2.2.1 G.2.2.2 h z x0 x1 x2 = some r) : CM G l y_B_requireRange (.code y_B_requireRange b_B_requireRange 3 none) 6 90 [.int x0, .int x1, .int x2] h z r := by
  refine CM.ofW hl0 rfl ?_
  intro p e s m below meth c C hr hex hin hs
  have hx := C.1
  have hb := C.2.1
  refine x_entry (n := 3) (Nat.le_of_ble_eq_true rfl) (fun ls hl => ?_)
  have hl : lv_has ls 3 [(0, .int x0), (1, .int x1), (2, .int x2)] := hl
  unfold f_B_requireRange at hf
  refine lv_iload_n hx hb d_B_requireRange_0 rfl (lv_at hl 0 rfl) ?_
  refine lv_iload_n hx hb d_B_requireRange_1 rfl (lv_at hl 1 rfl) ?_
  refine lv_icmp_lt (tgt := 10) hx hb d_B_requireRange_2 (by decide) (fun q1 => ?_) (fun q1 => ?_)
  · have hf := ifp q1 hf
    exact r_throw (text := "a number is out of range") C hs hex hl.1 (th_B_245 : TH "FencedBroker" 241 245 "java/lang/IllegalArgumentException") (tm (i := 385) (by decide +kernel)) ⟨Nat.le_of_ble_eq_true rfl, Nat.le_of_ble_eq_true rfl⟩ d_B_requireRange_10 d_B_requireRange_13 d_B_requireRange_14 d_B_requireRange_16 d_B_requireRange_19 hf
  · have hf := ifn q1 hf
    refine lv_iload_n hx hb d_B_requireRange_5 rfl (lv_at hl 0 rfl) ?_
    refine lv_iload_n hx hb d_B_requireRange_6 rfl (lv_at hl 2 rfl) ?_
    refine lv_icmp_le (tgt := 20) hx hb d_B_requireRange_7 (by decide) (fun q2 => ?_) (fun q2 => ?_)
    · have hf := ifp q2 hf
      exact r_vreturn C hs hr d_B_requireRange_20 hf
    · have hf := ifn q2 hf
      exact r_throw (text := "a number is out of range") C hs hex hl.1 (th_B_245 : TH "FencedBroker" 241 245 "java/lang/IllegalArgumentException") (tm (i := 385) (by decide +kernel)) ⟨Nat.le_of_ble_eq_true rfl, Nat.le_of_ble_eq_true rfl⟩ d_B_requireRange_10 d_B_requireRange_13 d_B_requireRange_14 d_B_requireRange_16 d_B_requireRange_19 hf
def f_B_init (bs : Nat) (sE : Nat × Nat) (h : HH) (z : Z3) (x0 : Nat) (x1 : Int32) : Option RS :=
  cV (f_B_requireRange bs sE h z x1 0 3) fun h1 z2 =>
  (gR h1 x0 4 1).bind fun v4 =>
  (aR h1 v4 5 x1).bind fun v5 =>
  (oK h1 v5 3).bind fun _ =>
  cI (f_P_isEnding bs sE h1 z2 v5) fun v8 h6 z7 =>
  if v8 = 0 then
    ((oK h6 v5 3).bind fun _ =>
    cI (f_P_isOpen bs sE h6 z7 v5) fun v12 h10 z11 =>
    if v12 = 0 then
      ((oK h10 v5 3).bind fun _ =>
      cI (f_P_renew bs sE h10 z11 v5) fun v16 h14 z15 =>
      some (.inl (some (.int v16)), h14, z15))
    else
      ((oK h10 v5 3).bind fun _ =>
      cV (f_P_fence bs sE h10 z11 v5) fun h17 z18 =>
      tO h17 z18 "java/lang/IllegalStateException"))
  else
    (tO h6 z7 "java/lang/IllegalStateException")
set_option maxHeartbeats 4000000 in
set_option maxRecDepth 100000 in
theorem c_B_init {G : EN} {l : Launch} (hl0 : l.stackTraces = false) {h : HH} {z : Z3} {x0 : Nat} {x1 : Int32} {r : RS} (hf : f_B_init G.2.2.1 G.2.2.2 h z x0 x1 = some r) : CM G l y_B_init (.code y_B_init b_B_init 3 (some .int)) 7 112 [.ref x0, .int x1] h z r := by
  refine CM.ofW hl0 rfl ?_
  intro p e s m below meth c C hr hex hin hs
  have hx := C.1
  have hb := C.2.1
  refine x_entry (n := 3) (Nat.le_of_ble_eq_true rfl) (fun ls hl => ?_)
  have hl : lv_has ls 3 [(0, .ref x0), (1, .int x1)] := hl
  unfold f_B_init at hf
  refine lv_iload_n hx hb d_B_init_0 rfl (lv_at hl 1 rfl) ?_
  refine lv_iconst (v := 0) hx hb d_B_init_1 (by decide) ?_
  refine lv_iconst (v := 3) hx hb d_B_init_2 (by decide) ?_
  refine k_V C hs hex hf (fun res e1 => iv_S (As := [.int x1, .int 0, .int 3]) (rest := []) C hs cs_B_42 (c_B_requireRange hl0 e1) rfl hl.1 rfl (Nat.le_of_ble_eq_true rfl) d_B_init_3 ⟨Nat.le_of_ble_eq_true rfl, Nat.le_of_ble_eq_true rfl⟩) (fun h1 z2 H locs cells slots hf hs => ?_)
  refine lv_aload_n hx hb d_B_init_6 rfl (lv_at hl 0 rfl) ?_
  refine r_getR C hs fl_B_17 d_B_init_7 hf (fun v4 hf => ?_)
  refine lv_iload_n hx hb d_B_init_10 rfl (lv_at hl 1 rfl) ?_
  refine r_aald (kd := 5) C hs (by decide) d_B_init_11 hf (fun v5 hf => ?_)
  refine lv_astore_n (lv' := [(2, .ref v5), (0, .ref x0), (1, .int x1)]) hx hb d_B_init_12 rfl hl (by decide) rfl (fun ls hl => ?_)
  refine lv_aload_n hx hb d_B_init_13 rfl (lv_at hl 0 rfl) ?_
  obtain ⟨_, ho, hf⟩ := bd hf
  refine k_I C hs hex hf (fun res e1 => iv_V (b := v5) (As := []) (rest := []) C hs cv_B_46 (c_P_isEnding hl0 e1) (ci := 3) rfl rfl ho rfl hl.1 rfl (Nat.le_of_ble_eq_true rfl) d_B_init_14 ⟨Nat.le_of_ble_eq_true rfl, Nat.le_of_ble_eq_true rfl⟩) (fun v8 h6 z7 H locs cells slots hf hs => ?_)
  refine lv_if_eq (tgt := 30) hx hb d_B_init_17 (by decide) (fun q9 => ?_) (fun q9 => ?_)
  · have hf := ifp q9 hf
    refine lv_aload_n hx hb d_B_init_30 rfl (lv_at hl 0 rfl) ?_
    obtain ⟨_, ho, hf⟩ := bd hf
    refine k_I C hs hex hf (fun res e1 => iv_V (b := v5) (As := []) (rest := []) C hs cv_B_57 (c_P_isOpen hl0 e1) (ci := 3) rfl rfl ho rfl hl.1 rfl (Nat.le_of_ble_eq_true rfl) d_B_init_31 ⟨Nat.le_of_ble_eq_true rfl, Nat.le_of_ble_eq_true rfl⟩) (fun v12 h10 z11 H locs cells slots hf hs => ?_)
    refine lv_if_eq (tgt := 51) hx hb d_B_init_34 (by decide) (fun q13 => ?_) (fun q13 => ?_)
    · have hf := ifp q13 hf
      refine lv_aload_n hx hb d_B_init_51 rfl (lv_at hl 0 rfl) ?_
      obtain ⟨_, ho, hf⟩ := bd hf
      refine k_I C hs hex hf (fun res e1 => iv_V (b := v5) (As := []) (rest := []) C hs cv_B_65 (c_P_renew hl0 e1) (ci := 3) rfl rfl ho rfl hl.1 rfl (Nat.le_of_ble_eq_true rfl) d_B_init_52 ⟨Nat.le_of_ble_eq_true rfl, Nat.le_of_ble_eq_true rfl⟩) (fun v16 h14 z15 H locs cells slots hf hs => ?_)
      exact r_ireturn C hs hr d_B_init_55 hf
    · have hf := ifn q13 hf
      refine lv_aload_n hx hb d_B_init_37 rfl (lv_at hl 0 rfl) ?_
      obtain ⟨_, ho, hf⟩ := bd hf
      refine k_V C hs hex hf (fun res e1 => iv_V (b := v5) (As := []) (rest := []) C hs cv_B_60 (c_P_fence hl0 e1) (ci := 3) rfl rfl ho rfl hl.1 rfl (Nat.le_of_ble_eq_true rfl) d_B_init_38 ⟨Nat.le_of_ble_eq_true rfl, Nat.le_of_ble_eq_true rfl⟩) (fun h17 z18 H locs cells slots hf hs => ?_)
      exact r_throw (text := "the producer's transaction was open and is aborted") C hs hex hl.1 (th_B_54 : TH "FencedBroker" 50 54 "java/lang/IllegalStateException") (tm (i := 436) (by decide +kernel)) ⟨Nat.le_of_ble_eq_true rfl, Nat.le_of_ble_eq_true rfl⟩ d_B_init_41 d_B_init_44 d_B_init_45 d_B_init_47 d_B_init_50 hf
  · have hf := ifn q9 hf
    exact r_throw (text := "the producer's transaction is ending") C hs hex hl.1 (th_B_54 : TH "FencedBroker" 50 54 "java/lang/IllegalStateException") (tm (i := 421) (by decide +kernel)) ⟨Nat.le_of_ble_eq_true rfl, Nat.le_of_ble_eq_true rfl⟩ d_B_init_20 d_B_init_23 d_B_init_24 d_B_init_26 d_B_init_29 hf
def f_B_knownProducer (bs : Nat) (sE : Nat × Nat) (h : HH) (z : Z3) (x0 : Nat) (x1 : Int32) (x2 : Int32) : Option RS :=
  (gR h x0 4 1).bind fun v1 =>
  (aR h v1 5 x1).bind fun v2 =>
  (oK h v2 3).bind fun _ =>
  cI (f_P_isKnown bs sE h z v2) fun v5 h3 z4 =>
  if v5 = 0 then
    (tO h3 z4 "java/util/NoSuchElementException")
  else
    ((gI h3 v2 3 2).bind fun v7 =>
    if v7 = x2 then
      (some (.inl (some (.ref v2)), h3, z4))
    else
      (tO h3 z4 "java/lang/IllegalStateException"))
set_option maxHeartbeats 4000000 in
set_option maxRecDepth 100000 in
theorem c_B_knownProducer {G : EN} {l : Launch} (hl0 : l.stackTraces = false) {h : HH} {z : Z3} {x0 : Nat} {x1 : Int32} {x2 : Int32} {r : RS} (hf : f_B_knownProducer G.2.2.1 G.2.2.2 h z x0 x1 x2 = some r) : CM G l y_B_knownProducer (.code y_B_knownProducer b_B_knownProducer 4 (some (.object "FencedBroker$Producer"))) 6 90 [.ref x0, .int x1, .int x2] h z r := by
  refine CM.ofW hl0 rfl ?_
  intro p e s m below meth c C hr hex hin hs
  have hx := C.1
  have hb := C.2.1
  refine x_entry (n := 4) (Nat.le_of_ble_eq_true rfl) (fun ls hl => ?_)
  have hl : lv_has ls 4 [(0, .ref x0), (1, .int x1), (2, .int x2)] := hl
  unfold f_B_knownProducer at hf
  refine lv_aload_n hx hb d_B_knownProducer_0 rfl (lv_at hl 0 rfl) ?_
  refine r_getR C hs fl_B_17 d_B_knownProducer_1 hf (fun v1 hf => ?_)
  refine lv_iload_n hx hb d_B_knownProducer_4 rfl (lv_at hl 1 rfl) ?_
  refine r_aald (kd := 5) C hs (by decide) d_B_knownProducer_5 hf (fun v2 hf => ?_)
  refine lv_astore_n (lv' := [(3, .ref v2), (0, .ref x0), (1, .int x1), (2, .int x2)]) hx hb d_B_knownProducer_6 rfl hl (by decide) rfl (fun ls hl => ?_)
  refine lv_aload_n hx hb d_B_knownProducer_7 rfl (lv_at hl 0 rfl) ?_
  obtain ⟨_, ho, hf⟩ := bd hf
  refine k_I C hs hex hf (fun res e1 => iv_V (b := v2) (As := []) (rest := []) C hs cv_B_228 (c_P_isKnown hl0 e1) (ci := 3) rfl rfl ho rfl hl.1 rfl (Nat.le_of_ble_eq_true rfl) d_B_knownProducer_8 ⟨Nat.le_of_ble_eq_true rfl, Nat.le_of_ble_eq_true rfl⟩) (fun v5 h3 z4 H locs cells slots hf hs => ?_)
  refine lv_if_ne (tgt := 24) hx hb d_B_knownProducer_11 (by decide) (fun q6 => ?_) (fun q6 => ?_)
  · have hf := ifn q6 hf
    refine lv_aload_n hx hb d_B_knownProducer_24 rfl (lv_at hl 0 rfl) ?_
    refine r_getI C hs fl_B_234 d_B_knownProducer_25 hf (fun v7 hf => ?_)
    refine lv_iload_n hx hb d_B_knownProducer_28 rfl (lv_at hl 3 rfl) ?_
    refine lv_icmp_eq (tgt := 42) hx hb d_B_knownProducer_29 (by decide) (fun q8 => ?_) (fun q8 => ?_)
    · have hf := ifp q8 hf
      refine lv_aload_n hx hb d_B_knownProducer_42 rfl (lv_at hl 0 rfl) ?_
      exact r_areturn C hs hr (Or.inl ⟨_, rfl⟩) d_B_knownProducer_43 hf
    · have hf := ifn q8 hf
      exact r_throw (text := "it is not the producer's age") C hs hex hl.1 (th_B_54 : TH "FencedBroker" 50 54 "java/lang/IllegalStateException") (tm (i := 473) (by decide +kernel)) ⟨Nat.le_of_ble_eq_true rfl, Nat.le_of_ble_eq_true rfl⟩ d_B_knownProducer_32 d_B_knownProducer_35 d_B_knownProducer_36 d_B_knownProducer_38 d_B_knownProducer_41 hf
  · have hf := ifp q6 hf
    exact r_throw (text := "the producer is not known") C hs hex hl.1 (th_B_166 : TH "FencedBroker" 162 166 "java/util/NoSuchElementException") (tm (i := 466) (by decide +kernel)) ⟨Nat.le_of_ble_eq_true rfl, Nat.le_of_ble_eq_true rfl⟩ d_B_knownProducer_14 d_B_knownProducer_17 d_B_knownProducer_18 d_B_knownProducer_20 d_B_knownProducer_23 hf
def f_B_begin (bs : Nat) (sE : Nat × Nat) (h : HH) (z : Z3) (x0 : Nat) (x1 : Int32) (x2 : Int32) : Option RS :=
  cV (f_B_requireRange bs sE h z x1 0 3) fun h1 z2 =>
  (oK h1 x0 4).bind fun _ =>
  cR (f_B_knownProducer bs sE h1 z2 x0 x1 x2) fun v6 h4 z5 =>
  (oK h4 v6 3).bind fun _ =>
  cI (f_P_isIdle bs sE h4 z5 v6) fun v9 h7 z8 =>
  if v9 = 0 then
    (tO h7 z8 "java/lang/IllegalStateException")
  else
    ((gI h7 x0 4 3).bind fun v11 =>
    if v11 < 40 then
      ((gI h7 x0 4 3).bind fun v13 =>
      (pV bs h7 x0 4 3 (.inl (v13 + 1))).bind fun h14 =>
      (gI h14 x0 4 3).bind fun v15 =>
      (gI h14 x0 4 4).bind fun v16 =>
      (oK h14 v6 3).bind fun _ =>
      cV (f_P_open bs sE h14 z8 v6 v15 v16) fun h17 z18 =>
      (gI h17 x0 4 3).bind fun v20 =>
      some (.inl (some (.int v20)), h17, z18))
    else
      (tO h7 z8 "java/lang/IllegalStateException"))
set_option maxHeartbeats 4000000 in
set_option maxRecDepth 100000 in
theorem c_B_begin {G : EN} {l : Launch} (hl0 : l.stackTraces = false) {h : HH} {z : Z3} {x0 : Nat} {x1 : Int32} {x2 : Int32} {r : RS} (hf : f_B_begin G.2.2.1 G.2.2.2 h z x0 x1 x2 = some r) : CM G l y_B_begin (.code y_B_begin b_B_begin 4 (some .int)) 7 113 [.ref x0, .int x1, .int x2] h z r := by
  refine CM.ofW hl0 rfl ?_
  intro p e s m below meth c C hr hex hin hs
  have hx := C.1
  have hb := C.2.1
  refine x_entry (n := 4) (Nat.le_of_ble_eq_true rfl) (fun ls hl => ?_)
  have hl : lv_has ls 4 [(0, .ref x0), (1, .int x1), (2, .int x2)] := hl
  unfold f_B_begin at hf
  refine lv_iload_n hx hb d_B_begin_0 rfl (lv_at hl 1 rfl) ?_
  refine lv_iconst (v := 0) hx hb d_B_begin_1 (by decide) ?_
  refine lv_iconst (v := 3) hx hb d_B_begin_2 (by decide) ?_
  refine k_V C hs hex hf (fun res e1 => iv_S (As := [.int x1, .int 0, .int 3]) (rest := []) C hs cs_B_42 (c_B_requireRange hl0 e1) rfl hl.1 rfl (Nat.le_of_ble_eq_true rfl) d_B_begin_3 ⟨Nat.le_of_ble_eq_true rfl, Nat.le_of_ble_eq_true rfl⟩) (fun h1 z2 H locs cells slots hf hs => ?_)
  refine lv_aload_n hx hb d_B_begin_6 rfl (lv_at hl 0 rfl) ?_
  refine lv_iload_n hx hb d_B_begin_7 rfl (lv_at hl 1 rfl) ?_
  refine lv_iload_n hx hb d_B_begin_8 rfl (lv_at hl 2 rfl) ?_
  obtain ⟨_, ho, hf⟩ := bd hf
  refine k_R C hs hex hf (fun res e1 => iv_V (b := x0) (As := [.int x1, .int x2]) (rest := []) C hs cv_B_69 (c_B_knownProducer hl0 e1) (ci := 4) rfl rfl ho rfl hl.1 rfl (Nat.le_of_ble_eq_true rfl) d_B_begin_9 ⟨Nat.le_of_ble_eq_true rfl, Nat.le_of_ble_eq_true rfl⟩) (fun v6 h4 z5 H locs cells slots hf hs => ?_)
  refine lv_astore_n (lv' := [(3, .ref v6), (0, .ref x0), (1, .int x1), (2, .int x2)]) hx hb d_B_begin_12 rfl hl (by decide) rfl (fun ls hl => ?_)
  refine lv_aload_n hx hb d_B_begin_13 rfl (lv_at hl 0 rfl) ?_
  obtain ⟨_, ho, hf⟩ := bd hf
  refine k_I C hs hex hf (fun res e1 => iv_V (b := v6) (As := []) (rest := []) C hs cv_B_73 (c_P_isIdle hl0 e1) (ci := 3) rfl rfl ho rfl hl.1 rfl (Nat.le_of_ble_eq_true rfl) d_B_begin_14 ⟨Nat.le_of_ble_eq_true rfl, Nat.le_of_ble_eq_true rfl⟩) (fun v9 h7 z8 H locs cells slots hf hs => ?_)
  refine lv_if_ne (tgt := 30) hx hb d_B_begin_17 (by decide) (fun q10 => ?_) (fun q10 => ?_)
  · have hf := ifn q10 hf
    refine lv_aload_n hx hb d_B_begin_30 rfl (lv_at hl 1 rfl) ?_
    refine r_getI C hs fl_B_27 d_B_begin_31 hf (fun v11 hf => ?_)
    refine lv_bipush (v := 40) hx hb d_B_begin_34 (by decide) ?_
    refine lv_icmp_lt (tgt := 49) hx hb d_B_begin_36 (by decide) (fun q12 => ?_) (fun q12 => ?_)
    · have hf := ifp q12 hf
      refine lv_aload_n hx hb d_B_begin_49 rfl (lv_at hl 1 rfl) ?_
      refine lv_dup hx hb d_B_begin_50 rfl ?_
      refine r_getI C hs fl_B_27 d_B_begin_51 hf (fun v13 hf => ?_)
      refine lv_iconst (v := 1) hx hb d_B_begin_54 (by decide) ?_
      refine lv_iadd hx hb d_B_begin_55 ?_
      refine r_putV (v := (.inl (v13 + 1))) C hs flp_B_27 rfl rfl d_B_begin_56 hf (fun h14 H locs hf hs => ?_)
      refine lv_aload_n hx hb d_B_begin_59 rfl (lv_at hl 0 rfl) ?_
      refine lv_aload_n hx hb d_B_begin_60 rfl (lv_at hl 1 rfl) ?_
      refine r_getI C hs fl_B_27 d_B_begin_61 hf (fun v15 hf => ?_)
      refine lv_aload_n hx hb d_B_begin_64 rfl (lv_at hl 1 rfl) ?_
      refine r_getI C hs fl_B_31 d_B_begin_65 hf (fun v16 hf => ?_)
      obtain ⟨_, ho, hf⟩ := bd hf
      refine k_V C hs hex hf (fun res e1 => iv_V (b := v6) (As := [.int v15, .int v16]) (rest := []) C hs cv_B_80 (c_P_open hl0 e1) (ci := 3) rfl rfl ho rfl hl.1 rfl (Nat.le_of_ble_eq_true rfl) d_B_begin_68 ⟨Nat.le_of_ble_eq_true rfl, Nat.le_of_ble_eq_true rfl⟩) (fun h17 z18 H locs cells slots hf hs => ?_)
      refine lv_aload_n hx hb d_B_begin_71 rfl (lv_at hl 1 rfl) ?_
      refine r_getI C hs fl_B_27 d_B_begin_72 hf (fun v20 hf => ?_)
      exact r_ireturn C hs hr d_B_begin_75 hf
    · have hf := ifn q12 hf
      exact r_throw (text := "no more transactions can be begun") C hs hex hl.1 (th_B_54 : TH "FencedBroker" 50 54 "java/lang/IllegalStateException") (tm (i := 479) (by decide +kernel)) ⟨Nat.le_of_ble_eq_true rfl, Nat.le_of_ble_eq_true rfl⟩ d_B_begin_39 d_B_begin_42 d_B_begin_43 d_B_begin_45 d_B_begin_48 hf
  · have hf := ifp q10 hf
    exact r_throw (text := "the producer has a transaction") C hs hex hl.1 (th_B_54 : TH "FencedBroker" 50 54 "java/lang/IllegalStateException") (tm (i := 478) (by decide +kernel)) ⟨Nat.le_of_ble_eq_true rfl, Nat.le_of_ble_eq_true rfl⟩ d_B_begin_20 d_B_begin_23 d_B_begin_24 d_B_begin_26 d_B_begin_29 hf
def f_B_openProducer (bs : Nat) (sE : Nat × Nat) (h : HH) (z : Z3) (x0 : Nat) (x1 : Int32) (x2 : Int32) : Option RS :=
  (oK h x0 4).bind fun _ =>
  cR (f_B_knownProducer bs sE h z x0 x1 x2) fun v3 h1 z2 =>
  (oK h1 v3 3).bind fun _ =>
  cI (f_P_isOpen bs sE h1 z2 v3) fun v6 h4 z5 =>
  if v6 = 0 then
    (tO h4 z5 "java/lang/IllegalStateException")
  else
    (some (.inl (some (.ref v3)), h4, z5))
set_option maxHeartbeats 4000000 in
set_option maxRecDepth 100000 in
theorem c_B_openProducer {G : EN} {l : Launch} (hl0 : l.stackTraces = false) {h : HH} {z : Z3} {x0 : Nat} {x1 : Int32} {x2 : Int32} {r : RS} (hf : f_B_openProducer G.2.2.1 G.2.2.2 h z x0 x1 x2 = some r) : CM G l y_B_openProducer (.code y_B_openProducer b_B_openProducer 4 (some (.object "FencedBroker$Producer"))) 7 113 [.ref x0, .int x1, .int x2] h z r := by
  refine CM.ofW hl0 rfl ?_
  intro p e s m below meth c C hr hex hin hs
  have hx := C.1
  have hb := C.2.1
  refine x_entry (n := 4) (Nat.le_of_ble_eq_true rfl) (fun ls hl => ?_)
  have hl : lv_has ls 4 [(0, .ref x0), (1, .int x1), (2, .int x2)] := hl
  unfold f_B_openProducer at hf
  refine lv_aload_n hx hb d_B_openProducer_0 rfl (lv_at hl 0 rfl) ?_
  refine lv_iload_n hx hb d_B_openProducer_1 rfl (lv_at hl 1 rfl) ?_
  refine lv_iload_n hx hb d_B_openProducer_2 rfl (lv_at hl 2 rfl) ?_
  obtain ⟨_, ho, hf⟩ := bd hf
  refine k_R C hs hex hf (fun res e1 => iv_V (b := x0) (As := [.int x1, .int x2]) (rest := []) C hs cv_B_69 (c_B_knownProducer hl0 e1) (ci := 4) rfl rfl ho rfl hl.1 rfl (Nat.le_of_ble_eq_true rfl) d_B_openProducer_3 ⟨Nat.le_of_ble_eq_true rfl, Nat.le_of_ble_eq_true rfl⟩) (fun v3 h1 z2 H locs cells slots hf hs => ?_)
  refine lv_astore_n (lv' := [(3, .ref v3), (0, .ref x0), (1, .int x1), (2, .int x2)]) hx hb d_B_openProducer_6 rfl hl (by decide) rfl (fun ls hl => ?_)
  refine lv_aload_n hx hb d_B_openProducer_7 rfl (lv_at hl 0 rfl) ?_
  obtain ⟨_, ho, hf⟩ := bd hf
  refine k_I C hs hex hf (fun res e1 => iv_V (b := v3) (As := []) (rest := []) C hs cv_B_57 (c_P_isOpen hl0 e1) (ci := 3) rfl rfl ho rfl hl.1 rfl (Nat.le_of_ble_eq_true rfl) d_B_openProducer_8 ⟨Nat.le_of_ble_eq_true rfl, Nat.le_of_ble_eq_true rfl⟩) (fun v6 h4 z5 H locs cells slots hf hs => ?_)
  refine lv_if_ne (tgt := 24) hx hb d_B_openProducer_11 (by decide) (fun q7 => ?_) (fun q7 => ?_)
  · have hf := ifn q7 hf
    refine lv_aload_n hx hb d_B_openProducer_24 rfl (lv_at hl 0 rfl) ?_
    exact r_areturn C hs hr (Or.inl ⟨_, rfl⟩) d_B_openProducer_25 hf
  · have hf := ifp q7 hf
    exact r_throw (text := "the producer is not open") C hs hex hl.1 (th_B_54 : TH "FencedBroker" 50 54 "java/lang/IllegalStateException") (tm (i := 496) (by decide +kernel)) ⟨Nat.le_of_ble_eq_true rfl, Nat.le_of_ble_eq_true rfl⟩ d_B_openProducer_14 d_B_openProducer_17 d_B_openProducer_18 d_B_openProducer_20 d_B_openProducer_23 hf
def f_B_requireSpace (bs : Nat) (sE : Nat × Nat) (h : HH) (z : Z3) (x0 : Nat) : Option RS :=
  (oK h x0 2).bind fun _ =>
  cI (f_L_isFull bs sE h z x0) fun v3 h1 z2 =>
  if v3 = 0 then
    (some (.inl none, h1, z2))
  else
    (tO h1 z2 "java/lang/IllegalStateException")
set_option maxHeartbeats 4000000 in
set_option maxRecDepth 100000 in
theorem c_B_requireSpace {G : EN} {l : Launch} (hl0 : l.stackTraces = false) {h : HH} {z : Z3} {x0 : Nat} {r : RS} (hf : f_B_requireSpace G.2.2.1 G.2.2.2 h z x0 = some r) : CM G l y_B_requireSpace (.code y_B_requireSpace b_B_requireSpace 1 none) 6 90 [.ref x0] h z r := by
  refine CM.ofW hl0 rfl ?_
  intro p e s m below meth c C hr hex hin hs
  have hx := C.1
  have hb := C.2.1
  refine x_entry (n := 1) (Nat.le_of_ble_eq_true rfl) (fun ls hl => ?_)
  have hl : lv_has ls 1 [(0, .ref x0)] := hl
  unfold f_B_requireSpace at hf
  refine lv_aload_n hx hb d_B_requireSpace_0 rfl (lv_at hl 0 rfl) ?_
  obtain ⟨_, ho, hf⟩ := bd hf
  refine k_I C hs hex hf (fun res e1 => iv_V (b := x0) (As := []) (rest := []) C hs cv_B_246 (c_L_isFull hl0 e1) (ci := 2) rfl rfl ho rfl hl.1 rfl (Nat.le_of_ble_eq_true rfl) d_B_requireSpace_1 ⟨Nat.le_of_ble_eq_true rfl, Nat.le_of_ble_eq_true rfl⟩) (fun v3 h1 z2 H locs cells slots hf hs => ?_)
  refine lv_if_eq (tgt := 17) hx hb d_B_requireSpace_4 (by decide) (fun q4 => ?_) (fun q4 => ?_)
  · have hf := ifp q4 hf
    exact r_vreturn C hs hr d_B_requireSpace_17 hf
  · have hf := ifn q4 hf
    exact r_throw (text := "the log is full") C hs hex hl.1 (th_B_54 : TH "FencedBroker" 50 54 "java/lang/IllegalStateException") (tm (i := 550) (by decide +kernel)) ⟨Nat.le_of_ble_eq_true rfl, Nat.le_of_ble_eq_true rfl⟩ d_B_requireSpace_7 d_B_requireSpace_10 d_B_requireSpace_11 d_B_requireSpace_13 d_B_requireSpace_16 hf
def f_B_sendNew (bs : Nat) (sE : Nat × Nat) (h : HH) (z : Z3) (x0 : Nat) (x1 : Nat) (x2 : Int32) (x3 : Int32) : Option RS :=
  (gI h x0 3 0).bind fun v1 =>
  (gI h x0 3 2).bind fun v2 =>
  (oK h x1 2).bind fun _ =>
  cI (f_L_nextSequence bs sE h z x1 v1 v2) fun v5 h3 z4 =>
  if x2 = v5 then
    (cV (f_B_requireSpace bs sE h3 z4 x1) fun h7 z8 =>
    cR (f_E_ofProducer bs sE h7 z8 x0 x2 x3) fun v12 h10 z11 =>
    (oK h10 x1 2).bind fun _ =>
    cI (f_L_put bs sE h10 z11 x1 v12) fun v15 h13 z14 =>
    some (.inl (some (.int v15)), h13, z14))
  else
    (tO h3 z4 "java/lang/UnsupportedOperationException")
set_option maxHeartbeats 4000000 in
set_option maxRecDepth 100000 in
theorem c_B_sendNew {G : EN} {l : Launch} (hl0 : l.stackTraces = false) {h : HH} {z : Z3} {x0 : Nat} {x1 : Nat} {x2 : Int32} {x3 : Int32} {r : RS} (hf : f_B_sendNew G.2.2.1 G.2.2.2 h z x0 x1 x2 x3 = some r) : CM G l y_B_sendNew (.code y_B_sendNew b_B_sendNew 4 (some .int)) 8 212 [.ref x0, .ref x1, .int x2, .int x3] h z r := by
  refine CM.ofW hl0 rfl ?_
  intro p e s m below meth c C hr hex hin hs
  have hx := C.1
  have hb := C.2.1
  refine x_entry (n := 4) (Nat.le_of_ble_eq_true rfl) (fun ls hl => ?_)
  have hl : lv_has ls 4 [(0, .ref x0), (1, .ref x1), (2, .int x2), (3, .int x3)] := hl
  unfold f_B_sendNew at hf
  refine lv_iload_n hx hb d_B_sendNew_0 rfl (lv_at hl 2 rfl) ?_
  refine lv_aload_n hx hb d_B_sendNew_1 rfl (lv_at hl 1 rfl) ?_
  refine lv_aload_n hx hb d_B_sendNew_2 rfl (lv_at hl 0 rfl) ?_
  refine r_getI C hs fl_B_257 d_B_sendNew_3 hf (fun v1 hf => ?_)
  refine lv_aload_n hx hb d_B_sendNew_6 rfl (lv_at hl 0 rfl) ?_
  refine r_getI C hs fl_B_234 d_B_sendNew_7 hf (fun v2 hf => ?_)
  obtain ⟨_, ho, hf⟩ := bd hf
  refine k_I C hs hex hf (fun res e1 => iv_V (b := x1) (As := [.int v1, .int v2]) (rest := [.int x2]) C hs cv_B_237 (c_L_nextSequence hl0 e1) (ci := 2) rfl rfl ho rfl hl.1 rfl (Nat.le_of_ble_eq_true rfl) d_B_sendNew_10 ⟨Nat.le_of_ble_eq_true rfl, Nat.le_of_ble_eq_true rfl⟩) (fun v5 h3 z4 H locs cells slots hf hs => ?_)
  refine lv_icmp_eq (tgt := 27) hx hb d_B_sendNew_13 (by decide) (fun q6 => ?_) (fun q6 => ?_)
  · have hf := ifp q6 hf
    refine lv_aload_n hx hb d_B_sendNew_27 rfl (lv_at hl 1 rfl) ?_
    refine k_V C hs hex hf (fun res e1 => iv_S (As := [.ref x1]) (rest := []) C hs cs_B_130 (c_B_requireSpace hl0 e1) rfl hl.1 rfl (Nat.le_of_ble_eq_true rfl) d_B_sendNew_28 ⟨Nat.le_of_ble_eq_true rfl, Nat.le_of_ble_eq_true rfl⟩) (fun h7 z8 H locs cells slots hf hs => ?_)
    refine lv_aload_n hx hb d_B_sendNew_31 rfl (lv_at hl 1 rfl) ?_
    refine lv_aload_n hx hb d_B_sendNew_32 rfl (lv_at hl 0 rfl) ?_
    refine lv_iload_n hx hb d_B_sendNew_33 rfl (lv_at hl 2 rfl) ?_
    refine lv_iload_n hx hb d_B_sendNew_34 rfl (lv_at hl 3 rfl) ?_
    refine k_R C hs hex hf (fun res e1 => iv_S (As := [.ref x0, .int x2, .int x3]) (rest := [.ref x1]) C hs cs_B_262 (c_E_ofProducer hl0 e1) rfl hl.1 rfl (Nat.le_of_ble_eq_true rfl) d_B_sendNew_35 ⟨Nat.le_of_ble_eq_true rfl, Nat.le_of_ble_eq_true rfl⟩) (fun v12 h10 z11 H locs cells slots hf hs => ?_)
    obtain ⟨_, ho, hf⟩ := bd hf
    refine k_I C hs hex hf (fun res e1 => iv_V (b := x1) (As := [.ref v12]) (rest := []) C hs cv_B_140 (c_L_put hl0 e1) (ci := 2) rfl rfl ho rfl hl.1 rfl (Nat.le_of_ble_eq_true rfl) d_B_sendNew_38 ⟨Nat.le_of_ble_eq_true rfl, Nat.le_of_ble_eq_true rfl⟩) (fun v15 h13 z14 H locs cells slots hf hs => ?_)
    exact r_ireturn C hs hr d_B_sendNew_41 hf
  · have hf := ifn q6 hf
    exact r_throwW (text := "the sequence is not the next one") C hs hex hl.1 (th_B_112 : TH "FencedBroker" 108 112 "java/lang/UnsupportedOperationException") (tm (i := 536) (by decide +kernel)) ⟨Nat.le_of_ble_eq_true rfl, Nat.le_of_ble_eq_true rfl⟩ d_B_sendNew_16 d_B_sendNew_19 d_B_sendNew_20 d_B_sendNew_23 d_B_sendNew_26 hf
def f_B_send (bs : Nat) (sE : Nat × Nat) (h : HH) (z : Z3) (x0 : Nat) (x1 : Int32) (x2 : Int32) (x3 : Int32) (x4 : Int32) (x5 : Int32) : Option RS :=
  cV (f_B_requireRange bs sE h z x1 0 3) fun h1 z2 =>
  cV (f_B_requireRange bs sE h1 z2 x3 0 3) fun h4 z5 =>
  cV (f_B_requireRange bs sE h4 z5 x4 0 1000) fun h7 z8 =>
  (oK h7 x0 4).bind fun _ =>
  cR (f_B_openProducer bs sE h7 z8 x0 x1 x2) fun v12 h10 z11 =>
  (gR h10 x0 4 0).bind fun v13 =>
  (aR h10 v13 4 x3).bind fun v14 =>
  (oK h10 v14 2).bind fun _ =>
  cI (f_L_recentOffset bs sE h10 z11 v14 x1 x2 x4) fun v17 h15 z16 =>
  if v17 = (-1) then
    (cI (f_B_sendNew bs sE h15 z16 v12 v14 x4 x5) fun v24 h22 z23 =>
    (oK h22 v12 3).bind fun _ =>
    cV (f_P_touch bs sE h22 z23 v12 x3) fun h25 z26 =>
    some (.inl (some (.int v24)), h25, z26))
  else
    ((oK h15 v12 3).bind fun _ =>
    cV (f_P_touch bs sE h15 z16 v12 x3) fun h19 z20 =>
    some (.inl (some (.int v17)), h19, z20))
set_option maxHeartbeats 4000000 in
set_option maxRecDepth 100000 in
theorem c_B_send {G : EN} {l : Launch} (hl0 : l.stackTraces = false) {h : HH} {z : Z3} {x0 : Nat} {x1 : Int32} {x2 : Int32} {x3 : Int32} {x4 : Int32} {x5 : Int32} {r : RS} (hf : f_B_send G.2.2.1 G.2.2.2 h z x0 x1 x2 x3 x4 x5 = some r) : CM G l y_B_send (.code y_B_send b_B_send 9 (some .int)) 9 235 [.ref x0, .int x1, .int x2, .int x3, .int x4, .int x5] h z r := by
  refine CM.ofW hl0 rfl ?_
  intro p e s m below meth c C hr hex hin hs
  have hx := C.1
  have hb := C.2.1
  refine x_entry (n := 9) (Nat.le_of_ble_eq_true rfl) (fun ls hl => ?_)
  have hl : lv_has ls 9 [(0, .ref x0), (1, .int x1), (2, .int x2), (3, .int x3), (4, .int x4), (5, .int x5)] := hl
  unfold f_B_send at hf
  refine lv_iload_n hx hb d_B_send_0 rfl (lv_at hl 1 rfl) ?_
  refine lv_iconst (v := 0) hx hb d_B_send_1 (by decide) ?_
  refine lv_iconst (v := 3) hx hb d_B_send_2 (by decide) ?_
  refine k_V C hs hex hf (fun res e1 => iv_S (As := [.int x1, .int 0, .int 3]) (rest := []) C hs cs_B_42 (c_B_requireRange hl0 e1) rfl hl.1 rfl (Nat.le_of_ble_eq_true rfl) d_B_send_3 ⟨Nat.le_of_ble_eq_true rfl, Nat.le_of_ble_eq_true rfl⟩) (fun h1 z2 H locs cells slots hf hs => ?_)
  refine lv_iload_n hx hb d_B_send_6 rfl (lv_at hl 3 rfl) ?_
  refine lv_iconst (v := 0) hx hb d_B_send_7 (by decide) ?_
  refine lv_iconst (v := 3) hx hb d_B_send_8 (by decide) ?_
  refine k_V C hs hex hf (fun res e1 => iv_S (As := [.int x3, .int 0, .int 3]) (rest := []) C hs cs_B_42 (c_B_requireRange hl0 e1) rfl hl.1 rfl (Nat.le_of_ble_eq_true rfl) d_B_send_9 ⟨Nat.le_of_ble_eq_true rfl, Nat.le_of_ble_eq_true rfl⟩) (fun h4 z5 H locs cells slots hf hs => ?_)
  refine lv_iload hx hb d_B_send_12 (lv_at hl 4 rfl) ?_
  refine lv_iconst (v := 0) hx hb d_B_send_14 (by decide) ?_
  refine lv_sipush (v := 1000) hx hb d_B_send_15 (by decide) ?_
  refine k_V C hs hex hf (fun res e1 => iv_S (As := [.int x4, .int 0, .int 1000]) (rest := []) C hs cs_B_42 (c_B_requireRange hl0 e1) rfl hl.1 rfl (Nat.le_of_ble_eq_true rfl) d_B_send_18 ⟨Nat.le_of_ble_eq_true rfl, Nat.le_of_ble_eq_true rfl⟩) (fun h7 z8 H locs cells slots hf hs => ?_)
  refine lv_aload_n hx hb d_B_send_21 rfl (lv_at hl 0 rfl) ?_
  refine lv_iload_n hx hb d_B_send_22 rfl (lv_at hl 1 rfl) ?_
  refine lv_iload_n hx hb d_B_send_23 rfl (lv_at hl 2 rfl) ?_
  obtain ⟨_, ho, hf⟩ := bd hf
  refine k_R C hs hex hf (fun res e1 => iv_V (b := x0) (As := [.int x1, .int x2]) (rest := []) C hs cv_B_84 (c_B_openProducer hl0 e1) (ci := 4) rfl rfl ho rfl hl.1 rfl (Nat.le_of_ble_eq_true rfl) d_B_send_24 ⟨Nat.le_of_ble_eq_true rfl, Nat.le_of_ble_eq_true rfl⟩) (fun v12 h10 z11 H locs cells slots hf hs => ?_)
  refine lv_astore (lv' := [(6, .ref v12), (0, .ref x0), (1, .int x1), (2, .int x2), (3, .int x3), (4, .int x4), (5, .int x5)]) hx hb d_B_send_27 hl (by decide) rfl (fun ls hl => ?_)
  refine lv_aload_n hx hb d_B_send_29 rfl (lv_at hl 1 rfl) ?_
  refine r_getR C hs fl_B_11 d_B_send_30 hf (fun v13 hf => ?_)
  refine lv_iload_n hx hb d_B_send_33 rfl (lv_at hl 4 rfl) ?_
  refine r_aald (kd := 4) C hs (by decide) d_B_send_34 hf (fun v14 hf => ?_)
  refine lv_astore (lv' := [(7, .ref v14), (6, .ref v12), (0, .ref x0), (1, .int x1), (2, .int x2), (3, .int x3), (4, .int x4), (5, .int x5)]) hx hb d_B_send_35 hl (by decide) rfl (fun ls hl => ?_)
  refine lv_aload hx hb d_B_send_37 (lv_at hl 0 rfl) ?_
  refine lv_iload_n hx hb d_B_send_39 rfl (lv_at hl 3 rfl) ?_
  refine lv_iload_n hx hb d_B_send_40 rfl (lv_at hl 4 rfl) ?_
  refine lv_iload hx hb d_B_send_41 (lv_at hl 6 rfl) ?_
  obtain ⟨_, ho, hf⟩ := bd hf
  refine k_I C hs hex hf (fun res e1 => iv_V (b := v14) (As := [.int x1, .int x2, .int x4]) (rest := []) C hs cv_B_87 (c_L_recentOffset hl0 e1) (ci := 2) rfl rfl ho rfl hl.1 rfl (Nat.le_of_ble_eq_true rfl) d_B_send_43 ⟨Nat.le_of_ble_eq_true rfl, Nat.le_of_ble_eq_true rfl⟩) (fun v17 h15 z16 H locs cells slots hf hs => ?_)
  refine lv_istore (lv' := [(8, .int v17), (7, .ref v14), (6, .ref v12), (0, .ref x0), (1, .int x1), (2, .int x2), (3, .int x3), (4, .int x4), (5, .int x5)]) hx hb d_B_send_46 hl (by decide) rfl (fun ls hl => ?_)
  refine lv_iload hx hb d_B_send_48 (lv_at hl 0 rfl) ?_
  refine lv_iconst (v := (-1)) hx hb d_B_send_50 (by decide) ?_
  refine lv_icmp_ne (tgt := 67) hx hb d_B_send_51 (by decide) (fun q18 => ?_) (fun q18 => ?_)
  · have hf := ifn q18 hf
    refine lv_aload hx hb d_B_send_67 (lv_at hl 2 rfl) ?_
    refine lv_iload_n hx hb d_B_send_69 rfl (lv_at hl 6 rfl) ?_
    obtain ⟨_, ho, hf⟩ := bd hf
    refine k_V C hs hex hf (fun res e1 => iv_V (b := v12) (As := [.int x3]) (rest := []) C hs cv_B_95 (c_P_touch hl0 e1) (ci := 3) rfl rfl ho rfl hl.1 rfl (Nat.le_of_ble_eq_true rfl) d_B_send_70 ⟨Nat.le_of_ble_eq_true rfl, Nat.le_of_ble_eq_true rfl⟩) (fun h19 z20 H locs cells slots hf hs => ?_)
    refine lv_iload hx hb d_B_send_73 (lv_at hl 0 rfl) ?_
    exact r_ireturn C hs hr d_B_send_75 hf
  · have hf := ifp q18 hf
    refine lv_aload hx hb d_B_send_54 (lv_at hl 2 rfl) ?_
    refine lv_aload hx hb d_B_send_56 (lv_at hl 1 rfl) ?_
    refine lv_iload hx hb d_B_send_58 (lv_at hl 7 rfl) ?_
    refine lv_iload hx hb d_B_send_60 (lv_at hl 8 rfl) ?_
    refine k_I C hs hex hf (fun res e1 => iv_S (As := [.ref v12, .ref v14, .int x4, .int x5]) (rest := []) C hs cs_B_91 (c_B_sendNew hl0 e1) rfl hl.1 rfl (Nat.le_of_ble_eq_true rfl) d_B_send_62 ⟨Nat.le_of_ble_eq_true rfl, Nat.le_of_ble_eq_true rfl⟩) (fun v24 h22 z23 H locs cells slots hf hs => ?_)
    refine lv_istore (lv' := [(8, .int v24), (7, .ref v14), (6, .ref v12), (0, .ref x0), (1, .int x1), (2, .int x2), (3, .int x3), (4, .int x4), (5, .int x5)]) hx hb d_B_send_65 hl (by decide) rfl (fun ls hl => ?_)
    refine lv_aload hx hb d_B_send_67 (lv_at hl 2 rfl) ?_
    refine lv_iload_n hx hb d_B_send_69 rfl (lv_at hl 6 rfl) ?_
    obtain ⟨_, ho, hf⟩ := bd hf
    refine k_V C hs hex hf (fun res e1 => iv_V (b := v12) (As := [.int x3]) (rest := []) C hs cv_B_95 (c_P_touch hl0 e1) (ci := 3) rfl rfl ho rfl hl.1 rfl (Nat.le_of_ble_eq_true rfl) d_B_send_70 ⟨Nat.le_of_ble_eq_true rfl, Nat.le_of_ble_eq_true rfl⟩) (fun h25 z26 H locs cells slots hf hs => ?_)
    refine lv_iload hx hb d_B_send_73 (lv_at hl 0 rfl) ?_
    exact r_ireturn C hs hr d_B_send_75 hf
def f_B_pend (bs : Nat) (sE : Nat × Nat) (h : HH) (z : Z3) (x0 : Nat) (x1 : Int32) (x2 : Int32) (x3 : Int32) (x4 : Int32) (x5 : Int32) : Option RS :=
  cV (f_B_requireRange bs sE h z x1 0 3) fun h1 z2 =>
  cV (f_B_requireRange bs sE h1 z2 x3 0 1) fun h4 z5 =>
  cV (f_B_requireRange bs sE h4 z5 x4 0 3) fun h7 z8 =>
  cV (f_B_requireRange bs sE h7 z8 x5 0 600) fun h10 z11 =>
  (oK h10 x0 4).bind fun _ =>
  cR (f_B_openProducer bs sE h10 z11 x0 x1 x2) fun v15 h13 z14 =>
  (oK h13 v15 3).bind fun _ =>
  cI (f_P_putPending bs sE h13 z14 v15 x3 x4 x5) fun v18 h16 z17 =>
  some (.inl (some (.int v18)), h16, z17)
set_option maxHeartbeats 4000000 in
set_option maxRecDepth 100000 in
theorem c_B_pend {G : EN} {l : Launch} (hl0 : l.stackTraces = false) {h : HH} {z : Z3} {x0 : Nat} {x1 : Int32} {x2 : Int32} {x3 : Int32} {x4 : Int32} {x5 : Int32} {r : RS} (hf : f_B_pend G.2.2.1 G.2.2.2 h z x0 x1 x2 x3 x4 x5 = some r) : CM G l y_B_pend (.code y_B_pend b_B_pend 6 (some .int)) 8 136 [.ref x0, .int x1, .int x2, .int x3, .int x4, .int x5] h z r := by
  refine CM.ofW hl0 rfl ?_
  intro p e s m below meth c C hr hex hin hs
  have hx := C.1
  have hb := C.2.1
  refine x_entry (n := 6) (Nat.le_of_ble_eq_true rfl) (fun ls hl => ?_)
  have hl : lv_has ls 6 [(0, .ref x0), (1, .int x1), (2, .int x2), (3, .int x3), (4, .int x4), (5, .int x5)] := hl
  unfold f_B_pend at hf
  refine lv_iload_n hx hb d_B_pend_0 rfl (lv_at hl 1 rfl) ?_
  refine lv_iconst (v := 0) hx hb d_B_pend_1 (by decide) ?_
  refine lv_iconst (v := 3) hx hb d_B_pend_2 (by decide) ?_
  refine k_V C hs hex hf (fun res e1 => iv_S (As := [.int x1, .int 0, .int 3]) (rest := []) C hs cs_B_42 (c_B_requireRange hl0 e1) rfl hl.1 rfl (Nat.le_of_ble_eq_true rfl) d_B_pend_3 ⟨Nat.le_of_ble_eq_true rfl, Nat.le_of_ble_eq_true rfl⟩) (fun h1 z2 H locs cells slots hf hs => ?_)
  refine lv_iload_n hx hb d_B_pend_6 rfl (lv_at hl 3 rfl) ?_
  refine lv_iconst (v := 0) hx hb d_B_pend_7 (by decide) ?_
  refine lv_iconst (v := 1) hx hb d_B_pend_8 (by decide) ?_
  refine k_V C hs hex hf (fun res e1 => iv_S (As := [.int x3, .int 0, .int 1]) (rest := []) C hs cs_B_42 (c_B_requireRange hl0 e1) rfl hl.1 rfl (Nat.le_of_ble_eq_true rfl) d_B_pend_9 ⟨Nat.le_of_ble_eq_true rfl, Nat.le_of_ble_eq_true rfl⟩) (fun h4 z5 H locs cells slots hf hs => ?_)
  refine lv_iload hx hb d_B_pend_12 (lv_at hl 4 rfl) ?_
  refine lv_iconst (v := 0) hx hb d_B_pend_14 (by decide) ?_
  refine lv_iconst (v := 3) hx hb d_B_pend_15 (by decide) ?_
  refine k_V C hs hex hf (fun res e1 => iv_S (As := [.int x4, .int 0, .int 3]) (rest := []) C hs cs_B_42 (c_B_requireRange hl0 e1) rfl hl.1 rfl (Nat.le_of_ble_eq_true rfl) d_B_pend_16 ⟨Nat.le_of_ble_eq_true rfl, Nat.le_of_ble_eq_true rfl⟩) (fun h7 z8 H locs cells slots hf hs => ?_)
  refine lv_iload hx hb d_B_pend_19 (lv_at hl 5 rfl) ?_
  refine lv_iconst (v := 0) hx hb d_B_pend_21 (by decide) ?_
  refine lv_sipush (v := 600) hx hb d_B_pend_22 (by decide) ?_
  refine k_V C hs hex hf (fun res e1 => iv_S (As := [.int x5, .int 0, .int 600]) (rest := []) C hs cs_B_42 (c_B_requireRange hl0 e1) rfl hl.1 rfl (Nat.le_of_ble_eq_true rfl) d_B_pend_25 ⟨Nat.le_of_ble_eq_true rfl, Nat.le_of_ble_eq_true rfl⟩) (fun h10 z11 H locs cells slots hf hs => ?_)
  refine lv_aload_n hx hb d_B_pend_28 rfl (lv_at hl 0 rfl) ?_
  refine lv_iload_n hx hb d_B_pend_29 rfl (lv_at hl 1 rfl) ?_
  refine lv_iload_n hx hb d_B_pend_30 rfl (lv_at hl 2 rfl) ?_
  obtain ⟨_, ho, hf⟩ := bd hf
  refine k_R C hs hex hf (fun res e1 => iv_V (b := x0) (As := [.int x1, .int x2]) (rest := []) C hs cv_B_84 (c_B_openProducer hl0 e1) (ci := 4) rfl rfl ho rfl hl.1 rfl (Nat.le_of_ble_eq_true rfl) d_B_pend_31 ⟨Nat.le_of_ble_eq_true rfl, Nat.le_of_ble_eq_true rfl⟩) (fun v15 h13 z14 H locs cells slots hf hs => ?_)
  refine lv_iload_n hx hb d_B_pend_34 rfl (lv_at hl 3 rfl) ?_
  refine lv_iload hx hb d_B_pend_35 (lv_at hl 4 rfl) ?_
  refine lv_iload hx hb d_B_pend_37 (lv_at hl 5 rfl) ?_
  obtain ⟨_, ho, hf⟩ := bd hf
  refine k_I C hs hex hf (fun res e1 => iv_V (b := v15) (As := [.int x3, .int x4, .int x5]) (rest := []) C hs cv_B_98 (c_P_putPending hl0 e1) (ci := 3) rfl rfl ho rfl hl.1 rfl (Nat.le_of_ble_eq_true rfl) d_B_pend_39 ⟨Nat.le_of_ble_eq_true rfl, Nat.le_of_ble_eq_true rfl⟩) (fun v18 h16 z17 H locs cells slots hf hs => ?_)
  exact r_ireturn C hs hr d_B_pend_42 hf
def fb_B_hasUncopied_L2 (bs : Nat) (sE : Nat × Nat) (REC : HH → Z3 → Nat → Int32 → Int32 → Option RS) (h : HH) (z : Z3) (x0 : Nat) (x1 : Int32) (x2 : Int32) : Option RS :=
  if 4 ≤ x2 then
    ((bz 0).bind fun _ =>
    some (.inl (some (.int 0)), h, z))
  else
    ((gR h x0 4 0).bind fun v2 =>
    (aR h v2 4 x2).bind fun v3 =>
    (oK h v3 2).bind fun _ =>
    cI (f_L_hasUncopied bs sE h z v3 x1) fun v6 h4 z5 =>
    if v6 = 0 then
      (REC h4 z5 x0 x1 (x2 + 1))
    else
      ((bz 1).bind fun _ =>
      some (.inl (some (.int 1)), h4, z5)))
def f_B_hasUncopied_L2 (bs : Nat) (sE : Nat × Nat) : Nat → HH → Z3 → Nat → Int32 → Int32 → Option RS
  | 0 => fun _ _ _ _ _ => none
  | n + 1 => fb_B_hasUncopied_L2 bs sE (f_B_hasUncopied_L2 bs sE n)
set_option maxHeartbeats 4000000 in
set_option maxRecDepth 100000 in
theorem t_B_hasUncopied_L2 {G : EN} {p : Program} {l : Launch} {e : Env} {s : State} {m : MethodId} {args : Array Value} {below : List Frame} {meth : Method} {c : Code} {z0 : Z3} (hl0 : l.stackTraces = false) (C : CX G p l s m meth c b_B_hasUncopied 3 y_B_hasUncopied.cls) (hr : meth.sig.returnType = (some .boolean)) (hex : c.exceptionTable.toList = []) {r : RS} :
    ∀ (n : Nat) (h : HH) (z : Z3) (x0 : Nat) (x1 : Int32) (x2 : Int32), f_B_hasUncopied_L2 G.2.2.1 G.2.2.2 n h z x0 x1 x2 = some r → ∀ (H : Heap) (locs : List Loc) (cells slots : Nat) (ls : Array Slot), ST G (RM 4 87 z0) s h z H locs cells slots → lv_has ls 3 [(0, .ref x0), (1, .int x1), (2, .int x2)] → W p l e (RM 4 87 z0) s m args below meth c H locs cells slots (MX G below s r (RM 4 87 z0).cells (RM 4 87 z0).slots) (F0 m 2 ls []) := by
  have hx := C.1
  have hb := C.2.1
  intro n
  induction n with
  | zero => intro h z x0 x1 x2 hf; exact nomatch (show (none : Option RS) = some r from hf)
  | succ n ih =>
    intro h z x0 x1 x2 hf H locs cells slots ls hs hl
    have hf : fb_B_hasUncopied_L2 G.2.2.1 G.2.2.2 (f_B_hasUncopied_L2 G.2.2.1 G.2.2.2 n) h z x0 x1 x2 = some r := hf
    unfold fb_B_hasUncopied_L2 at hf
    refine lv_iload_n hx hb d_B_hasUncopied_2 rfl (lv_at hl 2 rfl) ?_
    refine lv_iconst (v := 4) hx hb d_B_hasUncopied_3 (by decide) ?_
    refine lv_icmp_ge (tgt := 28) hx hb d_B_hasUncopied_4 (by decide) (fun q1 => ?_) (fun q1 => ?_)
    · have hf := ifp q1 hf
      refine lv_iconst (v := 0) hx hb d_B_hasUncopied_28 (by decide) ?_
      exact r_zreturn C hs hr d_B_hasUncopied_29 hf
    · have hf := ifn q1 hf
      refine lv_aload_n hx hb d_B_hasUncopied_7 rfl (lv_at hl 0 rfl) ?_
      refine r_getR C hs fl_B_11 d_B_hasUncopied_8 hf (fun v2 hf => ?_)
      refine lv_iload_n hx hb d_B_hasUncopied_11 rfl (lv_at hl 2 rfl) ?_
      refine r_aald (kd := 4) C hs (by decide) d_B_hasUncopied_12 hf (fun v3 hf => ?_)
      refine lv_iload_n hx hb d_B_hasUncopied_13 rfl (lv_at hl 1 rfl) ?_
      obtain ⟨_, ho, hf⟩ := bd hf
      refine k_I C hs hex hf (fun res e1 => iv_V (b := v3) (As := [.int x1]) (rest := []) C hs cv_B_266 (c_L_hasUncopied hl0 e1) (ci := 2) rfl rfl ho rfl hl.1 rfl (Nat.le_of_ble_eq_true rfl) d_B_hasUncopied_14 ⟨Nat.le_of_ble_eq_true rfl, Nat.le_of_ble_eq_true rfl⟩) (fun v6 h4 z5 H locs cells slots hf hs => ?_)
      refine lv_if_eq (tgt := 22) hx hb d_B_hasUncopied_17 (by decide) (fun q7 => ?_) (fun q7 => ?_)
      · have hf := ifp q7 hf
        refine lv_iinc (v := x2 + 1) (lv' := [(2, .int (x2 + 1)), (0, .ref x0), (1, .int x1)]) hx hb d_B_hasUncopied_22 hl (k := 2) rfl rfl (by decide) rfl (fun ls hl => ?_)
        refine lv_goto (tgt := 2) hx hb d_B_hasUncopied_25 (by decide) ?_
        exact ih _ _ _ _ _ hf _ _ _ _ _ hs (lv_sub hl [1, 2, 0] rfl)
      · have hf := ifn q7 hf
        refine lv_iconst (v := 1) hx hb d_B_hasUncopied_20 (by decide) ?_
        exact r_zreturn C hs hr d_B_hasUncopied_21 hf
def f_B_hasUncopied (bs : Nat) (sE : Nat × Nat) (h : HH) (z : Z3) (x0 : Nat) (x1 : Int32) : Option RS :=
  f_B_hasUncopied_L2 bs sE FU h z x0 x1 0
set_option maxHeartbeats 4000000 in
set_option maxRecDepth 100000 in
theorem c_B_hasUncopied {G : EN} {l : Launch} (hl0 : l.stackTraces = false) {h : HH} {z : Z3} {x0 : Nat} {x1 : Int32} {r : RS} (hf : f_B_hasUncopied G.2.2.1 G.2.2.2 h z x0 x1 = some r) : CM G l y_B_hasUncopied (.code y_B_hasUncopied b_B_hasUncopied 3 (some .boolean)) 4 87 [.ref x0, .int x1] h z r := by
  refine CM.ofW hl0 rfl ?_
  intro p e s m below meth c C hr hex hin hs
  have hx := C.1
  have hb := C.2.1
  refine x_entry (n := 3) (Nat.le_of_ble_eq_true rfl) (fun ls hl => ?_)
  have hl : lv_has ls 3 [(0, .ref x0), (1, .int x1)] := hl
  unfold f_B_hasUncopied at hf
  refine lv_iconst (v := 0) hx hb d_B_hasUncopied_0 (by decide) ?_
  refine lv_istore_n (lv' := [(2, .int 0), (0, .ref x0), (1, .int x1)]) hx hb d_B_hasUncopied_1 rfl hl (by decide) rfl (fun ls hl => ?_)
  exact t_B_hasUncopied_L2 hl0 C hr hex FU _ _ _ _ _ hf _ _ _ _ _ hs (lv_sub hl [1, 2, 0] rfl)
def f_B_finish (bs : Nat) (sE : Nat × Nat) (h : HH) (z : Z3) (x0 : Nat) (x1 : Int32) (x2 : Int32) (x3 : Int32) : Option RS :=
  cV (f_B_requireRange bs sE h z x1 0 3) fun h1 z2 =>
  (oK h1 x0 4).bind fun _ =>
  cR (f_B_openProducer bs sE h1 z2 x0 x1 x2) fun v6 h4 z5 =>
  if x3 = 0 then
    ((oK h4 v6 3).bind fun _ =>
    cV (f_P_startEnding bs sE h4 z5 v6 x3) fun h8 z9 =>
    (gI h8 v6 3 5).bind fun v11 =>
    cI (f_I_bitCount bs sE h8 z9 v11) fun v14 h12 z13 =>
    some (.inl (some (.int v14)), h12, z13))
  else
    ((gI h4 v6 3 3).bind fun v15 =>
    (oK h4 x0 4).bind fun _ =>
    cI (f_B_hasUncopied bs sE h4 z5 x0 v15) fun v18 h16 z17 =>
    if v18 = 0 then
      ((oK h16 v6 3).bind fun _ =>
      cV (f_P_startEnding bs sE h16 z17 v6 x3) fun h20 z21 =>
      (gI h20 v6 3 5).bind fun v23 =>
      cI (f_I_bitCount bs sE h20 z21 v23) fun v26 h24 z25 =>
      some (.inl (some (.int v26)), h24, z25))
    else
      (tO h16 z17 "java/lang/UnsupportedOperationException"))
set_option maxHeartbeats 4000000 in
set_option maxRecDepth 100000 in
theorem c_B_finish {G : EN} {l : Launch} (hl0 : l.stackTraces = false) {h : HH} {z : Z3} {x0 : Nat} {x1 : Int32} {x2 : Int32} {x3 : Int32} {r : RS} (hf : f_B_finish G.2.2.1 G.2.2.2 h z x0 x1 x2 x3 = some r) : CM G l y_B_finish (.code y_B_finish b_B_finish 5 (some .int)) 8 136 [.ref x0, .int x1, .int x2, .int x3] h z r := by
  refine CM.ofW hl0 rfl ?_
  intro p e s m below meth c C hr hex hin hs
  have hx := C.1
  have hb := C.2.1
  refine x_entry (n := 5) (Nat.le_of_ble_eq_true rfl) (fun ls hl => ?_)
  have hl : lv_has ls 5 [(0, .ref x0), (1, .int x1), (2, .int x2), (3, .int x3)] := hl
  unfold f_B_finish at hf
  refine lv_iload_n hx hb d_B_finish_0 rfl (lv_at hl 1 rfl) ?_
  refine lv_iconst (v := 0) hx hb d_B_finish_1 (by decide) ?_
  refine lv_iconst (v := 3) hx hb d_B_finish_2 (by decide) ?_
  refine k_V C hs hex hf (fun res e1 => iv_S (As := [.int x1, .int 0, .int 3]) (rest := []) C hs cs_B_42 (c_B_requireRange hl0 e1) rfl hl.1 rfl (Nat.le_of_ble_eq_true rfl) d_B_finish_3 ⟨Nat.le_of_ble_eq_true rfl, Nat.le_of_ble_eq_true rfl⟩) (fun h1 z2 H locs cells slots hf hs => ?_)
  refine lv_aload_n hx hb d_B_finish_6 rfl (lv_at hl 0 rfl) ?_
  refine lv_iload_n hx hb d_B_finish_7 rfl (lv_at hl 1 rfl) ?_
  refine lv_iload_n hx hb d_B_finish_8 rfl (lv_at hl 2 rfl) ?_
  obtain ⟨_, ho, hf⟩ := bd hf
  refine k_R C hs hex hf (fun res e1 => iv_V (b := x0) (As := [.int x1, .int x2]) (rest := []) C hs cv_B_84 (c_B_openProducer hl0 e1) (ci := 4) rfl rfl ho rfl hl.1 rfl (Nat.le_of_ble_eq_true rfl) d_B_finish_9 ⟨Nat.le_of_ble_eq_true rfl, Nat.le_of_ble_eq_true rfl⟩) (fun v6 h4 z5 H locs cells slots hf hs => ?_)
  refine lv_astore (lv' := [(4, .ref v6), (0, .ref x0), (1, .int x1), (2, .int x2), (3, .int x3)]) hx hb d_B_finish_12 hl (by decide) rfl (fun ls hl => ?_)
  refine lv_iload_n hx hb d_B_finish_14 rfl (lv_at hl 4 rfl) ?_
  refine lv_if_eq (tgt := 40) hx hb d_B_finish_15 (by decide) (fun q7 => ?_) (fun q7 => ?_)
  · have hf := ifp q7 hf
    refine lv_aload hx hb d_B_finish_40 (lv_at hl 0 rfl) ?_
    refine lv_iload_n hx hb d_B_finish_42 rfl (lv_at hl 4 rfl) ?_
    obtain ⟨_, ho, hf⟩ := bd hf
    refine k_V C hs hex hf (fun res e1 => iv_V (b := v6) (As := [.int x3]) (rest := []) C hs cv_B_113 (c_P_startEnding hl0 e1) (ci := 3) rfl rfl ho rfl hl.1 rfl (Nat.le_of_ble_eq_true rfl) d_B_finish_43 ⟨Nat.le_of_ble_eq_true rfl, Nat.le_of_ble_eq_true rfl⟩) (fun h8 z9 H locs cells slots hf hs => ?_)
    refine lv_aload hx hb d_B_finish_46 (lv_at hl 0 rfl) ?_
    refine r_getI C hs fl_B_117 d_B_finish_48 hf (fun v11 hf => ?_)
    refine k_I C hs hex hf (fun res e1 => iv_S (As := [.int v11]) (rest := []) C hs cs_B_120 (c_I_bitCount hl0 e1) rfl hl.1 rfl (Nat.le_of_ble_eq_true rfl) d_B_finish_51 ⟨Nat.le_of_ble_eq_true rfl, Nat.le_of_ble_eq_true rfl⟩) (fun v14 h12 z13 H locs cells slots hf hs => ?_)
    exact r_ireturn C hs hr d_B_finish_54 hf
  · have hf := ifn q7 hf
    refine lv_aload_n hx hb d_B_finish_18 rfl (lv_at hl 1 rfl) ?_
    refine lv_aload hx hb d_B_finish_19 (lv_at hl 0 rfl) ?_
    refine r_getI C hs fl_B_101 d_B_finish_21 hf (fun v15 hf => ?_)
    obtain ⟨_, ho, hf⟩ := bd hf
    refine k_I C hs hex hf (fun res e1 => iv_V (b := x0) (As := [.int v15]) (rest := []) C hs cv_B_104 (c_B_hasUncopied hl0 e1) (ci := 4) rfl rfl ho rfl hl.1 rfl (Nat.le_of_ble_eq_true rfl) d_B_finish_24 ⟨Nat.le_of_ble_eq_true rfl, Nat.le_of_ble_eq_true rfl⟩) (fun v18 h16 z17 H locs cells slots hf hs => ?_)
    refine lv_if_eq (tgt := 40) hx hb d_B_finish_27 (by decide) (fun q19 => ?_) (fun q19 => ?_)
    · have hf := ifp q19 hf
      refine lv_aload hx hb d_B_finish_40 (lv_at hl 0 rfl) ?_
      refine lv_iload_n hx hb d_B_finish_42 rfl (lv_at hl 4 rfl) ?_
      obtain ⟨_, ho, hf⟩ := bd hf
      refine k_V C hs hex hf (fun res e1 => iv_V (b := v6) (As := [.int x3]) (rest := []) C hs cv_B_113 (c_P_startEnding hl0 e1) (ci := 3) rfl rfl ho rfl hl.1 rfl (Nat.le_of_ble_eq_true rfl) d_B_finish_43 ⟨Nat.le_of_ble_eq_true rfl, Nat.le_of_ble_eq_true rfl⟩) (fun h20 z21 H locs cells slots hf hs => ?_)
      refine lv_aload hx hb d_B_finish_46 (lv_at hl 0 rfl) ?_
      refine r_getI C hs fl_B_117 d_B_finish_48 hf (fun v23 hf => ?_)
      refine k_I C hs hex hf (fun res e1 => iv_S (As := [.int v23]) (rest := []) C hs cs_B_120 (c_I_bitCount hl0 e1) rfl hl.1 rfl (Nat.le_of_ble_eq_true rfl) d_B_finish_51 ⟨Nat.le_of_ble_eq_true rfl, Nat.le_of_ble_eq_true rfl⟩) (fun v26 h24 z25 H locs cells slots hf hs => ?_)
      exact r_ireturn C hs hr d_B_finish_54 hf
    · have hf := ifn q19 hf
      exact r_throw (text := "data of the transaction is on one disk only") C hs hex hl.1 (th_B_112 : TH "FencedBroker" 108 112 "java/lang/UnsupportedOperationException") (tm (i := 589) (by decide +kernel)) ⟨Nat.le_of_ble_eq_true rfl, Nat.le_of_ble_eq_true rfl⟩ d_B_finish_30 d_B_finish_33 d_B_finish_34 d_B_finish_36 d_B_finish_39 hf
def f_B_plain (bs : Nat) (sE : Nat × Nat) (h : HH) (z : Z3) (x0 : Nat) (x1 : Int32) (x2 : Int32) : Option RS :=
  cV (f_B_requireRange bs sE h z x1 0 3) fun h1 z2 =>
  (gR h1 x0 4 0).bind fun v4 =>
  (aR h1 v4 4 x1).bind fun v5 =>
  cV (f_B_requireSpace bs sE h1 z2 v5) fun h6 z7 =>
  cR (f_E_ofPlain bs sE h6 z7 x2) fun v11 h9 z10 =>
  (oK h9 v5 2).bind fun _ =>
  cI (f_L_put bs sE h9 z10 v5 v11) fun v14 h12 z13 =>
  some (.inl (some (.int v14)), h12, z13)
set_option maxHeartbeats 4000000 in
set_option maxRecDepth 100000 in
theorem c_B_plain {G : EN} {l : Launch} (hl0 : l.stackTraces = false) {h : HH} {z : Z3} {x0 : Nat} {x1 : Int32} {x2 : Int32} {r : RS} (hf : f_B_plain G.2.2.1 G.2.2.2 h z x0 x1 x2 = some r) : CM G l y_B_plain (.code y_B_plain b_B_plain 4 (some .int)) 8 212 [.ref x0, .int x1, .int x2] h z r := by
  refine CM.ofW hl0 rfl ?_
  intro p e s m below meth c C hr hex hin hs
  have hx := C.1
  have hb := C.2.1
  refine x_entry (n := 4) (Nat.le_of_ble_eq_true rfl) (fun ls hl => ?_)
  have hl : lv_has ls 4 [(0, .ref x0), (1, .int x1), (2, .int x2)] := hl
  unfold f_B_plain at hf
  refine lv_iload_n hx hb d_B_plain_0 rfl (lv_at hl 1 rfl) ?_
  refine lv_iconst (v := 0) hx hb d_B_plain_1 (by decide) ?_
  refine lv_iconst (v := 3) hx hb d_B_plain_2 (by decide) ?_
  refine k_V C hs hex hf (fun res e1 => iv_S (As := [.int x1, .int 0, .int 3]) (rest := []) C hs cs_B_42 (c_B_requireRange hl0 e1) rfl hl.1 rfl (Nat.le_of_ble_eq_true rfl) d_B_plain_3 ⟨Nat.le_of_ble_eq_true rfl, Nat.le_of_ble_eq_true rfl⟩) (fun h1 z2 H locs cells slots hf hs => ?_)
  refine lv_aload_n hx hb d_B_plain_6 rfl (lv_at hl 0 rfl) ?_
  refine r_getR C hs fl_B_11 d_B_plain_7 hf (fun v4 hf => ?_)
  refine lv_iload_n hx hb d_B_plain_10 rfl (lv_at hl 1 rfl) ?_
  refine r_aald (kd := 4) C hs (by decide) d_B_plain_11 hf (fun v5 hf => ?_)
  refine lv_astore_n (lv' := [(3, .ref v5), (0, .ref x0), (1, .int x1), (2, .int x2)]) hx hb d_B_plain_12 rfl hl (by decide) rfl (fun ls hl => ?_)
  refine lv_aload_n hx hb d_B_plain_13 rfl (lv_at hl 0 rfl) ?_
  refine k_V C hs hex hf (fun res e1 => iv_S (As := [.ref v5]) (rest := []) C hs cs_B_130 (c_B_requireSpace hl0 e1) rfl hl.1 rfl (Nat.le_of_ble_eq_true rfl) d_B_plain_14 ⟨Nat.le_of_ble_eq_true rfl, Nat.le_of_ble_eq_true rfl⟩) (fun h6 z7 H locs cells slots hf hs => ?_)
  refine lv_aload_n hx hb d_B_plain_17 rfl (lv_at hl 0 rfl) ?_
  refine lv_iload_n hx hb d_B_plain_18 rfl (lv_at hl 3 rfl) ?_
  refine k_R C hs hex hf (fun res e1 => iv_S (As := [.int x2]) (rest := [.ref v5]) C hs cs_B_134 (c_E_ofPlain hl0 e1) rfl hl.1 rfl (Nat.le_of_ble_eq_true rfl) d_B_plain_19 ⟨Nat.le_of_ble_eq_true rfl, Nat.le_of_ble_eq_true rfl⟩) (fun v11 h9 z10 H locs cells slots hf hs => ?_)
  obtain ⟨_, ho, hf⟩ := bd hf
  refine k_I C hs hex hf (fun res e1 => iv_V (b := v5) (As := [.ref v11]) (rest := []) C hs cv_B_140 (c_L_put hl0 e1) (ci := 2) rfl rfl ho rfl hl.1 rfl (Nat.le_of_ble_eq_true rfl) d_B_plain_22 ⟨Nat.le_of_ble_eq_true rfl, Nat.le_of_ble_eq_true rfl⟩) (fun v14 h12 z13 H locs cells slots hf hs => ?_)
  exact r_ireturn C hs hr d_B_plain_25 hf
def f_B_copy (bs : Nat) (sE : Nat × Nat) (h : HH) (z : Z3) (x0 : Nat) (x1 : Int32) (x2 : Int32) : Option RS :=
  cV (f_B_requireRange bs sE h z x1 0 3) fun h1 z2 =>
  cV (f_B_requireRange bs sE h1 z2 x2 1 40) fun h4 z5 =>
  (gR h4 x0 4 0).bind fun v7 =>
  (aR h4 v7 4 x1).bind fun v8 =>
  (oK h4 v8 2).bind fun _ =>
  cI (f_L_raiseHigh bs sE h4 z5 v8 x2) fun v11 h9 z10 =>
  some (.inl (some (.int v11)), h9, z10)
set_option maxHeartbeats 4000000 in
set_option maxRecDepth 100000 in
theorem c_B_copy {G : EN} {l : Launch} (hl0 : l.stackTraces = false) {h : HH} {z : Z3} {x0 : Nat} {x1 : Int32} {x2 : Int32} {r : RS} (hf : f_B_copy G.2.2.1 G.2.2.2 h z x0 x1 x2 = some r) : CM G l y_B_copy (.code y_B_copy b_B_copy 3 (some .int)) 7 112 [.ref x0, .int x1, .int x2] h z r := by
  refine CM.ofW hl0 rfl ?_
  intro p e s m below meth c C hr hex hin hs
  have hx := C.1
  have hb := C.2.1
  refine x_entry (n := 3) (Nat.le_of_ble_eq_true rfl) (fun ls hl => ?_)
  have hl : lv_has ls 3 [(0, .ref x0), (1, .int x1), (2, .int x2)] := hl
  unfold f_B_copy at hf
  refine lv_iload_n hx hb d_B_copy_0 rfl (lv_at hl 1 rfl) ?_
  refine lv_iconst (v := 0) hx hb d_B_copy_1 (by decide) ?_
  refine lv_iconst (v := 3) hx hb d_B_copy_2 (by decide) ?_
  refine k_V C hs hex hf (fun res e1 => iv_S (As := [.int x1, .int 0, .int 3]) (rest := []) C hs cs_B_42 (c_B_requireRange hl0 e1) rfl hl.1 rfl (Nat.le_of_ble_eq_true rfl) d_B_copy_3 ⟨Nat.le_of_ble_eq_true rfl, Nat.le_of_ble_eq_true rfl⟩) (fun h1 z2 H locs cells slots hf hs => ?_)
  refine lv_iload_n hx hb d_B_copy_6 rfl (lv_at hl 2 rfl) ?_
  refine lv_iconst (v := 1) hx hb d_B_copy_7 (by decide) ?_
  refine lv_bipush (v := 40) hx hb d_B_copy_8 (by decide) ?_
  refine k_V C hs hex hf (fun res e1 => iv_S (As := [.int x2, .int 1, .int 40]) (rest := []) C hs cs_B_42 (c_B_requireRange hl0 e1) rfl hl.1 rfl (Nat.le_of_ble_eq_true rfl) d_B_copy_10 ⟨Nat.le_of_ble_eq_true rfl, Nat.le_of_ble_eq_true rfl⟩) (fun h4 z5 H locs cells slots hf hs => ?_)
  refine lv_aload_n hx hb d_B_copy_13 rfl (lv_at hl 0 rfl) ?_
  refine r_getR C hs fl_B_11 d_B_copy_14 hf (fun v7 hf => ?_)
  refine lv_iload_n hx hb d_B_copy_17 rfl (lv_at hl 1 rfl) ?_
  refine r_aald (kd := 4) C hs (by decide) d_B_copy_18 hf (fun v8 hf => ?_)
  refine lv_iload_n hx hb d_B_copy_19 rfl (lv_at hl 2 rfl) ?_
  obtain ⟨_, ho, hf⟩ := bd hf
  refine k_I C hs hex hf (fun res e1 => iv_V (b := v8) (As := [.int x2]) (rest := []) C hs cv_B_144 (c_L_raiseHigh hl0 e1) (ci := 2) rfl rfl ho rfl hl.1 rfl (Nat.le_of_ble_eq_true rfl) d_B_copy_20 ⟨Nat.le_of_ble_eq_true rfl, Nat.le_of_ble_eq_true rfl⟩) (fun v11 h9 z10 H locs cells slots hf hs => ?_)
  exact r_ireturn C hs hr d_B_copy_23 hf
def f_B_lose (bs : Nat) (sE : Nat × Nat) (h : HH) (z : Z3) (x0 : Nat) (x1 : Int32) : Option RS :=
  cV (f_B_requireRange bs sE h z x1 0 3) fun h1 z2 =>
  (gR h1 x0 4 0).bind fun v4 =>
  (aR h1 v4 4 x1).bind fun v5 =>
  (oK h1 v5 2).bind fun _ =>
  cI (f_L_dropUncopied bs sE h1 z2 v5) fun v8 h6 z7 =>
  some (.inl (some (.int v8)), h6, z7)
set_option maxHeartbeats 4000000 in
set_option maxRecDepth 100000 in
theorem c_B_lose {G : EN} {l : Launch} (hl0 : l.stackTraces = false) {h : HH} {z : Z3} {x0 : Nat} {x1 : Int32} {r : RS} (hf : f_B_lose G.2.2.1 G.2.2.2 h z x0 x1 = some r) : CM G l y_B_lose (.code y_B_lose b_B_lose 2 (some .int)) 7 112 [.ref x0, .int x1] h z r := by
  refine CM.ofW hl0 rfl ?_
  intro p e s m below meth c C hr hex hin hs
  have hx := C.1
  have hb := C.2.1
  refine x_entry (n := 2) (Nat.le_of_ble_eq_true rfl) (fun ls hl => ?_)
  have hl : lv_has ls 2 [(0, .ref x0), (1, .int x1)] := hl
  unfold f_B_lose at hf
  refine lv_iload_n hx hb d_B_lose_0 rfl (lv_at hl 1 rfl) ?_
  refine lv_iconst (v := 0) hx hb d_B_lose_1 (by decide) ?_
  refine lv_iconst (v := 3) hx hb d_B_lose_2 (by decide) ?_
  refine k_V C hs hex hf (fun res e1 => iv_S (As := [.int x1, .int 0, .int 3]) (rest := []) C hs cs_B_42 (c_B_requireRange hl0 e1) rfl hl.1 rfl (Nat.le_of_ble_eq_true rfl) d_B_lose_3 ⟨Nat.le_of_ble_eq_true rfl, Nat.le_of_ble_eq_true rfl⟩) (fun h1 z2 H locs cells slots hf hs => ?_)
  refine lv_aload_n hx hb d_B_lose_6 rfl (lv_at hl 0 rfl) ?_
  refine r_getR C hs fl_B_11 d_B_lose_7 hf (fun v4 hf => ?_)
  refine lv_iload_n hx hb d_B_lose_10 rfl (lv_at hl 1 rfl) ?_
  refine r_aald (kd := 4) C hs (by decide) d_B_lose_11 hf (fun v5 hf => ?_)
  obtain ⟨_, ho, hf⟩ := bd hf
  refine k_I C hs hex hf (fun res e1 => iv_V (b := v5) (As := []) (rest := []) C hs cv_B_147 (c_L_dropUncopied hl0 e1) (ci := 2) rfl rfl ho rfl hl.1 rfl (Nat.le_of_ble_eq_true rfl) d_B_lose_12 ⟨Nat.le_of_ble_eq_true rfl, Nat.le_of_ble_eq_true rfl⟩) (fun v8 h6 z7 H locs cells slots hf hs => ?_)
  exact r_ireturn C hs hr d_B_lose_15 hf
def f_B_fetch (bs : Nat) (sE : Nat × Nat) (h : HH) (z : Z3) (x0 : Nat) (x1 : Int32) (x2 : Int32) (x3 : Int32) : Option RS :=
  cV (f_B_requireRange bs sE h z x1 0 3) fun h1 z2 =>
  cV (f_B_requireRange bs sE h1 z2 x2 0 600) fun h4 z5 =>
  (gR h4 x0 4 0).bind fun v7 =>
  (aR h4 v7 4 x1).bind fun v8 =>
  (gI h4 v8 2 2).bind fun v9 =>
  if v9 ≤ x2 then
    ((oK h4 v8 2).bind fun _ =>
    cI (f_L_firstReadable bs sE h4 z5 v8 x2 x3) fun v13 h11 z12 =>
    if v13 = (-1) then
      (tO h11 z12 "java/util/NoSuchElementException")
    else
      ((oK h11 v8 2).bind fun _ =>
      cI (f_L_valueAt bs sE h11 z12 v8 v13) fun v17 h15 z16 =>
      (pV bs h15 x0 4 5 (.inl v17)).bind fun h18 =>
      some (.inl (some (.int v13)), h18, z16)))
  else
    (tO h4 z5 "java/lang/IndexOutOfBoundsException")
set_option maxHeartbeats 4000000 in
set_option maxRecDepth 100000 in
theorem c_B_fetch {G : EN} {l : Launch} (hl0 : l.stackTraces = false) {h : HH} {z : Z3} {x0 : Nat} {x1 : Int32} {x2 : Int32} {x3 : Int32} {r : RS} (hf : f_B_fetch G.2.2.1 G.2.2.2 h z x0 x1 x2 x3 = some r) : CM G l y_B_fetch (.code y_B_fetch b_B_fetch 6 (some .int)) 7 112 [.ref x0, .int x1, .int x2, .int x3] h z r := by
  refine CM.ofW hl0 rfl ?_
  intro p e s m below meth c C hr hex hin hs
  have hx := C.1
  have hb := C.2.1
  refine x_entry (n := 6) (Nat.le_of_ble_eq_true rfl) (fun ls hl => ?_)
  have hl : lv_has ls 6 [(0, .ref x0), (1, .int x1), (2, .int x2), (3, .int x3)] := hl
  unfold f_B_fetch at hf
  refine lv_iload_n hx hb d_B_fetch_0 rfl (lv_at hl 1 rfl) ?_
  refine lv_iconst (v := 0) hx hb d_B_fetch_1 (by decide) ?_
  refine lv_iconst (v := 3) hx hb d_B_fetch_2 (by decide) ?_
  refine k_V C hs hex hf (fun res e1 => iv_S (As := [.int x1, .int 0, .int 3]) (rest := []) C hs cs_B_42 (c_B_requireRange hl0 e1) rfl hl.1 rfl (Nat.le_of_ble_eq_true rfl) d_B_fetch_3 ⟨Nat.le_of_ble_eq_true rfl, Nat.le_of_ble_eq_true rfl⟩) (fun h1 z2 H locs cells slots hf hs => ?_)
  refine lv_iload_n hx hb d_B_fetch_6 rfl (lv_at hl 2 rfl) ?_
  refine lv_iconst (v := 0) hx hb d_B_fetch_7 (by decide) ?_
  refine lv_sipush (v := 600) hx hb d_B_fetch_8 (by decide) ?_
  refine k_V C hs hex hf (fun res e1 => iv_S (As := [.int x2, .int 0, .int 600]) (rest := []) C hs cs_B_42 (c_B_requireRange hl0 e1) rfl hl.1 rfl (Nat.le_of_ble_eq_true rfl) d_B_fetch_11 ⟨Nat.le_of_ble_eq_true rfl, Nat.le_of_ble_eq_true rfl⟩) (fun h4 z5 H locs cells slots hf hs => ?_)
  refine lv_aload_n hx hb d_B_fetch_14 rfl (lv_at hl 0 rfl) ?_
  refine r_getR C hs fl_B_11 d_B_fetch_15 hf (fun v7 hf => ?_)
  refine lv_iload_n hx hb d_B_fetch_18 rfl (lv_at hl 1 rfl) ?_
  refine r_aald (kd := 4) C hs (by decide) d_B_fetch_19 hf (fun v8 hf => ?_)
  refine lv_astore (lv' := [(4, .ref v8), (0, .ref x0), (1, .int x1), (2, .int x2), (3, .int x3)]) hx hb d_B_fetch_20 hl (by decide) rfl (fun ls hl => ?_)
  refine lv_iload_n hx hb d_B_fetch_22 rfl (lv_at hl 3 rfl) ?_
  refine lv_aload hx hb d_B_fetch_23 (lv_at hl 0 rfl) ?_
  refine r_getI C hs fl_B_150 d_B_fetch_25 hf (fun v9 hf => ?_)
  refine lv_icmp_ge (tgt := 41) hx hb d_B_fetch_28 (by decide) (fun q10 => ?_) (fun q10 => ?_)
  · have hf := ifp q10 hf
    refine lv_aload hx hb d_B_fetch_41 (lv_at hl 0 rfl) ?_
    refine lv_iload_n hx hb d_B_fetch_43 rfl (lv_at hl 3 rfl) ?_
    refine lv_iload_n hx hb d_B_fetch_44 rfl (lv_at hl 4 rfl) ?_
    obtain ⟨_, ho, hf⟩ := bd hf
    refine k_I C hs hex hf (fun res e1 => iv_V (b := v8) (As := [.int x2, .int x3]) (rest := []) C hs cv_B_158 (c_L_firstReadable hl0 e1) (ci := 2) rfl rfl ho rfl hl.1 rfl (Nat.le_of_ble_eq_true rfl) d_B_fetch_45 ⟨Nat.le_of_ble_eq_true rfl, Nat.le_of_ble_eq_true rfl⟩) (fun v13 h11 z12 H locs cells slots hf hs => ?_)
    refine lv_istore (lv' := [(5, .int v13), (4, .ref v8), (0, .ref x0), (1, .int x1), (2, .int x2), (3, .int x3)]) hx hb d_B_fetch_48 hl (by decide) rfl (fun ls hl => ?_)
    refine lv_iload hx hb d_B_fetch_50 (lv_at hl 0 rfl) ?_
    refine lv_iconst (v := (-1)) hx hb d_B_fetch_52 (by decide) ?_
    refine lv_icmp_ne (tgt := 66) hx hb d_B_fetch_53 (by decide) (fun q14 => ?_) (fun q14 => ?_)
    · have hf := ifn q14 hf
      refine lv_aload_n hx hb d_B_fetch_66 rfl (lv_at hl 2 rfl) ?_
      refine lv_aload hx hb d_B_fetch_67 (lv_at hl 1 rfl) ?_
      refine lv_iload hx hb d_B_fetch_69 (lv_at hl 0 rfl) ?_
      obtain ⟨_, ho, hf⟩ := bd hf
      refine k_I C hs hex hf (fun res e1 => iv_V (b := v8) (As := [.int v13]) (rest := [.ref x0]) C hs cv_B_167 (c_L_valueAt hl0 e1) (ci := 2) rfl rfl ho rfl hl.1 rfl (Nat.le_of_ble_eq_true rfl) d_B_fetch_71 ⟨Nat.le_of_ble_eq_true rfl, Nat.le_of_ble_eq_true rfl⟩) (fun v17 h15 z16 H locs cells slots hf hs => ?_)
      refine r_putV (v := (.inl v17)) C hs flp_B_34 rfl rfl d_B_fetch_74 hf (fun h18 H locs hf hs => ?_)
      refine lv_iload hx hb d_B_fetch_77 (lv_at hl 0 rfl) ?_
      exact r_ireturn C hs hr d_B_fetch_79 hf
    · have hf := ifp q14 hf
      exact r_throw (text := "nothing to read from there on") C hs hex hl.1 (th_B_166 : TH "FencedBroker" 162 166 "java/util/NoSuchElementException") (tm (i := 683) (by decide +kernel)) ⟨Nat.le_of_ble_eq_true rfl, Nat.le_of_ble_eq_true rfl⟩ d_B_fetch_56 d_B_fetch_59 d_B_fetch_60 d_B_fetch_62 d_B_fetch_65 hf
  · have hf := ifn q10 hf
    exact r_throw (text := "the offset is below the start") C hs hex hl.1 (th_B_157 : TH "FencedBroker" 153 157 "java/lang/IndexOutOfBoundsException") (tm (i := 659) (by decide +kernel)) ⟨Nat.le_of_ble_eq_true rfl, Nat.le_of_ble_eq_true rfl⟩ d_B_fetch_31 d_B_fetch_34 d_B_fetch_35 d_B_fetch_37 d_B_fetch_40 hf
def f_B_trim (bs : Nat) (sE : Nat × Nat) (h : HH) (z : Z3) (x0 : Nat) (x1 : Int32) (x2 : Int32) : Option RS :=
  cV (f_B_requireRange bs sE h z x1 0 3) fun h1 z2 =>
  cV (f_B_requireRange bs sE h1 z2 x2 0 600) fun h4 z5 =>
  (gR h4 x0 4 0).bind fun v7 =>
  (aR h4 v7 4 x1).bind fun v8 =>
  (gI h4 v8 2 2).bind fun v9 =>
  if x2 < v9 then
    (tO h4 z5 "java/lang/IndexOutOfBoundsException")
  else
    ((oK h4 v8 2).bind fun _ =>
    cI (f_L_stableOffset bs sE h4 z5 v8) fun v13 h11 z12 =>
    if x2 ≤ v13 then
      ((gI h11 v8 2 2).bind fun v15 =>
      (pV bs h11 v8 2 2 (.inl x2)).bind fun h16 =>
      some (.inl (some (.int (x2 - v15))), h16, z12))
    else
      (tO h11 z12 "java/lang/IndexOutOfBoundsException"))
set_option maxHeartbeats 4000000 in
set_option maxRecDepth 100000 in
theorem c_B_trim {G : EN} {l : Launch} (hl0 : l.stackTraces = false) {h : HH} {z : Z3} {x0 : Nat} {x1 : Int32} {x2 : Int32} {r : RS} (hf : f_B_trim G.2.2.1 G.2.2.2 h z x0 x1 x2 = some r) : CM G l y_B_trim (.code y_B_trim b_B_trim 5 (some .int)) 7 112 [.ref x0, .int x1, .int x2] h z r := by
  refine CM.ofW hl0 rfl ?_
  intro p e s m below meth c C hr hex hin hs
  have hx := C.1
  have hb := C.2.1
  refine x_entry (n := 5) (Nat.le_of_ble_eq_true rfl) (fun ls hl => ?_)
  have hl : lv_has ls 5 [(0, .ref x0), (1, .int x1), (2, .int x2)] := hl
  unfold f_B_trim at hf
  refine lv_iload_n hx hb d_B_trim_0 rfl (lv_at hl 1 rfl) ?_
  refine lv_iconst (v := 0) hx hb d_B_trim_1 (by decide) ?_
  refine lv_iconst (v := 3) hx hb d_B_trim_2 (by decide) ?_
  refine k_V C hs hex hf (fun res e1 => iv_S (As := [.int x1, .int 0, .int 3]) (rest := []) C hs cs_B_42 (c_B_requireRange hl0 e1) rfl hl.1 rfl (Nat.le_of_ble_eq_true rfl) d_B_trim_3 ⟨Nat.le_of_ble_eq_true rfl, Nat.le_of_ble_eq_true rfl⟩) (fun h1 z2 H locs cells slots hf hs => ?_)
  refine lv_iload_n hx hb d_B_trim_6 rfl (lv_at hl 2 rfl) ?_
  refine lv_iconst (v := 0) hx hb d_B_trim_7 (by decide) ?_
  refine lv_sipush (v := 600) hx hb d_B_trim_8 (by decide) ?_
  refine k_V C hs hex hf (fun res e1 => iv_S (As := [.int x2, .int 0, .int 600]) (rest := []) C hs cs_B_42 (c_B_requireRange hl0 e1) rfl hl.1 rfl (Nat.le_of_ble_eq_true rfl) d_B_trim_11 ⟨Nat.le_of_ble_eq_true rfl, Nat.le_of_ble_eq_true rfl⟩) (fun h4 z5 H locs cells slots hf hs => ?_)
  refine lv_aload_n hx hb d_B_trim_14 rfl (lv_at hl 0 rfl) ?_
  refine r_getR C hs fl_B_11 d_B_trim_15 hf (fun v7 hf => ?_)
  refine lv_iload_n hx hb d_B_trim_18 rfl (lv_at hl 1 rfl) ?_
  refine r_aald (kd := 4) C hs (by decide) d_B_trim_19 hf (fun v8 hf => ?_)
  refine lv_astore_n (lv' := [(3, .ref v8), (0, .ref x0), (1, .int x1), (2, .int x2)]) hx hb d_B_trim_20 rfl hl (by decide) rfl (fun ls hl => ?_)
  refine lv_iload_n hx hb d_B_trim_21 rfl (lv_at hl 3 rfl) ?_
  refine lv_aload_n hx hb d_B_trim_22 rfl (lv_at hl 0 rfl) ?_
  refine r_getI C hs fl_B_150 d_B_trim_23 hf (fun v9 hf => ?_)
  refine lv_icmp_lt (tgt := 37) hx hb d_B_trim_26 (by decide) (fun q10 => ?_) (fun q10 => ?_)
  · have hf := ifp q10 hf
    exact r_throw (text := "the offset is not between start and stable") C hs hex hl.1 (th_B_157 : TH "FencedBroker" 153 157 "java/lang/IndexOutOfBoundsException") (tm (i := 696) (by decide +kernel)) ⟨Nat.le_of_ble_eq_true rfl, Nat.le_of_ble_eq_true rfl⟩ d_B_trim_37 d_B_trim_40 d_B_trim_41 d_B_trim_43 d_B_trim_46 hf
  · have hf := ifn q10 hf
    refine lv_iload_n hx hb d_B_trim_29 rfl (lv_at hl 3 rfl) ?_
    refine lv_aload_n hx hb d_B_trim_30 rfl (lv_at hl 0 rfl) ?_
    obtain ⟨_, ho, hf⟩ := bd hf
    refine k_I C hs hex hf (fun res e1 => iv_V (b := v8) (As := []) (rest := [.int x2]) C hs cv_B_170 (c_L_stableOffset hl0 e1) (ci := 2) rfl rfl ho rfl hl.1 rfl (Nat.le_of_ble_eq_true rfl) d_B_trim_31 ⟨Nat.le_of_ble_eq_true rfl, Nat.le_of_ble_eq_true rfl⟩) (fun v13 h11 z12 H locs cells slots hf hs => ?_)
    refine lv_icmp_le (tgt := 47) hx hb d_B_trim_34 (by decide) (fun q14 => ?_) (fun q14 => ?_)
    · have hf := ifp q14 hf
      refine lv_iload_n hx hb d_B_trim_47 rfl (lv_at hl 3 rfl) ?_
      refine lv_aload_n hx hb d_B_trim_48 rfl (lv_at hl 0 rfl) ?_
      refine r_getI C hs fl_B_150 d_B_trim_49 hf (fun v15 hf => ?_)
      refine lv_isub hx hb d_B_trim_52 ?_
      refine lv_istore (lv' := [(4, .int (x2 - v15)), (3, .ref v8), (0, .ref x0), (1, .int x1), (2, .int x2)]) hx hb d_B_trim_53 hl (by decide) rfl (fun ls hl => ?_)
      refine lv_aload_n hx hb d_B_trim_55 rfl (lv_at hl 1 rfl) ?_
      refine lv_iload_n hx hb d_B_trim_56 rfl (lv_at hl 4 rfl) ?_
      refine r_putV (v := (.inl x2)) C hs flp_B_150 rfl rfl d_B_trim_57 hf (fun h16 H locs hf hs => ?_)
      refine lv_iload hx hb d_B_trim_60 (lv_at hl 0 rfl) ?_
      exact r_ireturn C hs hr d_B_trim_62 hf
    · have hf := ifn q14 hf
      exact r_throw (text := "the offset is not between start and stable") C hs hex hl.1 (th_B_157 : TH "FencedBroker" 153 157 "java/lang/IndexOutOfBoundsException") (tm (i := 696) (by decide +kernel)) ⟨Nat.le_of_ble_eq_true rfl, Nat.le_of_ble_eq_true rfl⟩ d_B_trim_37 d_B_trim_40 d_B_trim_41 d_B_trim_43 d_B_trim_46 hf
def f_B_join (bs : Nat) (sE : Nat × Nat) (h : HH) (z : Z3) (x0 : Nat) (x1 : Int32) (x2 : Int32) : Option RS :=
  cV (f_B_requireRange bs sE h z x1 0 1) fun h1 z2 =>
  cV (f_B_requireRange bs sE h1 z2 x2 0 3) fun h4 z5 =>
  (gR h4 x0 4 2).bind fun v7 =>
  (aR h4 v7 6 x1).bind fun v8 =>
  (oK h4 v8 1).bind fun _ =>
  cI (f_G_isMember bs sE h4 z5 v8 x2) fun v11 h9 z10 =>
  if v11 = 0 then
    ((gI h9 x0 4 4).bind fun v13 =>
    (oK h9 v8 1).bind fun _ =>
    cV (f_G_addMember bs sE h9 z10 v8 x2 v13) fun h14 z15 =>
    (oK h14 v8 1).bind fun _ =>
    cV (f_G_share bs sE h14 z15 v8) fun h17 z18 =>
    (gI h17 v8 1 0).bind fun v20 =>
    some (.inl (some (.int v20)), h17, z18))
  else
    (tO h9 z10 "java/lang/IllegalStateException")
set_option maxHeartbeats 4000000 in
set_option maxRecDepth 100000 in
theorem c_B_join {G : EN} {l : Launch} (hl0 : l.stackTraces = false) {h : HH} {z : Z3} {x0 : Nat} {x1 : Int32} {x2 : Int32} {r : RS} (hf : f_B_join G.2.2.1 G.2.2.2 h z x0 x1 x2 = some r) : CM G l y_B_join (.code y_B_join b_B_join 4 (some .int)) 7 112 [.ref x0, .int x1, .int x2] h z r := by
  refine CM.ofW hl0 rfl ?_
  intro p e s m below meth c C hr hex hin hs
  have hx := C.1
  have hb := C.2.1
  refine x_entry (n := 4) (Nat.le_of_ble_eq_true rfl) (fun ls hl => ?_)
  have hl : lv_has ls 4 [(0, .ref x0), (1, .int x1), (2, .int x2)] := hl
  unfold f_B_join at hf
  refine lv_iload_n hx hb d_B_join_0 rfl (lv_at hl 1 rfl) ?_
  refine lv_iconst (v := 0) hx hb d_B_join_1 (by decide) ?_
  refine lv_iconst (v := 1) hx hb d_B_join_2 (by decide) ?_
  refine k_V C hs hex hf (fun res e1 => iv_S (As := [.int x1, .int 0, .int 1]) (rest := []) C hs cs_B_42 (c_B_requireRange hl0 e1) rfl hl.1 rfl (Nat.le_of_ble_eq_true rfl) d_B_join_3 ⟨Nat.le_of_ble_eq_true rfl, Nat.le_of_ble_eq_true rfl⟩) (fun h1 z2 H locs cells slots hf hs => ?_)
  refine lv_iload_n hx hb d_B_join_6 rfl (lv_at hl 2 rfl) ?_
  refine lv_iconst (v := 0) hx hb d_B_join_7 (by decide) ?_
  refine lv_iconst (v := 3) hx hb d_B_join_8 (by decide) ?_
  refine k_V C hs hex hf (fun res e1 => iv_S (As := [.int x2, .int 0, .int 3]) (rest := []) C hs cs_B_42 (c_B_requireRange hl0 e1) rfl hl.1 rfl (Nat.le_of_ble_eq_true rfl) d_B_join_9 ⟨Nat.le_of_ble_eq_true rfl, Nat.le_of_ble_eq_true rfl⟩) (fun h4 z5 H locs cells slots hf hs => ?_)
  refine lv_aload_n hx hb d_B_join_12 rfl (lv_at hl 0 rfl) ?_
  refine r_getR C hs fl_B_23 d_B_join_13 hf (fun v7 hf => ?_)
  refine lv_iload_n hx hb d_B_join_16 rfl (lv_at hl 1 rfl) ?_
  refine r_aald (kd := 6) C hs (by decide) d_B_join_17 hf (fun v8 hf => ?_)
  refine lv_astore_n (lv' := [(3, .ref v8), (0, .ref x0), (1, .int x1), (2, .int x2)]) hx hb d_B_join_18 rfl hl (by decide) rfl (fun ls hl => ?_)
  refine lv_aload_n hx hb d_B_join_19 rfl (lv_at hl 0 rfl) ?_
  refine lv_iload_n hx hb d_B_join_20 rfl (lv_at hl 3 rfl) ?_
  obtain ⟨_, ho, hf⟩ := bd hf
  refine k_I C hs hex hf (fun res e1 => iv_V (b := v8) (As := [.int x2]) (rest := []) C hs cv_B_175 (c_G_isMember hl0 e1) (ci := 1) rfl rfl ho rfl hl.1 rfl (Nat.le_of_ble_eq_true rfl) d_B_join_21 ⟨Nat.le_of_ble_eq_true rfl, Nat.le_of_ble_eq_true rfl⟩) (fun v11 h9 z10 H locs cells slots hf hs => ?_)
  refine lv_if_eq (tgt := 37) hx hb d_B_join_24 (by decide) (fun q12 => ?_) (fun q12 => ?_)
  · have hf := ifp q12 hf
    refine lv_aload_n hx hb d_B_join_37 rfl (lv_at hl 0 rfl) ?_
    refine lv_iload_n hx hb d_B_join_38 rfl (lv_at hl 3 rfl) ?_
    refine lv_aload_n hx hb d_B_join_39 rfl (lv_at hl 1 rfl) ?_
    refine r_getI C hs fl_B_31 d_B_join_40 hf (fun v13 hf => ?_)
    obtain ⟨_, ho, hf⟩ := bd hf
    refine k_V C hs hex hf (fun res e1 => iv_V (b := v8) (As := [.int x2, .int v13]) (rest := []) C hs cv_B_180 (c_G_addMember hl0 e1) (ci := 1) rfl rfl ho rfl hl.1 rfl (Nat.le_of_ble_eq_true rfl) d_B_join_43 ⟨Nat.le_of_ble_eq_true rfl, Nat.le_of_ble_eq_true rfl⟩) (fun h14 z15 H locs cells slots hf hs => ?_)
    refine lv_aload_n hx hb d_B_join_46 rfl (lv_at hl 0 rfl) ?_
    obtain ⟨_, ho, hf⟩ := bd hf
    refine k_V C hs hex hf (fun res e1 => iv_V (b := v8) (As := []) (rest := []) C hs cv_B_183 (c_G_share hl0 e1) (ci := 1) rfl rfl ho rfl hl.1 rfl (Nat.le_of_ble_eq_true rfl) d_B_join_47 ⟨Nat.le_of_ble_eq_true rfl, Nat.le_of_ble_eq_true rfl⟩) (fun h17 z18 H locs cells slots hf hs => ?_)
    refine lv_aload_n hx hb d_B_join_50 rfl (lv_at hl 0 rfl) ?_
    refine r_getI C hs fl_B_186 d_B_join_51 hf (fun v20 hf => ?_)
    exact r_ireturn C hs hr d_B_join_54 hf
  · have hf := ifn q12 hf
    exact r_throw (text := "it is a member already") C hs hex hl.1 (th_B_54 : TH "FencedBroker" 50 54 "java/lang/IllegalStateException") (tm (i := 708) (by decide +kernel)) ⟨Nat.le_of_ble_eq_true rfl, Nat.le_of_ble_eq_true rfl⟩ d_B_join_27 d_B_join_30 d_B_join_31 d_B_join_33 d_B_join_36 hf
def f_B_groupWith (bs : Nat) (sE : Nat × Nat) (h : HH) (z : Z3) (x0 : Nat) (x1 : Int32) (x2 : Int32) : Option RS :=
  (gR h x0 4 2).bind fun v1 =>
  (aR h v1 6 x1).bind fun v2 =>
  (oK h v2 1).bind fun _ =>
  cI (f_G_isMember bs sE h z v2 x2) fun v5 h3 z4 =>
  if v5 = 0 then
    (tO h3 z4 "java/util/NoSuchElementException")
  else
    (some (.inl (some (.ref v2)), h3, z4))
set_option maxHeartbeats 4000000 in
set_option maxRecDepth 100000 in
theorem c_B_groupWith {G : EN} {l : Launch} (hl0 : l.stackTraces = false) {h : HH} {z : Z3} {x0 : Nat} {x1 : Int32} {x2 : Int32} {r : RS} (hf : f_B_groupWith G.2.2.1 G.2.2.2 h z x0 x1 x2 = some r) : CM G l y_B_groupWith (.code y_B_groupWith b_B_groupWith 4 (some (.object "FencedBroker$Group"))) 6 90 [.ref x0, .int x1, .int x2] h z r := by
  refine CM.ofW hl0 rfl ?_
  intro p e s m below meth c C hr hex hin hs
  have hx := C.1
  have hb := C.2.1
  refine x_entry (n := 4) (Nat.le_of_ble_eq_true rfl) (fun ls hl => ?_)
  have hl : lv_has ls 4 [(0, .ref x0), (1, .int x1), (2, .int x2)] := hl
  unfold f_B_groupWith at hf
  refine lv_aload_n hx hb d_B_groupWith_0 rfl (lv_at hl 0 rfl) ?_
  refine r_getR C hs fl_B_23 d_B_groupWith_1 hf (fun v1 hf => ?_)
  refine lv_iload_n hx hb d_B_groupWith_4 rfl (lv_at hl 1 rfl) ?_
  refine r_aald (kd := 6) C hs (by decide) d_B_groupWith_5 hf (fun v2 hf => ?_)
  refine lv_astore_n (lv' := [(3, .ref v2), (0, .ref x0), (1, .int x1), (2, .int x2)]) hx hb d_B_groupWith_6 rfl hl (by decide) rfl (fun ls hl => ?_)
  refine lv_aload_n hx hb d_B_groupWith_7 rfl (lv_at hl 0 rfl) ?_
  refine lv_iload_n hx hb d_B_groupWith_8 rfl (lv_at hl 3 rfl) ?_
  obtain ⟨_, ho, hf⟩ := bd hf
  refine k_I C hs hex hf (fun res e1 => iv_V (b := v2) (As := [.int x2]) (rest := []) C hs cv_B_175 (c_G_isMember hl0 e1) (ci := 1) rfl rfl ho rfl hl.1 rfl (Nat.le_of_ble_eq_true rfl) d_B_groupWith_9 ⟨Nat.le_of_ble_eq_true rfl, Nat.le_of_ble_eq_true rfl⟩) (fun v5 h3 z4 H locs cells slots hf hs => ?_)
  refine lv_if_ne (tgt := 26) hx hb d_B_groupWith_12 (by decide) (fun q6 => ?_) (fun q6 => ?_)
  · have hf := ifn q6 hf
    refine lv_aload_n hx hb d_B_groupWith_26 rfl (lv_at hl 0 rfl) ?_
    exact r_areturn C hs hr (Or.inl ⟨_, rfl⟩) d_B_groupWith_27 hf
  · have hf := ifp q6 hf
    exact r_throwW (text := "it is no member") C hs hex hl.1 (th_B_166 : TH "FencedBroker" 162 166 "java/util/NoSuchElementException") (tm (i := 757) (by decide +kernel)) ⟨Nat.le_of_ble_eq_true rfl, Nat.le_of_ble_eq_true rfl⟩ d_B_groupWith_15 d_B_groupWith_18 d_B_groupWith_19 d_B_groupWith_22 d_B_groupWith_25 hf
def f_B_leave (bs : Nat) (sE : Nat × Nat) (h : HH) (z : Z3) (x0 : Nat) (x1 : Int32) (x2 : Int32) : Option RS :=
  cV (f_B_requireRange bs sE h z x1 0 1) fun h1 z2 =>
  cV (f_B_requireRange bs sE h1 z2 x2 0 3) fun h4 z5 =>
  (oK h4 x0 4).bind fun _ =>
  cR (f_B_groupWith bs sE h4 z5 x0 x1 x2) fun v9 h7 z8 =>
  (oK h7 v9 1).bind fun _ =>
  cV (f_G_removeMember bs sE h7 z8 v9 x2) fun h10 z11 =>
  (oK h10 v9 1).bind fun _ =>
  cV (f_G_share bs sE h10 z11 v9) fun h13 z14 =>
  (gI h13 v9 1 0).bind fun v16 =>
  some (.inl (some (.int v16)), h13, z14)
set_option maxHeartbeats 4000000 in
set_option maxRecDepth 100000 in
theorem c_B_leave {G : EN} {l : Launch} (hl0 : l.stackTraces = false) {h : HH} {z : Z3} {x0 : Nat} {x1 : Int32} {x2 : Int32} {r : RS} (hf : f_B_leave G.2.2.1 G.2.2.2 h z x0 x1 x2 = some r) : CM G l y_B_leave (.code y_B_leave b_B_leave 4 (some .int)) 7 113 [.ref x0, .int x1, .int x2] h z r := by
  refine CM.ofW hl0 rfl ?_
  intro p e s m below meth c C hr hex hin hs
  have hx := C.1
  have hb := C.2.1
  refine x_entry (n := 4) (Nat.le_of_ble_eq_true rfl) (fun ls hl => ?_)
  have hl : lv_has ls 4 [(0, .ref x0), (1, .int x1), (2, .int x2)] := hl
  unfold f_B_leave at hf
  refine lv_iload_n hx hb d_B_leave_0 rfl (lv_at hl 1 rfl) ?_
  refine lv_iconst (v := 0) hx hb d_B_leave_1 (by decide) ?_
  refine lv_iconst (v := 1) hx hb d_B_leave_2 (by decide) ?_
  refine k_V C hs hex hf (fun res e1 => iv_S (As := [.int x1, .int 0, .int 1]) (rest := []) C hs cs_B_42 (c_B_requireRange hl0 e1) rfl hl.1 rfl (Nat.le_of_ble_eq_true rfl) d_B_leave_3 ⟨Nat.le_of_ble_eq_true rfl, Nat.le_of_ble_eq_true rfl⟩) (fun h1 z2 H locs cells slots hf hs => ?_)
  refine lv_iload_n hx hb d_B_leave_6 rfl (lv_at hl 2 rfl) ?_
  refine lv_iconst (v := 0) hx hb d_B_leave_7 (by decide) ?_
  refine lv_iconst (v := 3) hx hb d_B_leave_8 (by decide) ?_
  refine k_V C hs hex hf (fun res e1 => iv_S (As := [.int x2, .int 0, .int 3]) (rest := []) C hs cs_B_42 (c_B_requireRange hl0 e1) rfl hl.1 rfl (Nat.le_of_ble_eq_true rfl) d_B_leave_9 ⟨Nat.le_of_ble_eq_true rfl, Nat.le_of_ble_eq_true rfl⟩) (fun h4 z5 H locs cells slots hf hs => ?_)
  refine lv_aload_n hx hb d_B_leave_12 rfl (lv_at hl 0 rfl) ?_
  refine lv_iload_n hx hb d_B_leave_13 rfl (lv_at hl 1 rfl) ?_
  refine lv_iload_n hx hb d_B_leave_14 rfl (lv_at hl 2 rfl) ?_
  obtain ⟨_, ho, hf⟩ := bd hf
  refine k_R C hs hex hf (fun res e1 => iv_V (b := x0) (As := [.int x1, .int x2]) (rest := []) C hs cv_B_189 (c_B_groupWith hl0 e1) (ci := 4) rfl rfl ho rfl hl.1 rfl (Nat.le_of_ble_eq_true rfl) d_B_leave_15 ⟨Nat.le_of_ble_eq_true rfl, Nat.le_of_ble_eq_true rfl⟩) (fun v9 h7 z8 H locs cells slots hf hs => ?_)
  refine lv_astore_n (lv' := [(3, .ref v9), (0, .ref x0), (1, .int x1), (2, .int x2)]) hx hb d_B_leave_18 rfl hl (by decide) rfl (fun ls hl => ?_)
  refine lv_aload_n hx hb d_B_leave_19 rfl (lv_at hl 0 rfl) ?_
  refine lv_iload_n hx hb d_B_leave_20 rfl (lv_at hl 3 rfl) ?_
  obtain ⟨_, ho, hf⟩ := bd hf
  refine k_V C hs hex hf (fun res e1 => iv_V (b := v9) (As := [.int x2]) (rest := []) C hs cv_B_193 (c_G_removeMember hl0 e1) (ci := 1) rfl rfl ho rfl hl.1 rfl (Nat.le_of_ble_eq_true rfl) d_B_leave_21 ⟨Nat.le_of_ble_eq_true rfl, Nat.le_of_ble_eq_true rfl⟩) (fun h10 z11 H locs cells slots hf hs => ?_)
  refine lv_aload_n hx hb d_B_leave_24 rfl (lv_at hl 0 rfl) ?_
  obtain ⟨_, ho, hf⟩ := bd hf
  refine k_V C hs hex hf (fun res e1 => iv_V (b := v9) (As := []) (rest := []) C hs cv_B_183 (c_G_share hl0 e1) (ci := 1) rfl rfl ho rfl hl.1 rfl (Nat.le_of_ble_eq_true rfl) d_B_leave_25 ⟨Nat.le_of_ble_eq_true rfl, Nat.le_of_ble_eq_true rfl⟩) (fun h13 z14 H locs cells slots hf hs => ?_)
  refine lv_aload_n hx hb d_B_leave_28 rfl (lv_at hl 0 rfl) ?_
  refine r_getI C hs fl_B_186 d_B_leave_29 hf (fun v16 hf => ?_)
  exact r_ireturn C hs hr d_B_leave_32 hf
def f_B_groupAt (bs : Nat) (sE : Nat × Nat) (h : HH) (z : Z3) (x0 : Nat) (x1 : Int32) (x2 : Int32) (x3 : Int32) : Option RS :=
  (oK h x0 4).bind fun _ =>
  cR (f_B_groupWith bs sE h z x0 x1 x2) fun v3 h1 z2 =>
  (gI h1 v3 1 0).bind fun v4 =>
  if v4 = x3 then
    (some (.inl (some (.ref v3)), h1, z2))
  else
    (tO h1 z2 "java/lang/IllegalStateException")
set_option maxHeartbeats 4000000 in
set_option maxRecDepth 100000 in
theorem c_B_groupAt {G : EN} {l : Launch} (hl0 : l.stackTraces = false) {h : HH} {z : Z3} {x0 : Nat} {x1 : Int32} {x2 : Int32} {x3 : Int32} {r : RS} (hf : f_B_groupAt G.2.2.1 G.2.2.2 h z x0 x1 x2 x3 = some r) : CM G l y_B_groupAt (.code y_B_groupAt b_B_groupAt 5 (some (.object "FencedBroker$Group"))) 7 113 [.ref x0, .int x1, .int x2, .int x3] h z r := by
  refine CM.ofW hl0 rfl ?_
  intro p e s m below meth c C hr hex hin hs
  have hx := C.1
  have hb := C.2.1
  refine x_entry (n := 5) (Nat.le_of_ble_eq_true rfl) (fun ls hl => ?_)
  have hl : lv_has ls 5 [(0, .ref x0), (1, .int x1), (2, .int x2), (3, .int x3)] := hl
  unfold f_B_groupAt at hf
  refine lv_aload_n hx hb d_B_groupAt_0 rfl (lv_at hl 0 rfl) ?_
  refine lv_iload_n hx hb d_B_groupAt_1 rfl (lv_at hl 1 rfl) ?_
  refine lv_iload_n hx hb d_B_groupAt_2 rfl (lv_at hl 2 rfl) ?_
  obtain ⟨_, ho, hf⟩ := bd hf
  refine k_R C hs hex hf (fun res e1 => iv_V (b := x0) (As := [.int x1, .int x2]) (rest := []) C hs cv_B_189 (c_B_groupWith hl0 e1) (ci := 4) rfl rfl ho rfl hl.1 rfl (Nat.le_of_ble_eq_true rfl) d_B_groupAt_3 ⟨Nat.le_of_ble_eq_true rfl, Nat.le_of_ble_eq_true rfl⟩) (fun v3 h1 z2 H locs cells slots hf hs => ?_)
  refine lv_astore (lv' := [(4, .ref v3), (0, .ref x0), (1, .int x1), (2, .int x2), (3, .int x3)]) hx hb d_B_groupAt_6 hl (by decide) rfl (fun ls hl => ?_)
  refine lv_aload hx hb d_B_groupAt_8 (lv_at hl 0 rfl) ?_
  refine r_getI C hs fl_B_186 d_B_groupAt_10 hf (fun v4 hf => ?_)
  refine lv_iload_n hx hb d_B_groupAt_13 rfl (lv_at hl 4 rfl) ?_
  refine lv_icmp_eq (tgt := 28) hx hb d_B_groupAt_14 (by decide) (fun q5 => ?_) (fun q5 => ?_)
  · have hf := ifp q5 hf
    refine lv_aload hx hb d_B_groupAt_28 (lv_at hl 0 rfl) ?_
    exact r_areturn C hs hr (Or.inl ⟨_, rfl⟩) d_B_groupAt_30 hf
  · have hf := ifn q5 hf
    exact r_throwW (text := "it is not the group's generation") C hs hex hl.1 (th_B_54 : TH "FencedBroker" 50 54 "java/lang/IllegalStateException") (tm (i := 773) (by decide +kernel)) ⟨Nat.le_of_ble_eq_true rfl, Nat.le_of_ble_eq_true rfl⟩ d_B_groupAt_17 d_B_groupAt_20 d_B_groupAt_21 d_B_groupAt_24 d_B_groupAt_27 hf
def f_B_beat (bs : Nat) (sE : Nat × Nat) (h : HH) (z : Z3) (x0 : Nat) (x1 : Int32) (x2 : Int32) (x3 : Int32) : Option RS :=
  cV (f_B_requireRange bs sE h z x1 0 1) fun h1 z2 =>
  cV (f_B_requireRange bs sE h1 z2 x2 0 3) fun h4 z5 =>
  (oK h4 x0 4).bind fun _ =>
  cR (f_B_groupAt bs sE h4 z5 x0 x1 x2 x3) fun v9 h7 z8 =>
  (gI h7 x0 4 4).bind fun v10 =>
  (oK h7 v9 1).bind fun _ =>
  cV (f_G_hear bs sE h7 z8 v9 x2 v10) fun h11 z12 =>
  (gR h11 v9 1 3).bind fun v14 =>
  (aI h11 v14 0 x2).bind fun v15 =>
  some (.inl (some (.int v15)), h11, z12)
set_option maxHeartbeats 4000000 in
set_option maxRecDepth 100000 in
theorem c_B_beat {G : EN} {l : Launch} (hl0 : l.stackTraces = false) {h : HH} {z : Z3} {x0 : Nat} {x1 : Int32} {x2 : Int32} {x3 : Int32} {r : RS} (hf : f_B_beat G.2.2.1 G.2.2.2 h z x0 x1 x2 x3 = some r) : CM G l y_B_beat (.code y_B_beat b_B_beat 5 (some .int)) 8 137 [.ref x0, .int x1, .int x2, .int x3] h z r := by
  refine CM.ofW hl0 rfl ?_
  intro p e s m below meth c C hr hex hin hs
  have hx := C.1
  have hb := C.2.1
  refine x_entry (n := 5) (Nat.le_of_ble_eq_true rfl) (fun ls hl => ?_)
  have hl : lv_has ls 5 [(0, .ref x0), (1, .int x1), (2, .int x2), (3, .int x3)] := hl
  unfold f_B_beat at hf
  refine lv_iload_n hx hb d_B_beat_0 rfl (lv_at hl 1 rfl) ?_
  refine lv_iconst (v := 0) hx hb d_B_beat_1 (by decide) ?_
  refine lv_iconst (v := 1) hx hb d_B_beat_2 (by decide) ?_
  refine k_V C hs hex hf (fun res e1 => iv_S (As := [.int x1, .int 0, .int 1]) (rest := []) C hs cs_B_42 (c_B_requireRange hl0 e1) rfl hl.1 rfl (Nat.le_of_ble_eq_true rfl) d_B_beat_3 ⟨Nat.le_of_ble_eq_true rfl, Nat.le_of_ble_eq_true rfl⟩) (fun h1 z2 H locs cells slots hf hs => ?_)
  refine lv_iload_n hx hb d_B_beat_6 rfl (lv_at hl 2 rfl) ?_
  refine lv_iconst (v := 0) hx hb d_B_beat_7 (by decide) ?_
  refine lv_iconst (v := 3) hx hb d_B_beat_8 (by decide) ?_
  refine k_V C hs hex hf (fun res e1 => iv_S (As := [.int x2, .int 0, .int 3]) (rest := []) C hs cs_B_42 (c_B_requireRange hl0 e1) rfl hl.1 rfl (Nat.le_of_ble_eq_true rfl) d_B_beat_9 ⟨Nat.le_of_ble_eq_true rfl, Nat.le_of_ble_eq_true rfl⟩) (fun h4 z5 H locs cells slots hf hs => ?_)
  refine lv_aload_n hx hb d_B_beat_12 rfl (lv_at hl 0 rfl) ?_
  refine lv_iload_n hx hb d_B_beat_13 rfl (lv_at hl 1 rfl) ?_
  refine lv_iload_n hx hb d_B_beat_14 rfl (lv_at hl 2 rfl) ?_
  refine lv_iload_n hx hb d_B_beat_15 rfl (lv_at hl 3 rfl) ?_
  obtain ⟨_, ho, hf⟩ := bd hf
  refine k_R C hs hex hf (fun res e1 => iv_V (b := x0) (As := [.int x1, .int x2, .int x3]) (rest := []) C hs cv_B_196 (c_B_groupAt hl0 e1) (ci := 4) rfl rfl ho rfl hl.1 rfl (Nat.le_of_ble_eq_true rfl) d_B_beat_16 ⟨Nat.le_of_ble_eq_true rfl, Nat.le_of_ble_eq_true rfl⟩) (fun v9 h7 z8 H locs cells slots hf hs => ?_)
  refine lv_astore (lv' := [(4, .ref v9), (0, .ref x0), (1, .int x1), (2, .int x2), (3, .int x3)]) hx hb d_B_beat_19 hl (by decide) rfl (fun ls hl => ?_)
  refine lv_aload hx hb d_B_beat_21 (lv_at hl 0 rfl) ?_
  refine lv_iload_n hx hb d_B_beat_23 rfl (lv_at hl 3 rfl) ?_
  refine lv_aload_n hx hb d_B_beat_24 rfl (lv_at hl 1 rfl) ?_
  refine r_getI C hs fl_B_31 d_B_beat_25 hf (fun v10 hf => ?_)
  obtain ⟨_, ho, hf⟩ := bd hf
  refine k_V C hs hex hf (fun res e1 => iv_V (b := v9) (As := [.int x2, .int v10]) (rest := []) C hs cv_B_200 (c_G_hear hl0 e1) (ci := 1) rfl rfl ho rfl hl.1 rfl (Nat.le_of_ble_eq_true rfl) d_B_beat_28 ⟨Nat.le_of_ble_eq_true rfl, Nat.le_of_ble_eq_true rfl⟩) (fun h11 z12 H locs cells slots hf hs => ?_)
  refine lv_aload hx hb d_B_beat_31 (lv_at hl 0 rfl) ?_
  refine r_getR C hs fl_B_203 d_B_beat_33 hf (fun v14 hf => ?_)
  refine lv_iload_n hx hb d_B_beat_36 rfl (lv_at hl 3 rfl) ?_
  refine r_iald C hs d_B_beat_37 hf (fun v15 hf => ?_)
  exact r_ireturn C hs hr d_B_beat_38 hf
def f_B_mark (bs : Nat) (sE : Nat × Nat) (h : HH) (z : Z3) (x0 : Nat) (x1 : Int32) (x2 : Int32) (x3 : Int32) (x4 : Int32) (x5 : Int32) : Option RS :=
  cV (f_B_requireRange bs sE h z x1 0 1) fun h1 z2 =>
  cV (f_B_requireRange bs sE h1 z2 x2 0 3) fun h4 z5 =>
  cV (f_B_requireRange bs sE h4 z5 x4 0 3) fun h7 z8 =>
  cV (f_B_requireRange bs sE h7 z8 x5 0 600) fun h10 z11 =>
  (oK h10 x0 4).bind fun _ =>
  cR (f_B_groupAt bs sE h10 z11 x0 x1 x2 x3) fun v15 h13 z14 =>
  (gR h13 v15 1 3).bind fun v16 =>
  (aI h13 v16 0 x2).bind fun v17 =>
  cI (f_B_has bs sE h13 z14 v17 x4) fun v20 h18 z19 =>
  if v20 = 0 then
    (tO h18 z19 "java/lang/UnsupportedOperationException")
  else
    ((gR h18 v15 1 4).bind fun v22 =>
    (aI h18 v22 0 x4).bind fun v23 =>
    (gR h18 v15 1 4).bind fun v24 =>
    (aIs bs h18 v24 0 x4 x5).bind fun h25 =>
    some (.inl (some (.int v23)), h25, z19))
set_option maxHeartbeats 4000000 in
set_option maxRecDepth 100000 in
theorem c_B_mark {G : EN} {l : Launch} (hl0 : l.stackTraces = false) {h : HH} {z : Z3} {x0 : Nat} {x1 : Int32} {x2 : Int32} {x3 : Int32} {x4 : Int32} {x5 : Int32} {r : RS} (hf : f_B_mark G.2.2.1 G.2.2.2 h z x0 x1 x2 x3 x4 x5 = some r) : CM G l y_B_mark (.code y_B_mark b_B_mark 8 (some .int)) 8 137 [.ref x0, .int x1, .int x2, .int x3, .int x4, .int x5] h z r := by
  refine CM.ofW hl0 rfl ?_
  intro p e s m below meth c C hr hex hin hs
  have hx := C.1
  have hb := C.2.1
  refine x_entry (n := 8) (Nat.le_of_ble_eq_true rfl) (fun ls hl => ?_)
  have hl : lv_has ls 8 [(0, .ref x0), (1, .int x1), (2, .int x2), (3, .int x3), (4, .int x4), (5, .int x5)] := hl
  unfold f_B_mark at hf
  refine lv_iload_n hx hb d_B_mark_0 rfl (lv_at hl 1 rfl) ?_
  refine lv_iconst (v := 0) hx hb d_B_mark_1 (by decide) ?_
  refine lv_iconst (v := 1) hx hb d_B_mark_2 (by decide) ?_
  refine k_V C hs hex hf (fun res e1 => iv_S (As := [.int x1, .int 0, .int 1]) (rest := []) C hs cs_B_42 (c_B_requireRange hl0 e1) rfl hl.1 rfl (Nat.le_of_ble_eq_true rfl) d_B_mark_3 ⟨Nat.le_of_ble_eq_true rfl, Nat.le_of_ble_eq_true rfl⟩) (fun h1 z2 H locs cells slots hf hs => ?_)
  refine lv_iload_n hx hb d_B_mark_6 rfl (lv_at hl 2 rfl) ?_
  refine lv_iconst (v := 0) hx hb d_B_mark_7 (by decide) ?_
  refine lv_iconst (v := 3) hx hb d_B_mark_8 (by decide) ?_
  refine k_V C hs hex hf (fun res e1 => iv_S (As := [.int x2, .int 0, .int 3]) (rest := []) C hs cs_B_42 (c_B_requireRange hl0 e1) rfl hl.1 rfl (Nat.le_of_ble_eq_true rfl) d_B_mark_9 ⟨Nat.le_of_ble_eq_true rfl, Nat.le_of_ble_eq_true rfl⟩) (fun h4 z5 H locs cells slots hf hs => ?_)
  refine lv_iload hx hb d_B_mark_12 (lv_at hl 4 rfl) ?_
  refine lv_iconst (v := 0) hx hb d_B_mark_14 (by decide) ?_
  refine lv_iconst (v := 3) hx hb d_B_mark_15 (by decide) ?_
  refine k_V C hs hex hf (fun res e1 => iv_S (As := [.int x4, .int 0, .int 3]) (rest := []) C hs cs_B_42 (c_B_requireRange hl0 e1) rfl hl.1 rfl (Nat.le_of_ble_eq_true rfl) d_B_mark_16 ⟨Nat.le_of_ble_eq_true rfl, Nat.le_of_ble_eq_true rfl⟩) (fun h7 z8 H locs cells slots hf hs => ?_)
  refine lv_iload hx hb d_B_mark_19 (lv_at hl 5 rfl) ?_
  refine lv_iconst (v := 0) hx hb d_B_mark_21 (by decide) ?_
  refine lv_sipush (v := 600) hx hb d_B_mark_22 (by decide) ?_
  refine k_V C hs hex hf (fun res e1 => iv_S (As := [.int x5, .int 0, .int 600]) (rest := []) C hs cs_B_42 (c_B_requireRange hl0 e1) rfl hl.1 rfl (Nat.le_of_ble_eq_true rfl) d_B_mark_25 ⟨Nat.le_of_ble_eq_true rfl, Nat.le_of_ble_eq_true rfl⟩) (fun h10 z11 H locs cells slots hf hs => ?_)
  refine lv_aload_n hx hb d_B_mark_28 rfl (lv_at hl 0 rfl) ?_
  refine lv_iload_n hx hb d_B_mark_29 rfl (lv_at hl 1 rfl) ?_
  refine lv_iload_n hx hb d_B_mark_30 rfl (lv_at hl 2 rfl) ?_
  refine lv_iload_n hx hb d_B_mark_31 rfl (lv_at hl 3 rfl) ?_
  obtain ⟨_, ho, hf⟩ := bd hf
  refine k_R C hs hex hf (fun res e1 => iv_V (b := x0) (As := [.int x1, .int x2, .int x3]) (rest := []) C hs cv_B_196 (c_B_groupAt hl0 e1) (ci := 4) rfl rfl ho rfl hl.1 rfl (Nat.le_of_ble_eq_true rfl) d_B_mark_32 ⟨Nat.le_of_ble_eq_true rfl, Nat.le_of_ble_eq_true rfl⟩) (fun v15 h13 z14 H locs cells slots hf hs => ?_)
  refine lv_astore (lv' := [(6, .ref v15), (0, .ref x0), (1, .int x1), (2, .int x2), (3, .int x3), (4, .int x4), (5, .int x5)]) hx hb d_B_mark_35 hl (by decide) rfl (fun ls hl => ?_)
  refine lv_aload hx hb d_B_mark_37 (lv_at hl 0 rfl) ?_
  refine r_getR C hs fl_B_203 d_B_mark_39 hf (fun v16 hf => ?_)
  refine lv_iload_n hx hb d_B_mark_42 rfl (lv_at hl 3 rfl) ?_
  refine r_iald C hs d_B_mark_43 hf (fun v17 hf => ?_)
  refine lv_iload hx hb d_B_mark_44 (lv_at hl 5 rfl) ?_
  refine k_I C hs hex hf (fun res e1 => iv_S (As := [.int v17, .int x4]) (rest := []) C hs cs_B_207 (c_B_has hl0 e1) rfl hl.1 rfl (Nat.le_of_ble_eq_true rfl) d_B_mark_46 ⟨Nat.le_of_ble_eq_true rfl, Nat.le_of_ble_eq_true rfl⟩) (fun v20 h18 z19 H locs cells slots hf hs => ?_)
  refine lv_if_ne (tgt := 62) hx hb d_B_mark_49 (by decide) (fun q21 => ?_) (fun q21 => ?_)
  · have hf := ifn q21 hf
    refine lv_aload hx hb d_B_mark_62 (lv_at hl 0 rfl) ?_
    refine r_getR C hs fl_B_213 d_B_mark_64 hf (fun v22 hf => ?_)
    refine lv_iload hx hb d_B_mark_67 (lv_at hl 5 rfl) ?_
    refine r_iald C hs d_B_mark_69 hf (fun v23 hf => ?_)
    refine lv_istore (lv' := [(7, .int v23), (6, .ref v15), (0, .ref x0), (1, .int x1), (2, .int x2), (3, .int x3), (4, .int x4), (5, .int x5)]) hx hb d_B_mark_70 hl (by decide) rfl (fun ls hl => ?_)
    refine lv_aload hx hb d_B_mark_72 (lv_at hl 1 rfl) ?_
    refine r_getR C hs fl_B_213 d_B_mark_74 hf (fun v24 hf => ?_)
    refine lv_iload hx hb d_B_mark_77 (lv_at hl 6 rfl) ?_
    refine lv_iload hx hb d_B_mark_79 (lv_at hl 7 rfl) ?_
    refine r_iast C hs d_B_mark_81 hf (fun h25 H locs hf hs => ?_)
    refine lv_iload hx hb d_B_mark_82 (lv_at hl 0 rfl) ?_
    exact r_ireturn C hs hr d_B_mark_84 hf
  · have hf := ifp q21 hf
    exact r_throw (text := "the partition is not the member's") C hs hex hl.1 (th_B_112 : TH "FencedBroker" 108 112 "java/lang/UnsupportedOperationException") (tm (i := 782) (by decide +kernel)) ⟨Nat.le_of_ble_eq_true rfl, Nat.le_of_ble_eq_true rfl⟩ d_B_mark_52 d_B_mark_55 d_B_mark_56 d_B_mark_58 d_B_mark_61 hf
def fb_B_tick_L73 (bs : Nat) (sE : Nat × Nat) (REC : HH → Z3 → Nat → Int32 → Int32 → Option RS) (h : HH) (z : Z3) (x0 : Nat) (x2 : Int32) (x3 : Int32) : Option RS :=
  if 2 ≤ x3 then
    (some (.inl (some (.int x2)), h, z))
  else
    ((gR h x0 4 2).bind fun v8 =>
    (aR h v8 6 x3).bind fun v9 =>
    (gI h x0 4 4).bind fun v10 =>
    (oK h v9 1).bind fun _ =>
    cI (f_G_dropSilent bs sE h z v9 v10) fun v13 h11 z12 =>
    REC h11 z12 x0 (x2 + v13) (x3 + 1))
def f_B_tick_L73 (bs : Nat) (sE : Nat × Nat) : Nat → HH → Z3 → Nat → Int32 → Int32 → Option RS
  | 0 => fun _ _ _ _ _ => none
  | n + 1 => fb_B_tick_L73 bs sE (f_B_tick_L73 bs sE n)
set_option maxHeartbeats 4000000 in
set_option maxRecDepth 100000 in
theorem t_B_tick_L73 {G : EN} {p : Program} {l : Launch} {e : Env} {s : State} {m : MethodId} {args : Array Value} {below : List Frame} {meth : Method} {c : Code} {z0 : Z3} (hl0 : l.stackTraces = false) (C : CX G p l s m meth c b_B_tick 5 y_B_tick.cls) (hr : meth.sig.returnType = (some .int)) (hex : c.exceptionTable.toList = []) {r : RS} :
    ∀ (n : Nat) (h : HH) (z : Z3) (x0 : Nat) (x2 : Int32) (x3 : Int32), f_B_tick_L73 G.2.2.1 G.2.2.2 n h z x0 x2 x3 = some r → ∀ (H : Heap) (locs : List Loc) (cells slots : Nat) (ls : Array Slot), ST G (RM 7 112 z0) s h z H locs cells slots → lv_has ls 5 [(0, .ref x0), (2, .int x2), (3, .int x3)] → W p l e (RM 7 112 z0) s m args below meth c H locs cells slots (MX G below s r (RM 7 112 z0).cells (RM 7 112 z0).slots) (F0 m 73 ls []) := by
  have hx := C.1
  have hb := C.2.1
  intro n
  induction n with
  | zero => intro h z x0 x2 x3 hf; exact nomatch (show (none : Option RS) = some r from hf)
  | succ n ih =>
    intro h z x0 x2 x3 hf H locs cells slots ls hs hl
    have hf : fb_B_tick_L73 G.2.2.1 G.2.2.2 (f_B_tick_L73 G.2.2.1 G.2.2.2 n) h z x0 x2 x3 = some r := hf
    unfold fb_B_tick_L73 at hf
    refine lv_iload_n hx hb d_B_tick_73 rfl (lv_at hl 2 rfl) ?_
    refine lv_iconst (v := 2) hx hb d_B_tick_74 (by decide) ?_
    refine lv_icmp_ge (tgt := 100) hx hb d_B_tick_75 (by decide) (fun q7 => ?_) (fun q7 => ?_)
    · have hf := ifp q7 hf
      refine lv_iload_n hx hb d_B_tick_100 rfl (lv_at hl 1 rfl) ?_
      exact r_ireturn C hs hr d_B_tick_101 hf
    · have hf := ifn q7 hf
      refine lv_iload_n hx hb d_B_tick_78 rfl (lv_at hl 1 rfl) ?_
      refine lv_aload_n hx hb d_B_tick_79 rfl (lv_at hl 0 rfl) ?_
      refine r_getR C hs fl_B_23 d_B_tick_80 hf (fun v8 hf => ?_)
      refine lv_iload_n hx hb d_B_tick_83 rfl (lv_at hl 2 rfl) ?_
      refine r_aald (kd := 6) C hs (by decide) d_B_tick_84 hf (fun v9 hf => ?_)
      refine lv_aload_n hx hb d_B_tick_85 rfl (lv_at hl 0 rfl) ?_
      refine r_getI C hs fl_B_31 d_B_tick_86 hf (fun v10 hf => ?_)
      obtain ⟨_, ho, hf⟩ := bd hf
      refine k_I C hs hex hf (fun res e1 => iv_V (b := v9) (As := [.int v10]) (rest := [.int x2]) C hs cv_B_219 (c_G_dropSilent hl0 e1) (ci := 1) rfl rfl ho rfl hl.1 rfl (Nat.le_of_ble_eq_true rfl) d_B_tick_89 ⟨Nat.le_of_ble_eq_true rfl, Nat.le_of_ble_eq_true rfl⟩) (fun v13 h11 z12 H locs cells slots hf hs => ?_)
      refine lv_iadd hx hb d_B_tick_92 ?_
      refine lv_istore_n (lv' := [(2, .int (x2 + v13)), (0, .ref x0), (3, .int x3)]) hx hb d_B_tick_93 rfl hl (by decide) rfl (fun ls hl => ?_)
      refine lv_iinc (v := x3 + 1) (lv' := [(3, .int (x3 + 1)), (2, .int (x2 + v13)), (0, .ref x0)]) hx hb d_B_tick_94 hl (k := 2) rfl rfl (by decide) rfl (fun ls hl => ?_)
      refine lv_goto (tgt := 73) hx hb d_B_tick_97 (by decide) ?_
      exact ih _ _ _ _ _ hf _ _ _ _ _ hs (lv_sub hl [2, 1, 0] rfl)
def fb_B_tick_L21 (bs : Nat) (sE : Nat × Nat) (REC : HH → Z3 → Nat → Int32 → Int32 → Option RS) (h : HH) (z : Z3) (x0 : Nat) (x2 : Int32) (x3 : Int32) : Option RS :=
  if 4 ≤ x3 then
    (f_B_tick_L73 bs sE FU h z x0 x2 0)
  else
    ((gR h x0 4 1).bind fun v14 =>
    (aR h v14 5 x3).bind fun v15 =>
    (oK h v15 3).bind fun _ =>
    cI (f_P_isOpen bs sE h z v15) fun v18 h16 z17 =>
    if v18 = 0 then
      (REC h16 z17 x0 x2 (x3 + 1))
    else
      ((gI h16 x0 4 4).bind fun v20 =>
      (gI h16 v15 3 4).bind fun v21 =>
      if (v20 - v21) < 30 then
        (REC h16 z17 x0 x2 (x3 + 1))
      else
        ((oK h16 v15 3).bind fun _ =>
        cV (f_P_fence bs sE h16 z17 v15) fun h23 z24 =>
        REC h23 z24 x0 (x2 + 1) (x3 + 1))))
def f_B_tick_L21 (bs : Nat) (sE : Nat × Nat) : Nat → HH → Z3 → Nat → Int32 → Int32 → Option RS
  | 0 => fun _ _ _ _ _ => none
  | n + 1 => fb_B_tick_L21 bs sE (f_B_tick_L21 bs sE n)
set_option maxHeartbeats 4000000 in
set_option maxRecDepth 100000 in
theorem t_B_tick_L21 {G : EN} {p : Program} {l : Launch} {e : Env} {s : State} {m : MethodId} {args : Array Value} {below : List Frame} {meth : Method} {c : Code} {z0 : Z3} (hl0 : l.stackTraces = false) (C : CX G p l s m meth c b_B_tick 5 y_B_tick.cls) (hr : meth.sig.returnType = (some .int)) (hex : c.exceptionTable.toList = []) {r : RS} :
    ∀ (n : Nat) (h : HH) (z : Z3) (x0 : Nat) (x2 : Int32) (x3 : Int32), f_B_tick_L21 G.2.2.1 G.2.2.2 n h z x0 x2 x3 = some r → ∀ (H : Heap) (locs : List Loc) (cells slots : Nat) (ls : Array Slot), ST G (RM 7 112 z0) s h z H locs cells slots → lv_has ls 5 [(0, .ref x0), (2, .int x2), (3, .int x3)] → W p l e (RM 7 112 z0) s m args below meth c H locs cells slots (MX G below s r (RM 7 112 z0).cells (RM 7 112 z0).slots) (F0 m 21 ls []) := by
  have hx := C.1
  have hb := C.2.1
  intro n
  induction n with
  | zero => intro h z x0 x2 x3 hf; exact nomatch (show (none : Option RS) = some r from hf)
  | succ n ih =>
    intro h z x0 x2 x3 hf H locs cells slots ls hs hl
    have hf : fb_B_tick_L21 G.2.2.1 G.2.2.2 (f_B_tick_L21 G.2.2.1 G.2.2.2 n) h z x0 x2 x3 = some r := hf
    unfold fb_B_tick_L21 at hf
    refine lv_iload_n hx hb d_B_tick_21 rfl (lv_at hl 2 rfl) ?_
    refine lv_iconst (v := 4) hx hb d_B_tick_22 (by decide) ?_
    refine lv_icmp_ge (tgt := 71) hx hb d_B_tick_23 (by decide) (fun q6 => ?_) (fun q6 => ?_)
    · have hf := ifp q6 hf
      refine lv_iconst (v := 0) hx hb d_B_tick_71 (by decide) ?_
      refine lv_istore_n (lv' := [(3, .int 0), (0, .ref x0), (2, .int x2)]) hx hb d_B_tick_72 rfl hl (by decide) rfl (fun ls hl => ?_)
      exact t_B_tick_L73 hl0 C hr hex FU _ _ _ _ _ hf _ _ _ _ _ hs (lv_sub hl [1, 2, 0] rfl)
    · have hf := ifn q6 hf
      refine lv_aload_n hx hb d_B_tick_26 rfl (lv_at hl 0 rfl) ?_
      refine r_getR C hs fl_B_17 d_B_tick_27 hf (fun v14 hf => ?_)
      refine lv_iload_n hx hb d_B_tick_30 rfl (lv_at hl 2 rfl) ?_
      refine r_aald (kd := 5) C hs (by decide) d_B_tick_31 hf (fun v15 hf => ?_)
      refine lv_astore (lv' := [(4, .ref v15), (0, .ref x0), (2, .int x2), (3, .int x3)]) hx hb d_B_tick_32 hl (by decide) rfl (fun ls hl => ?_)
      refine lv_aload hx hb d_B_tick_34 (lv_at hl 0 rfl) ?_
      obtain ⟨_, ho, hf⟩ := bd hf
      refine k_I C hs hex hf (fun res e1 => iv_V (b := v15) (As := []) (rest := []) C hs cv_B_57 (c_P_isOpen hl0 e1) (ci := 3) rfl rfl ho rfl hl.1 rfl (Nat.le_of_ble_eq_true rfl) d_B_tick_36 ⟨Nat.le_of_ble_eq_true rfl, Nat.le_of_ble_eq_true rfl⟩) (fun v18 h16 z17 H locs cells slots hf hs => ?_)
      refine lv_if_eq (tgt := 65) hx hb d_B_tick_39 (by decide) (fun q19 => ?_) (fun q19 => ?_)
      · have hf := ifp q19 hf
        refine lv_iinc (v := x3 + 1) (lv' := [(3, .int (x3 + 1)), (4, .ref v15), (0, .ref x0), (2, .int x2)]) hx hb d_B_tick_65 hl (k := 3) rfl rfl (by decide) rfl (fun ls hl => ?_)
        refine lv_goto (tgt := 21) hx hb d_B_tick_68 (by decide) ?_
        exact ih _ _ _ _ _ hf _ _ _ _ _ hs (lv_sub hl [2, 3, 0] rfl)
      · have hf := ifn q19 hf
        refine lv_aload_n hx hb d_B_tick_42 rfl (lv_at hl 1 rfl) ?_
        refine r_getI C hs fl_B_31 d_B_tick_43 hf (fun v20 hf => ?_)
        refine lv_aload hx hb d_B_tick_46 (lv_at hl 0 rfl) ?_
        refine r_getI C hs fl_B_216 d_B_tick_48 hf (fun v21 hf => ?_)
        refine lv_isub hx hb d_B_tick_51 ?_
        refine lv_bipush (v := 30) hx hb d_B_tick_52 (by decide) ?_
        refine lv_icmp_lt (tgt := 65) hx hb d_B_tick_54 (by decide) (fun q22 => ?_) (fun q22 => ?_)
        · have hf := ifp q22 hf
          refine lv_iinc (v := x3 + 1) (lv' := [(3, .int (x3 + 1)), (4, .ref v15), (0, .ref x0), (2, .int x2)]) hx hb d_B_tick_65 hl (k := 3) rfl rfl (by decide) rfl (fun ls hl => ?_)
          refine lv_goto (tgt := 21) hx hb d_B_tick_68 (by decide) ?_
          exact ih _ _ _ _ _ hf _ _ _ _ _ hs (lv_sub hl [2, 3, 0] rfl)
        · have hf := ifn q22 hf
          refine lv_aload hx hb d_B_tick_57 (lv_at hl 0 rfl) ?_
          obtain ⟨_, ho, hf⟩ := bd hf
          refine k_V C hs hex hf (fun res e1 => iv_V (b := v15) (As := []) (rest := []) C hs cv_B_60 (c_P_fence hl0 e1) (ci := 3) rfl rfl ho rfl hl.1 rfl (Nat.le_of_ble_eq_true rfl) d_B_tick_59 ⟨Nat.le_of_ble_eq_true rfl, Nat.le_of_ble_eq_true rfl⟩) (fun h23 z24 H locs cells slots hf hs => ?_)
          refine lv_iinc (v := x2 + 1) (lv' := [(2, .int (x2 + 1)), (4, .ref v15), (0, .ref x0), (3, .int x3)]) hx hb d_B_tick_62 hl (k := 2) rfl rfl (by decide) rfl (fun ls hl => ?_)
          refine lv_iinc (v := x3 + 1) (lv' := [(3, .int (x3 + 1)), (2, .int (x2 + 1)), (4, .ref v15), (0, .ref x0)]) hx hb d_B_tick_65 hl (k := 3) rfl rfl (by decide) rfl (fun ls hl => ?_)
          refine lv_goto (tgt := 21) hx hb d_B_tick_68 (by decide) ?_
          exact ih _ _ _ _ _ hf _ _ _ _ _ hs (lv_sub hl [3, 1, 0] rfl)
def f_B_tick (bs : Nat) (sE : Nat × Nat) (h : HH) (z : Z3) (x0 : Nat) (x1 : Int32) : Option RS :=
  cV (f_B_requireRange bs sE h z x1 0 30) fun h1 z2 =>
  (gI h1 x0 4 4).bind fun v4 =>
  (pV bs h1 x0 4 4 (.inl (v4 + x1))).bind fun h5 =>
  f_B_tick_L21 bs sE FU h5 z2 x0 0 0
set_option maxHeartbeats 4000000 in
set_option maxRecDepth 100000 in
theorem c_B_tick {G : EN} {l : Launch} (hl0 : l.stackTraces = false) {h : HH} {z : Z3} {x0 : Nat} {x1 : Int32} {r : RS} (hf : f_B_tick G.2.2.1 G.2.2.2 h z x0 x1 = some r) : CM G l y_B_tick (.code y_B_tick b_B_tick 5 (some .int)) 7 112 [.ref x0, .int x1] h z r := by
  refine CM.ofW hl0 rfl ?_
  intro p e s m below meth c C hr hex hin hs
  have hx := C.1
  have hb := C.2.1
  refine x_entry (n := 5) (Nat.le_of_ble_eq_true rfl) (fun ls hl => ?_)
  have hl : lv_has ls 5 [(0, .ref x0), (1, .int x1)] := hl
  unfold f_B_tick at hf
  refine lv_iload_n hx hb d_B_tick_0 rfl (lv_at hl 1 rfl) ?_
  refine lv_iconst (v := 0) hx hb d_B_tick_1 (by decide) ?_
  refine lv_bipush (v := 30) hx hb d_B_tick_2 (by decide) ?_
  refine k_V C hs hex hf (fun res e1 => iv_S (As := [.int x1, .int 0, .int 30]) (rest := []) C hs cs_B_42 (c_B_requireRange hl0 e1) rfl hl.1 rfl (Nat.le_of_ble_eq_true rfl) d_B_tick_4 ⟨Nat.le_of_ble_eq_true rfl, Nat.le_of_ble_eq_true rfl⟩) (fun h1 z2 H locs cells slots hf hs => ?_)
  refine lv_aload_n hx hb d_B_tick_7 rfl (lv_at hl 0 rfl) ?_
  refine lv_dup hx hb d_B_tick_8 rfl ?_
  refine r_getI C hs fl_B_31 d_B_tick_9 hf (fun v4 hf => ?_)
  refine lv_iload_n hx hb d_B_tick_12 rfl (lv_at hl 1 rfl) ?_
  refine lv_iadd hx hb d_B_tick_13 ?_
  refine r_putV (v := (.inl (v4 + x1))) C hs flp_B_31 rfl rfl d_B_tick_14 hf (fun h5 H locs hf hs => ?_)
  refine lv_iconst (v := 0) hx hb d_B_tick_17 (by decide) ?_
  refine lv_istore_n (lv' := [(2, .int 0), (0, .ref x0), (1, .int x1)]) hx hb d_B_tick_18 rfl hl (by decide) rfl (fun ls hl => ?_)
  refine lv_iconst (v := 0) hx hb d_B_tick_19 (by decide) ?_
  refine lv_istore_n (lv' := [(3, .int 0), (2, .int 0), (0, .ref x0), (1, .int x1)]) hx hb d_B_tick_20 rfl hl (by decide) rfl (fun ls hl => ?_)
  exact t_B_tick_L21 hl0 C hr hex FU _ _ _ _ _ hf _ _ _ _ _ hs (lv_sub hl [2, 1, 0] rfl)
def f_B_edge (bs : Nat) (sE : Nat × Nat) (h : HH) (z : Z3) (x0 : Nat) (x1 : Int32) (x2 : Int32) : Option RS :=
  cV (f_B_requireRange bs sE h z x1 0 3) fun h1 z2 =>
  cV (f_B_requireRange bs sE h1 z2 x2 0 5) fun h4 z5 =>
  (gR h4 x0 4 0).bind fun v7 =>
  (aR h4 v7 4 x1).bind fun v8 =>
  if x2 = 0 then
    ((gI h4 v8 2 2).bind fun v10 =>
    some (.inl (some (.int v10)), h4, z5))
  else
  if x2 = 1 then
    ((oK h4 v8 2).bind fun _ =>
    cI (f_L_stableOffset bs sE h4 z5 v8) fun v14 h12 z13 =>
    some (.inl (some (.int v14)), h12, z13))
  else
  if x2 = 2 then
    ((gI h4 v8 2 3).bind fun v16 =>
    some (.inl (some (.int v16)), h4, z5))
  else
  if x2 = 3 then
    ((oK h4 v8 2).bind fun _ =>
    cI (f_L_length bs sE h4 z5 v8) fun v20 h18 z19 =>
    some (.inl (some (.int v20)), h18, z19))
  else
  ((gR h4 x0 4 2).bind fun v21 =>
  (aR h4 v21 6 (x2 - 4)).bind fun v22 =>
  (gR h4 v22 1 4).bind fun v23 =>
  (aI h4 v23 0 x1).bind fun v24 =>
  some (.inl (some (.int v24)), h4, z5))
set_option maxHeartbeats 4000000 in
set_option maxRecDepth 100000 in
theorem c_B_edge {G : EN} {l : Launch} (hl0 : l.stackTraces = false) {h : HH} {z : Z3} {x0 : Nat} {x1 : Int32} {x2 : Int32} {r : RS} (hf : f_B_edge G.2.2.1 G.2.2.2 h z x0 x1 x2 = some r) : CM G l y_B_edge (.code y_B_edge b_B_edge 4 (some .int)) 7 112 [.ref x0, .int x1, .int x2] h z r := by
  refine CM.ofW hl0 rfl ?_
  intro p e s m below meth c C hr hex hin hs
  have hx := C.1
  have hb := C.2.1
  refine x_entry (n := 4) (Nat.le_of_ble_eq_true rfl) (fun ls hl => ?_)
  have hl : lv_has ls 4 [(0, .ref x0), (1, .int x1), (2, .int x2)] := hl
  unfold f_B_edge at hf
  refine lv_iload_n hx hb d_B_edge_0 rfl (lv_at hl 1 rfl) ?_
  refine lv_iconst (v := 0) hx hb d_B_edge_1 (by decide) ?_
  refine lv_iconst (v := 3) hx hb d_B_edge_2 (by decide) ?_
  refine k_V C hs hex hf (fun res e1 => iv_S (As := [.int x1, .int 0, .int 3]) (rest := []) C hs cs_B_42 (c_B_requireRange hl0 e1) rfl hl.1 rfl (Nat.le_of_ble_eq_true rfl) d_B_edge_3 ⟨Nat.le_of_ble_eq_true rfl, Nat.le_of_ble_eq_true rfl⟩) (fun h1 z2 H locs cells slots hf hs => ?_)
  refine lv_iload_n hx hb d_B_edge_6 rfl (lv_at hl 2 rfl) ?_
  refine lv_iconst (v := 0) hx hb d_B_edge_7 (by decide) ?_
  refine lv_iconst (v := 5) hx hb d_B_edge_8 (by decide) ?_
  refine k_V C hs hex hf (fun res e1 => iv_S (As := [.int x2, .int 0, .int 5]) (rest := []) C hs cs_B_42 (c_B_requireRange hl0 e1) rfl hl.1 rfl (Nat.le_of_ble_eq_true rfl) d_B_edge_9 ⟨Nat.le_of_ble_eq_true rfl, Nat.le_of_ble_eq_true rfl⟩) (fun h4 z5 H locs cells slots hf hs => ?_)
  refine lv_aload_n hx hb d_B_edge_12 rfl (lv_at hl 0 rfl) ?_
  refine r_getR C hs fl_B_11 d_B_edge_13 hf (fun v7 hf => ?_)
  refine lv_iload_n hx hb d_B_edge_16 rfl (lv_at hl 1 rfl) ?_
  refine r_aald (kd := 4) C hs (by decide) d_B_edge_17 hf (fun v8 hf => ?_)
  refine lv_astore_n (lv' := [(3, .ref v8), (0, .ref x0), (1, .int x1), (2, .int x2)]) hx hb d_B_edge_18 rfl hl (by decide) rfl (fun ls hl => ?_)
  refine lv_iload_n hx hb d_B_edge_19 rfl (lv_at hl 3 rfl) ?_
  by_cases q9 : x2 = 0
  · have hf := ifp q9 hf
    refine lv_tableIn (tgt := 52) (off := 32) hx hb d_B_edge_20 (by rw [q9]; decide) (by rw [q9]; decide) (by rw [q9]; rfl) (by decide) ?_
    refine lv_aload_n hx hb d_B_edge_52 rfl (lv_at hl 0 rfl) ?_
    refine r_getI C hs fl_B_150 d_B_edge_53 hf (fun v10 hf => ?_)
    exact r_ireturn C hs hr d_B_edge_56 hf
  have hf := ifn q9 hf
  by_cases q11 : x2 = 1
  · have hf := ifp q11 hf
    refine lv_tableIn (tgt := 57) (off := 37) hx hb d_B_edge_20 (by rw [q11]; decide) (by rw [q11]; decide) (by rw [q11]; rfl) (by decide) ?_
    refine lv_aload_n hx hb d_B_edge_57 rfl (lv_at hl 0 rfl) ?_
    obtain ⟨_, ho, hf⟩ := bd hf
    refine k_I C hs hex hf (fun res e1 => iv_V (b := v8) (As := []) (rest := []) C hs cv_B_170 (c_L_stableOffset hl0 e1) (ci := 2) rfl rfl ho rfl hl.1 rfl (Nat.le_of_ble_eq_true rfl) d_B_edge_58 ⟨Nat.le_of_ble_eq_true rfl, Nat.le_of_ble_eq_true rfl⟩) (fun v14 h12 z13 H locs cells slots hf hs => ?_)
    exact r_ireturn C hs hr d_B_edge_61 hf
  have hf := ifn q11 hf
  by_cases q15 : x2 = 2
  · have hf := ifp q15 hf
    refine lv_tableIn (tgt := 62) (off := 42) hx hb d_B_edge_20 (by rw [q15]; decide) (by rw [q15]; decide) (by rw [q15]; rfl) (by decide) ?_
    refine lv_aload_n hx hb d_B_edge_62 rfl (lv_at hl 0 rfl) ?_
    refine r_getI C hs fl_B_222 d_B_edge_63 hf (fun v16 hf => ?_)
    exact r_ireturn C hs hr d_B_edge_66 hf
  have hf := ifn q15 hf
  by_cases q17 : x2 = 3
  · have hf := ifp q17 hf
    refine lv_tableIn (tgt := 67) (off := 47) hx hb d_B_edge_20 (by rw [q17]; decide) (by rw [q17]; decide) (by rw [q17]; rfl) (by decide) ?_
    refine lv_aload_n hx hb d_B_edge_67 rfl (lv_at hl 0 rfl) ?_
    obtain ⟨_, ho, hf⟩ := bd hf
    refine k_I C hs hex hf (fun res e1 => iv_V (b := v8) (As := []) (rest := []) C hs cv_B_225 (c_L_length hl0 e1) (ci := 2) rfl rfl ho rfl hl.1 rfl (Nat.le_of_ble_eq_true rfl) d_B_edge_68 ⟨Nat.le_of_ble_eq_true rfl, Nat.le_of_ble_eq_true rfl⟩) (fun v20 h18 z19 H locs cells slots hf hs => ?_)
    exact r_ireturn C hs hr d_B_edge_71 hf
  have hf := ifn q17 hf
  refine lv_tableOut (tgt := 72) hx hb d_B_edge_20 (tab_out4 q9 q11 q15 q17) (by decide) ?_
  refine lv_aload_n hx hb d_B_edge_72 rfl (lv_at hl 1 rfl) ?_
  refine r_getR C hs fl_B_23 d_B_edge_73 hf (fun v21 hf => ?_)
  refine lv_iload_n hx hb d_B_edge_76 rfl (lv_at hl 3 rfl) ?_
  refine lv_iconst (v := 4) hx hb d_B_edge_77 (by decide) ?_
  refine lv_isub hx hb d_B_edge_78 ?_
  refine r_aald (kd := 6) C hs (by decide) d_B_edge_79 hf (fun v22 hf => ?_)
  refine r_getR C hs fl_B_213 d_B_edge_80 hf (fun v23 hf => ?_)
  refine lv_iload_n hx hb d_B_edge_83 rfl (lv_at hl 2 rfl) ?_
  refine r_iald C hs d_B_edge_84 hf (fun v24 hf => ?_)
  exact r_ireturn C hs hr d_B_edge_85 hf
def f_B_fact (bs : Nat) (sE : Nat × Nat) (h : HH) (z : Z3) (x0 : Nat) (x1 : Int32) (x2 : Int32) : Option RS :=
  cV (f_B_requireRange bs sE h z x1 0 3) fun h1 z2 =>
  cV (f_B_requireRange bs sE h1 z2 x2 0 7) fun h4 z5 =>
  (gR h4 x0 4 1).bind fun v7 =>
  (aR h4 v7 5 x1).bind fun v8 =>
  (oK h4 v8 3).bind fun _ =>
  cI (f_P_isKnown bs sE h4 z5 v8) fun v11 h9 z10 =>
  if v11 = 0 then
    (some (.inl (some (.int (-1))), h9, z10))
  else
    (if x2 = 0 then
      ((gI h9 v8 3 1).bind fun v14 =>
      some (.inl (some (.int v14)), h9, z10))
    else
    if x2 = 1 then
      ((gI h9 v8 3 2).bind fun v16 =>
      some (.inl (some (.int v16)), h9, z10))
    else
    if x2 = 2 then
      ((gI h9 v8 3 3).bind fun v18 =>
      some (.inl (some (.int v18)), h9, z10))
    else
    if x2 = 3 then
      ((gI h9 v8 3 5).bind fun v20 =>
      some (.inl (some (.int v20)), h9, z10))
    else
    ((gR h9 x0 4 0).bind fun v21 =>
    (aR h9 v21 4 (x2 - 4)).bind fun v22 =>
    (gI h9 v8 3 2).bind fun v23 =>
    (oK h9 v22 2).bind fun _ =>
    cI (f_L_nextSequence bs sE h9 z10 v22 x1 v23) fun v26 h24 z25 =>
    some (.inl (some (.int v26)), h24, z25)))
set_option maxHeartbeats 4000000 in
set_option maxRecDepth 100000 in
theorem c_B_fact {G : EN} {l : Launch} (hl0 : l.stackTraces = false) {h : HH} {z : Z3} {x0 : Nat} {x1 : Int32} {x2 : Int32} {r : RS} (hf : f_B_fact G.2.2.1 G.2.2.2 h z x0 x1 x2 = some r) : CM G l y_B_fact (.code y_B_fact b_B_fact 4 (some .int)) 7 112 [.ref x0, .int x1, .int x2] h z r := by
  refine CM.ofW hl0 rfl ?_
  intro p e s m below meth c C hr hex hin hs
  have hx := C.1
  have hb := C.2.1
  refine x_entry (n := 4) (Nat.le_of_ble_eq_true rfl) (fun ls hl => ?_)
  have hl : lv_has ls 4 [(0, .ref x0), (1, .int x1), (2, .int x2)] := hl
  unfold f_B_fact at hf
  refine lv_iload_n hx hb d_B_fact_0 rfl (lv_at hl 1 rfl) ?_
  refine lv_iconst (v := 0) hx hb d_B_fact_1 (by decide) ?_
  refine lv_iconst (v := 3) hx hb d_B_fact_2 (by decide) ?_
  refine k_V C hs hex hf (fun res e1 => iv_S (As := [.int x1, .int 0, .int 3]) (rest := []) C hs cs_B_42 (c_B_requireRange hl0 e1) rfl hl.1 rfl (Nat.le_of_ble_eq_true rfl) d_B_fact_3 ⟨Nat.le_of_ble_eq_true rfl, Nat.le_of_ble_eq_true rfl⟩) (fun h1 z2 H locs cells slots hf hs => ?_)
  refine lv_iload_n hx hb d_B_fact_6 rfl (lv_at hl 2 rfl) ?_
  refine lv_iconst (v := 0) hx hb d_B_fact_7 (by decide) ?_
  refine lv_bipush (v := 7) hx hb d_B_fact_8 (by decide) ?_
  refine k_V C hs hex hf (fun res e1 => iv_S (As := [.int x2, .int 0, .int 7]) (rest := []) C hs cs_B_42 (c_B_requireRange hl0 e1) rfl hl.1 rfl (Nat.le_of_ble_eq_true rfl) d_B_fact_10 ⟨Nat.le_of_ble_eq_true rfl, Nat.le_of_ble_eq_true rfl⟩) (fun h4 z5 H locs cells slots hf hs => ?_)
  refine lv_aload_n hx hb d_B_fact_13 rfl (lv_at hl 0 rfl) ?_
  refine r_getR C hs fl_B_17 d_B_fact_14 hf (fun v7 hf => ?_)
  refine lv_iload_n hx hb d_B_fact_17 rfl (lv_at hl 1 rfl) ?_
  refine r_aald (kd := 5) C hs (by decide) d_B_fact_18 hf (fun v8 hf => ?_)
  refine lv_astore_n (lv' := [(3, .ref v8), (0, .ref x0), (1, .int x1), (2, .int x2)]) hx hb d_B_fact_19 rfl hl (by decide) rfl (fun ls hl => ?_)
  refine lv_aload_n hx hb d_B_fact_20 rfl (lv_at hl 0 rfl) ?_
  obtain ⟨_, ho, hf⟩ := bd hf
  refine k_I C hs hex hf (fun res e1 => iv_V (b := v8) (As := []) (rest := []) C hs cv_B_228 (c_P_isKnown hl0 e1) (ci := 3) rfl rfl ho rfl hl.1 rfl (Nat.le_of_ble_eq_true rfl) d_B_fact_21 ⟨Nat.le_of_ble_eq_true rfl, Nat.le_of_ble_eq_true rfl⟩) (fun v11 h9 z10 H locs cells slots hf hs => ?_)
  refine lv_if_ne (tgt := 29) hx hb d_B_fact_24 (by decide) (fun q12 => ?_) (fun q12 => ?_)
  · have hf := ifn q12 hf
    refine lv_iload_n hx hb d_B_fact_29 rfl (lv_at hl 3 rfl) ?_
    by_cases q13 : x2 = 0
    · have hf := ifp q13 hf
      refine lv_tableIn (tgt := 60) (off := 30) hx hb d_B_fact_30 (by rw [q13]; decide) (by rw [q13]; decide) (by rw [q13]; rfl) (by decide) ?_
      refine lv_aload_n hx hb d_B_fact_60 rfl (lv_at hl 0 rfl) ?_
      refine r_getI C hs fl_B_231 d_B_fact_61 hf (fun v14 hf => ?_)
      exact r_ireturn C hs hr d_B_fact_64 hf
    have hf := ifn q13 hf
    by_cases q15 : x2 = 1
    · have hf := ifp q15 hf
      refine lv_tableIn (tgt := 65) (off := 35) hx hb d_B_fact_30 (by rw [q15]; decide) (by rw [q15]; decide) (by rw [q15]; rfl) (by decide) ?_
      refine lv_aload_n hx hb d_B_fact_65 rfl (lv_at hl 0 rfl) ?_
      refine r_getI C hs fl_B_234 d_B_fact_66 hf (fun v16 hf => ?_)
      exact r_ireturn C hs hr d_B_fact_69 hf
    have hf := ifn q15 hf
    by_cases q17 : x2 = 2
    · have hf := ifp q17 hf
      refine lv_tableIn (tgt := 70) (off := 40) hx hb d_B_fact_30 (by rw [q17]; decide) (by rw [q17]; decide) (by rw [q17]; rfl) (by decide) ?_
      refine lv_aload_n hx hb d_B_fact_70 rfl (lv_at hl 0 rfl) ?_
      refine r_getI C hs fl_B_101 d_B_fact_71 hf (fun v18 hf => ?_)
      exact r_ireturn C hs hr d_B_fact_74 hf
    have hf := ifn q17 hf
    by_cases q19 : x2 = 3
    · have hf := ifp q19 hf
      refine lv_tableIn (tgt := 75) (off := 45) hx hb d_B_fact_30 (by rw [q19]; decide) (by rw [q19]; decide) (by rw [q19]; rfl) (by decide) ?_
      refine lv_aload_n hx hb d_B_fact_75 rfl (lv_at hl 0 rfl) ?_
      refine r_getI C hs fl_B_117 d_B_fact_76 hf (fun v20 hf => ?_)
      exact r_ireturn C hs hr d_B_fact_79 hf
    have hf := ifn q19 hf
    refine lv_tableOut (tgt := 80) hx hb d_B_fact_30 (tab_out4 q13 q15 q17 q19) (by decide) ?_
    refine lv_aload_n hx hb d_B_fact_80 rfl (lv_at hl 1 rfl) ?_
    refine r_getR C hs fl_B_11 d_B_fact_81 hf (fun v21 hf => ?_)
    refine lv_iload_n hx hb d_B_fact_84 rfl (lv_at hl 3 rfl) ?_
    refine lv_iconst (v := 4) hx hb d_B_fact_85 (by decide) ?_
    refine lv_isub hx hb d_B_fact_86 ?_
    refine r_aald (kd := 4) C hs (by decide) d_B_fact_87 hf (fun v22 hf => ?_)
    refine lv_iload_n hx hb d_B_fact_88 rfl (lv_at hl 2 rfl) ?_
    refine lv_aload_n hx hb d_B_fact_89 rfl (lv_at hl 0 rfl) ?_
    refine r_getI C hs fl_B_234 d_B_fact_90 hf (fun v23 hf => ?_)
    obtain ⟨_, ho, hf⟩ := bd hf
    refine k_I C hs hex hf (fun res e1 => iv_V (b := v22) (As := [.int x1, .int v23]) (rest := []) C hs cv_B_237 (c_L_nextSequence hl0 e1) (ci := 2) rfl rfl ho rfl hl.1 rfl (Nat.le_of_ble_eq_true rfl) d_B_fact_93 ⟨Nat.le_of_ble_eq_true rfl, Nat.le_of_ble_eq_true rfl⟩) (fun v26 h24 z25 H locs cells slots hf hs => ?_)
    exact r_ireturn C hs hr d_B_fact_96 hf
  · have hf := ifp q12 hf
    refine lv_iconst (v := (-1)) hx hb d_B_fact_27 (by decide) ?_
    exact r_ireturn C hs hr d_B_fact_28 hf
