def f_AC_ctor (bs : Nat) (sE : Nat × Nat) (h : HH) (z : Z3) (x0 : Nat) : Option RS :=
  some (.inl none, h, z)
set_option maxHeartbeats 4000000 in
set_option maxRecDepth 100000 in
theorem c_AC_ctor {G : EN} {l : Launch} (hl0 : l.stackTraces = false) {h : HH} {z : Z3} {x0 : Nat} {r : RS} (hf : f_AC_ctor G.2.2.1 G.2.2.2 h z x0 = some r) : CM G l y_AC_ctor (.code y_AC_ctor b_AC_ctor 1 none) 1 20 [.ref x0] h z r := by
  refine CM.ofW hl0 rfl ?_
  intro p e s m below meth c C hr hex hin hs
  have hin : meth.name = "<init>" := hin
  have hx := C.1
  have hb := C.2.1
  refine x_entry (n := 1) (Nat.le_of_ble_eq_true rfl) (fun ls hl => ?_)
  have hl : lv_has ls 1 [(0, .ref x0)] := hl
  unfold f_AC_ctor at hf
  refine lv_aload_n hx hb d_AC_ctor_0 rfl (lv_at hl 0 rfl) ?_
  refine r_objInit C hl.1 (tm (i := 55) (by decide +kernel)) (tm (i := 31) (by decide +kernel)) (tm (i := 32) (by decide +kernel)) d_AC_ctor_1 ⟨Nat.le_of_ble_eq_true rfl, Nat.le_of_ble_eq_true rfl⟩ ?_
  exact r_vreturn C hs hr d_AC_ctor_4 hf
def f_AL_ctor (bs : Nat) (sE : Nat × Nat) (h : HH) (z : Z3) (x0 : Nat) : Option RS :=
  cV (f_AC_ctor bs sE h z x0) fun h1 z2 =>
  (pV bs h1 x0 5 0 (.inl 0)).bind fun h4 =>
  some (.inl none, h4, z2)
set_option maxHeartbeats 4000000 in
set_option maxRecDepth 100000 in
theorem c_AL_ctor {G : EN} {l : Launch} (hl0 : l.stackTraces = false) {h : HH} {z : Z3} {x0 : Nat} {r : RS} (hf : f_AL_ctor G.2.2.1 G.2.2.2 h z x0 = some r) : CM G l y_AL_ctor (.code y_AL_ctor b_AL_ctor 1 none) 2 40 [.ref x0] h z r := by
  refine CM.ofW hl0 rfl ?_
  intro p e s m below meth c C hr hex hin hs
  have hin : meth.name = "<init>" := hin
  have hx := C.1
  have hb := C.2.1
  refine x_entry (n := 1) (Nat.le_of_ble_eq_true rfl) (fun ls hl => ?_)
  have hl : lv_has ls 1 [(0, .ref x0)] := hl
  unfold f_AL_ctor at hf
  refine lv_aload_n hx hb d_AL_ctor_0 rfl (lv_at hl 0 rfl) ?_
  refine k_V C hs hex hf (fun res e1 => iv_I (b := x0) (As := []) (rest := []) C hs ci_AL_1 (c_AC_ctor hl0 e1) rfl hl.1 rfl (Nat.le_of_ble_eq_true rfl) d_AL_ctor_1 ⟨Nat.le_of_ble_eq_true rfl, Nat.le_of_ble_eq_true rfl⟩) (fun h1 z2 H locs cells slots hf hs => ?_)
  refine lv_aload_n hx hb d_AL_ctor_4 rfl (lv_at hl 0 rfl) ?_
  refine lv_iconst (v := 0) hx hb d_AL_ctor_5 (by decide) ?_
  refine r_putV (v := (.inl 0)) C hs flp_AL_7 rfl rfl d_AL_ctor_6 hf (fun h4 H locs hf hs => ?_)
  exact r_vreturn C hs hr d_AL_ctor_9 hf
def f_A_ctor (bs : Nat) (sE : Nat × Nat) (h : HH) (z : Z3) (x0 : Nat) : Option RS :=
  cV (f_AL_ctor bs sE h z x0) fun h1 z2 =>
  (pV bs h1 x0 5 1 (.inr (some sE.1))).bind fun h4 =>
  some (.inl none, h4, z2)
set_option maxHeartbeats 4000000 in
set_option maxRecDepth 100000 in
theorem c_A_ctor {G : EN} {l : Launch} (hl0 : l.stackTraces = false) {h : HH} {z : Z3} {x0 : Nat} {r : RS} (hf : f_A_ctor G.2.2.1 G.2.2.2 h z x0 = some r) : CM G l y_A_ctor (.code y_A_ctor b_A_ctor 1 none) 3 60 [.ref x0] h z r := by
  refine CM.ofW hl0 rfl ?_
  intro p e s m below meth c C hr hex hin hs
  have hin : meth.name = "<init>" := hin
  have hx := C.1
  have hb := C.2.1
  refine x_entry (n := 1) (Nat.le_of_ble_eq_true rfl) (fun ls hl => ?_)
  have hl : lv_has ls 1 [(0, .ref x0)] := hl
  unfold f_A_ctor at hf
  refine lv_aload_n hx hb d_A_ctor_0 rfl (lv_at hl 0 rfl) ?_
  refine k_V C hs hex hf (fun res e1 => iv_I (b := x0) (As := []) (rest := []) C hs ci_A_1 (c_AL_ctor hl0 e1) rfl hl.1 rfl (Nat.le_of_ble_eq_true rfl) d_A_ctor_1 ⟨Nat.le_of_ble_eq_true rfl, Nat.le_of_ble_eq_true rfl⟩) (fun h1 z2 H locs cells slots hf hs => ?_)
  refine lv_aload_n hx hb d_A_ctor_4 rfl (lv_at hl 0 rfl) ?_
  refine r_gets C hs (tm (i := 56) (by decide +kernel)) d_A_ctor_5 ?_
  refine r_putV (v := (.inr (some G.2.2.2.1))) C hs flp_A_9 rfl rfl d_A_ctor_8 hf (fun h4 H locs hf hs => ?_)
  exact r_vreturn C hs hr d_A_ctor_11 hf
def fb_R_fill_L5 (bs : Nat) (sE : Nat × Nat) (REC : HH → Z3 → Nat → Int32 → Int32 → Int32 → Option RS) (h : HH) (z : Z3) (x0 : Nat) (x1 : Int32) (x2 : Int32) (x3 : Int32) : Option RS :=
  if x3 ≤ x2 then
    (some (.inl none, h, z))
  else
    ((aIs bs h x0 0 x2 x1).bind fun h3 =>
    REC h3 z x0 x1 (x2 + 1) x3)
def f_R_fill_L5 (bs : Nat) (sE : Nat × Nat) : Nat → HH → Z3 → Nat → Int32 → Int32 → Int32 → Option RS
  | 0 => fun _ _ _ _ _ _ => none
  | n + 1 => fb_R_fill_L5 bs sE (f_R_fill_L5 bs sE n)
set_option maxHeartbeats 4000000 in
set_option maxRecDepth 100000 in
theorem t_R_fill_L5 {G : EN} {p : Program} {l : Launch} {e : Env} {s : State} {m : MethodId} {args : Array Value} {below : List Frame} {meth : Method} {c : Code} {z0 : Z3} (hl0 : l.stackTraces = false) (C : CX G p l s m meth c b_R_fill 4 y_R_fill.cls) (hr : meth.sig.returnType = none) (hex : c.exceptionTable.toList = []) {r : RS} :
    ∀ (n : Nat) (h : HH) (z : Z3) (x0 : Nat) (x1 : Int32) (x2 : Int32) (x3 : Int32), f_R_fill_L5 G.2.2.1 G.2.2.2 n h z x0 x1 x2 x3 = some r → ∀ (H : Heap) (locs : List Loc) (cells slots : Nat) (ls : Array Slot), ST G (RM 0 0 z0) s h z H locs cells slots → lv_has ls 4 [(0, .ref x0), (1, .int x1), (2, .int x2), (3, .int x3)] → W p l e (RM 0 0 z0) s m args below meth c H locs cells slots (MX G below s r (RM 0 0 z0).cells (RM 0 0 z0).slots) (F0 m 5 ls []) := by
  have hx := C.1
  have hb := C.2.1
  intro n
  induction n with
  | zero => intro h z x0 x1 x2 x3 hf; exact nomatch (show (none : Option RS) = some r from hf)
  | succ n ih =>
    intro h z x0 x1 x2 x3 hf H locs cells slots ls hs hl
    have hf : fb_R_fill_L5 G.2.2.1 G.2.2.2 (f_R_fill_L5 G.2.2.1 G.2.2.2 n) h z x0 x1 x2 x3 = some r := hf
    unfold fb_R_fill_L5 at hf
    refine lv_iload_n hx hb d_R_fill_5 rfl (lv_at hl 2 rfl) ?_
    refine lv_iload_n hx hb d_R_fill_6 rfl (lv_at hl 3 rfl) ?_
    refine lv_icmp_ge (tgt := 20) hx hb d_R_fill_7 (by decide) (fun q2 => ?_) (fun q2 => ?_)
    · have hf := ifp q2 hf
      exact r_vreturn C hs hr d_R_fill_20 hf
    · have hf := ifn q2 hf
      refine lv_aload_n hx hb d_R_fill_10 rfl (lv_at hl 0 rfl) ?_
      refine lv_iload_n hx hb d_R_fill_11 rfl (lv_at hl 2 rfl) ?_
      refine lv_iload_n hx hb d_R_fill_12 rfl (lv_at hl 1 rfl) ?_
      refine r_iast C hs d_R_fill_13 hf (fun h3 H locs hf hs => ?_)
      refine lv_iinc (v := x2 + 1) (lv' := [(2, .int (x2 + 1)), (0, .ref x0), (1, .int x1), (3, .int x3)]) hx hb d_R_fill_14 hl (k := 2) rfl rfl (by decide) rfl (fun ls hl => ?_)
      refine lv_goto (tgt := 5) hx hb d_R_fill_17 (by decide) ?_
      exact ih _ _ _ _ _ _ hf _ _ _ _ _ hs (lv_sub hl [1, 2, 0, 3] rfl)
def f_R_fill (bs : Nat) (sE : Nat × Nat) (h : HH) (z : Z3) (x0 : Nat) (x1 : Int32) : Option RS :=
  (aN h x0).bind fun v1 =>
  f_R_fill_L5 bs sE FU h z x0 x1 0 v1
set_option maxHeartbeats 4000000 in
set_option maxRecDepth 100000 in
theorem c_R_fill {G : EN} {l : Launch} (hl0 : l.stackTraces = false) {h : HH} {z : Z3} {x0 : Nat} {x1 : Int32} {r : RS} (hf : f_R_fill G.2.2.1 G.2.2.2 h z x0 x1 = some r) : CM G l y_R_fill (.code y_R_fill b_R_fill 4 none) 0 0 [.ref x0, .int x1] h z r := by
  refine CM.ofW hl0 rfl ?_
  intro p e s m below meth c C hr hex hin hs
  have hx := C.1
  have hb := C.2.1
  refine x_entry (n := 4) (Nat.le_of_ble_eq_true rfl) (fun ls hl => ?_)
  have hl : lv_has ls 4 [(0, .ref x0), (1, .int x1)] := hl
  unfold f_R_fill at hf
  refine lv_iconst (v := 0) hx hb d_R_fill_0 (by decide) ?_
  refine lv_istore_n (lv' := [(2, .int 0), (0, .ref x0), (1, .int x1)]) hx hb d_R_fill_1 rfl hl (by decide) rfl (fun ls hl => ?_)
  refine lv_aload_n hx hb d_R_fill_2 rfl (lv_at hl 1 rfl) ?_
  refine r_alen C hs d_R_fill_3 hf (fun v1 hf => ?_)
  refine lv_istore_n (lv' := [(3, .int v1), (2, .int 0), (0, .ref x0), (1, .int x1)]) hx hb d_R_fill_4 rfl hl (by decide) rfl (fun ls hl => ?_)
  exact t_R_fill_L5 hl0 C hr hex FU _ _ _ _ _ _ hf _ _ _ _ _ hs (lv_sub hl [2, 3, 1, 0] rfl)
def f_S_newLength (bs : Nat) (sE : Nat × Nat) (h : HH) (z : Z3) (x0 : Int32) (x1 : Int32) (x2 : Int32) : Option RS :=
  if (x0 + (if x1 < x2 then x2 else x1)) ≤ 0 then
    (none)
  else
    (if 2147483639 < (x0 + (if x1 < x2 then x2 else x1)) then
      (none)
    else
      (some (.inl (some (.int (x0 + (if x1 < x2 then x2 else x1)))), h, z)))
set_option maxHeartbeats 4000000 in
set_option maxRecDepth 100000 in
theorem c_S_newLength {G : EN} {l : Launch} (hl0 : l.stackTraces = false) {h : HH} {z : Z3} {x0 : Int32} {x1 : Int32} {x2 : Int32} {r : RS} (hf : f_S_newLength G.2.2.1 G.2.2.2 h z x0 x1 x2 = some r) : CM G l y_S_newLength (.code y_S_newLength b_S_newLength 4 (some .int)) 1 24 [.int x0, .int x1, .int x2] h z r := by
  refine CM.ofW hl0 rfl ?_
  intro p e s m below meth c C hr hex hin hs
  have hx := C.1
  have hb := C.2.1
  refine x_entry (n := 4) (Nat.le_of_ble_eq_true rfl) (fun ls hl => ?_)
  have hl : lv_has ls 4 [(0, .int x0), (1, .int x1), (2, .int x2)] := hl
  unfold f_S_newLength at hf
  refine lv_iload_n hx hb d_S_newLength_0 rfl (lv_at hl 0 rfl) ?_
  refine lv_iload_n hx hb d_S_newLength_1 rfl (lv_at hl 1 rfl) ?_
  refine lv_iload_n hx hb d_S_newLength_2 rfl (lv_at hl 2 rfl) ?_
  refine r_mmax C hs hl.1 (tm (i := 278) (by decide +kernel)) (tm (i := 279) (by decide +kernel)) (tm (i := 21) (by decide +kernel)) (tm (i := 280) (by decide +kernel)) ⟨Nat.le_of_ble_eq_true rfl, Nat.le_of_ble_eq_true rfl⟩ d_S_newLength_3 ?_
  refine lv_iadd hx hb d_S_newLength_6 ?_
  refine lv_istore_n (lv' := [(3, .int (x0 + (if x1 < x2 then x2 else x1))), (0, .int x0), (1, .int x1), (2, .int x2)]) hx hb d_S_newLength_7 rfl hl (by decide) rfl (fun ls hl => ?_)
  refine lv_iconst (v := 0) hx hb d_S_newLength_8 (by decide) ?_
  refine lv_iload_n hx hb d_S_newLength_9 rfl (lv_at hl 0 rfl) ?_
  refine lv_icmp_ge (tgt := 21) hx hb d_S_newLength_10 (by decide) (fun q1 => ?_) (fun q1 => ?_)
  · have hf := ifp q1 hf
    exact nomatch hf
  · have hf := ifn q1 hf
    refine lv_iload_n hx hb d_S_newLength_13 rfl (lv_at hl 0 rfl) ?_
    refine lv_ldc (v := 2147483639) hx hb C.2.2.2.1 ((C.2.2.2.2.2.1.here C.2.2.2.2.2.2.1).1.use (tm (i := 281) (by decide +kernel)) rfl) d_S_newLength_14 ?_
    refine lv_icmp_gt (tgt := 21) hx hb d_S_newLength_16 (by decide) (fun q2 => ?_) (fun q2 => ?_)
    · have hf := ifp q2 hf
      exact nomatch hf
    · have hf := ifn q2 hf
      refine lv_iload_n hx hb d_S_newLength_19 rfl (lv_at hl 0 rfl) ?_
      exact r_ireturn C hs hr d_S_newLength_20 hf
def f_R_copyOf3 (bs : Nat) (sE : Nat × Nat) (h : HH) (z : Z3) (x0 : Nat) (x1 : Int32) (x2 : Nat) : Option RS :=
  if ((some x2) : Option Nat) = (some sE.2) then
    ((nA x1 600).bind fun _ =>
    (nO z 600).bind fun _ =>
    (some (va_up h z.1 (some (.inr (3, x1.toNatClampNeg, .inr (.inr (fun _ => none))))))).bind fun h2 =>
    (some (nZ z 600)).bind fun z3 =>
    (aN h2 x0).bind fun v4 =>
    (aCp bs h2 x0 0 z.1 0 (if x1 < v4 then x1 else v4)).bind fun h5 =>
    some (.inl (some (.ref z.1)), h5, z3))
  else
    (none)
set_option maxHeartbeats 4000000 in
set_option maxRecDepth 100000 in
theorem c_R_copyOf3 {G : EN} {l : Launch} (hl0 : l.stackTraces = false) {h : HH} {z : Z3} {x0 : Nat} {x1 : Int32} {x2 : Nat} {r : RS} (hf : f_R_copyOf3 G.2.2.1 G.2.2.2 h z x0 x1 x2 = some r) : CM G l y_R_copyOf3 (.code y_R_copyOf3 b_R_copyOf3 4 (some (.array (.object "java/lang/Object")))) 1 60 [.ref x0, .int x1, .ref x2] h z r := by
  refine CM.ofW hl0 rfl ?_
  intro p e s m below meth c C hr hex hin hs
  have hx := C.1
  have hb := C.2.1
  refine x_entry (n := 4) (Nat.le_of_ble_eq_true rfl) (fun ls hl => ?_)
  have hl : lv_has ls 4 [(0, .ref x0), (1, .int x1), (2, .ref x2)] := hl
  unfold f_R_copyOf3 at hf
  refine lv_aload_n hx hb d_R_copyOf3_0 rfl (lv_at hl 2 rfl) ?_
  refine r_ldcM C (tm (i := 307) (by decide +kernel)) d_R_copyOf3_1 ?_
  refine lv_acmp_ne (rx := (some x2)) (ry := (some G.2.2.2.2)) (tgt := 13) hx hb d_R_copyOf3_3 (by decide) (fun q1 => ?_) (fun q1 => ?_)
  · have hf := ifn q1 hf
    exact nomatch hf
  · have hf := ifp q1 hf
    refine lv_iload_n hx hb d_R_copyOf3_6 rfl (lv_at hl 1 rfl) ?_
    refine r_anew (kd := 3) (NB := 600) C hs rfl (by decide) (tm (i := 309) (by decide +kernel)) (tm (i := 308) (by decide +kernel)) d_R_copyOf3_7 hf (fun H slots hf hs => ?_)
    obtain ⟨h2, eh2, hf⟩ := bd hf
    obtain ⟨z3, ez3, hf⟩ := bd hf
    rw [Option.some.inj eh2, Option.some.inj ez3] at hs
    refine lv_goto (tgt := 24) hx hb d_R_copyOf3_10 (by decide) ?_
    refine lv_astore_n (lv' := [(3, .ref z.1), (0, .ref x0), (1, .int x1), (2, .ref x2)]) hx hb d_R_copyOf3_24 rfl hl (by decide) rfl (fun ls hl => ?_)
    refine lv_aload_n hx hb d_R_copyOf3_25 rfl (lv_at hl 1 rfl) ?_
    refine lv_iconst (v := 0) hx hb d_R_copyOf3_26 (by decide) ?_
    refine lv_aload_n hx hb d_R_copyOf3_27 rfl (lv_at hl 0 rfl) ?_
    refine lv_iconst (v := 0) hx hb d_R_copyOf3_28 (by decide) ?_
    refine lv_aload_n hx hb d_R_copyOf3_29 rfl (lv_at hl 1 rfl) ?_
    refine r_alen C hs d_R_copyOf3_30 hf (fun v4 hf => ?_)
    refine lv_iload_n hx hb d_R_copyOf3_31 rfl (lv_at hl 2 rfl) ?_
    refine r_mmin C hs hl.1 (tm (i := 310) (by decide +kernel)) (tm (i := 311) (by decide +kernel)) (tm (i := 21) (by decide +kernel)) (tm (i := 312) (by decide +kernel)) ⟨Nat.le_of_ble_eq_true rfl, Nat.le_of_ble_eq_true rfl⟩ d_R_copyOf3_32 ?_
    refine r_acp C hs hl.1 (tm (i := 313) (by decide +kernel)) (tm (i := 315) (by decide +kernel)) (tm (i := 314) (by decide +kernel)) (tm (i := 22) (by decide +kernel)) (tm (i := 1045) (by decide +kernel)) ⟨Nat.le_of_ble_eq_true rfl, Nat.le_of_ble_eq_true rfl⟩ d_R_copyOf3_35 hf (fun h5 H locs hf hs => ?_)
    refine lv_aload_n hx hb d_R_copyOf3_38 rfl (lv_at hl 0 rfl) ?_
    exact r_areturn C hs hr (Or.inr ⟨_, rfl⟩) d_R_copyOf3_39 hf
def f_R_copyOf (bs : Nat) (sE : Nat × Nat) (h : HH) (z : Z3) (x0 : Nat) (x1 : Int32) : Option RS :=
  (aK3 h x0).bind fun _ =>
  cR (f_R_copyOf3 bs sE h z x0 x1 sE.2) fun v3 h1 z2 =>
  some (.inl (some (.ref v3)), h1, z2)
set_option maxHeartbeats 4000000 in
set_option maxRecDepth 100000 in
theorem c_R_copyOf {G : EN} {l : Launch} (hl0 : l.stackTraces = false) {h : HH} {z : Z3} {x0 : Nat} {x1 : Int32} {r : RS} (hf : f_R_copyOf G.2.2.1 G.2.2.2 h z x0 x1 = some r) : CM G l y_R_copyOf (.code y_R_copyOf b_R_copyOf 2 (some (.array (.object "java/lang/Object")))) 2 83 [.ref x0, .int x1] h z r := by
  refine CM.ofW hl0 rfl ?_
  intro p e s m below meth c C hr hex hin hs
  have hx := C.1
  have hb := C.2.1
  refine x_entry (n := 2) (Nat.le_of_ble_eq_true rfl) (fun ls hl => ?_)
  have hl : lv_has ls 2 [(0, .ref x0), (1, .int x1)] := hl
  unfold f_R_copyOf at hf
  refine lv_aload_n hx hb d_R_copyOf_0 rfl (lv_at hl 0 rfl) ?_
  refine lv_iload_n hx hb d_R_copyOf_1 rfl (lv_at hl 1 rfl) ?_
  refine lv_aload_n hx hb d_R_copyOf_2 rfl (lv_at hl 0 rfl) ?_
  refine r_getC C hs hl.1 (tm (i := 288) (by decide +kernel)) (tm (i := 1039) (by decide +kernel)) (tm (i := 1038) (by decide +kernel)) (tm (i := 289) (by decide +kernel)) (tm (i := 303) (by decide +kernel)) ⟨Nat.le_of_ble_eq_true rfl, Nat.le_of_ble_eq_true rfl⟩ d_R_copyOf_3 hf (fun hf => ?_)
  refine k_R C hs hex hf (fun res e1 => iv_S (As := [.ref x0, .int x1, .ref G.2.2.2.2]) (rest := []) C hs cs_R_300 (c_R_copyOf3 hl0 e1) rfl hl.1 rfl (Nat.le_of_ble_eq_true rfl) d_R_copyOf_6 ⟨Nat.le_of_ble_eq_true rfl, Nat.le_of_ble_eq_true rfl⟩) (fun v3 h1 z2 H locs cells slots hf hs => ?_)
  exact r_areturn C hs hr (Or.inr ⟨_, rfl⟩) d_R_copyOf_9 hf
def f_A_grow1_B20 (bs : Nat) (sE : Nat × Nat) (h : HH) (z : Z3) (x0 : Nat) (x1 : Int32) (x2 : Int32) : Option RS :=
  cI (f_S_newLength bs sE h z x2 (x1 - x2) (x2 >>> (1 &&& 31))) fun v6 h4 z5 =>
  (gR h4 x0 5 1).bind fun v7 =>
  cR (f_R_copyOf bs sE h4 z5 v7 v6) fun v10 h8 z9 =>
  (pV bs h8 x0 5 1 (.inr (some v10))).bind fun h11 =>
  some (.inl (some (.ref v10)), h11, z9)
set_option maxHeartbeats 4000000 in
set_option maxRecDepth 100000 in
theorem t_A_grow1_B20 {G : EN} {p : Program} {l : Launch} {e : Env} {s : State} {m : MethodId} {args : Array Value} {below : List Frame} {meth : Method} {c : Code} {z0 : Z3} (hl0 : l.stackTraces = false) (C : CX G p l s m meth c b_A_grow1 4 y_A_grow1.cls) (hr : meth.sig.returnType = (some (.array (.object "java/lang/Object")))) (hex : c.exceptionTable.toList = []) {r : RS} :
    ∀ (h : HH) (z : Z3) (x0 : Nat) (x1 : Int32) (x2 : Int32), f_A_grow1_B20 G.2.2.1 G.2.2.2 h z x0 x1 x2 = some r → ∀ (H : Heap) (locs : List Loc) (cells slots : Nat) (ls : Array Slot), ST G (RM 3 104 z0) s h z H locs cells slots → lv_has ls 4 [(0, .ref x0), (1, .int x1), (2, .int x2)] → W p l e (RM 3 104 z0) s m args below meth c H locs cells slots (MX G below s r (RM 3 104 z0).cells (RM 3 104 z0).slots) (F0 m 20 ls []) := by
  have hx := C.1
  have hb := C.2.1
  intro h z x0 x1 x2 hf H locs cells slots ls hs hl
  unfold f_A_grow1_B20 at hf
  refine lv_iload_n hx hb d_A_grow1_20 rfl (lv_at hl 2 rfl) ?_
  refine lv_iload_n hx hb d_A_grow1_21 rfl (lv_at hl 1 rfl) ?_
  refine lv_iload_n hx hb d_A_grow1_22 rfl (lv_at hl 2 rfl) ?_
  refine lv_isub hx hb d_A_grow1_23 ?_
  refine lv_iload_n hx hb d_A_grow1_24 rfl (lv_at hl 2 rfl) ?_
  refine lv_iconst (v := 1) hx hb d_A_grow1_25 (by decide) ?_
  refine lv_ishr hx hb d_A_grow1_26 ?_
  refine k_I C hs hex hf (fun res e1 => iv_S (As := [.int x2, .int (x1 - x2), .int (x2 >>> (1 &&& 31))]) (rest := []) C hs cs_A_73 (c_S_newLength hl0 e1) rfl hl.1 rfl (Nat.le_of_ble_eq_true rfl) d_A_grow1_27 ⟨Nat.le_of_ble_eq_true rfl, Nat.le_of_ble_eq_true rfl⟩) (fun v6 h4 z5 H locs cells slots hf hs => ?_)
  refine lv_istore_n (lv' := [(3, .int v6), (0, .ref x0), (1, .int x1), (2, .int x2)]) hx hb d_A_grow1_30 rfl hl (by decide) rfl (fun ls hl => ?_)
  refine lv_aload_n hx hb d_A_grow1_31 rfl (lv_at hl 1 rfl) ?_
  refine lv_aload_n hx hb d_A_grow1_32 rfl (lv_at hl 1 rfl) ?_
  refine r_getR C hs fl_A_9 d_A_grow1_33 hf (fun v7 hf => ?_)
  refine lv_iload_n hx hb d_A_grow1_36 rfl (lv_at hl 0 rfl) ?_
  refine k_R C hs hex hf (fun res e1 => iv_S (As := [.ref v7, .int v6]) (rest := [.ref x0]) C hs cs_A_66 (c_R_copyOf hl0 e1) rfl hl.1 rfl (Nat.le_of_ble_eq_true rfl) d_A_grow1_37 ⟨Nat.le_of_ble_eq_true rfl, Nat.le_of_ble_eq_true rfl⟩) (fun v10 h8 z9 H locs cells slots hf hs => ?_)
  refine lv_dup_x1 hx hb d_A_grow1_40 rfl rfl ?_
  refine r_putV (v := (.inr (some v10))) C hs flp_A_9 rfl rfl d_A_grow1_41 hf (fun h11 H locs hf hs => ?_)
  exact r_areturn C hs hr (Or.inr ⟨_, rfl⟩) d_A_grow1_44 hf
def f_A_grow1 (bs : Nat) (sE : Nat × Nat) (h : HH) (z : Z3) (x0 : Nat) (x1 : Int32) : Option RS :=
  (gR h x0 5 1).bind fun v1 =>
  (aN h v1).bind fun v2 =>
  if 0 < v2 then
    (f_A_grow1_B20 bs sE h z x0 x1 v2)
  else
    ((gR h x0 5 1).bind fun v12 =>
    if ((some v12) : Option Nat) = (some sE.1) then
      ((nA (if 10 < x1 then x1 else 10) 600).bind fun _ =>
      (nO z 600).bind fun _ =>
      (some (va_up h z.1 (some (.inr (3, ((if 10 < x1 then x1 else 10)).toNatClampNeg, .inr (.inr (fun _ => none))))))).bind fun h14 =>
      (some (nZ z 600)).bind fun z15 =>
      (pV bs h14 x0 5 1 (.inr (some z.1))).bind fun h16 =>
      some (.inl (some (.ref z.1)), h16, z15))
    else
      (f_A_grow1_B20 bs sE h z x0 x1 v2))
set_option maxHeartbeats 4000000 in
set_option maxRecDepth 100000 in
theorem c_A_grow1 {G : EN} {l : Launch} (hl0 : l.stackTraces = false) {h : HH} {z : Z3} {x0 : Nat} {x1 : Int32} {r : RS} (hf : f_A_grow1 G.2.2.1 G.2.2.2 h z x0 x1 = some r) : CM G l y_A_grow1 (.code y_A_grow1 b_A_grow1 4 (some (.array (.object "java/lang/Object")))) 3 104 [.ref x0, .int x1] h z r := by
  refine CM.ofW hl0 rfl ?_
  intro p e s m below meth c C hr hex hin hs
  have hx := C.1
  have hb := C.2.1
  refine x_entry (n := 4) (Nat.le_of_ble_eq_true rfl) (fun ls hl => ?_)
  have hl : lv_has ls 4 [(0, .ref x0), (1, .int x1)] := hl
  unfold f_A_grow1 at hf
  refine lv_aload_n hx hb d_A_grow1_0 rfl (lv_at hl 0 rfl) ?_
  refine r_getR C hs fl_A_9 d_A_grow1_1 hf (fun v1 hf => ?_)
  refine r_alen C hs d_A_grow1_4 hf (fun v2 hf => ?_)
  refine lv_istore_n (lv' := [(2, .int v2), (0, .ref x0), (1, .int x1)]) hx hb d_A_grow1_5 rfl hl (by decide) rfl (fun ls hl => ?_)
  refine lv_iload_n hx hb d_A_grow1_6 rfl (lv_at hl 0 rfl) ?_
  refine lv_if_gt (tgt := 20) hx hb d_A_grow1_7 (by decide) (fun q3 => ?_) (fun q3 => ?_)
  · have hf := ifp q3 hf
    exact t_A_grow1_B20 hl0 C hr hex _ _ _ _ _ hf _ _ _ _ _ hs (lv_sub hl [1, 2, 0] rfl)
  · have hf := ifn q3 hf
    refine lv_aload_n hx hb d_A_grow1_10 rfl (lv_at hl 1 rfl) ?_
    refine r_getR C hs fl_A_9 d_A_grow1_11 hf (fun v12 hf => ?_)
    refine r_gets C hs (tm (i := 56) (by decide +kernel)) d_A_grow1_14 ?_
    refine lv_acmp_eq (rx := (some v12)) (ry := (some G.2.2.2.1)) (tgt := 45) hx hb d_A_grow1_17 (by decide) (fun q13 => ?_) (fun q13 => ?_)
    · have hf := ifp q13 hf
      refine lv_aload_n hx hb d_A_grow1_45 rfl (lv_at hl 1 rfl) ?_
      refine lv_bipush (v := 10) hx hb d_A_grow1_46 (by decide) ?_
      refine lv_iload_n hx hb d_A_grow1_48 rfl (lv_at hl 2 rfl) ?_
      refine r_mmax C hs hl.1 (tm (i := 316) (by decide +kernel)) (tm (i := 279) (by decide +kernel)) (tm (i := 21) (by decide +kernel)) (tm (i := 280) (by decide +kernel)) ⟨Nat.le_of_ble_eq_true rfl, Nat.le_of_ble_eq_true rfl⟩ d_A_grow1_49 ?_
      refine r_anew (kd := 3) (NB := 600) C hs rfl (by decide) (tm (i := 317) (by decide +kernel)) (tm (i := 308) (by decide +kernel)) d_A_grow1_52 hf (fun H slots hf hs => ?_)
      obtain ⟨h14, eh14, hf⟩ := bd hf
      obtain ⟨z15, ez15, hf⟩ := bd hf
      rw [Option.some.inj eh14, Option.some.inj ez15] at hs
      refine lv_dup_x1 hx hb d_A_grow1_55 rfl rfl ?_
      refine r_putV (v := (.inr (some z.1))) C hs flp_A_9 rfl rfl d_A_grow1_56 hf (fun h16 H locs hf hs => ?_)
      exact r_areturn C hs hr (Or.inr ⟨_, rfl⟩) d_A_grow1_59 hf
    · have hf := ifn q13 hf
      exact t_A_grow1_B20 hl0 C hr hex _ _ _ _ _ hf _ _ _ _ _ hs (lv_sub hl [1, 2, 0] rfl)
def f_A_grow (bs : Nat) (sE : Nat × Nat) (h : HH) (z : Z3) (x0 : Nat) : Option RS :=
  (gI h x0 5 2).bind fun v1 =>
  (oK h x0 5).bind fun _ =>
  cR (f_A_grow1 bs sE h z x0 (v1 + 1)) fun v4 h2 z3 =>
  some (.inl (some (.ref v4)), h2, z3)
set_option maxHeartbeats 4000000 in
set_option maxRecDepth 100000 in
theorem c_A_grow {G : EN} {l : Launch} (hl0 : l.stackTraces = false) {h : HH} {z : Z3} {x0 : Nat} {r : RS} (hf : f_A_grow G.2.2.1 G.2.2.2 h z x0 = some r) : CM G l y_A_grow (.code y_A_grow b_A_grow 1 (some (.array (.object "java/lang/Object")))) 4 127 [.ref x0] h z r := by
  refine CM.ofW hl0 rfl ?_
  intro p e s m below meth c C hr hex hin hs
  have hx := C.1
  have hb := C.2.1
  refine x_entry (n := 1) (Nat.le_of_ble_eq_true rfl) (fun ls hl => ?_)
  have hl : lv_has ls 1 [(0, .ref x0)] := hl
  unfold f_A_grow at hf
  refine lv_aload_n hx hb d_A_grow_0 rfl (lv_at hl 0 rfl) ?_
  refine lv_aload_n hx hb d_A_grow_1 rfl (lv_at hl 0 rfl) ?_
  refine r_getI C hs fl_A_48 d_A_grow_2 hf (fun v1 hf => ?_)
  refine lv_iconst (v := 1) hx hb d_A_grow_5 (by decide) ?_
  refine lv_iadd hx hb d_A_grow_6 ?_
  obtain ⟨_, ho, hf⟩ := bd hf
  refine k_R C hs hex hf (fun res e1 => iv_V (b := x0) (As := [.int (v1 + 1)]) (rest := []) C hs cv_A_69 (c_A_grow1 hl0 e1) (ci := 5) rfl rfl ho rfl hl.1 rfl (Nat.le_of_ble_eq_true rfl) d_A_grow_7 ⟨Nat.le_of_ble_eq_true rfl, Nat.le_of_ble_eq_true rfl⟩) (fun v4 h2 z3 H locs cells slots hf hs => ?_)
  exact r_areturn C hs hr (Or.inr ⟨_, rfl⟩) d_A_grow_10 hf
def f_A_add3_B11 (bs : Nat) (sE : Nat × Nat) (h : HH) (z : Z3) (x0 : Nat) (x1 : Nat) (x2 : Nat) (x3 : Int32) : Option RS :=
  (oK h x1 0).bind fun _ =>
  (aQs bs h x2 3 x3 (some x1)).bind fun h3 =>
  (pV bs h3 x0 5 2 (.inl (x3 + 1))).bind fun h4 =>
  some (.inl none, h4, z)
set_option maxHeartbeats 4000000 in
set_option maxRecDepth 100000 in
theorem t_A_add3_B11 {G : EN} {p : Program} {l : Launch} {e : Env} {s : State} {m : MethodId} {args : Array Value} {below : List Frame} {meth : Method} {c : Code} {z0 : Z3} (hl0 : l.stackTraces = false) (C : CX G p l s m meth c b_A_add3 4 y_A_add3.cls) (hr : meth.sig.returnType = none) (hex : c.exceptionTable.toList = []) {r : RS} :
    ∀ (h : HH) (z : Z3) (x0 : Nat) (x1 : Nat) (x2 : Nat) (x3 : Int32), f_A_add3_B11 G.2.2.1 G.2.2.2 h z x0 x1 x2 x3 = some r → ∀ (H : Heap) (locs : List Loc) (cells slots : Nat) (ls : Array Slot), ST G (RM 5 147 z0) s h z H locs cells slots → lv_has ls 4 [(0, .ref x0), (1, .ref x1), (2, .ref x2), (3, .int x3)] → W p l e (RM 5 147 z0) s m args below meth c H locs cells slots (MX G below s r (RM 5 147 z0).cells (RM 5 147 z0).slots) (F0 m 11 ls []) := by
  have hx := C.1
  have hb := C.2.1
  intro h z x0 x1 x2 x3 hf H locs cells slots ls hs hl
  unfold f_A_add3_B11 at hf
  refine lv_aload_n hx hb d_A_add3_11 rfl (lv_at hl 2 rfl) ?_
  refine lv_iload_n hx hb d_A_add3_12 rfl (lv_at hl 3 rfl) ?_
  refine lv_aload_n hx hb d_A_add3_13 rfl (lv_at hl 1 rfl) ?_
  refine r_aast (kd := 3) (ci := 0) C hs rfl rfl (Or.inr (tm (i := 1045) (by decide +kernel))) d_A_add3_14 hf (fun h3 H locs hf hs => ?_)
  refine lv_aload_n hx hb d_A_add3_15 rfl (lv_at hl 0 rfl) ?_
  refine lv_iload_n hx hb d_A_add3_16 rfl (lv_at hl 3 rfl) ?_
  refine lv_iconst (v := 1) hx hb d_A_add3_17 (by decide) ?_
  refine lv_iadd hx hb d_A_add3_18 ?_
  refine r_putV (v := (.inl (x3 + 1))) C hs flp_A_48 rfl rfl d_A_add3_19 hf (fun h4 H locs hf hs => ?_)
  exact r_vreturn C hs hr d_A_add3_22 hf
def f_A_add3 (bs : Nat) (sE : Nat × Nat) (h : HH) (z : Z3) (x0 : Nat) (x1 : Nat) (x2 : Nat) (x3 : Int32) : Option RS :=
  (aN h x2).bind fun v1 =>
  if x3 = v1 then
    ((oK h x0 5).bind fun _ =>
    cR (f_A_grow bs sE h z x0) fun v7 h5 z6 =>
    f_A_add3_B11 bs sE h5 z6 x0 x1 v7 x3)
  else
    (f_A_add3_B11 bs sE h z x0 x1 x2 x3)
set_option maxHeartbeats 4000000 in
set_option maxRecDepth 100000 in
theorem c_A_add3 {G : EN} {l : Launch} (hl0 : l.stackTraces = false) {h : HH} {z : Z3} {x0 : Nat} {x1 : Nat} {x2 : Nat} {x3 : Int32} {r : RS} (hf : f_A_add3 G.2.2.1 G.2.2.2 h z x0 x1 x2 x3 = some r) : CM G l y_A_add3 (.code y_A_add3 b_A_add3 4 none) 5 147 [.ref x0, .ref x1, .ref x2, .int x3] h z r := by
  refine CM.ofW hl0 rfl ?_
  intro p e s m below meth c C hr hex hin hs
  have hx := C.1
  have hb := C.2.1
  refine x_entry (n := 4) (Nat.le_of_ble_eq_true rfl) (fun ls hl => ?_)
  have hl : lv_has ls 4 [(0, .ref x0), (1, .ref x1), (2, .ref x2), (3, .int x3)] := hl
  unfold f_A_add3 at hf
  refine lv_iload_n hx hb d_A_add3_0 rfl (lv_at hl 3 rfl) ?_
  refine lv_aload_n hx hb d_A_add3_1 rfl (lv_at hl 2 rfl) ?_
  refine r_alen C hs d_A_add3_2 hf (fun v1 hf => ?_)
  refine lv_icmp_ne (tgt := 11) hx hb d_A_add3_3 (by decide) (fun q2 => ?_) (fun q2 => ?_)
  · have hf := ifn q2 hf
    exact t_A_add3_B11 hl0 C hr hex _ _ _ _ _ _ hf _ _ _ _ _ hs (lv_sub hl [0, 1, 2, 3] rfl)
  · have hf := ifp q2 hf
    refine lv_aload_n hx hb d_A_add3_6 rfl (lv_at hl 0 rfl) ?_
    obtain ⟨_, ho, hf⟩ := bd hf
    refine k_R C hs hex hf (fun res e1 => iv_V (b := x0) (As := []) (rest := []) C hs cv_A_129 (c_A_grow hl0 e1) (ci := 5) rfl rfl ho rfl hl.1 rfl (Nat.le_of_ble_eq_true rfl) d_A_add3_7 ⟨Nat.le_of_ble_eq_true rfl, Nat.le_of_ble_eq_true rfl⟩) (fun v7 h5 z6 H locs cells slots hf hs => ?_)
    refine lv_astore_n (lv' := [(2, .ref v7), (0, .ref x0), (1, .ref x1), (3, .int x3)]) hx hb d_A_add3_10 rfl hl (by decide) rfl (fun ls hl => ?_)
    exact t_A_add3_B11 hl0 C hr hex _ _ _ _ _ _ hf _ _ _ _ _ hs (lv_sub hl [1, 2, 0, 3] rfl)
def f_A_add (bs : Nat) (sE : Nat × Nat) (h : HH) (z : Z3) (x0 : Nat) (x1 : Nat) : Option RS :=
  (gI h x0 5 0).bind fun v1 =>
  (pV bs h x0 5 0 (.inl (v1 + 1))).bind fun h2 =>
  (gR h2 x0 5 1).bind fun v3 =>
  (gI h2 x0 5 2).bind fun v4 =>
  (oK h2 x0 5).bind fun _ =>
  cV (f_A_add3 bs sE h2 z x0 x1 v3 v4) fun h5 z6 =>
  (bz 1).bind fun _ =>
  some (.inl (some (.int 1)), h5, z6)
set_option maxHeartbeats 4000000 in
set_option maxRecDepth 100000 in
theorem c_A_add {G : EN} {l : Launch} (hl0 : l.stackTraces = false) {h : HH} {z : Z3} {x0 : Nat} {x1 : Nat} {r : RS} (hf : f_A_add G.2.2.1 G.2.2.2 h z x0 x1 = some r) : CM G l y_A_add (.code y_A_add b_A_add 2 (some .boolean)) 6 170 [.ref x0, .ref x1] h z r := by
  refine CM.ofW hl0 rfl ?_
  intro p e s m below meth c C hr hex hin hs
  have hx := C.1
  have hb := C.2.1
  refine x_entry (n := 2) (Nat.le_of_ble_eq_true rfl) (fun ls hl => ?_)
  have hl : lv_has ls 2 [(0, .ref x0), (1, .ref x1)] := hl
  unfold f_A_add at hf
  refine lv_aload_n hx hb d_A_add_0 rfl (lv_at hl 0 rfl) ?_
  refine lv_dup hx hb d_A_add_1 rfl ?_
  refine r_getI C hs fl_A_63 d_A_add_2 hf (fun v1 hf => ?_)
  refine lv_iconst (v := 1) hx hb d_A_add_5 (by decide) ?_
  refine lv_iadd hx hb d_A_add_6 ?_
  refine r_putV (v := (.inl (v1 + 1))) C hs flp_A_63 rfl rfl d_A_add_7 hf (fun h2 H locs hf hs => ?_)
  refine lv_aload_n hx hb d_A_add_10 rfl (lv_at hl 0 rfl) ?_
  refine lv_aload_n hx hb d_A_add_11 rfl (lv_at hl 1 rfl) ?_
  refine lv_aload_n hx hb d_A_add_12 rfl (lv_at hl 0 rfl) ?_
  refine r_getR C hs fl_A_9 d_A_add_13 hf (fun v3 hf => ?_)
  refine lv_aload_n hx hb d_A_add_16 rfl (lv_at hl 0 rfl) ?_
  refine r_getI C hs fl_A_48 d_A_add_17 hf (fun v4 hf => ?_)
  obtain ⟨_, ho, hf⟩ := bd hf
  refine k_V C hs hex hf (fun res e1 => iv_V (b := x0) (As := [.ref x1, .ref v3, .int v4]) (rest := []) C hs cv_A_131 (c_A_add3 hl0 e1) (ci := 5) rfl rfl ho rfl hl.1 rfl (Nat.le_of_ble_eq_true rfl) d_A_add_20 ⟨Nat.le_of_ble_eq_true rfl, Nat.le_of_ble_eq_true rfl⟩) (fun h5 z6 H locs cells slots hf hs => ?_)
  refine lv_iconst (v := 1) hx hb d_A_add_23 (by decide) ?_
  exact r_zreturn C hs hr d_A_add_24 hf
def f_A_size (bs : Nat) (sE : Nat × Nat) (h : HH) (z : Z3) (x0 : Nat) : Option RS :=
  (gI h x0 5 2).bind fun v1 =>
  some (.inl (some (.int v1)), h, z)
set_option maxHeartbeats 4000000 in
set_option maxRecDepth 100000 in
theorem c_A_size {G : EN} {l : Launch} (hl0 : l.stackTraces = false) {h : HH} {z : Z3} {x0 : Nat} {r : RS} (hf : f_A_size G.2.2.1 G.2.2.2 h z x0 = some r) : CM G l y_A_size (.code y_A_size b_A_size 1 (some .int)) 0 0 [.ref x0] h z r := by
  refine CM.ofW hl0 rfl ?_
  intro p e s m below meth c C hr hex hin hs
  have hx := C.1
  have hb := C.2.1
  refine x_entry (n := 1) (Nat.le_of_ble_eq_true rfl) (fun ls hl => ?_)
  have hl : lv_has ls 1 [(0, .ref x0)] := hl
  unfold f_A_size at hf
  refine lv_aload_n hx hb d_A_size_0 rfl (lv_at hl 0 rfl) ?_
  refine r_getI C hs fl_A_48 d_A_size_1 hf (fun v1 hf => ?_)
  exact r_ireturn C hs hr d_A_size_4 hf
def f_PC_checkIndex (bs : Nat) (sE : Nat × Nat) (h : HH) (z : Z3) (x0 : Int32) (x1 : Int32) : Option RS :=
  if x0 < 0 then
    (none)
  else
    (if x0 < x1 then
      (some (.inl (some (.int x0)), h, z))
    else
      (none))
set_option maxHeartbeats 4000000 in
set_option maxRecDepth 100000 in
theorem c_PC_checkIndex {G : EN} {l : Launch} (hl0 : l.stackTraces = false) {h : HH} {z : Z3} {x0 : Int32} {x1 : Int32} {r : RS} (hf : f_PC_checkIndex G.2.2.1 G.2.2.2 h z x0 x1 = some r) : CM G l y_PC_checkIndex (.code y_PC_checkIndex b_PC_checkIndex 3 (some .int)) 0 0 [.int x0, .int x1, .null] h z r := by
  refine CM.ofW hl0 rfl ?_
  intro p e s m below meth c C hr hex hin hs
  have hx := C.1
  have hb := C.2.1
  refine x_entry (n := 3) (Nat.le_of_ble_eq_true rfl) (fun ls hl => ?_)
  have hl : lv_has ls 3 [(0, .int x0), (1, .int x1), (2, .null)] := hl
  unfold f_PC_checkIndex at hf
  refine lv_iload_n hx hb d_PC_checkIndex_0 rfl (lv_at hl 0 rfl) ?_
  refine lv_if_lt (tgt := 9) hx hb d_PC_checkIndex_1 (by decide) (fun q1 => ?_) (fun q1 => ?_)
  · have hf := ifp q1 hf
    exact nomatch hf
  · have hf := ifn q1 hf
    refine lv_iload_n hx hb d_PC_checkIndex_4 rfl (lv_at hl 0 rfl) ?_
    refine lv_iload_n hx hb d_PC_checkIndex_5 rfl (lv_at hl 1 rfl) ?_
    refine lv_icmp_lt (tgt := 16) hx hb d_PC_checkIndex_6 (by decide) (fun q2 => ?_) (fun q2 => ?_)
    · have hf := ifp q2 hf
      refine lv_iload_n hx hb d_PC_checkIndex_16 rfl (lv_at hl 0 rfl) ?_
      exact r_ireturn C hs hr d_PC_checkIndex_17 hf
    · have hf := ifn q2 hf
      exact nomatch hf
def f_O_checkIndex (bs : Nat) (sE : Nat × Nat) (h : HH) (z : Z3) (x0 : Int32) (x1 : Int32) : Option RS :=
  cI (f_PC_checkIndex bs sE h z x0 x1) fun v3 h1 z2 =>
  some (.inl (some (.int v3)), h1, z2)
set_option maxHeartbeats 4000000 in
set_option maxRecDepth 100000 in
theorem c_O_checkIndex {G : EN} {l : Launch} (hl0 : l.stackTraces = false) {h : HH} {z : Z3} {x0 : Int32} {x1 : Int32} {r : RS} (hf : f_O_checkIndex G.2.2.1 G.2.2.2 h z x0 x1 = some r) : CM G l y_O_checkIndex (.code y_O_checkIndex b_O_checkIndex 2 (some .int)) 1 22 [.int x0, .int x1] h z r := by
  refine CM.ofW hl0 rfl ?_
  intro p e s m below meth c C hr hex hin hs
  have hx := C.1
  have hb := C.2.1
  refine x_entry (n := 2) (Nat.le_of_ble_eq_true rfl) (fun ls hl => ?_)
  have hl : lv_has ls 2 [(0, .int x0), (1, .int x1)] := hl
  unfold f_O_checkIndex at hf
  refine lv_iload_n hx hb d_O_checkIndex_0 rfl (lv_at hl 0 rfl) ?_
  refine lv_iload_n hx hb d_O_checkIndex_1 rfl (lv_at hl 1 rfl) ?_
  refine lv_null hx hb d_O_checkIndex_2 ?_
  refine k_I C hs hex hf (fun res e1 => iv_S (As := [.int x0, .int x1, .null]) (rest := []) C hs cs_O_105 (c_PC_checkIndex hl0 e1) rfl hl.1 rfl (Nat.le_of_ble_eq_true rfl) d_O_checkIndex_3 ⟨Nat.le_of_ble_eq_true rfl, Nat.le_of_ble_eq_true rfl⟩) (fun v3 h1 z2 H locs cells slots hf hs => ?_)
  exact r_ireturn C hs hr d_O_checkIndex_6 hf
def f_A_elementData (bs : Nat) (sE : Nat × Nat) (h : HH) (z : Z3) (x0 : Nat) (x1 : Int32) : Option RS :=
  (gR h x0 5 1).bind fun v1 =>
  (aR h v1 3 x1).bind fun v2 =>
  some (.inl (some (.ref v2)), h, z)
set_option maxHeartbeats 4000000 in
set_option maxRecDepth 100000 in
theorem c_A_elementData {G : EN} {l : Launch} (hl0 : l.stackTraces = false) {h : HH} {z : Z3} {x0 : Nat} {x1 : Int32} {r : RS} (hf : f_A_elementData G.2.2.1 G.2.2.2 h z x0 x1 = some r) : CM G l y_A_elementData (.code y_A_elementData b_A_elementData 2 (some (.object "java/lang/Object"))) 0 0 [.ref x0, .int x1] h z r := by
  refine CM.ofW hl0 rfl ?_
  intro p e s m below meth c C hr hex hin hs
  have hx := C.1
  have hb := C.2.1
  refine x_entry (n := 2) (Nat.le_of_ble_eq_true rfl) (fun ls hl => ?_)
  have hl : lv_has ls 2 [(0, .ref x0), (1, .int x1)] := hl
  unfold f_A_elementData at hf
  refine lv_aload_n hx hb d_A_elementData_0 rfl (lv_at hl 0 rfl) ?_
  refine r_getR C hs fl_A_9 d_A_elementData_1 hf (fun v1 hf => ?_)
  refine lv_iload_n hx hb d_A_elementData_4 rfl (lv_at hl 1 rfl) ?_
  refine r_aald (kd := 3) C hs (by decide) d_A_elementData_5 hf (fun v2 hf => ?_)
  exact r_areturn C hs hr (Or.inl ⟨_, rfl⟩) d_A_elementData_6 hf
def f_A_get (bs : Nat) (sE : Nat × Nat) (h : HH) (z : Z3) (x0 : Nat) (x1 : Int32) : Option RS :=
  (gI h x0 5 2).bind fun v1 =>
  cI (f_O_checkIndex bs sE h z x1 v1) fun v4 h2 z3 =>
  (oK h2 x0 5).bind fun _ =>
  cR (f_A_elementData bs sE h2 z3 x0 x1) fun v7 h5 z6 =>
  some (.inl (some (.ref v7)), h5, z6)
set_option maxHeartbeats 4000000 in
set_option maxRecDepth 100000 in
theorem c_A_get {G : EN} {l : Launch} (hl0 : l.stackTraces = false) {h : HH} {z : Z3} {x0 : Nat} {x1 : Int32} {r : RS} (hf : f_A_get G.2.2.1 G.2.2.2 h z x0 x1 = some r) : CM G l y_A_get (.code y_A_get b_A_get 2 (some (.object "java/lang/Object"))) 2 43 [.ref x0, .int x1] h z r := by
  refine CM.ofW hl0 rfl ?_
  intro p e s m below meth c C hr hex hin hs
  have hx := C.1
  have hb := C.2.1
  refine x_entry (n := 2) (Nat.le_of_ble_eq_true rfl) (fun ls hl => ?_)
  have hl : lv_has ls 2 [(0, .ref x0), (1, .int x1)] := hl
  unfold f_A_get at hf
  refine lv_iload_n hx hb d_A_get_0 rfl (lv_at hl 1 rfl) ?_
  refine lv_aload_n hx hb d_A_get_1 rfl (lv_at hl 0 rfl) ?_
  refine r_getI C hs fl_A_48 d_A_get_2 hf (fun v1 hf => ?_)
  refine k_I C hs hex hf (fun res e1 => iv_S (As := [.int x1, .int v1]) (rest := []) C hs cs_A_118 (c_O_checkIndex hl0 e1) rfl hl.1 rfl (Nat.le_of_ble_eq_true rfl) d_A_get_5 ⟨Nat.le_of_ble_eq_true rfl, Nat.le_of_ble_eq_true rfl⟩) (fun v4 h2 z3 H locs cells slots hf hs => ?_)
  refine lv_pop hx hb d_A_get_8 rfl ?_
  refine lv_aload_n hx hb d_A_get_9 rfl (lv_at hl 0 rfl) ?_
  refine lv_iload_n hx hb d_A_get_10 rfl (lv_at hl 1 rfl) ?_
  obtain ⟨_, ho, hf⟩ := bd hf
  refine k_R C hs hex hf (fun res e1 => iv_V (b := x0) (As := [.int x1]) (rest := []) C hs cv_A_123 (c_A_elementData hl0 e1) (ci := 5) rfl rfl ho rfl hl.1 rfl (Nat.le_of_ble_eq_true rfl) d_A_get_11 ⟨Nat.le_of_ble_eq_true rfl, Nat.le_of_ble_eq_true rfl⟩) (fun v7 h5 z6 H locs cells slots hf hs => ?_)
  exact r_areturn C hs hr (Or.inl ⟨_, rfl⟩) d_A_get_14 hf
def f_I_bitCount (bs : Nat) (sE : Nat × Nat) (h : HH) (z : Z3) (x0 : Int32) : Option RS :=
  some (.inl (some (.int ((((((((x0 - (((x0.toUInt32 >>> ((1 : Int32).toUInt32 &&& Int32.toUInt32 31)).toInt32) &&& 1431655765)) &&& 858993459) + ((((x0 - (((x0.toUInt32 >>> ((1 : Int32).toUInt32 &&& Int32.toUInt32 31)).toInt32) &&& 1431655765)).toUInt32 >>> ((2 : Int32).toUInt32 &&& Int32.toUInt32 31)).toInt32) &&& 858993459)) + (((((x0 - (((x0.toUInt32 >>> ((1 : Int32).toUInt32 &&& Int32.toUInt32 31)).toInt32) &&& 1431655765)) &&& 858993459) + ((((x0 - (((x0.toUInt32 >>> ((1 : Int32).toUInt32 &&& Int32.toUInt32 31)).toInt32) &&& 1431655765)).toUInt32 >>> ((2 : Int32).toUInt32 &&& Int32.toUInt32 31)).toInt32) &&& 858993459)).toUInt32 >>> ((4 : Int32).toUInt32 &&& Int32.toUInt32 31)).toInt32)) &&& 252645135) + (((((((x0 - (((x0.toUInt32 >>> ((1 : Int32).toUInt32 &&& Int32.toUInt32 31)).toInt32) &&& 1431655765)) &&& 858993459) + ((((x0 - (((x0.toUInt32 >>> ((1 : Int32).toUInt32 &&& Int32.toUInt32 31)).toInt32) &&& 1431655765)).toUInt32 >>> ((2 : Int32).toUInt32 &&& Int32.toUInt32 31)).toInt32) &&& 858993459)) + (((((x0 - (((x0.toUInt32 >>> ((1 : Int32).toUInt32 &&& Int32.toUInt32 31)).toInt32) &&& 1431655765)) &&& 858993459) + ((((x0 - (((x0.toUInt32 >>> ((1 : Int32).toUInt32 &&& Int32.toUInt32 31)).toInt32) &&& 1431655765)).toUInt32 >>> ((2 : Int32).toUInt32 &&& Int32.toUInt32 31)).toInt32) &&& 858993459)).toUInt32 >>> ((4 : Int32).toUInt32 &&& Int32.toUInt32 31)).toInt32)) &&& 252645135).toUInt32 >>> ((8 : Int32).toUInt32 &&& Int32.toUInt32 31)).toInt32)) + ((((((((x0 - (((x0.toUInt32 >>> ((1 : Int32).toUInt32 &&& Int32.toUInt32 31)).toInt32) &&& 1431655765)) &&& 858993459) + ((((x0 - (((x0.toUInt32 >>> ((1 : Int32).toUInt32 &&& Int32.toUInt32 31)).toInt32) &&& 1431655765)).toUInt32 >>> ((2 : Int32).toUInt32 &&& Int32.toUInt32 31)).toInt32) &&& 858993459)) + (((((x0 - (((x0.toUInt32 >>> ((1 : Int32).toUInt32 &&& Int32.toUInt32 31)).toInt32) &&& 1431655765)) &&& 858993459) + ((((x0 - (((x0.toUInt32 >>> ((1 : Int32).toUInt32 &&& Int32.toUInt32 31)).toInt32) &&& 1431655765)).toUInt32 >>> ((2 : Int32).toUInt32 &&& Int32.toUInt32 31)).toInt32) &&& 858993459)).toUInt32 >>> ((4 : Int32).toUInt32 &&& Int32.toUInt32 31)).toInt32)) &&& 252645135) + (((((((x0 - (((x0.toUInt32 >>> ((1 : Int32).toUInt32 &&& Int32.toUInt32 31)).toInt32) &&& 1431655765)) &&& 858993459) + ((((x0 - (((x0.toUInt32 >>> ((1 : Int32).toUInt32 &&& Int32.toUInt32 31)).toInt32) &&& 1431655765)).toUInt32 >>> ((2 : Int32).toUInt32 &&& Int32.toUInt32 31)).toInt32) &&& 858993459)) + (((((x0 - (((x0.toUInt32 >>> ((1 : Int32).toUInt32 &&& Int32.toUInt32 31)).toInt32) &&& 1431655765)) &&& 858993459) + ((((x0 - (((x0.toUInt32 >>> ((1 : Int32).toUInt32 &&& Int32.toUInt32 31)).toInt32) &&& 1431655765)).toUInt32 >>> ((2 : Int32).toUInt32 &&& Int32.toUInt32 31)).toInt32) &&& 858993459)).toUInt32 >>> ((4 : Int32).toUInt32 &&& Int32.toUInt32 31)).toInt32)) &&& 252645135).toUInt32 >>> ((8 : Int32).toUInt32 &&& Int32.toUInt32 31)).toInt32)).toUInt32 >>> ((16 : Int32).toUInt32 &&& Int32.toUInt32 31)).toInt32)) &&& 63))), h, z)
set_option maxHeartbeats 4000000 in
set_option maxRecDepth 100000 in
theorem c_I_bitCount {G : EN} {l : Launch} (hl0 : l.stackTraces = false) {h : HH} {z : Z3} {x0 : Int32} {r : RS} (hf : f_I_bitCount G.2.2.1 G.2.2.2 h z x0 = some r) : CM G l y_I_bitCount (.code y_I_bitCount b_I_bitCount 1 (some .int)) 0 0 [.int x0] h z r := by
  refine CM.ofW hl0 rfl ?_
  intro p e s m below meth c C hr hex hin hs
  have hx := C.1
  have hb := C.2.1
  refine x_entry (n := 1) (Nat.le_of_ble_eq_true rfl) (fun ls hl => ?_)
  have hl : lv_has ls 1 [(0, .int x0)] := hl
  unfold f_I_bitCount at hf
  refine lv_iload_n hx hb d_I_bitCount_0 rfl (lv_at hl 0 rfl) ?_
  refine lv_iload_n hx hb d_I_bitCount_1 rfl (lv_at hl 0 rfl) ?_
  refine lv_iconst (v := 1) hx hb d_I_bitCount_2 (by decide) ?_
  refine lv_iushr (v := (x0.toUInt32 >>> ((1 : Int32).toUInt32 &&& Int32.toUInt32 31)).toInt32) hx hb d_I_bitCount_3 rfl ?_
  refine lv_ldcw (v := 1431655765) hx hb C.2.2.2.1 ((C.2.2.2.2.2.1.here C.2.2.2.2.2.2.1).1.use (tm (i := 597) (by decide +kernel)) rfl) d_I_bitCount_4 ?_
  refine lv_iand hx hb d_I_bitCount_7 ?_
  refine lv_isub hx hb d_I_bitCount_8 ?_
  refine lv_istore_n (lv' := [(0, .int (x0 - (((x0.toUInt32 >>> ((1 : Int32).toUInt32 &&& Int32.toUInt32 31)).toInt32) &&& 1431655765)))]) hx hb d_I_bitCount_9 rfl hl (by decide) rfl (fun ls hl => ?_)
  refine lv_iload_n hx hb d_I_bitCount_10 rfl (lv_at hl 0 rfl) ?_
  refine lv_ldcw (v := 858993459) hx hb C.2.2.2.1 ((C.2.2.2.2.2.1.here C.2.2.2.2.2.2.1).1.use (tm (i := 598) (by decide +kernel)) rfl) d_I_bitCount_11 ?_
  refine lv_iand hx hb d_I_bitCount_14 ?_
  refine lv_iload_n hx hb d_I_bitCount_15 rfl (lv_at hl 0 rfl) ?_
  refine lv_iconst (v := 2) hx hb d_I_bitCount_16 (by decide) ?_
  refine lv_iushr (v := ((x0 - (((x0.toUInt32 >>> ((1 : Int32).toUInt32 &&& Int32.toUInt32 31)).toInt32) &&& 1431655765)).toUInt32 >>> ((2 : Int32).toUInt32 &&& Int32.toUInt32 31)).toInt32) hx hb d_I_bitCount_17 rfl ?_
  refine lv_ldcw (v := 858993459) hx hb C.2.2.2.1 ((C.2.2.2.2.2.1.here C.2.2.2.2.2.2.1).1.use (tm (i := 598) (by decide +kernel)) rfl) d_I_bitCount_18 ?_
  refine lv_iand hx hb d_I_bitCount_21 ?_
  refine lv_iadd hx hb d_I_bitCount_22 ?_
  refine lv_istore_n (lv' := [(0, .int (((x0 - (((x0.toUInt32 >>> ((1 : Int32).toUInt32 &&& Int32.toUInt32 31)).toInt32) &&& 1431655765)) &&& 858993459) + ((((x0 - (((x0.toUInt32 >>> ((1 : Int32).toUInt32 &&& Int32.toUInt32 31)).toInt32) &&& 1431655765)).toUInt32 >>> ((2 : Int32).toUInt32 &&& Int32.toUInt32 31)).toInt32) &&& 858993459)))]) hx hb d_I_bitCount_23 rfl hl (by decide) rfl (fun ls hl => ?_)
  refine lv_iload_n hx hb d_I_bitCount_24 rfl (lv_at hl 0 rfl) ?_
  refine lv_iload_n hx hb d_I_bitCount_25 rfl (lv_at hl 0 rfl) ?_
  refine lv_iconst (v := 4) hx hb d_I_bitCount_26 (by decide) ?_
  refine lv_iushr (v := ((((x0 - (((x0.toUInt32 >>> ((1 : Int32).toUInt32 &&& Int32.toUInt32 31)).toInt32) &&& 1431655765)) &&& 858993459) + ((((x0 - (((x0.toUInt32 >>> ((1 : Int32).toUInt32 &&& Int32.toUInt32 31)).toInt32) &&& 1431655765)).toUInt32 >>> ((2 : Int32).toUInt32 &&& Int32.toUInt32 31)).toInt32) &&& 858993459)).toUInt32 >>> ((4 : Int32).toUInt32 &&& Int32.toUInt32 31)).toInt32) hx hb d_I_bitCount_27 rfl ?_
  refine lv_iadd hx hb d_I_bitCount_28 ?_
  refine lv_ldcw (v := 252645135) hx hb C.2.2.2.1 ((C.2.2.2.2.2.1.here C.2.2.2.2.2.2.1).1.use (tm (i := 599) (by decide +kernel)) rfl) d_I_bitCount_29 ?_
  refine lv_iand hx hb d_I_bitCount_32 ?_
  refine lv_istore_n (lv' := [(0, .int (((((x0 - (((x0.toUInt32 >>> ((1 : Int32).toUInt32 &&& Int32.toUInt32 31)).toInt32) &&& 1431655765)) &&& 858993459) + ((((x0 - (((x0.toUInt32 >>> ((1 : Int32).toUInt32 &&& Int32.toUInt32 31)).toInt32) &&& 1431655765)).toUInt32 >>> ((2 : Int32).toUInt32 &&& Int32.toUInt32 31)).toInt32) &&& 858993459)) + (((((x0 - (((x0.toUInt32 >>> ((1 : Int32).toUInt32 &&& Int32.toUInt32 31)).toInt32) &&& 1431655765)) &&& 858993459) + ((((x0 - (((x0.toUInt32 >>> ((1 : Int32).toUInt32 &&& Int32.toUInt32 31)).toInt32) &&& 1431655765)).toUInt32 >>> ((2 : Int32).toUInt32 &&& Int32.toUInt32 31)).toInt32) &&& 858993459)).toUInt32 >>> ((4 : Int32).toUInt32 &&& Int32.toUInt32 31)).toInt32)) &&& 252645135))]) hx hb d_I_bitCount_33 rfl hl (by decide) rfl (fun ls hl => ?_)
  refine lv_iload_n hx hb d_I_bitCount_34 rfl (lv_at hl 0 rfl) ?_
  refine lv_iload_n hx hb d_I_bitCount_35 rfl (lv_at hl 0 rfl) ?_
  refine lv_bipush (v := 8) hx hb d_I_bitCount_36 (by decide) ?_
  refine lv_iushr (v := ((((((x0 - (((x0.toUInt32 >>> ((1 : Int32).toUInt32 &&& Int32.toUInt32 31)).toInt32) &&& 1431655765)) &&& 858993459) + ((((x0 - (((x0.toUInt32 >>> ((1 : Int32).toUInt32 &&& Int32.toUInt32 31)).toInt32) &&& 1431655765)).toUInt32 >>> ((2 : Int32).toUInt32 &&& Int32.toUInt32 31)).toInt32) &&& 858993459)) + (((((x0 - (((x0.toUInt32 >>> ((1 : Int32).toUInt32 &&& Int32.toUInt32 31)).toInt32) &&& 1431655765)) &&& 858993459) + ((((x0 - (((x0.toUInt32 >>> ((1 : Int32).toUInt32 &&& Int32.toUInt32 31)).toInt32) &&& 1431655765)).toUInt32 >>> ((2 : Int32).toUInt32 &&& Int32.toUInt32 31)).toInt32) &&& 858993459)).toUInt32 >>> ((4 : Int32).toUInt32 &&& Int32.toUInt32 31)).toInt32)) &&& 252645135).toUInt32 >>> ((8 : Int32).toUInt32 &&& Int32.toUInt32 31)).toInt32) hx hb d_I_bitCount_38 rfl ?_
  refine lv_iadd hx hb d_I_bitCount_39 ?_
  refine lv_istore_n (lv' := [(0, .int ((((((x0 - (((x0.toUInt32 >>> ((1 : Int32).toUInt32 &&& Int32.toUInt32 31)).toInt32) &&& 1431655765)) &&& 858993459) + ((((x0 - (((x0.toUInt32 >>> ((1 : Int32).toUInt32 &&& Int32.toUInt32 31)).toInt32) &&& 1431655765)).toUInt32 >>> ((2 : Int32).toUInt32 &&& Int32.toUInt32 31)).toInt32) &&& 858993459)) + (((((x0 - (((x0.toUInt32 >>> ((1 : Int32).toUInt32 &&& Int32.toUInt32 31)).toInt32) &&& 1431655765)) &&& 858993459) + ((((x0 - (((x0.toUInt32 >>> ((1 : Int32).toUInt32 &&& Int32.toUInt32 31)).toInt32) &&& 1431655765)).toUInt32 >>> ((2 : Int32).toUInt32 &&& Int32.toUInt32 31)).toInt32) &&& 858993459)).toUInt32 >>> ((4 : Int32).toUInt32 &&& Int32.toUInt32 31)).toInt32)) &&& 252645135) + (((((((x0 - (((x0.toUInt32 >>> ((1 : Int32).toUInt32 &&& Int32.toUInt32 31)).toInt32) &&& 1431655765)) &&& 858993459) + ((((x0 - (((x0.toUInt32 >>> ((1 : Int32).toUInt32 &&& Int32.toUInt32 31)).toInt32) &&& 1431655765)).toUInt32 >>> ((2 : Int32).toUInt32 &&& Int32.toUInt32 31)).toInt32) &&& 858993459)) + (((((x0 - (((x0.toUInt32 >>> ((1 : Int32).toUInt32 &&& Int32.toUInt32 31)).toInt32) &&& 1431655765)) &&& 858993459) + ((((x0 - (((x0.toUInt32 >>> ((1 : Int32).toUInt32 &&& Int32.toUInt32 31)).toInt32) &&& 1431655765)).toUInt32 >>> ((2 : Int32).toUInt32 &&& Int32.toUInt32 31)).toInt32) &&& 858993459)).toUInt32 >>> ((4 : Int32).toUInt32 &&& Int32.toUInt32 31)).toInt32)) &&& 252645135).toUInt32 >>> ((8 : Int32).toUInt32 &&& Int32.toUInt32 31)).toInt32)))]) hx hb d_I_bitCount_40 rfl hl (by decide) rfl (fun ls hl => ?_)
  refine lv_iload_n hx hb d_I_bitCount_41 rfl (lv_at hl 0 rfl) ?_
  refine lv_iload_n hx hb d_I_bitCount_42 rfl (lv_at hl 0 rfl) ?_
  refine lv_bipush (v := 16) hx hb d_I_bitCount_43 (by decide) ?_
  refine lv_iushr (v := (((((((x0 - (((x0.toUInt32 >>> ((1 : Int32).toUInt32 &&& Int32.toUInt32 31)).toInt32) &&& 1431655765)) &&& 858993459) + ((((x0 - (((x0.toUInt32 >>> ((1 : Int32).toUInt32 &&& Int32.toUInt32 31)).toInt32) &&& 1431655765)).toUInt32 >>> ((2 : Int32).toUInt32 &&& Int32.toUInt32 31)).toInt32) &&& 858993459)) + (((((x0 - (((x0.toUInt32 >>> ((1 : Int32).toUInt32 &&& Int32.toUInt32 31)).toInt32) &&& 1431655765)) &&& 858993459) + ((((x0 - (((x0.toUInt32 >>> ((1 : Int32).toUInt32 &&& Int32.toUInt32 31)).toInt32) &&& 1431655765)).toUInt32 >>> ((2 : Int32).toUInt32 &&& Int32.toUInt32 31)).toInt32) &&& 858993459)).toUInt32 >>> ((4 : Int32).toUInt32 &&& Int32.toUInt32 31)).toInt32)) &&& 252645135) + (((((((x0 - (((x0.toUInt32 >>> ((1 : Int32).toUInt32 &&& Int32.toUInt32 31)).toInt32) &&& 1431655765)) &&& 858993459) + ((((x0 - (((x0.toUInt32 >>> ((1 : Int32).toUInt32 &&& Int32.toUInt32 31)).toInt32) &&& 1431655765)).toUInt32 >>> ((2 : Int32).toUInt32 &&& Int32.toUInt32 31)).toInt32) &&& 858993459)) + (((((x0 - (((x0.toUInt32 >>> ((1 : Int32).toUInt32 &&& Int32.toUInt32 31)).toInt32) &&& 1431655765)) &&& 858993459) + ((((x0 - (((x0.toUInt32 >>> ((1 : Int32).toUInt32 &&& Int32.toUInt32 31)).toInt32) &&& 1431655765)).toUInt32 >>> ((2 : Int32).toUInt32 &&& Int32.toUInt32 31)).toInt32) &&& 858993459)).toUInt32 >>> ((4 : Int32).toUInt32 &&& Int32.toUInt32 31)).toInt32)) &&& 252645135).toUInt32 >>> ((8 : Int32).toUInt32 &&& Int32.toUInt32 31)).toInt32)).toUInt32 >>> ((16 : Int32).toUInt32 &&& Int32.toUInt32 31)).toInt32) hx hb d_I_bitCount_45 rfl ?_
  refine lv_iadd hx hb d_I_bitCount_46 ?_
  refine lv_istore_n (lv' := [(0, .int (((((((x0 - (((x0.toUInt32 >>> ((1 : Int32).toUInt32 &&& Int32.toUInt32 31)).toInt32) &&& 1431655765)) &&& 858993459) + ((((x0 - (((x0.toUInt32 >>> ((1 : Int32).toUInt32 &&& Int32.toUInt32 31)).toInt32) &&& 1431655765)).toUInt32 >>> ((2 : Int32).toUInt32 &&& Int32.toUInt32 31)).toInt32) &&& 858993459)) + (((((x0 - (((x0.toUInt32 >>> ((1 : Int32).toUInt32 &&& Int32.toUInt32 31)).toInt32) &&& 1431655765)) &&& 858993459) + ((((x0 - (((x0.toUInt32 >>> ((1 : Int32).toUInt32 &&& Int32.toUInt32 31)).toInt32) &&& 1431655765)).toUInt32 >>> ((2 : Int32).toUInt32 &&& Int32.toUInt32 31)).toInt32) &&& 858993459)).toUInt32 >>> ((4 : Int32).toUInt32 &&& Int32.toUInt32 31)).toInt32)) &&& 252645135) + (((((((x0 - (((x0.toUInt32 >>> ((1 : Int32).toUInt32 &&& Int32.toUInt32 31)).toInt32) &&& 1431655765)) &&& 858993459) + ((((x0 - (((x0.toUInt32 >>> ((1 : Int32).toUInt32 &&& Int32.toUInt32 31)).toInt32) &&& 1431655765)).toUInt32 >>> ((2 : Int32).toUInt32 &&& Int32.toUInt32 31)).toInt32) &&& 858993459)) + (((((x0 - (((x0.toUInt32 >>> ((1 : Int32).toUInt32 &&& Int32.toUInt32 31)).toInt32) &&& 1431655765)) &&& 858993459) + ((((x0 - (((x0.toUInt32 >>> ((1 : Int32).toUInt32 &&& Int32.toUInt32 31)).toInt32) &&& 1431655765)).toUInt32 >>> ((2 : Int32).toUInt32 &&& Int32.toUInt32 31)).toInt32) &&& 858993459)).toUInt32 >>> ((4 : Int32).toUInt32 &&& Int32.toUInt32 31)).toInt32)) &&& 252645135).toUInt32 >>> ((8 : Int32).toUInt32 &&& Int32.toUInt32 31)).toInt32)) + ((((((((x0 - (((x0.toUInt32 >>> ((1 : Int32).toUInt32 &&& Int32.toUInt32 31)).toInt32) &&& 1431655765)) &&& 858993459) + ((((x0 - (((x0.toUInt32 >>> ((1 : Int32).toUInt32 &&& Int32.toUInt32 31)).toInt32) &&& 1431655765)).toUInt32 >>> ((2 : Int32).toUInt32 &&& Int32.toUInt32 31)).toInt32) &&& 858993459)) + (((((x0 - (((x0.toUInt32 >>> ((1 : Int32).toUInt32 &&& Int32.toUInt32 31)).toInt32) &&& 1431655765)) &&& 858993459) + ((((x0 - (((x0.toUInt32 >>> ((1 : Int32).toUInt32 &&& Int32.toUInt32 31)).toInt32) &&& 1431655765)).toUInt32 >>> ((2 : Int32).toUInt32 &&& Int32.toUInt32 31)).toInt32) &&& 858993459)).toUInt32 >>> ((4 : Int32).toUInt32 &&& Int32.toUInt32 31)).toInt32)) &&& 252645135) + (((((((x0 - (((x0.toUInt32 >>> ((1 : Int32).toUInt32 &&& Int32.toUInt32 31)).toInt32) &&& 1431655765)) &&& 858993459) + ((((x0 - (((x0.toUInt32 >>> ((1 : Int32).toUInt32 &&& Int32.toUInt32 31)).toInt32) &&& 1431655765)).toUInt32 >>> ((2 : Int32).toUInt32 &&& Int32.toUInt32 31)).toInt32) &&& 858993459)) + (((((x0 - (((x0.toUInt32 >>> ((1 : Int32).toUInt32 &&& Int32.toUInt32 31)).toInt32) &&& 1431655765)) &&& 858993459) + ((((x0 - (((x0.toUInt32 >>> ((1 : Int32).toUInt32 &&& Int32.toUInt32 31)).toInt32) &&& 1431655765)).toUInt32 >>> ((2 : Int32).toUInt32 &&& Int32.toUInt32 31)).toInt32) &&& 858993459)).toUInt32 >>> ((4 : Int32).toUInt32 &&& Int32.toUInt32 31)).toInt32)) &&& 252645135).toUInt32 >>> ((8 : Int32).toUInt32 &&& Int32.toUInt32 31)).toInt32)).toUInt32 >>> ((16 : Int32).toUInt32 &&& Int32.toUInt32 31)).toInt32)))]) hx hb d_I_bitCount_47 rfl hl (by decide) rfl (fun ls hl => ?_)
  refine lv_iload_n hx hb d_I_bitCount_48 rfl (lv_at hl 0 rfl) ?_
  refine lv_bipush (v := 63) hx hb d_I_bitCount_49 (by decide) ?_
  refine lv_iand hx hb d_I_bitCount_51 ?_
  exact r_ireturn C hs hr d_I_bitCount_52 hf
def f_A_fastRemove (bs : Nat) (sE : Nat × Nat) (h : HH) (z : Z3) (x0 : Nat) (x1 : Nat) (x2 : Int32) : Option RS :=
  (gI h x0 5 0).bind fun v1 =>
  (pV bs h x0 5 0 (.inl (v1 + 1))).bind fun h2 =>
  (gI h2 x0 5 2).bind fun v3 =>
  if (v3 - 1) ≤ x2 then
    ((pV bs h2 x0 5 2 (.inl (v3 - 1))).bind fun h5 =>
    (aQs bs h5 x1 3 (v3 - 1) none).bind fun h6 =>
    some (.inl none, h6, z))
  else
    (none)
set_option maxHeartbeats 4000000 in
set_option maxRecDepth 100000 in
theorem c_A_fastRemove {G : EN} {l : Launch} (hl0 : l.stackTraces = false) {h : HH} {z : Z3} {x0 : Nat} {x1 : Nat} {x2 : Int32} {r : RS} (hf : f_A_fastRemove G.2.2.1 G.2.2.2 h z x0 x1 x2 = some r) : CM G l y_A_fastRemove (.code y_A_fastRemove b_A_fastRemove 4 none) 0 0 [.ref x0, .ref x1, .int x2] h z r := by
  refine CM.ofW hl0 rfl ?_
  intro p e s m below meth c C hr hex hin hs
  have hx := C.1
  have hb := C.2.1
  refine x_entry (n := 4) (Nat.le_of_ble_eq_true rfl) (fun ls hl => ?_)
  have hl : lv_has ls 4 [(0, .ref x0), (1, .ref x1), (2, .int x2)] := hl
  unfold f_A_fastRemove at hf
  refine lv_aload_n hx hb d_A_fastRemove_0 rfl (lv_at hl 0 rfl) ?_
  refine lv_dup hx hb d_A_fastRemove_1 rfl ?_
  refine r_getI C hs fl_A_63 d_A_fastRemove_2 hf (fun v1 hf => ?_)
  refine lv_iconst (v := 1) hx hb d_A_fastRemove_5 (by decide) ?_
  refine lv_iadd hx hb d_A_fastRemove_6 ?_
  refine r_putV (v := (.inl (v1 + 1))) C hs flp_A_63 rfl rfl d_A_fastRemove_7 hf (fun h2 H locs hf hs => ?_)
  refine lv_aload_n hx hb d_A_fastRemove_10 rfl (lv_at hl 0 rfl) ?_
  refine r_getI C hs fl_A_48 d_A_fastRemove_11 hf (fun v3 hf => ?_)
  refine lv_iconst (v := 1) hx hb d_A_fastRemove_14 (by decide) ?_
  refine lv_isub hx hb d_A_fastRemove_15 ?_
  refine lv_dup hx hb d_A_fastRemove_16 rfl ?_
  refine lv_istore_n (lv' := [(3, .int (v3 - 1)), (0, .ref x0), (1, .ref x1), (2, .int x2)]) hx hb d_A_fastRemove_17 rfl hl (by decide) rfl (fun ls hl => ?_)
  refine lv_iload_n hx hb d_A_fastRemove_18 rfl (lv_at hl 3 rfl) ?_
  refine lv_icmp_le (tgt := 34) hx hb d_A_fastRemove_19 (by decide) (fun q4 => ?_) (fun q4 => ?_)
  · have hf := ifp q4 hf
    refine lv_aload_n hx hb d_A_fastRemove_34 rfl (lv_at hl 2 rfl) ?_
    refine lv_aload_n hx hb d_A_fastRemove_35 rfl (lv_at hl 1 rfl) ?_
    refine lv_iload_n hx hb d_A_fastRemove_36 rfl (lv_at hl 0 rfl) ?_
    refine lv_dup_x1 hx hb d_A_fastRemove_37 rfl rfl ?_
    refine r_putV (v := (.inl (v3 - 1))) C hs flp_A_48 rfl rfl d_A_fastRemove_38 hf (fun h5 H locs hf hs => ?_)
    refine lv_null hx hb d_A_fastRemove_41 ?_
    refine r_aastN (kd := 3) C hs rfl d_A_fastRemove_42 hf (fun h6 H locs hf hs => ?_)
    exact r_vreturn C hs hr d_A_fastRemove_43 hf
  · have hf := ifn q4 hf
    exact nomatch hf
def f_A_remove (bs : Nat) (sE : Nat × Nat) (h : HH) (z : Z3) (x0 : Nat) (x1 : Int32) : Option RS :=
  (gI h x0 5 2).bind fun v1 =>
  cI (f_O_checkIndex bs sE h z x1 v1) fun v4 h2 z3 =>
  (gR h2 x0 5 1).bind fun v5 =>
  (aR h2 v5 3 x1).bind fun v6 =>
  (oK h2 x0 5).bind fun _ =>
  cV (f_A_fastRemove bs sE h2 z3 x0 v5 x1) fun h7 z8 =>
  some (.inl (some (.ref v6)), h7, z8)
set_option maxHeartbeats 4000000 in
set_option maxRecDepth 100000 in
theorem c_A_remove {G : EN} {l : Launch} (hl0 : l.stackTraces = false) {h : HH} {z : Z3} {x0 : Nat} {x1 : Int32} {r : RS} (hf : f_A_remove G.2.2.1 G.2.2.2 h z x0 x1 = some r) : CM G l y_A_remove (.code y_A_remove b_A_remove 4 (some (.object "java/lang/Object"))) 2 43 [.ref x0, .int x1] h z r := by
  refine CM.ofW hl0 rfl ?_
  intro p e s m below meth c C hr hex hin hs
  have hx := C.1
  have hb := C.2.1
  refine x_entry (n := 4) (Nat.le_of_ble_eq_true rfl) (fun ls hl => ?_)
  have hl : lv_has ls 4 [(0, .ref x0), (1, .int x1)] := hl
  unfold f_A_remove at hf
  refine lv_iload_n hx hb d_A_remove_0 rfl (lv_at hl 1 rfl) ?_
  refine lv_aload_n hx hb d_A_remove_1 rfl (lv_at hl 0 rfl) ?_
  refine r_getI C hs fl_A_48 d_A_remove_2 hf (fun v1 hf => ?_)
  refine k_I C hs hex hf (fun res e1 => iv_S (As := [.int x1, .int v1]) (rest := []) C hs cs_A_118 (c_O_checkIndex hl0 e1) rfl hl.1 rfl (Nat.le_of_ble_eq_true rfl) d_A_remove_5 ⟨Nat.le_of_ble_eq_true rfl, Nat.le_of_ble_eq_true rfl⟩) (fun v4 h2 z3 H locs cells slots hf hs => ?_)
  refine lv_pop hx hb d_A_remove_8 rfl ?_
  refine lv_aload_n hx hb d_A_remove_9 rfl (lv_at hl 0 rfl) ?_
  refine r_getR C hs fl_A_9 d_A_remove_10 hf (fun v5 hf => ?_)
  refine lv_astore_n (lv' := [(2, .ref v5), (0, .ref x0), (1, .int x1)]) hx hb d_A_remove_13 rfl hl (by decide) rfl (fun ls hl => ?_)
  refine lv_aload_n hx hb d_A_remove_14 rfl (lv_at hl 0 rfl) ?_
  refine lv_iload_n hx hb d_A_remove_15 rfl (lv_at hl 2 rfl) ?_
  refine r_aald (kd := 3) C hs (by decide) d_A_remove_16 hf (fun v6 hf => ?_)
  refine lv_astore_n (lv' := [(3, .ref v6), (2, .ref v5), (0, .ref x0), (1, .int x1)]) hx hb d_A_remove_17 rfl hl (by decide) rfl (fun ls hl => ?_)
  refine lv_aload_n hx hb d_A_remove_18 rfl (lv_at hl 2 rfl) ?_
  refine lv_aload_n hx hb d_A_remove_19 rfl (lv_at hl 1 rfl) ?_
  refine lv_iload_n hx hb d_A_remove_20 rfl (lv_at hl 3 rfl) ?_
  obtain ⟨_, ho, hf⟩ := bd hf
  refine k_V C hs hex hf (fun res e1 => iv_V (b := x0) (As := [.ref v5, .int x1]) (rest := []) C hs cv_A_144 (c_A_fastRemove hl0 e1) (ci := 5) rfl rfl ho rfl hl.1 rfl (Nat.le_of_ble_eq_true rfl) d_A_remove_21 ⟨Nat.le_of_ble_eq_true rfl, Nat.le_of_ble_eq_true rfl⟩) (fun h7 z8 H locs cells slots hf hs => ?_)
  refine lv_aload_n hx hb d_A_remove_24 rfl (lv_at hl 0 rfl) ?_
  exact r_areturn C hs hr (Or.inl ⟨_, rfl⟩) d_A_remove_25 hf
