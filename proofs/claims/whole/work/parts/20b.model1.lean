def f_M_out (bs sE : Nat) (h : HH) (z : Z3) (x0 : Nat) (x1 : Int32) (x2 : Int32) : Option RS :=
  if x1 < 0 then
    ((bz 1).bind fun _ =>
    some (.inl (some (.int 1)), h, z))
  else
    (if x1 < x2 then
      ((bz 0).bind fun _ =>
      some (.inl (some (.int 0)), h, z))
    else
      ((bz 1).bind fun _ =>
      some (.inl (some (.int 1)), h, z)))
set_option maxHeartbeats 4000000 in
set_option maxRecDepth 100000 in
theorem c_M_out {G : EN} {l : Launch} (hl0 : l.stackTraces = false) {h : HH} {z : Z3} {x0 : Nat} {x1 : Int32} {x2 : Int32} {r : RS} (hf : f_M_out G.2.2.1 G.2.2.2 h z x0 x1 x2 = some r) : CM G l y_M_out (.code y_M_out b_M_out 3 (some .boolean)) 0 0 [.ref x0, .int x1, .int x2] h z r := by
  refine CM.ofW hl0 rfl ?_
  intro p e s m below meth c C hr hex hin hs
  have hx := C.1
  have hb := C.2.1
  refine x_entry (n := 3) (Nat.le_of_ble_eq_true rfl) (fun ls hl => ?_)
  have hl : lv_has ls 3 [(0, .ref x0), (1, .int x1), (2, .int x2)] := hl
  unfold f_M_out at hf
  refine lv_iload_n hx hb d_M_out_0 rfl (lv_at hl 1 rfl) ?_
  refine lv_if_lt (tgt := 9) hx hb d_M_out_1 (by decide) (fun q1 => ?_) (fun q1 => ?_)
  · have hf := ifp q1 hf
    refine lv_iconst (v := 1) hx hb d_M_out_9 (by decide) ?_
    refine lv_goto (tgt := 14) hx hb d_M_out_10 (by decide) ?_
    exact r_zreturn C hs hr d_M_out_14 hf
  · have hf := ifn q1 hf
    refine lv_iload_n hx hb d_M_out_4 rfl (lv_at hl 1 rfl) ?_
    refine lv_iload_n hx hb d_M_out_5 rfl (lv_at hl 2 rfl) ?_
    refine lv_icmp_lt (tgt := 13) hx hb d_M_out_6 (by decide) (fun q2 => ?_) (fun q2 => ?_)
    · have hf := ifp q2 hf
      refine lv_iconst (v := 0) hx hb d_M_out_13 (by decide) ?_
      exact r_zreturn C hs hr d_M_out_14 hf
    · have hf := ifn q2 hf
      refine lv_iconst (v := 1) hx hb d_M_out_9 (by decide) ?_
      refine lv_goto (tgt := 14) hx hb d_M_out_10 (by decide) ?_
      exact r_zreturn C hs hr d_M_out_14 hf
def f_M_fail (bs sE : Nat) (h : HH) (z : Z3) (x0 : Nat) (x1 : Int32) : Option RS :=
  (pV bs h x0 6 0 (.inl x1)).bind fun h1 =>
  some (.inl (some (.int 0)), h1, z)
set_option maxHeartbeats 4000000 in
set_option maxRecDepth 100000 in
theorem c_M_fail {G : EN} {l : Launch} (hl0 : l.stackTraces = false) {h : HH} {z : Z3} {x0 : Nat} {x1 : Int32} {r : RS} (hf : f_M_fail G.2.2.1 G.2.2.2 h z x0 x1 = some r) : CM G l y_M_fail (.code y_M_fail b_M_fail 2 (some .int)) 0 0 [.ref x0, .int x1] h z r := by
  refine CM.ofW hl0 rfl ?_
  intro p e s m below meth c C hr hex hin hs
  have hx := C.1
  have hb := C.2.1
  refine x_entry (n := 2) (Nat.le_of_ble_eq_true rfl) (fun ls hl => ?_)
  have hl : lv_has ls 2 [(0, .ref x0), (1, .int x1)] := hl
  unfold f_M_fail at hf
  refine lv_aload_n hx hb d_M_fail_0 rfl (lv_at hl 0 rfl) ?_
  refine lv_iload_n hx hb d_M_fail_1 rfl (lv_at hl 1 rfl) ?_
  refine r_putV (v := (.inl x1)) C hs flp_M_71 rfl rfl d_M_fail_2 hf (fun h1 H locs hf hs => ?_)
  refine lv_iconst (v := 0) hx hb d_M_fail_5 (by decide) ?_
  exact r_ireturn C hs hr d_M_fail_6 hf
def f_M_abort (bs sE : Nat) (h : HH) (z : Z3) (x0 : Nat) (x1 : Int32) : Option RS :=
  (gR h x0 6 11).bind fun v1 =>
  (aI h v1 0 x1).bind fun v2 =>
  (aIs bs h v1 0 x1 (v2 + 1)).bind fun h3 =>
  (gR h3 x0 6 10).bind fun v4 =>
  (aIs bs h3 v4 0 x1 3).bind fun h5 =>
  some (.inl none, h5, z)
set_option maxHeartbeats 4000000 in
set_option maxRecDepth 100000 in
theorem c_M_abort {G : EN} {l : Launch} (hl0 : l.stackTraces = false) {h : HH} {z : Z3} {x0 : Nat} {x1 : Int32} {r : RS} (hf : f_M_abort G.2.2.1 G.2.2.2 h z x0 x1 = some r) : CM G l y_M_abort (.code y_M_abort b_M_abort 2 none) 0 0 [.ref x0, .int x1] h z r := by
  refine CM.ofW hl0 rfl ?_
  intro p e s m below meth c C hr hex hin hs
  have hx := C.1
  have hb := C.2.1
  refine x_entry (n := 2) (Nat.le_of_ble_eq_true rfl) (fun ls hl => ?_)
  have hl : lv_has ls 2 [(0, .ref x0), (1, .int x1)] := hl
  unfold f_M_abort at hf
  refine lv_aload_n hx hb d_M_abort_0 rfl (lv_at hl 0 rfl) ?_
  refine r_getR C hs fl_M_40 d_M_abort_1 hf (fun v1 hf => ?_)
  refine lv_iload_n hx hb d_M_abort_4 rfl (lv_at hl 1 rfl) ?_
  refine lv_dup2_11 hx hb d_M_abort_5 rfl rfl ?_
  refine r_iald C hs d_M_abort_6 hf (fun v2 hf => ?_)
  refine lv_iconst (v := 1) hx hb d_M_abort_7 (by decide) ?_
  refine lv_iadd hx hb d_M_abort_8 ?_
  refine r_iast C hs d_M_abort_9 hf (fun h3 H locs hf hs => ?_)
  refine lv_aload_n hx hb d_M_abort_10 rfl (lv_at hl 0 rfl) ?_
  refine r_getR C hs fl_M_37 d_M_abort_11 hf (fun v4 hf => ?_)
  refine lv_iload_n hx hb d_M_abort_14 rfl (lv_at hl 1 rfl) ?_
  refine lv_iconst (v := 3) hx hb d_M_abort_15 (by decide) ?_
  refine r_iast C hs d_M_abort_16 hf (fun h5 H locs hf hs => ?_)
  exact r_vreturn C hs hr d_M_abort_17 hf
def f_M_check (bs sE : Nat) (h : HH) (z : Z3) (x0 : Nat) (x1 : Int32) (x2 : Int32) (x3 : Int32) : Option RS :=
  (gR h x0 6 10).bind fun v1 =>
  (aI h v1 0 x1).bind fun v2 =>
  if 0 ≤ v2 then
    ((gR h x0 6 11).bind fun v4 =>
    (aI h v4 0 x1).bind fun v5 =>
    if x2 = v5 then
      ((gR h x0 6 10).bind fun v7 =>
      (aI h v7 0 x1).bind fun v8 =>
      if v8 = x3 then
        (some (.inl (some (.int 0)), h, z))
      else
        (some (.inl (some (.int 3)), h, z)))
    else
      (some (.inl (some (.int 3)), h, z)))
  else
    (some (.inl (some (.int 2)), h, z))
set_option maxHeartbeats 4000000 in
set_option maxRecDepth 100000 in
theorem c_M_check {G : EN} {l : Launch} (hl0 : l.stackTraces = false) {h : HH} {z : Z3} {x0 : Nat} {x1 : Int32} {x2 : Int32} {x3 : Int32} {r : RS} (hf : f_M_check G.2.2.1 G.2.2.2 h z x0 x1 x2 x3 = some r) : CM G l y_M_check (.code y_M_check b_M_check 4 (some .int)) 0 0 [.ref x0, .int x1, .int x2, .int x3] h z r := by
  refine CM.ofW hl0 rfl ?_
  intro p e s m below meth c C hr hex hin hs
  have hx := C.1
  have hb := C.2.1
  refine x_entry (n := 4) (Nat.le_of_ble_eq_true rfl) (fun ls hl => ?_)
  have hl : lv_has ls 4 [(0, .ref x0), (1, .int x1), (2, .int x2), (3, .int x3)] := hl
  unfold f_M_check at hf
  refine lv_aload_n hx hb d_M_check_0 rfl (lv_at hl 0 rfl) ?_
  refine r_getR C hs fl_M_37 d_M_check_1 hf (fun v1 hf => ?_)
  refine lv_iload_n hx hb d_M_check_4 rfl (lv_at hl 1 rfl) ?_
  refine r_iald C hs d_M_check_5 hf (fun v2 hf => ?_)
  refine lv_if_ge (tgt := 11) hx hb d_M_check_6 (by decide) (fun q3 => ?_) (fun q3 => ?_)
  · have hf := ifp q3 hf
    refine lv_iload_n hx hb d_M_check_11 rfl (lv_at hl 2 rfl) ?_
    refine lv_aload_n hx hb d_M_check_12 rfl (lv_at hl 0 rfl) ?_
    refine r_getR C hs fl_M_40 d_M_check_13 hf (fun v4 hf => ?_)
    refine lv_iload_n hx hb d_M_check_16 rfl (lv_at hl 1 rfl) ?_
    refine r_iald C hs d_M_check_17 hf (fun v5 hf => ?_)
    refine lv_icmp_ne (tgt := 31) hx hb d_M_check_18 (by decide) (fun q6 => ?_) (fun q6 => ?_)
    · have hf := ifn q6 hf
      refine lv_iconst (v := 3) hx hb d_M_check_31 (by decide) ?_
      refine lv_goto (tgt := 36) hx hb d_M_check_32 (by decide) ?_
      exact r_ireturn C hs hr d_M_check_36 hf
    · have hf := ifp q6 hf
      refine lv_aload_n hx hb d_M_check_21 rfl (lv_at hl 0 rfl) ?_
      refine r_getR C hs fl_M_37 d_M_check_22 hf (fun v7 hf => ?_)
      refine lv_iload_n hx hb d_M_check_25 rfl (lv_at hl 1 rfl) ?_
      refine r_iald C hs d_M_check_26 hf (fun v8 hf => ?_)
      refine lv_iload_n hx hb d_M_check_27 rfl (lv_at hl 3 rfl) ?_
      refine lv_icmp_eq (tgt := 35) hx hb d_M_check_28 (by decide) (fun q9 => ?_) (fun q9 => ?_)
      · have hf := ifp q9 hf
        refine lv_iconst (v := 0) hx hb d_M_check_35 (by decide) ?_
        exact r_ireturn C hs hr d_M_check_36 hf
      · have hf := ifn q9 hf
        refine lv_iconst (v := 3) hx hb d_M_check_31 (by decide) ?_
        refine lv_goto (tgt := 36) hx hb d_M_check_32 (by decide) ?_
        exact r_ireturn C hs hr d_M_check_36 hf
  · have hf := ifn q3 hf
    refine lv_iconst (v := 2) hx hb d_M_check_9 (by decide) ?_
    exact r_ireturn C hs hr d_M_check_10 hf
def f_M_ofProducer (bs sE : Nat) (h : HH) (z : Z3) (x0 : Nat) (x1 : Int32) (x2 : Int32) : Option RS :=
  (gR h x0 6 1).bind fun v1 =>
  (aI h v1 0 x1).bind fun v2 =>
  if v2 = 1 then
    ((gR h x0 6 3).bind fun v4 =>
    (aI h v4 0 x1).bind fun v5 =>
    if v5 = x2 then
      ((gR h x0 6 4).bind fun v7 =>
      (aI h v7 0 x1).bind fun v8 =>
      (gR h x0 6 11).bind fun v9 =>
      (aI h v9 0 x2).bind fun v10 =>
      if v8 = v10 then
        ((bz 1).bind fun _ =>
        some (.inl (some (.int 1)), h, z))
      else
        ((bz 0).bind fun _ =>
        some (.inl (some (.int 0)), h, z)))
    else
      ((bz 0).bind fun _ =>
      some (.inl (some (.int 0)), h, z)))
  else
    ((bz 0).bind fun _ =>
    some (.inl (some (.int 0)), h, z))
set_option maxHeartbeats 4000000 in
set_option maxRecDepth 100000 in
theorem c_M_ofProducer {G : EN} {l : Launch} (hl0 : l.stackTraces = false) {h : HH} {z : Z3} {x0 : Nat} {x1 : Int32} {x2 : Int32} {r : RS} (hf : f_M_ofProducer G.2.2.1 G.2.2.2 h z x0 x1 x2 = some r) : CM G l y_M_ofProducer (.code y_M_ofProducer b_M_ofProducer 3 (some .boolean)) 0 0 [.ref x0, .int x1, .int x2] h z r := by
  refine CM.ofW hl0 rfl ?_
  intro p e s m below meth c C hr hex hin hs
  have hx := C.1
  have hb := C.2.1
  refine x_entry (n := 3) (Nat.le_of_ble_eq_true rfl) (fun ls hl => ?_)
  have hl : lv_has ls 3 [(0, .ref x0), (1, .int x1), (2, .int x2)] := hl
  unfold f_M_ofProducer at hf
  refine lv_aload_n hx hb d_M_ofProducer_0 rfl (lv_at hl 0 rfl) ?_
  refine r_getR C hs fl_M_7 d_M_ofProducer_1 hf (fun v1 hf => ?_)
  refine lv_iload_n hx hb d_M_ofProducer_4 rfl (lv_at hl 1 rfl) ?_
  refine r_iald C hs d_M_ofProducer_5 hf (fun v2 hf => ?_)
  refine lv_iconst (v := 1) hx hb d_M_ofProducer_6 (by decide) ?_
  refine lv_icmp_ne (tgt := 39) hx hb d_M_ofProducer_7 (by decide) (fun q3 => ?_) (fun q3 => ?_)
  · have hf := ifn q3 hf
    refine lv_iconst (v := 0) hx hb d_M_ofProducer_39 (by decide) ?_
    exact r_zreturn C hs hr d_M_ofProducer_40 hf
  · have hf := ifp q3 hf
    refine lv_aload_n hx hb d_M_ofProducer_10 rfl (lv_at hl 0 rfl) ?_
    refine r_getR C hs fl_M_16 d_M_ofProducer_11 hf (fun v4 hf => ?_)
    refine lv_iload_n hx hb d_M_ofProducer_14 rfl (lv_at hl 1 rfl) ?_
    refine r_iald C hs d_M_ofProducer_15 hf (fun v5 hf => ?_)
    refine lv_iload_n hx hb d_M_ofProducer_16 rfl (lv_at hl 2 rfl) ?_
    refine lv_icmp_ne (tgt := 39) hx hb d_M_ofProducer_17 (by decide) (fun q6 => ?_) (fun q6 => ?_)
    · have hf := ifn q6 hf
      refine lv_iconst (v := 0) hx hb d_M_ofProducer_39 (by decide) ?_
      exact r_zreturn C hs hr d_M_ofProducer_40 hf
    · have hf := ifp q6 hf
      refine lv_aload_n hx hb d_M_ofProducer_20 rfl (lv_at hl 0 rfl) ?_
      refine r_getR C hs fl_M_19 d_M_ofProducer_21 hf (fun v7 hf => ?_)
      refine lv_iload_n hx hb d_M_ofProducer_24 rfl (lv_at hl 1 rfl) ?_
      refine r_iald C hs d_M_ofProducer_25 hf (fun v8 hf => ?_)
      refine lv_aload_n hx hb d_M_ofProducer_26 rfl (lv_at hl 0 rfl) ?_
      refine r_getR C hs fl_M_40 d_M_ofProducer_27 hf (fun v9 hf => ?_)
      refine lv_iload_n hx hb d_M_ofProducer_30 rfl (lv_at hl 2 rfl) ?_
      refine r_iald C hs d_M_ofProducer_31 hf (fun v10 hf => ?_)
      refine lv_icmp_ne (tgt := 39) hx hb d_M_ofProducer_32 (by decide) (fun q11 => ?_) (fun q11 => ?_)
      · have hf := ifn q11 hf
        refine lv_iconst (v := 0) hx hb d_M_ofProducer_39 (by decide) ?_
        exact r_zreturn C hs hr d_M_ofProducer_40 hf
      · have hf := ifp q11 hf
        refine lv_iconst (v := 1) hx hb d_M_ofProducer_35 (by decide) ?_
        refine lv_goto (tgt := 40) hx hb d_M_ofProducer_36 (by decide) ?_
        exact r_zreturn C hs hr d_M_ofProducer_40 hf
def fb_M_next_L9 (bs sE : Nat) (REC : HH → Z3 → Nat → Int32 → Int32 → Int32 → Int32 → Option RS) (h : HH) (z : Z3) (x0 : Nat) (x1 : Int32) (x2 : Int32) (x3 : Int32) (x4 : Int32) : Option RS :=
  (gR h x0 6 7).bind fun v1 =>
  (aI h v1 0 x2).bind fun v2 =>
  if ((520 * x2) + v2) ≤ x4 then
    (some (.inl (some (.int x3)), h, z))
  else
    ((oK h x0 6).bind fun _ =>
    cI (f_M_ofProducer bs sE h z x0 x4 x1) fun v6 h4 z5 =>
    if v6 = 0 then
      (REC h4 z5 x0 x1 x2 x3 (x4 + 1))
    else
      ((gR h4 x0 6 5).bind fun v8 =>
      (aI h4 v8 0 x4).bind fun v9 =>
      if v9 < x3 then
        (REC h4 z5 x0 x1 x2 x3 (x4 + 1))
      else
        ((gR h4 x0 6 5).bind fun v11 =>
        (aI h4 v11 0 x4).bind fun v12 =>
        REC h4 z5 x0 x1 x2 (v12 + 1) (x4 + 1))))
def f_M_next_L9 (bs sE : Nat) : Nat → HH → Z3 → Nat → Int32 → Int32 → Int32 → Int32 → Option RS
  | 0 => fun _ _ _ _ _ _ _ => none
  | n + 1 => fb_M_next_L9 bs sE (f_M_next_L9 bs sE n)
set_option maxHeartbeats 4000000 in
set_option maxRecDepth 100000 in
theorem t_M_next_L9 {G : EN} {p : Program} {l : Launch} {e : Env} {s : State} {m : MethodId} {args : Array Value} {below : List Frame} {meth : Method} {c : Code} {z0 : Z3} (hl0 : l.stackTraces = false) (C : CX G p l s m meth c b_M_next 5 y_M_next.cls) (hr : meth.sig.returnType = (some .int)) (hex : c.exceptionTable.toList = []) {r : RS} :
    ∀ (n : Nat) (h : HH) (z : Z3) (x0 : Nat) (x1 : Int32) (x2 : Int32) (x3 : Int32) (x4 : Int32), f_M_next_L9 G.2.2.1 G.2.2.2 n h z x0 x1 x2 x3 x4 = some r → ∀ (H : Heap) (locs : List Loc) (cells slots : Nat) (ls : Array Slot), ST G (RM 1 22 z0) s h z H locs cells slots → lv_has ls 5 [(0, .ref x0), (1, .int x1), (2, .int x2), (3, .int x3), (4, .int x4)] → W p l e (RM 1 22 z0) s m args below meth c H locs cells slots (MX G below s r (RM 1 22 z0).cells (RM 1 22 z0).slots) (F0 m 9 ls []) := by
  have hx := C.1
  have hb := C.2.1
  intro n
  induction n with
  | zero => intro h z x0 x1 x2 x3 x4 hf; exact nomatch (show (none : Option RS) = some r from hf)
  | succ n ih =>
    intro h z x0 x1 x2 x3 x4 hf H locs cells slots ls hs hl
    have hf : fb_M_next_L9 G.2.2.1 G.2.2.2 (f_M_next_L9 G.2.2.1 G.2.2.2 n) h z x0 x1 x2 x3 x4 = some r := hf
    unfold fb_M_next_L9 at hf
    refine lv_iload hx hb d_M_next_9 (lv_at hl 4 rfl) ?_
    refine lv_sipush (v := 520) hx hb d_M_next_11 (by decide) ?_
    refine lv_iload_n hx hb d_M_next_14 rfl (lv_at hl 2 rfl) ?_
    refine lv_imul hx hb d_M_next_15 ?_
    refine lv_aload_n hx hb d_M_next_16 rfl (lv_at hl 0 rfl) ?_
    refine r_getR C hs fl_M_28 d_M_next_17 hf (fun v1 hf => ?_)
    refine lv_iload_n hx hb d_M_next_20 rfl (lv_at hl 2 rfl) ?_
    refine r_iald C hs d_M_next_21 hf (fun v2 hf => ?_)
    refine lv_iadd hx hb d_M_next_22 ?_
    refine lv_icmp_ge (tgt := 63) hx hb d_M_next_23 (by decide) (fun q3 => ?_) (fun q3 => ?_)
    · have hf := ifp q3 hf
      refine lv_iload_n hx hb d_M_next_63 rfl (lv_at hl 3 rfl) ?_
      exact r_ireturn C hs hr d_M_next_64 hf
    · have hf := ifn q3 hf
      refine lv_aload_n hx hb d_M_next_26 rfl (lv_at hl 0 rfl) ?_
      refine lv_iload hx hb d_M_next_27 (lv_at hl 4 rfl) ?_
      refine lv_iload_n hx hb d_M_next_29 rfl (lv_at hl 1 rfl) ?_
      obtain ⟨_, ho, hf⟩ := bd hf
      refine k_I C hs hex hf (fun res e1 => iv_V (b := x0) (As := [.int x4, .int x1]) (rest := []) C hs cv_M_75 (c_M_ofProducer hl0 e1) (ci := 6) rfl rfl ho rfl hl.1 rfl (Nat.le_of_ble_eq_true rfl) d_M_next_30 ⟨Nat.le_of_ble_eq_true rfl, Nat.le_of_ble_eq_true rfl⟩) (fun v6 h4 z5 H locs cells slots hf hs => ?_)
      refine lv_if_eq (tgt := 57) hx hb d_M_next_33 (by decide) (fun q7 => ?_) (fun q7 => ?_)
      · have hf := ifp q7 hf
        refine lv_iinc (v := x4 + 1) (lv' := [(4, .int (x4 + 1)), (0, .ref x0), (1, .int x1), (2, .int x2), (3, .int x3)]) hx hb d_M_next_57 hl (k := 4) rfl rfl (by decide) rfl (fun ls hl => ?_)
        refine lv_goto (tgt := 9) hx hb d_M_next_60 (by decide) ?_
        exact ih _ _ _ _ _ _ _ hf _ _ _ _ _ hs (lv_sub hl [1, 2, 3, 4, 0] rfl)
      · have hf := ifn q7 hf
        refine lv_aload_n hx hb d_M_next_36 rfl (lv_at hl 0 rfl) ?_
        refine r_getR C hs fl_M_22 d_M_next_37 hf (fun v8 hf => ?_)
        refine lv_iload hx hb d_M_next_40 (lv_at hl 4 rfl) ?_
        refine r_iald C hs d_M_next_42 hf (fun v9 hf => ?_)
        refine lv_iload_n hx hb d_M_next_43 rfl (lv_at hl 3 rfl) ?_
        refine lv_icmp_lt (tgt := 57) hx hb d_M_next_44 (by decide) (fun q10 => ?_) (fun q10 => ?_)
        · have hf := ifp q10 hf
          refine lv_iinc (v := x4 + 1) (lv' := [(4, .int (x4 + 1)), (0, .ref x0), (1, .int x1), (2, .int x2), (3, .int x3)]) hx hb d_M_next_57 hl (k := 4) rfl rfl (by decide) rfl (fun ls hl => ?_)
          refine lv_goto (tgt := 9) hx hb d_M_next_60 (by decide) ?_
          exact ih _ _ _ _ _ _ _ hf _ _ _ _ _ hs (lv_sub hl [1, 2, 3, 4, 0] rfl)
        · have hf := ifn q10 hf
          refine lv_aload_n hx hb d_M_next_47 rfl (lv_at hl 0 rfl) ?_
          refine r_getR C hs fl_M_22 d_M_next_48 hf (fun v11 hf => ?_)
          refine lv_iload hx hb d_M_next_51 (lv_at hl 4 rfl) ?_
          refine r_iald C hs d_M_next_53 hf (fun v12 hf => ?_)
          refine lv_iconst (v := 1) hx hb d_M_next_54 (by decide) ?_
          refine lv_iadd hx hb d_M_next_55 ?_
          refine lv_istore_n (lv' := [(3, .int (v12 + 1)), (0, .ref x0), (1, .int x1), (2, .int x2), (4, .int x4)]) hx hb d_M_next_56 rfl hl (by decide) rfl (fun ls hl => ?_)
          refine lv_iinc (v := x4 + 1) (lv' := [(4, .int (x4 + 1)), (3, .int (v12 + 1)), (0, .ref x0), (1, .int x1), (2, .int x2)]) hx hb d_M_next_57 hl (k := 4) rfl rfl (by decide) rfl (fun ls hl => ?_)
          refine lv_goto (tgt := 9) hx hb d_M_next_60 (by decide) ?_
          exact ih _ _ _ _ _ _ _ hf _ _ _ _ _ hs (lv_sub hl [2, 3, 4, 1, 0] rfl)
def f_M_next (bs sE : Nat) (h : HH) (z : Z3) (x0 : Nat) (x1 : Int32) (x2 : Int32) : Option RS :=
  f_M_next_L9 bs sE FU h z x0 x1 x2 0 (520 * x2)
set_option maxHeartbeats 4000000 in
set_option maxRecDepth 100000 in
theorem c_M_next {G : EN} {l : Launch} (hl0 : l.stackTraces = false) {h : HH} {z : Z3} {x0 : Nat} {x1 : Int32} {x2 : Int32} {r : RS} (hf : f_M_next G.2.2.1 G.2.2.2 h z x0 x1 x2 = some r) : CM G l y_M_next (.code y_M_next b_M_next 5 (some .int)) 1 22 [.ref x0, .int x1, .int x2] h z r := by
  refine CM.ofW hl0 rfl ?_
  intro p e s m below meth c C hr hex hin hs
  have hx := C.1
  have hb := C.2.1
  refine x_entry (n := 5) (Nat.le_of_ble_eq_true rfl) (fun ls hl => ?_)
  have hl : lv_has ls 5 [(0, .ref x0), (1, .int x1), (2, .int x2)] := hl
  unfold f_M_next at hf
  refine lv_iconst (v := 0) hx hb d_M_next_0 (by decide) ?_
  refine lv_istore_n (lv' := [(3, .int 0), (0, .ref x0), (1, .int x1), (2, .int x2)]) hx hb d_M_next_1 rfl hl (by decide) rfl (fun ls hl => ?_)
  refine lv_sipush (v := 520) hx hb d_M_next_2 (by decide) ?_
  refine lv_iload_n hx hb d_M_next_5 rfl (lv_at hl 3 rfl) ?_
  refine lv_imul hx hb d_M_next_6 ?_
  refine lv_istore (lv' := [(4, .int (520 * x2)), (3, .int 0), (0, .ref x0), (1, .int x1), (2, .int x2)]) hx hb d_M_next_7 hl (by decide) rfl (fun ls hl => ?_)
  exact t_M_next_L9 hl0 C hr hex FU _ _ _ _ _ _ _ hf _ _ _ _ _ hs (lv_sub hl [2, 3, 4, 1, 0] rfl)
def f_M_full (bs sE : Nat) (h : HH) (z : Z3) (x0 : Nat) (x1 : Int32) : Option RS :=
  (gR h x0 6 7).bind fun v1 =>
  (aI h v1 0 x1).bind fun v2 =>
  (gR h x0 6 8).bind fun v3 =>
  (aI h v3 0 x1).bind fun v4 =>
  if 32 ≤ (v2 - v4) then
    ((bz 1).bind fun _ =>
    some (.inl (some (.int 1)), h, z))
  else
    ((gR h x0 6 7).bind fun v6 =>
    (aI h v6 0 x1).bind fun v7 =>
    if v7 < 400 then
      ((bz 0).bind fun _ =>
      some (.inl (some (.int 0)), h, z))
    else
      ((bz 1).bind fun _ =>
      some (.inl (some (.int 1)), h, z)))
set_option maxHeartbeats 4000000 in
set_option maxRecDepth 100000 in
theorem c_M_full {G : EN} {l : Launch} (hl0 : l.stackTraces = false) {h : HH} {z : Z3} {x0 : Nat} {x1 : Int32} {r : RS} (hf : f_M_full G.2.2.1 G.2.2.2 h z x0 x1 = some r) : CM G l y_M_full (.code y_M_full b_M_full 2 (some .boolean)) 0 0 [.ref x0, .int x1] h z r := by
  refine CM.ofW hl0 rfl ?_
  intro p e s m below meth c C hr hex hin hs
  have hx := C.1
  have hb := C.2.1
  refine x_entry (n := 2) (Nat.le_of_ble_eq_true rfl) (fun ls hl => ?_)
  have hl : lv_has ls 2 [(0, .ref x0), (1, .int x1)] := hl
  unfold f_M_full at hf
  refine lv_aload_n hx hb d_M_full_0 rfl (lv_at hl 0 rfl) ?_
  refine r_getR C hs fl_M_28 d_M_full_1 hf (fun v1 hf => ?_)
  refine lv_iload_n hx hb d_M_full_4 rfl (lv_at hl 1 rfl) ?_
  refine r_iald C hs d_M_full_5 hf (fun v2 hf => ?_)
  refine lv_aload_n hx hb d_M_full_6 rfl (lv_at hl 0 rfl) ?_
  refine r_getR C hs fl_M_31 d_M_full_7 hf (fun v3 hf => ?_)
  refine lv_iload_n hx hb d_M_full_10 rfl (lv_at hl 1 rfl) ?_
  refine r_iald C hs d_M_full_11 hf (fun v4 hf => ?_)
  refine lv_isub hx hb d_M_full_12 ?_
  refine lv_bipush (v := 32) hx hb d_M_full_13 (by decide) ?_
  refine lv_icmp_ge (tgt := 30) hx hb d_M_full_15 (by decide) (fun q5 => ?_) (fun q5 => ?_)
  · have hf := ifp q5 hf
    refine lv_iconst (v := 1) hx hb d_M_full_30 (by decide) ?_
    refine lv_goto (tgt := 35) hx hb d_M_full_31 (by decide) ?_
    exact r_zreturn C hs hr d_M_full_35 hf
  · have hf := ifn q5 hf
    refine lv_aload_n hx hb d_M_full_18 rfl (lv_at hl 0 rfl) ?_
    refine r_getR C hs fl_M_28 d_M_full_19 hf (fun v6 hf => ?_)
    refine lv_iload_n hx hb d_M_full_22 rfl (lv_at hl 1 rfl) ?_
    refine r_iald C hs d_M_full_23 hf (fun v7 hf => ?_)
    refine lv_sipush (v := 400) hx hb d_M_full_24 (by decide) ?_
    refine lv_icmp_lt (tgt := 34) hx hb d_M_full_27 (by decide) (fun q8 => ?_) (fun q8 => ?_)
    · have hf := ifp q8 hf
      refine lv_iconst (v := 0) hx hb d_M_full_34 (by decide) ?_
      exact r_zreturn C hs hr d_M_full_35 hf
    · have hf := ifn q8 hf
      refine lv_iconst (v := 1) hx hb d_M_full_30 (by decide) ?_
      refine lv_goto (tgt := 35) hx hb d_M_full_31 (by decide) ?_
      exact r_zreturn C hs hr d_M_full_35 hf
def f_M_put_B93 (bs sE : Nat) (h : HH) (z : Z3) (x0 : Nat) (x1 : Int32) (w0 : Int32) (w1 : Int32) (w2 : Nat) : Option RS :=
  (aIs bs h w2 0 w1 w0).bind fun h20 =>
  (gR h20 x0 6 7).bind fun v21 =>
  (aI h20 v21 0 x1).bind fun v22 =>
  (aIs bs h20 v21 0 x1 (v22 + 1)).bind fun h23 =>
  (gR h23 x0 6 7).bind fun v24 =>
  (aI h23 v24 0 x1).bind fun v25 =>
  some (.inl (some (.int (v25 - 1))), h23, z)
set_option maxHeartbeats 4000000 in
set_option maxRecDepth 100000 in
theorem t_M_put_B93 {G : EN} {p : Program} {l : Launch} {e : Env} {s : State} {m : MethodId} {args : Array Value} {below : List Frame} {meth : Method} {c : Code} {z0 : Z3} (hl0 : l.stackTraces = false) (C : CX G p l s m meth c b_M_put 7 y_M_put.cls) (hr : meth.sig.returnType = (some .int)) (hex : c.exceptionTable.toList = []) {r : RS} :
    ∀ (h : HH) (z : Z3) (x0 : Nat) (x1 : Int32) (w0 : Int32) (w1 : Int32) (w2 : Nat), f_M_put_B93 G.2.2.1 G.2.2.2 h z x0 x1 w0 w1 w2 = some r → ∀ (H : Heap) (locs : List Loc) (cells slots : Nat) (ls : Array Slot), ST G (RM 0 0 z0) s h z H locs cells slots → lv_has ls 7 [(0, .ref x0), (1, .int x1)] → W p l e (RM 0 0 z0) s m args below meth c H locs cells slots (MX G below s r (RM 0 0 z0).cells (RM 0 0 z0).slots) (F0 m 93 ls [.int w0, .int w1, .ref w2]) := by
  have hx := C.1
  have hb := C.2.1
  intro h z x0 x1 w0 w1 w2 hf H locs cells slots ls hs hl
  unfold f_M_put_B93 at hf
  refine r_iast C hs d_M_put_93 hf (fun h20 H locs hf hs => ?_)
  refine lv_aload_n hx hb d_M_put_94 rfl (lv_at hl 0 rfl) ?_
  refine r_getR C hs fl_M_28 d_M_put_95 hf (fun v21 hf => ?_)
  refine lv_iload_n hx hb d_M_put_98 rfl (lv_at hl 1 rfl) ?_
  refine lv_dup2_11 hx hb d_M_put_99 rfl rfl ?_
  refine r_iald C hs d_M_put_100 hf (fun v22 hf => ?_)
  refine lv_iconst (v := 1) hx hb d_M_put_101 (by decide) ?_
  refine lv_iadd hx hb d_M_put_102 ?_
  refine r_iast C hs d_M_put_103 hf (fun h23 H locs hf hs => ?_)
  refine lv_aload_n hx hb d_M_put_104 rfl (lv_at hl 0 rfl) ?_
  refine r_getR C hs fl_M_28 d_M_put_105 hf (fun v24 hf => ?_)
  refine lv_iload_n hx hb d_M_put_108 rfl (lv_at hl 1 rfl) ?_
  refine r_iald C hs d_M_put_109 hf (fun v25 hf => ?_)
  refine lv_iconst (v := 1) hx hb d_M_put_110 (by decide) ?_
  refine lv_isub hx hb d_M_put_111 ?_
  exact r_ireturn C hs hr d_M_put_112 hf
def f_M_put_B61 (bs sE : Nat) (h : HH) (z : Z3) (x0 : Nat) (x1 : Int32) (x4 : Int32) (x5 : Int32) (x6 : Int32) (w0 : Int32) (w1 : Int32) (w2 : Nat) : Option RS :=
  (aIs bs h w2 0 w1 w0).bind fun h13 =>
  (gR h13 x0 6 5).bind fun v14 =>
  (aIs bs h13 v14 0 x6 x5).bind fun h15 =>
  (gR h15 x0 6 6).bind fun v16 =>
  if 0 ≤ x4 then
    ((gR h15 x0 6 12).bind fun v18 =>
    (aI h15 v18 0 x4).bind fun v19 =>
    f_M_put_B93 bs sE h15 z x0 x1 v19 x6 v16)
  else
    (f_M_put_B93 bs sE h15 z x0 x1 0 x6 v16)
set_option maxHeartbeats 4000000 in
set_option maxRecDepth 100000 in
theorem t_M_put_B61 {G : EN} {p : Program} {l : Launch} {e : Env} {s : State} {m : MethodId} {args : Array Value} {below : List Frame} {meth : Method} {c : Code} {z0 : Z3} (hl0 : l.stackTraces = false) (C : CX G p l s m meth c b_M_put 7 y_M_put.cls) (hr : meth.sig.returnType = (some .int)) (hex : c.exceptionTable.toList = []) {r : RS} :
    ∀ (h : HH) (z : Z3) (x0 : Nat) (x1 : Int32) (x4 : Int32) (x5 : Int32) (x6 : Int32) (w0 : Int32) (w1 : Int32) (w2 : Nat), f_M_put_B61 G.2.2.1 G.2.2.2 h z x0 x1 x4 x5 x6 w0 w1 w2 = some r → ∀ (H : Heap) (locs : List Loc) (cells slots : Nat) (ls : Array Slot), ST G (RM 0 0 z0) s h z H locs cells slots → lv_has ls 7 [(0, .ref x0), (1, .int x1), (4, .int x4), (5, .int x5), (6, .int x6)] → W p l e (RM 0 0 z0) s m args below meth c H locs cells slots (MX G below s r (RM 0 0 z0).cells (RM 0 0 z0).slots) (F0 m 61 ls [.int w0, .int w1, .ref w2]) := by
  have hx := C.1
  have hb := C.2.1
  intro h z x0 x1 x4 x5 x6 w0 w1 w2 hf H locs cells slots ls hs hl
  unfold f_M_put_B61 at hf
  refine r_iast C hs d_M_put_61 hf (fun h13 H locs hf hs => ?_)
  refine lv_aload_n hx hb d_M_put_62 rfl (lv_at hl 0 rfl) ?_
  refine r_getR C hs fl_M_22 d_M_put_63 hf (fun v14 hf => ?_)
  refine lv_iload hx hb d_M_put_66 (lv_at hl 4 rfl) ?_
  refine lv_iload hx hb d_M_put_68 (lv_at hl 3 rfl) ?_
  refine r_iast C hs d_M_put_70 hf (fun h15 H locs hf hs => ?_)
  refine lv_aload_n hx hb d_M_put_71 rfl (lv_at hl 0 rfl) ?_
  refine r_getR C hs fl_M_25 d_M_put_72 hf (fun v16 hf => ?_)
  refine lv_iload hx hb d_M_put_75 (lv_at hl 4 rfl) ?_
  refine lv_iload hx hb d_M_put_77 (lv_at hl 2 rfl) ?_
  refine lv_if_ge (tgt := 86) hx hb d_M_put_79 (by decide) (fun q17 => ?_) (fun q17 => ?_)
  · have hf := ifp q17 hf
    refine lv_aload_n hx hb d_M_put_86 rfl (lv_at hl 0 rfl) ?_
    refine r_getR C hs fl_M_43 d_M_put_87 hf (fun v18 hf => ?_)
    refine lv_iload hx hb d_M_put_90 (lv_at hl 2 rfl) ?_
    refine r_iald C hs d_M_put_92 hf (fun v19 hf => ?_)
    exact t_M_put_B93 hl0 C hr hex _ _ _ _ _ _ _ hf _ _ _ _ _ hs (lv_sub hl [0, 1] rfl)
  · have hf := ifn q17 hf
    refine lv_iconst (v := 0) hx hb d_M_put_82 (by decide) ?_
    refine lv_goto (tgt := 93) hx hb d_M_put_83 (by decide) ?_
    exact t_M_put_B93 hl0 C hr hex _ _ _ _ _ _ _ hf _ _ _ _ _ hs (lv_sub hl [0, 1] rfl)
def f_M_put (bs sE : Nat) (h : HH) (z : Z3) (x0 : Nat) (x1 : Int32) (x2 : Int32) (x3 : Int32) (x4 : Int32) (x5 : Int32) : Option RS :=
  (gR h x0 6 7).bind fun v1 =>
  (aI h v1 0 x1).bind fun v2 =>
  (gR h x0 6 1).bind fun v3 =>
  (aIs bs h v3 0 ((520 * x1) + v2) x2).bind fun h4 =>
  (gR h4 x0 6 2).bind fun v5 =>
  (aIs bs h4 v5 0 ((520 * x1) + v2) x3).bind fun h6 =>
  (gR h6 x0 6 3).bind fun v7 =>
  (aIs bs h6 v7 0 ((520 * x1) + v2) x4).bind fun h8 =>
  (gR h8 x0 6 4).bind fun v9 =>
  if 0 ≤ x4 then
    ((gR h8 x0 6 11).bind fun v11 =>
    (aI h8 v11 0 x4).bind fun v12 =>
    f_M_put_B61 bs sE h8 z x0 x1 x4 x5 ((520 * x1) + v2) v12 ((520 * x1) + v2) v9)
  else
    (f_M_put_B61 bs sE h8 z x0 x1 x4 x5 ((520 * x1) + v2) 0 ((520 * x1) + v2) v9)
set_option maxHeartbeats 4000000 in
set_option maxRecDepth 100000 in
theorem c_M_put {G : EN} {l : Launch} (hl0 : l.stackTraces = false) {h : HH} {z : Z3} {x0 : Nat} {x1 : Int32} {x2 : Int32} {x3 : Int32} {x4 : Int32} {x5 : Int32} {r : RS} (hf : f_M_put G.2.2.1 G.2.2.2 h z x0 x1 x2 x3 x4 x5 = some r) : CM G l y_M_put (.code y_M_put b_M_put 7 (some .int)) 0 0 [.ref x0, .int x1, .int x2, .int x3, .int x4, .int x5] h z r := by
  refine CM.ofW hl0 rfl ?_
  intro p e s m below meth c C hr hex hin hs
  have hx := C.1
  have hb := C.2.1
  refine x_entry (n := 7) (Nat.le_of_ble_eq_true rfl) (fun ls hl => ?_)
  have hl : lv_has ls 7 [(0, .ref x0), (1, .int x1), (2, .int x2), (3, .int x3), (4, .int x4), (5, .int x5)] := hl
  unfold f_M_put at hf
  refine lv_sipush (v := 520) hx hb d_M_put_0 (by decide) ?_
  refine lv_iload_n hx hb d_M_put_3 rfl (lv_at hl 1 rfl) ?_
  refine lv_imul hx hb d_M_put_4 ?_
  refine lv_aload_n hx hb d_M_put_5 rfl (lv_at hl 0 rfl) ?_
  refine r_getR C hs fl_M_28 d_M_put_6 hf (fun v1 hf => ?_)
  refine lv_iload_n hx hb d_M_put_9 rfl (lv_at hl 1 rfl) ?_
  refine r_iald C hs d_M_put_10 hf (fun v2 hf => ?_)
  refine lv_iadd hx hb d_M_put_11 ?_
  refine lv_istore (lv' := [(6, .int ((520 * x1) + v2)), (0, .ref x0), (1, .int x1), (2, .int x2), (3, .int x3), (4, .int x4), (5, .int x5)]) hx hb d_M_put_12 hl (by decide) rfl (fun ls hl => ?_)
  refine lv_aload_n hx hb d_M_put_14 rfl (lv_at hl 1 rfl) ?_
  refine r_getR C hs fl_M_7 d_M_put_15 hf (fun v3 hf => ?_)
  refine lv_iload hx hb d_M_put_18 (lv_at hl 0 rfl) ?_
  refine lv_iload_n hx hb d_M_put_20 rfl (lv_at hl 3 rfl) ?_
  refine r_iast C hs d_M_put_21 hf (fun h4 H locs hf hs => ?_)
  refine lv_aload_n hx hb d_M_put_22 rfl (lv_at hl 1 rfl) ?_
  refine r_getR C hs fl_M_13 d_M_put_23 hf (fun v5 hf => ?_)
  refine lv_iload hx hb d_M_put_26 (lv_at hl 0 rfl) ?_
  refine lv_iload_n hx hb d_M_put_28 rfl (lv_at hl 4 rfl) ?_
  refine r_iast C hs d_M_put_29 hf (fun h6 H locs hf hs => ?_)
  refine lv_aload_n hx hb d_M_put_30 rfl (lv_at hl 1 rfl) ?_
  refine r_getR C hs fl_M_16 d_M_put_31 hf (fun v7 hf => ?_)
  refine lv_iload hx hb d_M_put_34 (lv_at hl 0 rfl) ?_
  refine lv_iload hx hb d_M_put_36 (lv_at hl 5 rfl) ?_
  refine r_iast C hs d_M_put_38 hf (fun h8 H locs hf hs => ?_)
  refine lv_aload_n hx hb d_M_put_39 rfl (lv_at hl 1 rfl) ?_
  refine r_getR C hs fl_M_19 d_M_put_40 hf (fun v9 hf => ?_)
  refine lv_iload hx hb d_M_put_43 (lv_at hl 0 rfl) ?_
  refine lv_iload hx hb d_M_put_45 (lv_at hl 5 rfl) ?_
  refine lv_if_ge (tgt := 54) hx hb d_M_put_47 (by decide) (fun q10 => ?_) (fun q10 => ?_)
  · have hf := ifp q10 hf
    refine lv_aload_n hx hb d_M_put_54 rfl (lv_at hl 1 rfl) ?_
    refine r_getR C hs fl_M_40 d_M_put_55 hf (fun v11 hf => ?_)
    refine lv_iload hx hb d_M_put_58 (lv_at hl 5 rfl) ?_
    refine r_iald C hs d_M_put_60 hf (fun v12 hf => ?_)
    exact t_M_put_B61 hl0 C hr hex _ _ _ _ _ _ _ _ _ _ hf _ _ _ _ _ hs (lv_sub hl [1, 2, 5, 6, 0] rfl)
  · have hf := ifn q10 hf
    refine lv_iconst (v := 0) hx hb d_M_put_50 (by decide) ?_
    refine lv_goto (tgt := 61) hx hb d_M_put_51 (by decide) ?_
    exact t_M_put_B61 hl0 C hr hex _ _ _ _ _ _ _ _ _ _ hf _ _ _ _ _ hs (lv_sub hl [1, 2, 5, 6, 0] rfl)
