def f_L_ctor (bs : Nat) (sE : Nat × Nat) (h : HH) (z : Z3) (x0 : Nat) : Option RS :=
  (nO z 3).bind fun _ =>
  (some (va_up h z.1 (some (.inl (5, dfl 5))))).bind fun h1 =>
  (some (nZ z 3)).bind fun z2 =>
  cV (f_A_ctor bs sE h1 z2 z.1) fun h3 z4 =>
  (pV bs h3 x0 2 0 (.inr (some z.1))).bind fun h6 =>
  (nA 41 41).bind fun _ =>
  (nO z4 41).bind fun _ =>
  (some (va_up h6 z4.1 (some (.inr (0, (41 : Int32).toNatClampNeg, .inl (fun _ => 0)))))).bind fun h7 =>
  (some (nZ z4 41)).bind fun z8 =>
  (pV bs h7 x0 2 1 (.inr (some z4.1))).bind fun h9 =>
  (pV bs h9 x0 2 2 (.inl 0)).bind fun h10 =>
  (pV bs h10 x0 2 3 (.inl 0)).bind fun h11 =>
  (gR h11 x0 2 1).bind fun v12 =>
  cV (f_R_fill bs sE h11 z8 v12 (-1)) fun h13 z14 =>
  some (.inl none, h13, z14)
set_option maxHeartbeats 4000000 in
set_option maxRecDepth 100000 in
theorem c_L_ctor {G : EN} {l : Launch} (hl0 : l.stackTraces = false) {h : HH} {z : Z3} {x0 : Nat} {r : RS} (hf : f_L_ctor G.2.2.1 G.2.2.2 h z x0 = some r) : CM G l y_L_ctor (.code y_L_ctor b_L_ctor 1 none) 4 80 [.ref x0] h z r := by
  refine CM.ofW hl0 rfl ?_
  intro p e s m below meth c C hr hex hin hs
  have hin : meth.name = "<init>" := hin
  have hx := C.1
  have hb := C.2.1
  refine x_entry (n := 1) (Nat.le_of_ble_eq_true rfl) (fun ls hl => ?_)
  have hl : lv_has ls 1 [(0, .ref x0)] := hl
  unfold f_L_ctor at hf
  refine lv_aload_n hx hb d_L_ctor_0 rfl (lv_at hl 0 rfl) ?_
  refine r_objInit C hl.1 (tm (i := 43) (by decide +kernel)) (tm (i := 31) (by decide +kernel)) (tm (i := 32) (by decide +kernel)) d_L_ctor_1 ⟨Nat.le_of_ble_eq_true rfl, Nat.le_of_ble_eq_true rfl⟩ ?_
  refine lv_aload_n hx hb d_L_ctor_4 rfl (lv_at hl 0 rfl) ?_
  refine r_new (ci := 5) C hs rfl (tm (i := 44) (by decide +kernel)) (tm (i := 45) (by decide +kernel)) (tm (i := 5) (by decide +kernel)) d_L_ctor_5 hf (fun H hf hs => ?_)
  obtain ⟨h1, eh1, hf⟩ := bd hf
  obtain ⟨z2, ez2, hf⟩ := bd hf
  rw [Option.some.inj eh1, Option.some.inj ez2] at hs
  refine lv_dup hx hb d_L_ctor_8 rfl ?_
  refine k_V C hs hex hf (fun res e1 => iv_I (b := z.1) (As := []) (rest := [.ref z.1, .ref x0]) C hs ci_L_11 (c_A_ctor hl0 e1) rfl hl.1 rfl (Nat.le_of_ble_eq_true rfl) d_L_ctor_9 ⟨Nat.le_of_ble_eq_true rfl, Nat.le_of_ble_eq_true rfl⟩) (fun h3 z4 H locs cells slots hf hs => ?_)
  refine r_putF (v := (.inr (some z.1))) C hs hin flf_L_12 rfl rfl d_L_ctor_12 hf (fun h6 H locs hf hs => ?_)
  refine lv_aload_n hx hb d_L_ctor_15 rfl (lv_at hl 0 rfl) ?_
  refine lv_bipush (v := 41) hx hb d_L_ctor_16 (by decide) ?_
  refine r_newa (kd := 0) (NB := 41) C hs (by decide) rfl (tm (i := 88) (by decide +kernel)) d_L_ctor_18 hf (fun H slots hf hs => ?_)
  obtain ⟨h7, eh7, hf⟩ := bd hf
  obtain ⟨z8, ez8, hf⟩ := bd hf
  rw [Option.some.inj eh7, Option.some.inj ez8] at hs
  refine r_putF (v := (.inr (some z4.1))) C hs hin flf_L_18 rfl rfl d_L_ctor_20 hf (fun h9 H locs hf hs => ?_)
  refine lv_aload_n hx hb d_L_ctor_23 rfl (lv_at hl 0 rfl) ?_
  refine lv_iconst (v := 0) hx hb d_L_ctor_24 (by decide) ?_
  refine r_putV (v := (.inl 0)) C hs flp_L_22 rfl rfl d_L_ctor_25 hf (fun h10 H locs hf hs => ?_)
  refine lv_aload_n hx hb d_L_ctor_28 rfl (lv_at hl 0 rfl) ?_
  refine lv_iconst (v := 0) hx hb d_L_ctor_29 (by decide) ?_
  refine r_putV (v := (.inl 0)) C hs flp_L_26 rfl rfl d_L_ctor_30 hf (fun h11 H locs hf hs => ?_)
  refine lv_aload_n hx hb d_L_ctor_33 rfl (lv_at hl 0 rfl) ?_
  refine r_getR C hs fl_L_18 d_L_ctor_34 hf (fun v12 hf => ?_)
  refine lv_iconst (v := (-1)) hx hb d_L_ctor_37 (by decide) ?_
  refine k_V C hs hex hf (fun res e1 => iv_S (As := [.ref v12, .int (-1)]) (rest := []) C hs cs_L_29 (c_R_fill hl0 e1) rfl hl.1 rfl (Nat.le_of_ble_eq_true rfl) d_L_ctor_38 ⟨Nat.le_of_ble_eq_true rfl, Nat.le_of_ble_eq_true rfl⟩) (fun h13 z14 H locs cells slots hf hs => ?_)
  exact r_vreturn C hs hr d_L_ctor_41 hf
def f_P_ctor (bs : Nat) (sE : Nat × Nat) (h : HH) (z : Z3) (x0 : Nat) (x1 : Int32) : Option RS :=
  (pV bs h x0 3 1 (.inl (-1))).bind fun h1 =>
  (pV bs h1 x0 3 2 (.inl (-1))).bind fun h2 =>
  (pV bs h2 x0 3 3 (.inl 0)).bind fun h3 =>
  (pV bs h3 x0 3 4 (.inl 0)).bind fun h4 =>
  (pV bs h4 x0 3 5 (.inl 0)).bind fun h5 =>
  (nA 8 8).bind fun _ =>
  (nO z 8).bind fun _ =>
  (some (va_up h5 z.1 (some (.inr (0, (8 : Int32).toNatClampNeg, .inl (fun _ => 0)))))).bind fun h6 =>
  (some (nZ z 8)).bind fun z7 =>
  (pV bs h6 x0 3 6 (.inr (some z.1))).bind fun h8 =>
  (pV bs h8 x0 3 0 (.inl x1)).bind fun h9 =>
  (gR h9 x0 3 6).bind fun v10 =>
  cV (f_R_fill bs sE h9 z7 v10 (-1)) fun h11 z12 =>
  some (.inl none, h11, z12)
set_option maxHeartbeats 4000000 in
set_option maxRecDepth 100000 in
theorem c_P_ctor {G : EN} {l : Launch} (hl0 : l.stackTraces = false) {h : HH} {z : Z3} {x0 : Nat} {x1 : Int32} {r : RS} (hf : f_P_ctor G.2.2.1 G.2.2.2 h z x0 x1 = some r) : CM G l y_P_ctor (.code y_P_ctor b_P_ctor 2 none) 1 23 [.ref x0, .int x1] h z r := by
  refine CM.ofW hl0 rfl ?_
  intro p e s m below meth c C hr hex hin hs
  have hin : meth.name = "<init>" := hin
  have hx := C.1
  have hb := C.2.1
  refine x_entry (n := 2) (Nat.le_of_ble_eq_true rfl) (fun ls hl => ?_)
  have hl : lv_has ls 2 [(0, .ref x0), (1, .int x1)] := hl
  unfold f_P_ctor at hf
  refine lv_aload_n hx hb d_P_ctor_0 rfl (lv_at hl 0 rfl) ?_
  refine r_objInit C hl.1 (tm (i := 93) (by decide +kernel)) (tm (i := 31) (by decide +kernel)) (tm (i := 32) (by decide +kernel)) d_P_ctor_1 ⟨Nat.le_of_ble_eq_true rfl, Nat.le_of_ble_eq_true rfl⟩ ?_
  refine lv_aload_n hx hb d_P_ctor_4 rfl (lv_at hl 0 rfl) ?_
  refine lv_iconst (v := (-1)) hx hb d_P_ctor_5 (by decide) ?_
  refine r_putV (v := (.inl (-1))) C hs flp_P_11 rfl rfl d_P_ctor_6 hf (fun h1 H locs hf hs => ?_)
  refine lv_aload_n hx hb d_P_ctor_9 rfl (lv_at hl 0 rfl) ?_
  refine lv_iconst (v := (-1)) hx hb d_P_ctor_10 (by decide) ?_
  refine r_putV (v := (.inl (-1))) C hs flp_P_15 rfl rfl d_P_ctor_11 hf (fun h2 H locs hf hs => ?_)
  refine lv_aload_n hx hb d_P_ctor_14 rfl (lv_at hl 0 rfl) ?_
  refine lv_iconst (v := 0) hx hb d_P_ctor_15 (by decide) ?_
  refine r_putV (v := (.inl 0)) C hs flp_P_18 rfl rfl d_P_ctor_16 hf (fun h3 H locs hf hs => ?_)
  refine lv_aload_n hx hb d_P_ctor_19 rfl (lv_at hl 0 rfl) ?_
  refine lv_iconst (v := 0) hx hb d_P_ctor_20 (by decide) ?_
  refine r_putV (v := (.inl 0)) C hs flp_P_21 rfl rfl d_P_ctor_21 hf (fun h4 H locs hf hs => ?_)
  refine lv_aload_n hx hb d_P_ctor_24 rfl (lv_at hl 0 rfl) ?_
  refine lv_iconst (v := 0) hx hb d_P_ctor_25 (by decide) ?_
  refine r_putV (v := (.inl 0)) C hs flp_P_24 rfl rfl d_P_ctor_26 hf (fun h5 H locs hf hs => ?_)
  refine lv_aload_n hx hb d_P_ctor_29 rfl (lv_at hl 0 rfl) ?_
  refine lv_bipush (v := 8) hx hb d_P_ctor_30 (by decide) ?_
  refine r_newa (kd := 0) (NB := 8) C hs (by decide) rfl (tm (i := 88) (by decide +kernel)) d_P_ctor_32 hf (fun H slots hf hs => ?_)
  obtain ⟨h6, eh6, hf⟩ := bd hf
  obtain ⟨z7, ez7, hf⟩ := bd hf
  rw [Option.some.inj eh6, Option.some.inj ez7] at hs
  refine r_putF (v := (.inr (some z.1))) C hs hin flf_P_27 rfl rfl d_P_ctor_34 hf (fun h8 H locs hf hs => ?_)
  refine lv_aload_n hx hb d_P_ctor_37 rfl (lv_at hl 0 rfl) ?_
  refine lv_iload_n hx hb d_P_ctor_38 rfl (lv_at hl 1 rfl) ?_
  refine r_putF (v := (.inl x1)) C hs hin flf_P_31 rfl rfl d_P_ctor_39 hf (fun h9 H locs hf hs => ?_)
  refine lv_aload_n hx hb d_P_ctor_42 rfl (lv_at hl 0 rfl) ?_
  refine r_getR C hs fl_P_27 d_P_ctor_43 hf (fun v10 hf => ?_)
  refine lv_iconst (v := (-1)) hx hb d_P_ctor_46 (by decide) ?_
  refine k_V C hs hex hf (fun res e1 => iv_S (As := [.ref v10, .int (-1)]) (rest := []) C hs cs_P_34 (c_R_fill hl0 e1) rfl hl.1 rfl (Nat.le_of_ble_eq_true rfl) d_P_ctor_47 ⟨Nat.le_of_ble_eq_true rfl, Nat.le_of_ble_eq_true rfl⟩) (fun h11 z12 H locs cells slots hf hs => ?_)
  exact r_vreturn C hs hr d_P_ctor_50 hf
def f_G_ctor (bs : Nat) (sE : Nat × Nat) (h : HH) (z : Z3) (x0 : Nat) : Option RS :=
  (pV bs h x0 1 0 (.inl 0)).bind fun h1 =>
  (nA 4 4).bind fun _ =>
  (nO z 4).bind fun _ =>
  (some (va_up h1 z.1 (some (.inr (1, (4 : Int32).toNatClampNeg, .inl (fun _ => 0)))))).bind fun h2 =>
  (some (nZ z 4)).bind fun z3 =>
  (pV bs h2 x0 1 1 (.inr (some z.1))).bind fun h4 =>
  (nA 4 4).bind fun _ =>
  (nO z3 4).bind fun _ =>
  (some (va_up h4 z3.1 (some (.inr (0, (4 : Int32).toNatClampNeg, .inl (fun _ => 0)))))).bind fun h5 =>
  (some (nZ z3 4)).bind fun z6 =>
  (pV bs h5 x0 1 2 (.inr (some z3.1))).bind fun h7 =>
  (nA 4 4).bind fun _ =>
  (nO z6 4).bind fun _ =>
  (some (va_up h7 z6.1 (some (.inr (0, (4 : Int32).toNatClampNeg, .inl (fun _ => 0)))))).bind fun h8 =>
  (some (nZ z6 4)).bind fun z9 =>
  (pV bs h8 x0 1 3 (.inr (some z6.1))).bind fun h10 =>
  (nA 4 4).bind fun _ =>
  (nO z9 4).bind fun _ =>
  (some (va_up h10 z9.1 (some (.inr (0, (4 : Int32).toNatClampNeg, .inl (fun _ => 0)))))).bind fun h11 =>
  (some (nZ z9 4)).bind fun z12 =>
  (pV bs h11 x0 1 4 (.inr (some z9.1))).bind fun h13 =>
  (gR h13 x0 1 4).bind fun v14 =>
  cV (f_R_fill bs sE h13 z12 v14 (-1)) fun h15 z16 =>
  some (.inl none, h15, z16)
set_option maxHeartbeats 4000000 in
set_option maxRecDepth 100000 in
theorem c_G_ctor {G : EN} {l : Launch} (hl0 : l.stackTraces = false) {h : HH} {z : Z3} {x0 : Nat} {r : RS} (hf : f_G_ctor G.2.2.1 G.2.2.2 h z x0 = some r) : CM G l y_G_ctor (.code y_G_ctor b_G_ctor 1 none) 1 23 [.ref x0] h z r := by
  refine CM.ofW hl0 rfl ?_
  intro p e s m below meth c C hr hex hin hs
  have hin : meth.name = "<init>" := hin
  have hx := C.1
  have hb := C.2.1
  refine x_entry (n := 1) (Nat.le_of_ble_eq_true rfl) (fun ls hl => ?_)
  have hl : lv_has ls 1 [(0, .ref x0)] := hl
  unfold f_G_ctor at hf
  refine lv_aload_n hx hb d_G_ctor_0 rfl (lv_at hl 0 rfl) ?_
  refine r_objInit C hl.1 (tm (i := 130) (by decide +kernel)) (tm (i := 31) (by decide +kernel)) (tm (i := 32) (by decide +kernel)) d_G_ctor_1 ⟨Nat.le_of_ble_eq_true rfl, Nat.le_of_ble_eq_true rfl⟩ ?_
  refine lv_aload_n hx hb d_G_ctor_4 rfl (lv_at hl 0 rfl) ?_
  refine lv_iconst (v := 0) hx hb d_G_ctor_5 (by decide) ?_
  refine r_putV (v := (.inl 0)) C hs flp_G_9 rfl rfl d_G_ctor_6 hf (fun h1 H locs hf hs => ?_)
  refine lv_aload_n hx hb d_G_ctor_9 rfl (lv_at hl 0 rfl) ?_
  refine lv_iconst (v := 4) hx hb d_G_ctor_10 (by decide) ?_
  refine r_newa (kd := 1) (NB := 4) C hs (by decide) rfl (tm (i := 151) (by decide +kernel)) d_G_ctor_11 hf (fun H slots hf hs => ?_)
  obtain ⟨h2, eh2, hf⟩ := bd hf
  obtain ⟨z3, ez3, hf⟩ := bd hf
  rw [Option.some.inj eh2, Option.some.inj ez3] at hs
  refine r_putF (v := (.inr (some z.1))) C hs hin flf_G_15 rfl rfl d_G_ctor_13 hf (fun h4 H locs hf hs => ?_)
  refine lv_aload_n hx hb d_G_ctor_16 rfl (lv_at hl 0 rfl) ?_
  refine lv_iconst (v := 4) hx hb d_G_ctor_17 (by decide) ?_
  refine r_newa (kd := 0) (NB := 4) C hs (by decide) rfl (tm (i := 88) (by decide +kernel)) d_G_ctor_18 hf (fun H slots hf hs => ?_)
  obtain ⟨h5, eh5, hf⟩ := bd hf
  obtain ⟨z6, ez6, hf⟩ := bd hf
  rw [Option.some.inj eh5, Option.some.inj ez6] at hs
  refine r_putF (v := (.inr (some z3.1))) C hs hin flf_G_19 rfl rfl d_G_ctor_20 hf (fun h7 H locs hf hs => ?_)
  refine lv_aload_n hx hb d_G_ctor_23 rfl (lv_at hl 0 rfl) ?_
  refine lv_iconst (v := 4) hx hb d_G_ctor_24 (by decide) ?_
  refine r_newa (kd := 0) (NB := 4) C hs (by decide) rfl (tm (i := 88) (by decide +kernel)) d_G_ctor_25 hf (fun H slots hf hs => ?_)
  obtain ⟨h8, eh8, hf⟩ := bd hf
  obtain ⟨z9, ez9, hf⟩ := bd hf
  rw [Option.some.inj eh8, Option.some.inj ez9] at hs
  refine r_putF (v := (.inr (some z6.1))) C hs hin flf_G_23 rfl rfl d_G_ctor_27 hf (fun h10 H locs hf hs => ?_)
  refine lv_aload_n hx hb d_G_ctor_30 rfl (lv_at hl 0 rfl) ?_
  refine lv_iconst (v := 4) hx hb d_G_ctor_31 (by decide) ?_
  refine r_newa (kd := 0) (NB := 4) C hs (by decide) rfl (tm (i := 88) (by decide +kernel)) d_G_ctor_32 hf (fun H slots hf hs => ?_)
  obtain ⟨h11, eh11, hf⟩ := bd hf
  obtain ⟨z12, ez12, hf⟩ := bd hf
  rw [Option.some.inj eh11, Option.some.inj ez12] at hs
  refine r_putF (v := (.inr (some z9.1))) C hs hin flf_G_26 rfl rfl d_G_ctor_34 hf (fun h13 H locs hf hs => ?_)
  refine lv_aload_n hx hb d_G_ctor_37 rfl (lv_at hl 0 rfl) ?_
  refine r_getR C hs fl_G_26 d_G_ctor_38 hf (fun v14 hf => ?_)
  refine lv_iconst (v := (-1)) hx hb d_G_ctor_41 (by decide) ?_
  refine k_V C hs hex hf (fun res e1 => iv_S (As := [.ref v14, .int (-1)]) (rest := []) C hs cs_G_29 (c_R_fill hl0 e1) rfl hl.1 rfl (Nat.le_of_ble_eq_true rfl) d_G_ctor_42 ⟨Nat.le_of_ble_eq_true rfl, Nat.le_of_ble_eq_true rfl⟩) (fun h15 z16 H locs cells slots hf hs => ?_)
  exact r_vreturn C hs hr d_G_ctor_45 hf
def f_P_isEnding (bs : Nat) (sE : Nat × Nat) (h : HH) (z : Z3) (x0 : Nat) : Option RS :=
  (gI h x0 3 1).bind fun v1 =>
  if v1 = 2 then
    ((bz 1).bind fun _ =>
    some (.inl (some (.int 1)), h, z))
  else
    ((gI h x0 3 1).bind fun v3 =>
    if v3 = 3 then
      ((bz 1).bind fun _ =>
      some (.inl (some (.int 1)), h, z))
    else
      ((bz 0).bind fun _ =>
      some (.inl (some (.int 0)), h, z)))
set_option maxHeartbeats 4000000 in
set_option maxRecDepth 100000 in
theorem c_P_isEnding {G : EN} {l : Launch} (hl0 : l.stackTraces = false) {h : HH} {z : Z3} {x0 : Nat} {r : RS} (hf : f_P_isEnding G.2.2.1 G.2.2.2 h z x0 = some r) : CM G l y_P_isEnding (.code y_P_isEnding b_P_isEnding 1 (some .boolean)) 0 0 [.ref x0] h z r := by
  refine CM.ofW hl0 rfl ?_
  intro p e s m below meth c C hr hex hin hs
  have hx := C.1
  have hb := C.2.1
  refine x_entry (n := 1) (Nat.le_of_ble_eq_true rfl) (fun ls hl => ?_)
  have hl : lv_has ls 1 [(0, .ref x0)] := hl
  unfold f_P_isEnding at hf
  refine lv_aload_n hx hb d_P_isEnding_0 rfl (lv_at hl 0 rfl) ?_
  refine r_getI C hs fl_P_11 d_P_isEnding_1 hf (fun v1 hf => ?_)
  refine lv_iconst (v := 2) hx hb d_P_isEnding_4 (by decide) ?_
  refine lv_icmp_eq (tgt := 16) hx hb d_P_isEnding_5 (by decide) (fun q2 => ?_) (fun q2 => ?_)
  · have hf := ifp q2 hf
    refine lv_iconst (v := 1) hx hb d_P_isEnding_16 (by decide) ?_
    refine lv_goto (tgt := 21) hx hb d_P_isEnding_17 (by decide) ?_
    exact r_zreturn C hs hr d_P_isEnding_21 hf
  · have hf := ifn q2 hf
    refine lv_aload_n hx hb d_P_isEnding_8 rfl (lv_at hl 0 rfl) ?_
    refine r_getI C hs fl_P_11 d_P_isEnding_9 hf (fun v3 hf => ?_)
    refine lv_iconst (v := 3) hx hb d_P_isEnding_12 (by decide) ?_
    refine lv_icmp_ne (tgt := 20) hx hb d_P_isEnding_13 (by decide) (fun q4 => ?_) (fun q4 => ?_)
    · have hf := ifn q4 hf
      refine lv_iconst (v := 0) hx hb d_P_isEnding_20 (by decide) ?_
      exact r_zreturn C hs hr d_P_isEnding_21 hf
    · have hf := ifp q4 hf
      refine lv_iconst (v := 1) hx hb d_P_isEnding_16 (by decide) ?_
      refine lv_goto (tgt := 21) hx hb d_P_isEnding_17 (by decide) ?_
      exact r_zreturn C hs hr d_P_isEnding_21 hf
def f_P_isCommitting (bs : Nat) (sE : Nat × Nat) (h : HH) (z : Z3) (x0 : Nat) : Option RS :=
  (gI h x0 3 1).bind fun v1 =>
  if v1 = 2 then
    ((bz 1).bind fun _ =>
    some (.inl (some (.int 1)), h, z))
  else
    ((bz 0).bind fun _ =>
    some (.inl (some (.int 0)), h, z))
set_option maxHeartbeats 4000000 in
set_option maxRecDepth 100000 in
theorem c_P_isCommitting {G : EN} {l : Launch} (hl0 : l.stackTraces = false) {h : HH} {z : Z3} {x0 : Nat} {r : RS} (hf : f_P_isCommitting G.2.2.1 G.2.2.2 h z x0 = some r) : CM G l y_P_isCommitting (.code y_P_isCommitting b_P_isCommitting 1 (some .boolean)) 0 0 [.ref x0] h z r := by
  refine CM.ofW hl0 rfl ?_
  intro p e s m below meth c C hr hex hin hs
  have hx := C.1
  have hb := C.2.1
  refine x_entry (n := 1) (Nat.le_of_ble_eq_true rfl) (fun ls hl => ?_)
  have hl : lv_has ls 1 [(0, .ref x0)] := hl
  unfold f_P_isCommitting at hf
  refine lv_aload_n hx hb d_P_isCommitting_0 rfl (lv_at hl 0 rfl) ?_
  refine r_getI C hs fl_P_11 d_P_isCommitting_1 hf (fun v1 hf => ?_)
  refine lv_iconst (v := 2) hx hb d_P_isCommitting_4 (by decide) ?_
  refine lv_icmp_ne (tgt := 12) hx hb d_P_isCommitting_5 (by decide) (fun q2 => ?_) (fun q2 => ?_)
  · have hf := ifn q2 hf
    refine lv_iconst (v := 0) hx hb d_P_isCommitting_12 (by decide) ?_
    exact r_zreturn C hs hr d_P_isCommitting_13 hf
  · have hf := ifp q2 hf
    refine lv_iconst (v := 1) hx hb d_P_isCommitting_8 (by decide) ?_
    refine lv_goto (tgt := 13) hx hb d_P_isCommitting_9 (by decide) ?_
    exact r_zreturn C hs hr d_P_isCommitting_13 hf
def fb_P_commitPending_L2 (bs : Nat) (sE : Nat × Nat) (REC : HH → Z3 → Nat → Int32 → Nat → Int32 → Option RS) (h : HH) (z : Z3) (x0 : Nat) (x1 : Int32) (x2 : Nat) (x3 : Int32) : Option RS :=
  if 4 ≤ x3 then
    (some (.inl none, h, z))
  else
    ((gR h x0 3 6).bind fun v2 =>
    (aI h v2 0 ((x1 * 4) + x3)).bind fun v3 =>
    if v3 = (-1) then
      (REC h z x0 x1 x2 (x3 + 1))
    else
      ((aIs bs h x2 0 x3 v3).bind fun h5 =>
      REC h5 z x0 x1 x2 (x3 + 1)))
def f_P_commitPending_L2 (bs : Nat) (sE : Nat × Nat) : Nat → HH → Z3 → Nat → Int32 → Nat → Int32 → Option RS
  | 0 => fun _ _ _ _ _ _ => none
  | n + 1 => fb_P_commitPending_L2 bs sE (f_P_commitPending_L2 bs sE n)
set_option maxHeartbeats 4000000 in
set_option maxRecDepth 100000 in
theorem t_P_commitPending_L2 {G : EN} {p : Program} {l : Launch} {e : Env} {s : State} {m : MethodId} {args : Array Value} {below : List Frame} {meth : Method} {c : Code} {z0 : Z3} (hl0 : l.stackTraces = false) (C : CX G p l s m meth c b_P_commitPending 5 y_P_commitPending.cls) (hr : meth.sig.returnType = none) (hex : c.exceptionTable.toList = []) {r : RS} :
    ∀ (n : Nat) (h : HH) (z : Z3) (x0 : Nat) (x1 : Int32) (x2 : Nat) (x3 : Int32), f_P_commitPending_L2 G.2.2.1 G.2.2.2 n h z x0 x1 x2 x3 = some r → ∀ (H : Heap) (locs : List Loc) (cells slots : Nat) (ls : Array Slot), ST G (RM 0 0 z0) s h z H locs cells slots → lv_has ls 5 [(0, .ref x0), (1, .int x1), (2, .ref x2), (3, .int x3)] → W p l e (RM 0 0 z0) s m args below meth c H locs cells slots (MX G below s r (RM 0 0 z0).cells (RM 0 0 z0).slots) (F0 m 2 ls []) := by
  have hx := C.1
  have hb := C.2.1
  intro n
  induction n with
  | zero => intro h z x0 x1 x2 x3 hf; exact nomatch (show (none : Option RS) = some r from hf)
  | succ n ih =>
    intro h z x0 x1 x2 x3 hf H locs cells slots ls hs hl
    have hf : fb_P_commitPending_L2 G.2.2.1 G.2.2.2 (f_P_commitPending_L2 G.2.2.1 G.2.2.2 n) h z x0 x1 x2 x3 = some r := hf
    unfold fb_P_commitPending_L2 at hf
    refine lv_iload_n hx hb d_P_commitPending_2 rfl (lv_at hl 3 rfl) ?_
    refine lv_iconst (v := 4) hx hb d_P_commitPending_3 (by decide) ?_
    refine lv_icmp_ge (tgt := 36) hx hb d_P_commitPending_4 (by decide) (fun q1 => ?_) (fun q1 => ?_)
    · have hf := ifp q1 hf
      exact r_vreturn C hs hr d_P_commitPending_36 hf
    · have hf := ifn q1 hf
      refine lv_aload_n hx hb d_P_commitPending_7 rfl (lv_at hl 0 rfl) ?_
      refine r_getR C hs fl_P_27 d_P_commitPending_8 hf (fun v2 hf => ?_)
      refine lv_iload_n hx hb d_P_commitPending_11 rfl (lv_at hl 1 rfl) ?_
      refine lv_iconst (v := 4) hx hb d_P_commitPending_12 (by decide) ?_
      refine lv_imul hx hb d_P_commitPending_13 ?_
      refine lv_iload_n hx hb d_P_commitPending_14 rfl (lv_at hl 3 rfl) ?_
      refine lv_iadd hx hb d_P_commitPending_15 ?_
      refine r_iald C hs d_P_commitPending_16 hf (fun v3 hf => ?_)
      refine lv_istore (lv' := [(4, .int v3), (0, .ref x0), (1, .int x1), (2, .ref x2), (3, .int x3)]) hx hb d_P_commitPending_17 hl (by decide) rfl (fun ls hl => ?_)
      refine lv_iload hx hb d_P_commitPending_19 (lv_at hl 0 rfl) ?_
      refine lv_iconst (v := (-1)) hx hb d_P_commitPending_21 (by decide) ?_
      refine lv_icmp_eq (tgt := 30) hx hb d_P_commitPending_22 (by decide) (fun q4 => ?_) (fun q4 => ?_)
      · have hf := ifp q4 hf
        refine lv_iinc (v := x3 + 1) (lv' := [(3, .int (x3 + 1)), (4, .int v3), (0, .ref x0), (1, .int x1), (2, .ref x2)]) hx hb d_P_commitPending_30 hl (k := 4) rfl rfl (by decide) rfl (fun ls hl => ?_)
        refine lv_goto (tgt := 2) hx hb d_P_commitPending_33 (by decide) ?_
        exact ih _ _ _ _ _ _ hf _ _ _ _ _ hs (lv_sub hl [2, 3, 4, 0] rfl)
      · have hf := ifn q4 hf
        refine lv_aload_n hx hb d_P_commitPending_25 rfl (lv_at hl 3 rfl) ?_
        refine lv_iload_n hx hb d_P_commitPending_26 rfl (lv_at hl 4 rfl) ?_
        refine lv_iload hx hb d_P_commitPending_27 (lv_at hl 0 rfl) ?_
        refine r_iast C hs d_P_commitPending_29 hf (fun h5 H locs hf hs => ?_)
        refine lv_iinc (v := x3 + 1) (lv' := [(3, .int (x3 + 1)), (4, .int v3), (0, .ref x0), (1, .int x1), (2, .ref x2)]) hx hb d_P_commitPending_30 hl (k := 4) rfl rfl (by decide) rfl (fun ls hl => ?_)
        refine lv_goto (tgt := 2) hx hb d_P_commitPending_33 (by decide) ?_
        exact ih _ _ _ _ _ _ hf _ _ _ _ _ hs (lv_sub hl [2, 3, 4, 0] rfl)
def f_P_commitPending (bs : Nat) (sE : Nat × Nat) (h : HH) (z : Z3) (x0 : Nat) (x1 : Int32) (x2 : Nat) : Option RS :=
  f_P_commitPending_L2 bs sE FU h z x0 x1 x2 0
set_option maxHeartbeats 4000000 in
set_option maxRecDepth 100000 in
theorem c_P_commitPending {G : EN} {l : Launch} (hl0 : l.stackTraces = false) {h : HH} {z : Z3} {x0 : Nat} {x1 : Int32} {x2 : Nat} {r : RS} (hf : f_P_commitPending G.2.2.1 G.2.2.2 h z x0 x1 x2 = some r) : CM G l y_P_commitPending (.code y_P_commitPending b_P_commitPending 5 none) 0 0 [.ref x0, .int x1, .ref x2] h z r := by
  refine CM.ofW hl0 rfl ?_
  intro p e s m below meth c C hr hex hin hs
  have hx := C.1
  have hb := C.2.1
  refine x_entry (n := 5) (Nat.le_of_ble_eq_true rfl) (fun ls hl => ?_)
  have hl : lv_has ls 5 [(0, .ref x0), (1, .int x1), (2, .ref x2)] := hl
  unfold f_P_commitPending at hf
  refine lv_iconst (v := 0) hx hb d_P_commitPending_0 (by decide) ?_
  refine lv_istore_n (lv' := [(3, .int 0), (0, .ref x0), (1, .int x1), (2, .ref x2)]) hx hb d_P_commitPending_1 rfl hl (by decide) rfl (fun ls hl => ?_)
  exact t_P_commitPending_L2 hl0 C hr hex FU _ _ _ _ _ _ hf _ _ _ _ _ hs (lv_sub hl [1, 2, 3, 0] rfl)
def f_P_becomeIdle (bs : Nat) (sE : Nat × Nat) (h : HH) (z : Z3) (x0 : Nat) : Option RS :=
  (pV bs h x0 3 1 (.inl 0)).bind fun h1 =>
  (pV bs h1 x0 3 3 (.inl 0)).bind fun h2 =>
  (gR h2 x0 3 6).bind fun v3 =>
  cV (f_R_fill bs sE h2 z v3 (-1)) fun h4 z5 =>
  some (.inl none, h4, z5)
set_option maxHeartbeats 4000000 in
set_option maxRecDepth 100000 in
theorem c_P_becomeIdle {G : EN} {l : Launch} (hl0 : l.stackTraces = false) {h : HH} {z : Z3} {x0 : Nat} {r : RS} (hf : f_P_becomeIdle G.2.2.1 G.2.2.2 h z x0 = some r) : CM G l y_P_becomeIdle (.code y_P_becomeIdle b_P_becomeIdle 1 none) 1 23 [.ref x0] h z r := by
  refine CM.ofW hl0 rfl ?_
  intro p e s m below meth c C hr hex hin hs
  have hx := C.1
  have hb := C.2.1
  refine x_entry (n := 1) (Nat.le_of_ble_eq_true rfl) (fun ls hl => ?_)
  have hl : lv_has ls 1 [(0, .ref x0)] := hl
  unfold f_P_becomeIdle at hf
  refine lv_aload_n hx hb d_P_becomeIdle_0 rfl (lv_at hl 0 rfl) ?_
  refine lv_iconst (v := 0) hx hb d_P_becomeIdle_1 (by decide) ?_
  refine r_putV (v := (.inl 0)) C hs flp_P_11 rfl rfl d_P_becomeIdle_2 hf (fun h1 H locs hf hs => ?_)
  refine lv_aload_n hx hb d_P_becomeIdle_5 rfl (lv_at hl 0 rfl) ?_
  refine lv_iconst (v := 0) hx hb d_P_becomeIdle_6 (by decide) ?_
  refine r_putV (v := (.inl 0)) C hs flp_P_18 rfl rfl d_P_becomeIdle_7 hf (fun h2 H locs hf hs => ?_)
  refine lv_aload_n hx hb d_P_becomeIdle_10 rfl (lv_at hl 0 rfl) ?_
  refine r_getR C hs fl_P_27 d_P_becomeIdle_11 hf (fun v3 hf => ?_)
  refine lv_iconst (v := (-1)) hx hb d_P_becomeIdle_14 (by decide) ?_
  refine k_V C hs hex hf (fun res e1 => iv_S (As := [.ref v3, .int (-1)]) (rest := []) C hs cs_P_34 (c_R_fill hl0 e1) rfl hl.1 rfl (Nat.le_of_ble_eq_true rfl) d_P_becomeIdle_15 ⟨Nat.le_of_ble_eq_true rfl, Nat.le_of_ble_eq_true rfl⟩) (fun h4 z5 H locs cells slots hf hs => ?_)
  exact r_vreturn C hs hr d_P_becomeIdle_18 hf
def f_B_has (bs : Nat) (sE : Nat × Nat) (h : HH) (z : Z3) (x0 : Int32) (x1 : Int32) : Option RS :=
  if ((x0 >>> (x1 &&& 31)) &&& 1) = 0 then
    ((bz 0).bind fun _ =>
    some (.inl (some (.int 0)), h, z))
  else
    ((bz 1).bind fun _ =>
    some (.inl (some (.int 1)), h, z))
set_option maxHeartbeats 4000000 in
set_option maxRecDepth 100000 in
theorem c_B_has {G : EN} {l : Launch} (hl0 : l.stackTraces = false) {h : HH} {z : Z3} {x0 : Int32} {x1 : Int32} {r : RS} (hf : f_B_has G.2.2.1 G.2.2.2 h z x0 x1 = some r) : CM G l y_B_has (.code y_B_has b_B_has 2 (some .boolean)) 0 0 [.int x0, .int x1] h z r := by
  refine CM.ofW hl0 rfl ?_
  intro p e s m below meth c C hr hex hin hs
  have hx := C.1
  have hb := C.2.1
  refine x_entry (n := 2) (Nat.le_of_ble_eq_true rfl) (fun ls hl => ?_)
  have hl : lv_has ls 2 [(0, .int x0), (1, .int x1)] := hl
  unfold f_B_has at hf
  refine lv_iload_n hx hb d_B_has_0 rfl (lv_at hl 0 rfl) ?_
  refine lv_iload_n hx hb d_B_has_1 rfl (lv_at hl 1 rfl) ?_
  refine lv_ishr hx hb d_B_has_2 ?_
  refine lv_iconst (v := 1) hx hb d_B_has_3 (by decide) ?_
  refine lv_iand hx hb d_B_has_4 ?_
  refine lv_if_eq (tgt := 12) hx hb d_B_has_5 (by decide) (fun q1 => ?_) (fun q1 => ?_)
  · have hf := ifp q1 hf
    refine lv_iconst (v := 0) hx hb d_B_has_12 (by decide) ?_
    exact r_zreturn C hs hr d_B_has_13 hf
  · have hf := ifn q1 hf
    refine lv_iconst (v := 1) hx hb d_B_has_8 (by decide) ?_
    refine lv_goto (tgt := 13) hx hb d_B_has_9 (by decide) ?_
    exact r_zreturn C hs hr d_B_has_13 hf
def f_L_hasMarker (bs : Nat) (sE : Nat × Nat) (h : HH) (z : Z3) (x0 : Nat) (x1 : Int32) : Option RS :=
  (gR h x0 2 1).bind fun v1 =>
  (aI h v1 0 x1).bind fun v2 =>
  if v2 = (-1) then
    ((bz 0).bind fun _ =>
    some (.inl (some (.int 0)), h, z))
  else
    ((bz 1).bind fun _ =>
    some (.inl (some (.int 1)), h, z))
set_option maxHeartbeats 4000000 in
set_option maxRecDepth 100000 in
theorem c_L_hasMarker {G : EN} {l : Launch} (hl0 : l.stackTraces = false) {h : HH} {z : Z3} {x0 : Nat} {x1 : Int32} {r : RS} (hf : f_L_hasMarker G.2.2.1 G.2.2.2 h z x0 x1 = some r) : CM G l y_L_hasMarker (.code y_L_hasMarker b_L_hasMarker 2 (some .boolean)) 0 0 [.ref x0, .int x1] h z r := by
  refine CM.ofW hl0 rfl ?_
  intro p e s m below meth c C hr hex hin hs
  have hx := C.1
  have hb := C.2.1
  refine x_entry (n := 2) (Nat.le_of_ble_eq_true rfl) (fun ls hl => ?_)
  have hl : lv_has ls 2 [(0, .ref x0), (1, .int x1)] := hl
  unfold f_L_hasMarker at hf
  refine lv_aload_n hx hb d_L_hasMarker_0 rfl (lv_at hl 0 rfl) ?_
  refine r_getR C hs fl_L_18 d_L_hasMarker_1 hf (fun v1 hf => ?_)
  refine lv_iload_n hx hb d_L_hasMarker_4 rfl (lv_at hl 1 rfl) ?_
  refine r_iald C hs d_L_hasMarker_5 hf (fun v2 hf => ?_)
  refine lv_iconst (v := (-1)) hx hb d_L_hasMarker_6 (by decide) ?_
  refine lv_icmp_eq (tgt := 14) hx hb d_L_hasMarker_7 (by decide) (fun q3 => ?_) (fun q3 => ?_)
  · have hf := ifp q3 hf
    refine lv_iconst (v := 0) hx hb d_L_hasMarker_14 (by decide) ?_
    exact r_zreturn C hs hr d_L_hasMarker_15 hf
  · have hf := ifn q3 hf
    refine lv_iconst (v := 1) hx hb d_L_hasMarker_10 (by decide) ?_
    refine lv_goto (tgt := 15) hx hb d_L_hasMarker_11 (by decide) ?_
    exact r_zreturn C hs hr d_L_hasMarker_15 hf
def f_L_hasEnded (bs : Nat) (sE : Nat × Nat) (h : HH) (z : Z3) (x0 : Nat) (x1 : Int32) : Option RS :=
  (oK h x0 2).bind fun _ =>
  cI (f_L_hasMarker bs sE h z x0 x1) fun v3 h1 z2 =>
  if v3 = 0 then
    ((bz 0).bind fun _ =>
    some (.inl (some (.int 0)), h1, z2))
  else
    ((gR h1 x0 2 1).bind fun v5 =>
    (aI h1 v5 0 x1).bind fun v6 =>
    (gI h1 x0 2 3).bind fun v7 =>
    if v7 ≤ v6 then
      ((bz 0).bind fun _ =>
      some (.inl (some (.int 0)), h1, z2))
    else
      ((bz 1).bind fun _ =>
      some (.inl (some (.int 1)), h1, z2)))
set_option maxHeartbeats 4000000 in
set_option maxRecDepth 100000 in
theorem c_L_hasEnded {G : EN} {l : Launch} (hl0 : l.stackTraces = false) {h : HH} {z : Z3} {x0 : Nat} {x1 : Int32} {r : RS} (hf : f_L_hasEnded G.2.2.1 G.2.2.2 h z x0 x1 = some r) : CM G l y_L_hasEnded (.code y_L_hasEnded b_L_hasEnded 2 (some .boolean)) 1 21 [.ref x0, .int x1] h z r := by
  refine CM.ofW hl0 rfl ?_
  intro p e s m below meth c C hr hex hin hs
  have hx := C.1
  have hb := C.2.1
  refine x_entry (n := 2) (Nat.le_of_ble_eq_true rfl) (fun ls hl => ?_)
  have hl : lv_has ls 2 [(0, .ref x0), (1, .int x1)] := hl
  unfold f_L_hasEnded at hf
  refine lv_aload_n hx hb d_L_hasEnded_0 rfl (lv_at hl 0 rfl) ?_
  refine lv_iload_n hx hb d_L_hasEnded_1 rfl (lv_at hl 1 rfl) ?_
  obtain ⟨_, ho, hf⟩ := bd hf
  refine k_I C hs hex hf (fun res e1 => iv_V (b := x0) (As := [.int x1]) (rest := []) C hs cv_L_56 (c_L_hasMarker hl0 e1) (ci := 2) rfl rfl ho rfl hl.1 rfl (Nat.le_of_ble_eq_true rfl) d_L_hasEnded_2 ⟨Nat.le_of_ble_eq_true rfl, Nat.le_of_ble_eq_true rfl⟩) (fun v3 h1 z2 H locs cells slots hf hs => ?_)
  refine lv_if_eq (tgt := 25) hx hb d_L_hasEnded_5 (by decide) (fun q4 => ?_) (fun q4 => ?_)
  · have hf := ifp q4 hf
    refine lv_iconst (v := 0) hx hb d_L_hasEnded_25 (by decide) ?_
    exact r_zreturn C hs hr d_L_hasEnded_26 hf
  · have hf := ifn q4 hf
    refine lv_aload_n hx hb d_L_hasEnded_8 rfl (lv_at hl 0 rfl) ?_
    refine r_getR C hs fl_L_18 d_L_hasEnded_9 hf (fun v5 hf => ?_)
    refine lv_iload_n hx hb d_L_hasEnded_12 rfl (lv_at hl 1 rfl) ?_
    refine r_iald C hs d_L_hasEnded_13 hf (fun v6 hf => ?_)
    refine lv_aload_n hx hb d_L_hasEnded_14 rfl (lv_at hl 0 rfl) ?_
    refine r_getI C hs fl_L_26 d_L_hasEnded_15 hf (fun v7 hf => ?_)
    refine lv_icmp_ge (tgt := 25) hx hb d_L_hasEnded_18 (by decide) (fun q8 => ?_) (fun q8 => ?_)
    · have hf := ifp q8 hf
      refine lv_iconst (v := 0) hx hb d_L_hasEnded_25 (by decide) ?_
      exact r_zreturn C hs hr d_L_hasEnded_26 hf
    · have hf := ifn q8 hf
      refine lv_iconst (v := 1) hx hb d_L_hasEnded_21 (by decide) ?_
      refine lv_goto (tgt := 26) hx hb d_L_hasEnded_22 (by decide) ?_
      exact r_zreturn C hs hr d_L_hasEnded_26 hf
def f_P_untouch (bs : Nat) (sE : Nat × Nat) (h : HH) (z : Z3) (x0 : Nat) (x1 : Int32) : Option RS :=
  (gI h x0 3 5).bind fun v1 =>
  (pV bs h x0 3 5 (.inl (v1 &&& ((1 <<< (x1 &&& 31)) ^^^ (-1))))).bind fun h2 =>
  some (.inl none, h2, z)
set_option maxHeartbeats 4000000 in
set_option maxRecDepth 100000 in
theorem c_P_untouch {G : EN} {l : Launch} (hl0 : l.stackTraces = false) {h : HH} {z : Z3} {x0 : Nat} {x1 : Int32} {r : RS} (hf : f_P_untouch G.2.2.1 G.2.2.2 h z x0 x1 = some r) : CM G l y_P_untouch (.code y_P_untouch b_P_untouch 2 none) 0 0 [.ref x0, .int x1] h z r := by
  refine CM.ofW hl0 rfl ?_
  intro p e s m below meth c C hr hex hin hs
  have hx := C.1
  have hb := C.2.1
  refine x_entry (n := 2) (Nat.le_of_ble_eq_true rfl) (fun ls hl => ?_)
  have hl : lv_has ls 2 [(0, .ref x0), (1, .int x1)] := hl
  unfold f_P_untouch at hf
  refine lv_aload_n hx hb d_P_untouch_0 rfl (lv_at hl 0 rfl) ?_
  refine lv_dup hx hb d_P_untouch_1 rfl ?_
  refine r_getI C hs fl_P_24 d_P_untouch_2 hf (fun v1 hf => ?_)
  refine lv_iconst (v := 1) hx hb d_P_untouch_5 (by decide) ?_
  refine lv_iload_n hx hb d_P_untouch_6 rfl (lv_at hl 1 rfl) ?_
  refine lv_ishl hx hb d_P_untouch_7 ?_
  refine lv_iconst (v := (-1)) hx hb d_P_untouch_8 (by decide) ?_
  refine lv_ixor hx hb d_P_untouch_9 ?_
  refine lv_iand hx hb d_P_untouch_10 ?_
  refine r_putV (v := (.inl (v1 &&& ((1 <<< (x1 &&& 31)) ^^^ (-1))))) C hs flp_P_24 rfl rfl d_P_untouch_11 hf (fun h2 H locs hf hs => ?_)
  exact r_vreturn C hs hr d_P_untouch_14 hf
def f_E_ctor (bs : Nat) (sE : Nat × Nat) (h : HH) (z : Z3) (x0 : Nat) (x1 : Int32) (x2 : Int32) (x3 : Int32) (x4 : Int32) (x5 : Int32) (x6 : Int32) : Option RS :=
  (pV bs h x0 0 0 (.inl x1)).bind fun h1 =>
  (pV bs h1 x0 0 1 (.inl x2)).bind fun h2 =>
  (pV bs h2 x0 0 2 (.inl x3)).bind fun h3 =>
  (pV bs h3 x0 0 3 (.inl x4)).bind fun h4 =>
  (pV bs h4 x0 0 4 (.inl x5)).bind fun h5 =>
  (pV bs h5 x0 0 5 (.inl x6)).bind fun h6 =>
  some (.inl none, h6, z)
set_option maxHeartbeats 4000000 in
set_option maxRecDepth 100000 in
theorem c_E_ctor {G : EN} {l : Launch} (hl0 : l.stackTraces = false) {h : HH} {z : Z3} {x0 : Nat} {x1 : Int32} {x2 : Int32} {x3 : Int32} {x4 : Int32} {x5 : Int32} {x6 : Int32} {r : RS} (hf : f_E_ctor G.2.2.1 G.2.2.2 h z x0 x1 x2 x3 x4 x5 x6 = some r) : CM G l y_E_ctor (.code y_E_ctor b_E_ctor 7 none) 1 20 [.ref x0, .int x1, .int x2, .int x3, .int x4, .int x5, .int x6] h z r := by
  refine CM.ofW hl0 rfl ?_
  intro p e s m below meth c C hr hex hin hs
  have hin : meth.name = "<init>" := hin
  have hx := C.1
  have hb := C.2.1
  refine x_entry (n := 7) (Nat.le_of_ble_eq_true rfl) (fun ls hl => ?_)
  have hl : lv_has ls 7 [(0, .ref x0), (1, .int x1), (2, .int x2), (3, .int x3), (4, .int x4), (5, .int x5), (6, .int x6)] := hl
  unfold f_E_ctor at hf
  refine lv_aload_n hx hb d_E_ctor_0 rfl (lv_at hl 0 rfl) ?_
  refine r_objInit C hl.1 (tm (i := 231) (by decide +kernel)) (tm (i := 31) (by decide +kernel)) (tm (i := 32) (by decide +kernel)) d_E_ctor_1 ⟨Nat.le_of_ble_eq_true rfl, Nat.le_of_ble_eq_true rfl⟩ ?_
  refine lv_aload_n hx hb d_E_ctor_4 rfl (lv_at hl 0 rfl) ?_
  refine lv_iload_n hx hb d_E_ctor_5 rfl (lv_at hl 1 rfl) ?_
  refine r_putF (v := (.inl x1)) C hs hin flf_E_9 rfl rfl d_E_ctor_6 hf (fun h1 H locs hf hs => ?_)
  refine lv_aload_n hx hb d_E_ctor_9 rfl (lv_at hl 0 rfl) ?_
  refine lv_iload_n hx hb d_E_ctor_10 rfl (lv_at hl 2 rfl) ?_
  refine r_putF (v := (.inl x2)) C hs hin flf_E_15 rfl rfl d_E_ctor_11 hf (fun h2 H locs hf hs => ?_)
  refine lv_aload_n hx hb d_E_ctor_14 rfl (lv_at hl 0 rfl) ?_
  refine lv_iload_n hx hb d_E_ctor_15 rfl (lv_at hl 3 rfl) ?_
  refine r_putF (v := (.inl x3)) C hs hin flf_E_18 rfl rfl d_E_ctor_16 hf (fun h3 H locs hf hs => ?_)
  refine lv_aload_n hx hb d_E_ctor_19 rfl (lv_at hl 0 rfl) ?_
  refine lv_iload hx hb d_E_ctor_20 (lv_at hl 4 rfl) ?_
  refine r_putF (v := (.inl x4)) C hs hin flf_E_21 rfl rfl d_E_ctor_22 hf (fun h4 H locs hf hs => ?_)
  refine lv_aload_n hx hb d_E_ctor_25 rfl (lv_at hl 0 rfl) ?_
  refine lv_iload hx hb d_E_ctor_26 (lv_at hl 5 rfl) ?_
  refine r_putF (v := (.inl x5)) C hs hin flf_E_24 rfl rfl d_E_ctor_28 hf (fun h5 H locs hf hs => ?_)
  refine lv_aload_n hx hb d_E_ctor_31 rfl (lv_at hl 0 rfl) ?_
  refine lv_iload hx hb d_E_ctor_32 (lv_at hl 6 rfl) ?_
  refine r_putF (v := (.inl x6)) C hs hin flf_E_27 rfl rfl d_E_ctor_34 hf (fun h6 H locs hf hs => ?_)
  exact r_vreturn C hs hr d_E_ctor_37 hf
def f_E_ofMarker (bs : Nat) (sE : Nat × Nat) (h : HH) (z : Z3) (x0 : Int32) (x1 : Int32) : Option RS :=
  (nO z 6).bind fun _ =>
  (some (va_up h z.1 (some (.inl (0, dfl 0))))).bind fun h1 =>
  (some (nZ z 6)).bind fun z2 =>
  if x1 = 0 then
    (cV (f_E_ctor bs sE h1 z2 z.1 2 x0 (-1) (-1) (-1) 0) fun h4 z5 =>
    some (.inl (some (.ref z.1)), h4, z5))
  else
    (cV (f_E_ctor bs sE h1 z2 z.1 1 x0 (-1) (-1) (-1) 0) fun h7 z8 =>
    some (.inl (some (.ref z.1)), h7, z8))
set_option maxHeartbeats 4000000 in
set_option maxRecDepth 100000 in
theorem c_E_ofMarker {G : EN} {l : Launch} (hl0 : l.stackTraces = false) {h : HH} {z : Z3} {x0 : Int32} {x1 : Int32} {r : RS} (hf : f_E_ofMarker G.2.2.1 G.2.2.2 h z x0 x1 = some r) : CM G l y_E_ofMarker (.code y_E_ofMarker b_E_ofMarker 2 (some (.object "FencedBroker$Entry"))) 2 46 [.int x0, .int x1] h z r := by
  refine CM.ofW hl0 rfl ?_
  intro p e s m below meth c C hr hex hin hs
  have hx := C.1
  have hb := C.2.1
  refine x_entry (n := 2) (Nat.le_of_ble_eq_true rfl) (fun ls hl => ?_)
  have hl : lv_has ls 2 [(0, .int x0), (1, .int x1)] := hl
  unfold f_E_ofMarker at hf
  refine r_new (ci := 0) C hs rfl (tm (i := 226) (by decide +kernel)) (tm (i := 227) (by decide +kernel)) (tm (i := 19) (by decide +kernel)) d_E_ofMarker_0 hf (fun H hf hs => ?_)
  obtain ⟨h1, eh1, hf⟩ := bd hf
  obtain ⟨z2, ez2, hf⟩ := bd hf
  rw [Option.some.inj eh1, Option.some.inj ez2] at hs
  refine lv_dup hx hb d_E_ofMarker_3 rfl ?_
  refine lv_iload_n hx hb d_E_ofMarker_4 rfl (lv_at hl 1 rfl) ?_
  refine lv_if_eq (tgt := 12) hx hb d_E_ofMarker_5 (by decide) (fun q3 => ?_) (fun q3 => ?_)
  · have hf := ifp q3 hf
    refine lv_iconst (v := 2) hx hb d_E_ofMarker_12 (by decide) ?_
    refine lv_iload_n hx hb d_E_ofMarker_13 rfl (lv_at hl 0 rfl) ?_
    refine lv_iconst (v := (-1)) hx hb d_E_ofMarker_14 (by decide) ?_
    refine lv_iconst (v := (-1)) hx hb d_E_ofMarker_15 (by decide) ?_
    refine lv_iconst (v := (-1)) hx hb d_E_ofMarker_16 (by decide) ?_
    refine lv_iconst (v := 0) hx hb d_E_ofMarker_17 (by decide) ?_
    refine k_V C hs hex hf (fun res e1 => iv_I (b := z.1) (As := [.int 2, .int x0, .int (-1), .int (-1), .int (-1), .int 0]) (rest := [.ref z.1]) C hs ci_E_30 (c_E_ctor hl0 e1) rfl hl.1 rfl (Nat.le_of_ble_eq_true rfl) d_E_ofMarker_18 ⟨Nat.le_of_ble_eq_true rfl, Nat.le_of_ble_eq_true rfl⟩) (fun h4 z5 H locs cells slots hf hs => ?_)
    exact r_areturn C hs hr (Or.inl ⟨_, rfl⟩) d_E_ofMarker_21 hf
  · have hf := ifn q3 hf
    refine lv_iconst (v := 1) hx hb d_E_ofMarker_8 (by decide) ?_
    refine lv_goto (tgt := 13) hx hb d_E_ofMarker_9 (by decide) ?_
    refine lv_iload_n hx hb d_E_ofMarker_13 rfl (lv_at hl 0 rfl) ?_
    refine lv_iconst (v := (-1)) hx hb d_E_ofMarker_14 (by decide) ?_
    refine lv_iconst (v := (-1)) hx hb d_E_ofMarker_15 (by decide) ?_
    refine lv_iconst (v := (-1)) hx hb d_E_ofMarker_16 (by decide) ?_
    refine lv_iconst (v := 0) hx hb d_E_ofMarker_17 (by decide) ?_
    refine k_V C hs hex hf (fun res e1 => iv_I (b := z.1) (As := [.int 1, .int x0, .int (-1), .int (-1), .int (-1), .int 0]) (rest := [.ref z.1]) C hs ci_E_30 (c_E_ctor hl0 e1) rfl hl.1 rfl (Nat.le_of_ble_eq_true rfl) d_E_ofMarker_18 ⟨Nat.le_of_ble_eq_true rfl, Nat.le_of_ble_eq_true rfl⟩) (fun h7 z8 H locs cells slots hf hs => ?_)
    exact r_areturn C hs hr (Or.inl ⟨_, rfl⟩) d_E_ofMarker_21 hf
def f_L_length (bs : Nat) (sE : Nat × Nat) (h : HH) (z : Z3) (x0 : Nat) : Option RS :=
  (gR h x0 2 0).bind fun v1 =>
  (oK h v1 5).bind fun _ =>
  cI (f_A_size bs sE h z v1) fun v4 h2 z3 =>
  some (.inl (some (.int v4)), h2, z3)
set_option maxHeartbeats 4000000 in
set_option maxRecDepth 100000 in
theorem c_L_length {G : EN} {l : Launch} (hl0 : l.stackTraces = false) {h : HH} {z : Z3} {x0 : Nat} {r : RS} (hf : f_L_length G.2.2.1 G.2.2.2 h z x0 = some r) : CM G l y_L_length (.code y_L_length b_L_length 1 (some .int)) 1 20 [.ref x0] h z r := by
  refine CM.ofW hl0 rfl ?_
  intro p e s m below meth c C hr hex hin hs
  have hx := C.1
  have hb := C.2.1
  refine x_entry (n := 1) (Nat.le_of_ble_eq_true rfl) (fun ls hl => ?_)
  have hl : lv_has ls 1 [(0, .ref x0)] := hl
  unfold f_L_length at hf
  refine lv_aload_n hx hb d_L_length_0 rfl (lv_at hl 0 rfl) ?_
  refine r_getR C hs fl_L_12 d_L_length_1 hf (fun v1 hf => ?_)
  obtain ⟨_, ho, hf⟩ := bd hf
  refine k_I C hs hex hf (fun res e1 => iv_V (b := v1) (As := []) (rest := []) C hs cv_L_35 (c_A_size hl0 e1) (ci := 5) rfl rfl ho rfl hl.1 rfl (Nat.le_of_ble_eq_true rfl) d_L_length_4 ⟨Nat.le_of_ble_eq_true rfl, Nat.le_of_ble_eq_true rfl⟩) (fun v4 h2 z3 H locs cells slots hf hs => ?_)
  exact r_ireturn C hs hr d_L_length_7 hf
def f_L_put (bs : Nat) (sE : Nat × Nat) (h : HH) (z : Z3) (x0 : Nat) (x1 : Nat) : Option RS :=
  (gR h x0 2 0).bind fun v1 =>
  (oK h v1 5).bind fun _ =>
  cI (f_A_add bs sE h z v1 x1) fun v4 h2 z3 =>
  (oK h2 x0 2).bind fun _ =>
  cI (f_L_length bs sE h2 z3 x0) fun v7 h5 z6 =>
  some (.inl (some (.int (v7 - 1))), h5, z6)
set_option maxHeartbeats 4000000 in
set_option maxRecDepth 100000 in
theorem c_L_put {G : EN} {l : Launch} (hl0 : l.stackTraces = false) {h : HH} {z : Z3} {x0 : Nat} {x1 : Nat} {r : RS} (hf : f_L_put G.2.2.1 G.2.2.2 h z x0 x1 = some r) : CM G l y_L_put (.code y_L_put b_L_put 2 (some .int)) 7 191 [.ref x0, .ref x1] h z r := by
  refine CM.ofW hl0 rfl ?_
  intro p e s m below meth c C hr hex hin hs
  have hx := C.1
  have hb := C.2.1
  refine x_entry (n := 2) (Nat.le_of_ble_eq_true rfl) (fun ls hl => ?_)
  have hl : lv_has ls 2 [(0, .ref x0), (1, .ref x1)] := hl
  unfold f_L_put at hf
  refine lv_aload_n hx hb d_L_put_0 rfl (lv_at hl 0 rfl) ?_
  refine r_getR C hs fl_L_12 d_L_put_1 hf (fun v1 hf => ?_)
  refine lv_aload_n hx hb d_L_put_4 rfl (lv_at hl 1 rfl) ?_
  obtain ⟨_, ho, hf⟩ := bd hf
  refine k_I C hs hex hf (fun res e1 => iv_V (b := v1) (As := [.ref x1]) (rest := []) C hs cv_L_42 (c_A_add hl0 e1) (ci := 5) rfl rfl ho rfl hl.1 rfl (Nat.le_of_ble_eq_true rfl) d_L_put_5 ⟨Nat.le_of_ble_eq_true rfl, Nat.le_of_ble_eq_true rfl⟩) (fun v4 h2 z3 H locs cells slots hf hs => ?_)
  refine lv_pop hx hb d_L_put_8 rfl ?_
  refine lv_aload_n hx hb d_L_put_9 rfl (lv_at hl 0 rfl) ?_
  obtain ⟨_, ho, hf⟩ := bd hf
  refine k_I C hs hex hf (fun res e1 => iv_V (b := x0) (As := []) (rest := []) C hs cv_L_39 (c_L_length hl0 e1) (ci := 2) rfl rfl ho rfl hl.1 rfl (Nat.le_of_ble_eq_true rfl) d_L_put_10 ⟨Nat.le_of_ble_eq_true rfl, Nat.le_of_ble_eq_true rfl⟩) (fun v7 h5 z6 H locs cells slots hf hs => ?_)
  refine lv_iconst (v := 1) hx hb d_L_put_13 (by decide) ?_
  refine lv_isub hx hb d_L_put_14 ?_
  exact r_ireturn C hs hr d_L_put_15 hf
def f_L_putMarker (bs : Nat) (sE : Nat × Nat) (h : HH) (z : Z3) (x0 : Nat) (x1 : Int32) (x2 : Int32) : Option RS :=
  (gR h x0 2 1).bind fun v1 =>
  cR (f_E_ofMarker bs sE h z x1 x2) fun v4 h2 z3 =>
  (oK h2 x0 2).bind fun _ =>
  cI (f_L_put bs sE h2 z3 x0 v4) fun v7 h5 z6 =>
  (aIs bs h5 v1 0 x1 v7).bind fun h8 =>
  some (.inl none, h8, z6)
set_option maxHeartbeats 4000000 in
set_option maxRecDepth 100000 in
theorem c_L_putMarker {G : EN} {l : Launch} (hl0 : l.stackTraces = false) {h : HH} {z : Z3} {x0 : Nat} {x1 : Int32} {x2 : Int32} {r : RS} (hf : f_L_putMarker G.2.2.1 G.2.2.2 h z x0 x1 x2 = some r) : CM G l y_L_putMarker (.code y_L_putMarker b_L_putMarker 3 none) 8 212 [.ref x0, .int x1, .int x2] h z r := by
  refine CM.ofW hl0 rfl ?_
  intro p e s m below meth c C hr hex hin hs
  have hx := C.1
  have hb := C.2.1
  refine x_entry (n := 3) (Nat.le_of_ble_eq_true rfl) (fun ls hl => ?_)
  have hl : lv_has ls 3 [(0, .ref x0), (1, .int x1), (2, .int x2)] := hl
  unfold f_L_putMarker at hf
  refine lv_aload_n hx hb d_L_putMarker_0 rfl (lv_at hl 0 rfl) ?_
  refine r_getR C hs fl_L_18 d_L_putMarker_1 hf (fun v1 hf => ?_)
  refine lv_iload_n hx hb d_L_putMarker_4 rfl (lv_at hl 1 rfl) ?_
  refine lv_aload_n hx hb d_L_putMarker_5 rfl (lv_at hl 0 rfl) ?_
  refine lv_iload_n hx hb d_L_putMarker_6 rfl (lv_at hl 1 rfl) ?_
  refine lv_iload_n hx hb d_L_putMarker_7 rfl (lv_at hl 2 rfl) ?_
  refine k_R C hs hex hf (fun res e1 => iv_S (As := [.int x1, .int x2]) (rest := [.ref x0, .int x1, .ref v1]) C hs cs_L_46 (c_E_ofMarker hl0 e1) rfl hl.1 rfl (Nat.le_of_ble_eq_true rfl) d_L_putMarker_8 ⟨Nat.le_of_ble_eq_true rfl, Nat.le_of_ble_eq_true rfl⟩) (fun v4 h2 z3 H locs cells slots hf hs => ?_)
  obtain ⟨_, ho, hf⟩ := bd hf
  refine k_I C hs hex hf (fun res e1 => iv_V (b := x0) (As := [.ref v4]) (rest := [.int x1, .ref v1]) C hs cv_L_52 (c_L_put hl0 e1) (ci := 2) rfl rfl ho rfl hl.1 rfl (Nat.le_of_ble_eq_true rfl) d_L_putMarker_11 ⟨Nat.le_of_ble_eq_true rfl, Nat.le_of_ble_eq_true rfl⟩) (fun v7 h5 z6 H locs cells slots hf hs => ?_)
  refine r_iast C hs d_L_putMarker_14 hf (fun h8 H locs hf hs => ?_)
  exact r_vreturn C hs hr d_L_putMarker_15 hf
def f_P_isOpen (bs : Nat) (sE : Nat × Nat) (h : HH) (z : Z3) (x0 : Nat) : Option RS :=
  (gI h x0 3 1).bind fun v1 =>
  if v1 = 1 then
    ((bz 1).bind fun _ =>
    some (.inl (some (.int 1)), h, z))
  else
    ((bz 0).bind fun _ =>
    some (.inl (some (.int 0)), h, z))
set_option maxHeartbeats 4000000 in
set_option maxRecDepth 100000 in
theorem c_P_isOpen {G : EN} {l : Launch} (hl0 : l.stackTraces = false) {h : HH} {z : Z3} {x0 : Nat} {r : RS} (hf : f_P_isOpen G.2.2.1 G.2.2.2 h z x0 = some r) : CM G l y_P_isOpen (.code y_P_isOpen b_P_isOpen 1 (some .boolean)) 0 0 [.ref x0] h z r := by
  refine CM.ofW hl0 rfl ?_
  intro p e s m below meth c C hr hex hin hs
  have hx := C.1
  have hb := C.2.1
  refine x_entry (n := 1) (Nat.le_of_ble_eq_true rfl) (fun ls hl => ?_)
  have hl : lv_has ls 1 [(0, .ref x0)] := hl
  unfold f_P_isOpen at hf
  refine lv_aload_n hx hb d_P_isOpen_0 rfl (lv_at hl 0 rfl) ?_
  refine r_getI C hs fl_P_11 d_P_isOpen_1 hf (fun v1 hf => ?_)
  refine lv_iconst (v := 1) hx hb d_P_isOpen_4 (by decide) ?_
  refine lv_icmp_ne (tgt := 12) hx hb d_P_isOpen_5 (by decide) (fun q2 => ?_) (fun q2 => ?_)
  · have hf := ifn q2 hf
    refine lv_iconst (v := 0) hx hb d_P_isOpen_12 (by decide) ?_
    exact r_zreturn C hs hr d_P_isOpen_13 hf
  · have hf := ifp q2 hf
    refine lv_iconst (v := 1) hx hb d_P_isOpen_8 (by decide) ?_
    refine lv_goto (tgt := 13) hx hb d_P_isOpen_9 (by decide) ?_
    exact r_zreturn C hs hr d_P_isOpen_13 hf
def f_P_fence (bs : Nat) (sE : Nat × Nat) (h : HH) (z : Z3) (x0 : Nat) : Option RS :=
  (gI h x0 3 2).bind fun v1 =>
  (pV bs h x0 3 2 (.inl (v1 + 1))).bind fun h2 =>
  (pV bs h2 x0 3 1 (.inl 3)).bind fun h3 =>
  some (.inl none, h3, z)
set_option maxHeartbeats 4000000 in
set_option maxRecDepth 100000 in
theorem c_P_fence {G : EN} {l : Launch} (hl0 : l.stackTraces = false) {h : HH} {z : Z3} {x0 : Nat} {r : RS} (hf : f_P_fence G.2.2.1 G.2.2.2 h z x0 = some r) : CM G l y_P_fence (.code y_P_fence b_P_fence 1 none) 0 0 [.ref x0] h z r := by
  refine CM.ofW hl0 rfl ?_
  intro p e s m below meth c C hr hex hin hs
  have hx := C.1
  have hb := C.2.1
  refine x_entry (n := 1) (Nat.le_of_ble_eq_true rfl) (fun ls hl => ?_)
  have hl : lv_has ls 1 [(0, .ref x0)] := hl
  unfold f_P_fence at hf
  refine lv_aload_n hx hb d_P_fence_0 rfl (lv_at hl 0 rfl) ?_
  refine lv_dup hx hb d_P_fence_1 rfl ?_
  refine r_getI C hs fl_P_15 d_P_fence_2 hf (fun v1 hf => ?_)
  refine lv_iconst (v := 1) hx hb d_P_fence_5 (by decide) ?_
  refine lv_iadd hx hb d_P_fence_6 ?_
  refine r_putV (v := (.inl (v1 + 1))) C hs flp_P_15 rfl rfl d_P_fence_7 hf (fun h2 H locs hf hs => ?_)
  refine lv_aload_n hx hb d_P_fence_10 rfl (lv_at hl 0 rfl) ?_
  refine lv_iconst (v := 3) hx hb d_P_fence_11 (by decide) ?_
  refine r_putV (v := (.inl 3)) C hs flp_P_11 rfl rfl d_P_fence_12 hf (fun h3 H locs hf hs => ?_)
  exact r_vreturn C hs hr d_P_fence_15 hf
def f_P_renew (bs : Nat) (sE : Nat × Nat) (h : HH) (z : Z3) (x0 : Nat) : Option RS :=
  (pV bs h x0 3 1 (.inl 0)).bind fun h1 =>
  (gI h1 x0 3 2).bind fun v2 =>
  (pV bs h1 x0 3 2 (.inl (v2 + 1))).bind fun h3 =>
  (gI h3 x0 3 2).bind fun v4 =>
  some (.inl (some (.int v4)), h3, z)
set_option maxHeartbeats 4000000 in
set_option maxRecDepth 100000 in
theorem c_P_renew {G : EN} {l : Launch} (hl0 : l.stackTraces = false) {h : HH} {z : Z3} {x0 : Nat} {r : RS} (hf : f_P_renew G.2.2.1 G.2.2.2 h z x0 = some r) : CM G l y_P_renew (.code y_P_renew b_P_renew 1 (some .int)) 0 0 [.ref x0] h z r := by
  refine CM.ofW hl0 rfl ?_
  intro p e s m below meth c C hr hex hin hs
  have hx := C.1
  have hb := C.2.1
  refine x_entry (n := 1) (Nat.le_of_ble_eq_true rfl) (fun ls hl => ?_)
  have hl : lv_has ls 1 [(0, .ref x0)] := hl
  unfold f_P_renew at hf
  refine lv_aload_n hx hb d_P_renew_0 rfl (lv_at hl 0 rfl) ?_
  refine lv_iconst (v := 0) hx hb d_P_renew_1 (by decide) ?_
  refine r_putV (v := (.inl 0)) C hs flp_P_11 rfl rfl d_P_renew_2 hf (fun h1 H locs hf hs => ?_)
  refine lv_aload_n hx hb d_P_renew_5 rfl (lv_at hl 0 rfl) ?_
  refine lv_dup hx hb d_P_renew_6 rfl ?_
  refine r_getI C hs fl_P_15 d_P_renew_7 hf (fun v2 hf => ?_)
  refine lv_iconst (v := 1) hx hb d_P_renew_10 (by decide) ?_
  refine lv_iadd hx hb d_P_renew_11 ?_
  refine r_putV (v := (.inl (v2 + 1))) C hs flp_P_15 rfl rfl d_P_renew_12 hf (fun h3 H locs hf hs => ?_)
  refine lv_aload_n hx hb d_P_renew_15 rfl (lv_at hl 0 rfl) ?_
  refine r_getI C hs fl_P_15 d_P_renew_16 hf (fun v4 hf => ?_)
  exact r_ireturn C hs hr d_P_renew_19 hf
def f_P_isKnown (bs : Nat) (sE : Nat × Nat) (h : HH) (z : Z3) (x0 : Nat) : Option RS :=
  (gI h x0 3 1).bind fun v1 =>
  if v1 = (-1) then
    ((bz 0).bind fun _ =>
    some (.inl (some (.int 0)), h, z))
  else
    ((bz 1).bind fun _ =>
    some (.inl (some (.int 1)), h, z))
set_option maxHeartbeats 4000000 in
set_option maxRecDepth 100000 in
theorem c_P_isKnown {G : EN} {l : Launch} (hl0 : l.stackTraces = false) {h : HH} {z : Z3} {x0 : Nat} {r : RS} (hf : f_P_isKnown G.2.2.1 G.2.2.2 h z x0 = some r) : CM G l y_P_isKnown (.code y_P_isKnown b_P_isKnown 1 (some .boolean)) 0 0 [.ref x0] h z r := by
  refine CM.ofW hl0 rfl ?_
  intro p e s m below meth c C hr hex hin hs
  have hx := C.1
  have hb := C.2.1
  refine x_entry (n := 1) (Nat.le_of_ble_eq_true rfl) (fun ls hl => ?_)
  have hl : lv_has ls 1 [(0, .ref x0)] := hl
  unfold f_P_isKnown at hf
  refine lv_aload_n hx hb d_P_isKnown_0 rfl (lv_at hl 0 rfl) ?_
  refine r_getI C hs fl_P_11 d_P_isKnown_1 hf (fun v1 hf => ?_)
  refine lv_iconst (v := (-1)) hx hb d_P_isKnown_4 (by decide) ?_
  refine lv_icmp_eq (tgt := 12) hx hb d_P_isKnown_5 (by decide) (fun q2 => ?_) (fun q2 => ?_)
  · have hf := ifp q2 hf
    refine lv_iconst (v := 0) hx hb d_P_isKnown_12 (by decide) ?_
    exact r_zreturn C hs hr d_P_isKnown_13 hf
  · have hf := ifn q2 hf
    refine lv_iconst (v := 1) hx hb d_P_isKnown_8 (by decide) ?_
    refine lv_goto (tgt := 13) hx hb d_P_isKnown_9 (by decide) ?_
    exact r_zreturn C hs hr d_P_isKnown_13 hf
def f_P_isIdle (bs : Nat) (sE : Nat × Nat) (h : HH) (z : Z3) (x0 : Nat) : Option RS :=
  (gI h x0 3 1).bind fun v1 =>
  if v1 = 0 then
    ((bz 1).bind fun _ =>
    some (.inl (some (.int 1)), h, z))
  else
    ((bz 0).bind fun _ =>
    some (.inl (some (.int 0)), h, z))
set_option maxHeartbeats 4000000 in
set_option maxRecDepth 100000 in
theorem c_P_isIdle {G : EN} {l : Launch} (hl0 : l.stackTraces = false) {h : HH} {z : Z3} {x0 : Nat} {r : RS} (hf : f_P_isIdle G.2.2.1 G.2.2.2 h z x0 = some r) : CM G l y_P_isIdle (.code y_P_isIdle b_P_isIdle 1 (some .boolean)) 0 0 [.ref x0] h z r := by
  refine CM.ofW hl0 rfl ?_
  intro p e s m below meth c C hr hex hin hs
  have hx := C.1
  have hb := C.2.1
  refine x_entry (n := 1) (Nat.le_of_ble_eq_true rfl) (fun ls hl => ?_)
  have hl : lv_has ls 1 [(0, .ref x0)] := hl
  unfold f_P_isIdle at hf
  refine lv_aload_n hx hb d_P_isIdle_0 rfl (lv_at hl 0 rfl) ?_
  refine r_getI C hs fl_P_11 d_P_isIdle_1 hf (fun v1 hf => ?_)
  refine lv_if_ne (tgt := 11) hx hb d_P_isIdle_4 (by decide) (fun q2 => ?_) (fun q2 => ?_)
  · have hf := ifn q2 hf
    refine lv_iconst (v := 0) hx hb d_P_isIdle_11 (by decide) ?_
    exact r_zreturn C hs hr d_P_isIdle_12 hf
  · have hf := ifp q2 hf
    refine lv_iconst (v := 1) hx hb d_P_isIdle_7 (by decide) ?_
    refine lv_goto (tgt := 12) hx hb d_P_isIdle_8 (by decide) ?_
    exact r_zreturn C hs hr d_P_isIdle_12 hf
def f_P_open (bs : Nat) (sE : Nat × Nat) (h : HH) (z : Z3) (x0 : Nat) (x1 : Int32) (x2 : Int32) : Option RS :=
  (pV bs h x0 3 1 (.inl 1)).bind fun h1 =>
  (pV bs h1 x0 3 3 (.inl x1)).bind fun h2 =>
  (pV bs h2 x0 3 4 (.inl x2)).bind fun h3 =>
  some (.inl none, h3, z)
set_option maxHeartbeats 4000000 in
set_option maxRecDepth 100000 in
theorem c_P_open {G : EN} {l : Launch} (hl0 : l.stackTraces = false) {h : HH} {z : Z3} {x0 : Nat} {x1 : Int32} {x2 : Int32} {r : RS} (hf : f_P_open G.2.2.1 G.2.2.2 h z x0 x1 x2 = some r) : CM G l y_P_open (.code y_P_open b_P_open 3 none) 0 0 [.ref x0, .int x1, .int x2] h z r := by
  refine CM.ofW hl0 rfl ?_
  intro p e s m below meth c C hr hex hin hs
  have hx := C.1
  have hb := C.2.1
  refine x_entry (n := 3) (Nat.le_of_ble_eq_true rfl) (fun ls hl => ?_)
  have hl : lv_has ls 3 [(0, .ref x0), (1, .int x1), (2, .int x2)] := hl
  unfold f_P_open at hf
  refine lv_aload_n hx hb d_P_open_0 rfl (lv_at hl 0 rfl) ?_
  refine lv_iconst (v := 1) hx hb d_P_open_1 (by decide) ?_
  refine r_putV (v := (.inl 1)) C hs flp_P_11 rfl rfl d_P_open_2 hf (fun h1 H locs hf hs => ?_)
  refine lv_aload_n hx hb d_P_open_5 rfl (lv_at hl 0 rfl) ?_
  refine lv_iload_n hx hb d_P_open_6 rfl (lv_at hl 1 rfl) ?_
  refine r_putV (v := (.inl x1)) C hs flp_P_18 rfl rfl d_P_open_7 hf (fun h2 H locs hf hs => ?_)
  refine lv_aload_n hx hb d_P_open_10 rfl (lv_at hl 0 rfl) ?_
  refine lv_iload_n hx hb d_P_open_11 rfl (lv_at hl 2 rfl) ?_
  refine r_putV (v := (.inl x2)) C hs flp_P_21 rfl rfl d_P_open_12 hf (fun h3 H locs hf hs => ?_)
  exact r_vreturn C hs hr d_P_open_15 hf
def f_E_isDataOf (bs : Nat) (sE : Nat × Nat) (h : HH) (z : Z3) (x0 : Nat) (x1 : Int32) (x2 : Int32) : Option RS :=
  (gI h x0 0 0).bind fun v1 =>
  if v1 = 0 then
    ((gI h x0 0 2).bind fun v3 =>
    if v3 = x1 then
      ((gI h x0 0 3).bind fun v5 =>
      if v5 = x2 then
        ((bz 1).bind fun _ =>
        some (.inl (some (.int 1)), h, z))
      else
        ((bz 0).bind fun _ =>
        some (.inl (some (.int 0)), h, z)))
    else
      ((bz 0).bind fun _ =>
      some (.inl (some (.int 0)), h, z)))
  else
    ((bz 0).bind fun _ =>
    some (.inl (some (.int 0)), h, z))
set_option maxHeartbeats 4000000 in
set_option maxRecDepth 100000 in
theorem c_E_isDataOf {G : EN} {l : Launch} (hl0 : l.stackTraces = false) {h : HH} {z : Z3} {x0 : Nat} {x1 : Int32} {x2 : Int32} {r : RS} (hf : f_E_isDataOf G.2.2.1 G.2.2.2 h z x0 x1 x2 = some r) : CM G l y_E_isDataOf (.code y_E_isDataOf b_E_isDataOf 3 (some .boolean)) 0 0 [.ref x0, .int x1, .int x2] h z r := by
  refine CM.ofW hl0 rfl ?_
  intro p e s m below meth c C hr hex hin hs
  have hx := C.1
  have hb := C.2.1
  refine x_entry (n := 3) (Nat.le_of_ble_eq_true rfl) (fun ls hl => ?_)
  have hl : lv_has ls 3 [(0, .ref x0), (1, .int x1), (2, .int x2)] := hl
  unfold f_E_isDataOf at hf
  refine lv_aload_n hx hb d_E_isDataOf_0 rfl (lv_at hl 0 rfl) ?_
  refine r_getI C hs fl_E_9 d_E_isDataOf_1 hf (fun v1 hf => ?_)
  refine lv_if_ne (tgt := 27) hx hb d_E_isDataOf_4 (by decide) (fun q2 => ?_) (fun q2 => ?_)
  · have hf := ifn q2 hf
    refine lv_iconst (v := 0) hx hb d_E_isDataOf_27 (by decide) ?_
    exact r_zreturn C hs hr d_E_isDataOf_28 hf
  · have hf := ifp q2 hf
    refine lv_aload_n hx hb d_E_isDataOf_7 rfl (lv_at hl 0 rfl) ?_
    refine r_getI C hs fl_E_18 d_E_isDataOf_8 hf (fun v3 hf => ?_)
    refine lv_iload_n hx hb d_E_isDataOf_11 rfl (lv_at hl 1 rfl) ?_
    refine lv_icmp_ne (tgt := 27) hx hb d_E_isDataOf_12 (by decide) (fun q4 => ?_) (fun q4 => ?_)
    · have hf := ifn q4 hf
      refine lv_iconst (v := 0) hx hb d_E_isDataOf_27 (by decide) ?_
      exact r_zreturn C hs hr d_E_isDataOf_28 hf
    · have hf := ifp q4 hf
      refine lv_aload_n hx hb d_E_isDataOf_15 rfl (lv_at hl 0 rfl) ?_
      refine r_getI C hs fl_E_21 d_E_isDataOf_16 hf (fun v5 hf => ?_)
      refine lv_iload_n hx hb d_E_isDataOf_19 rfl (lv_at hl 2 rfl) ?_
      refine lv_icmp_ne (tgt := 27) hx hb d_E_isDataOf_20 (by decide) (fun q6 => ?_) (fun q6 => ?_)
      · have hf := ifn q6 hf
        refine lv_iconst (v := 0) hx hb d_E_isDataOf_27 (by decide) ?_
        exact r_zreturn C hs hr d_E_isDataOf_28 hf
      · have hf := ifp q6 hf
        refine lv_iconst (v := 1) hx hb d_E_isDataOf_23 (by decide) ?_
        refine lv_goto (tgt := 28) hx hb d_E_isDataOf_24 (by decide) ?_
        exact r_zreturn C hs hr d_E_isDataOf_28 hf
def fb_L_recentOffset_L11 (bs : Nat) (sE : Nat × Nat) (REC : HH → Z3 → Nat → Int32 → Int32 → Int32 → Int32 → Int32 → Option RS) (h : HH) (z : Z3) (x0 : Nat) (x1 : Int32) (x2 : Int32) (x3 : Int32) (x4 : Int32) (x5 : Int32) : Option RS :=
  if x5 < 0 then
    (some (.inl (some (.int (-1))), h, z))
  else
    (if 5 ≤ x4 then
      (some (.inl (some (.int (-1))), h, z))
    else
      ((gR h x0 2 0).bind fun v6 =>
      (oK h v6 5).bind fun _ =>
      cR (f_A_get bs sE h z v6 x5) fun v9 h7 z8 =>
      (oK h7 v9 0).bind fun _ =>
      (oK h7 v9 0).bind fun _ =>
      cI (f_E_isDataOf bs sE h7 z8 v9 x1 x2) fun v12 h10 z11 =>
      if v12 = 0 then
        (REC h10 z11 x0 x1 x2 x3 x4 (x5 + (-1)))
      else
        ((gI h10 v9 0 4).bind fun v14 =>
        if v14 = x3 then
          (some (.inl (some (.int x5)), h10, z11))
        else
          (REC h10 z11 x0 x1 x2 x3 (x4 + 1) (x5 + (-1))))))
def f_L_recentOffset_L11 (bs : Nat) (sE : Nat × Nat) : Nat → HH → Z3 → Nat → Int32 → Int32 → Int32 → Int32 → Int32 → Option RS
  | 0 => fun _ _ _ _ _ _ _ _ => none
  | n + 1 => fb_L_recentOffset_L11 bs sE (f_L_recentOffset_L11 bs sE n)
set_option maxHeartbeats 4000000 in
set_option maxRecDepth 100000 in
theorem t_L_recentOffset_L11 {G : EN} {p : Program} {l : Launch} {e : Env} {s : State} {m : MethodId} {args : Array Value} {below : List Frame} {meth : Method} {c : Code} {z0 : Z3} (hl0 : l.stackTraces = false) (C : CX G p l s m meth c b_L_recentOffset 7 y_L_recentOffset.cls) (hr : meth.sig.returnType = (some .int)) (hex : c.exceptionTable.toList = []) {r : RS} :
    ∀ (n : Nat) (h : HH) (z : Z3) (x0 : Nat) (x1 : Int32) (x2 : Int32) (x3 : Int32) (x4 : Int32) (x5 : Int32), f_L_recentOffset_L11 G.2.2.1 G.2.2.2 n h z x0 x1 x2 x3 x4 x5 = some r → ∀ (H : Heap) (locs : List Loc) (cells slots : Nat) (ls : Array Slot), ST G (RM 3 64 z0) s h z H locs cells slots → lv_has ls 7 [(0, .ref x0), (1, .int x1), (2, .int x2), (3, .int x3), (4, .int x4), (5, .int x5)] → W p l e (RM 3 64 z0) s m args below meth c H locs cells slots (MX G below s r (RM 3 64 z0).cells (RM 3 64 z0).slots) (F0 m 11 ls []) := by
  have hx := C.1
  have hb := C.2.1
  intro n
  induction n with
  | zero => intro h z x0 x1 x2 x3 x4 x5 hf; exact nomatch (show (none : Option RS) = some r from hf)
  | succ n ih =>
    intro h z x0 x1 x2 x3 x4 x5 hf H locs cells slots ls hs hl
    have hf : fb_L_recentOffset_L11 G.2.2.1 G.2.2.2 (f_L_recentOffset_L11 G.2.2.1 G.2.2.2 n) h z x0 x1 x2 x3 x4 x5 = some r := hf
    unfold fb_L_recentOffset_L11 at hf
    refine lv_iload hx hb d_L_recentOffset_11 (lv_at hl 5 rfl) ?_
    refine lv_if_lt (tgt := 67) hx hb d_L_recentOffset_13 (by decide) (fun q4 => ?_) (fun q4 => ?_)
    · have hf := ifp q4 hf
      refine lv_iconst (v := (-1)) hx hb d_L_recentOffset_67 (by decide) ?_
      exact r_ireturn C hs hr d_L_recentOffset_68 hf
    · have hf := ifn q4 hf
      refine lv_iload hx hb d_L_recentOffset_16 (lv_at hl 4 rfl) ?_
      refine lv_iconst (v := 5) hx hb d_L_recentOffset_18 (by decide) ?_
      refine lv_icmp_ge (tgt := 67) hx hb d_L_recentOffset_19 (by decide) (fun q5 => ?_) (fun q5 => ?_)
      · have hf := ifp q5 hf
        refine lv_iconst (v := (-1)) hx hb d_L_recentOffset_67 (by decide) ?_
        exact r_ireturn C hs hr d_L_recentOffset_68 hf
      · have hf := ifn q5 hf
        refine lv_aload_n hx hb d_L_recentOffset_22 rfl (lv_at hl 0 rfl) ?_
        refine r_getR C hs fl_L_12 d_L_recentOffset_23 hf (fun v6 hf => ?_)
        refine lv_iload hx hb d_L_recentOffset_26 (lv_at hl 5 rfl) ?_
        obtain ⟨_, ho, hf⟩ := bd hf
        refine k_R C hs hex hf (fun res e1 => iv_V (b := v6) (As := [.int x5]) (rest := []) C hs cv_L_63 (c_A_get hl0 e1) (ci := 5) rfl rfl ho rfl hl.1 rfl (Nat.le_of_ble_eq_true rfl) d_L_recentOffset_28 ⟨Nat.le_of_ble_eq_true rfl, Nat.le_of_ble_eq_true rfl⟩) (fun v9 h7 z8 H locs cells slots hf hs => ?_)
        refine r_cast (ci := 0) C hs rfl (tm (i := 515) (by decide +kernel)) (tm (i := 1036) (by decide +kernel)) d_L_recentOffset_31 hf (fun hf => ?_)
        refine lv_astore (lv' := [(6, .ref v9), (0, .ref x0), (1, .int x1), (2, .int x2), (3, .int x3), (4, .int x4), (5, .int x5)]) hx hb d_L_recentOffset_34 hl (by decide) rfl (fun ls hl => ?_)
        refine lv_aload hx hb d_L_recentOffset_36 (lv_at hl 0 rfl) ?_
        refine lv_iload_n hx hb d_L_recentOffset_38 rfl (lv_at hl 2 rfl) ?_
        refine lv_iload_n hx hb d_L_recentOffset_39 rfl (lv_at hl 3 rfl) ?_
        obtain ⟨_, ho, hf⟩ := bd hf
        refine k_I C hs hex hf (fun res e1 => iv_V (b := v9) (As := [.int x1, .int x2]) (rest := []) C hs cv_L_81 (c_E_isDataOf hl0 e1) (ci := 0) rfl rfl ho rfl hl.1 rfl (Nat.le_of_ble_eq_true rfl) d_L_recentOffset_40 ⟨Nat.le_of_ble_eq_true rfl, Nat.le_of_ble_eq_true rfl⟩) (fun v12 h10 z11 H locs cells slots hf hs => ?_)
        refine lv_if_eq (tgt := 61) hx hb d_L_recentOffset_43 (by decide) (fun q13 => ?_) (fun q13 => ?_)
        · have hf := ifp q13 hf
          refine lv_iinc (v := x5 + (-1)) (lv' := [(5, .int (x5 + (-1))), (6, .ref v9), (0, .ref x0), (1, .int x1), (2, .int x2), (3, .int x3), (4, .int x4)]) hx hb d_L_recentOffset_61 hl (k := 6) rfl rfl (by decide) rfl (fun ls hl => ?_)
          refine lv_goto (tgt := 11) hx hb d_L_recentOffset_64 (by decide) ?_
          exact ih _ _ _ _ _ _ _ _ hf _ _ _ _ _ hs (lv_sub hl [2, 3, 4, 5, 6, 0] rfl)
        · have hf := ifn q13 hf
          refine lv_aload hx hb d_L_recentOffset_46 (lv_at hl 0 rfl) ?_
          refine r_getI C hs fl_L_85 d_L_recentOffset_48 hf (fun v14 hf => ?_)
          refine lv_iload_n hx hb d_L_recentOffset_51 rfl (lv_at hl 4 rfl) ?_
          refine lv_icmp_ne (tgt := 58) hx hb d_L_recentOffset_52 (by decide) (fun q15 => ?_) (fun q15 => ?_)
          · have hf := ifn q15 hf
            refine lv_iinc (v := x4 + 1) (lv' := [(4, .int (x4 + 1)), (6, .ref v9), (0, .ref x0), (1, .int x1), (2, .int x2), (3, .int x3), (5, .int x5)]) hx hb d_L_recentOffset_58 hl (k := 5) rfl rfl (by decide) rfl (fun ls hl => ?_)
            refine lv_iinc (v := x5 + (-1)) (lv' := [(5, .int (x5 + (-1))), (4, .int (x4 + 1)), (6, .ref v9), (0, .ref x0), (1, .int x1), (2, .int x2), (3, .int x3)]) hx hb d_L_recentOffset_61 hl (k := 6) rfl rfl (by decide) rfl (fun ls hl => ?_)
            refine lv_goto (tgt := 11) hx hb d_L_recentOffset_64 (by decide) ?_
            exact ih _ _ _ _ _ _ _ _ hf _ _ _ _ _ hs (lv_sub hl [3, 4, 5, 6, 1, 0] rfl)
          · have hf := ifp q15 hf
            refine lv_iload hx hb d_L_recentOffset_55 (lv_at hl 6 rfl) ?_
            exact r_ireturn C hs hr d_L_recentOffset_57 hf
def f_L_recentOffset (bs : Nat) (sE : Nat × Nat) (h : HH) (z : Z3) (x0 : Nat) (x1 : Int32) (x2 : Int32) (x3 : Int32) : Option RS :=
  (oK h x0 2).bind fun _ =>
  cI (f_L_length bs sE h z x0) fun v3 h1 z2 =>
  f_L_recentOffset_L11 bs sE FU h1 z2 x0 x1 x2 x3 0 (v3 - 1)
set_option maxHeartbeats 4000000 in
set_option maxRecDepth 100000 in
theorem c_L_recentOffset {G : EN} {l : Launch} (hl0 : l.stackTraces = false) {h : HH} {z : Z3} {x0 : Nat} {x1 : Int32} {x2 : Int32} {x3 : Int32} {r : RS} (hf : f_L_recentOffset G.2.2.1 G.2.2.2 h z x0 x1 x2 x3 = some r) : CM G l y_L_recentOffset (.code y_L_recentOffset b_L_recentOffset 7 (some .int)) 3 64 [.ref x0, .int x1, .int x2, .int x3] h z r := by
  refine CM.ofW hl0 rfl ?_
  intro p e s m below meth c C hr hex hin hs
  have hx := C.1
  have hb := C.2.1
  refine x_entry (n := 7) (Nat.le_of_ble_eq_true rfl) (fun ls hl => ?_)
  have hl : lv_has ls 7 [(0, .ref x0), (1, .int x1), (2, .int x2), (3, .int x3)] := hl
  unfold f_L_recentOffset at hf
  refine lv_iconst (v := 0) hx hb d_L_recentOffset_0 (by decide) ?_
  refine lv_istore (lv' := [(4, .int 0), (0, .ref x0), (1, .int x1), (2, .int x2), (3, .int x3)]) hx hb d_L_recentOffset_1 hl (by decide) rfl (fun ls hl => ?_)
  refine lv_aload_n hx hb d_L_recentOffset_3 rfl (lv_at hl 1 rfl) ?_
  obtain ⟨_, ho, hf⟩ := bd hf
  refine k_I C hs hex hf (fun res e1 => iv_V (b := x0) (As := []) (rest := []) C hs cv_L_39 (c_L_length hl0 e1) (ci := 2) rfl rfl ho rfl hl.1 rfl (Nat.le_of_ble_eq_true rfl) d_L_recentOffset_4 ⟨Nat.le_of_ble_eq_true rfl, Nat.le_of_ble_eq_true rfl⟩) (fun v3 h1 z2 H locs cells slots hf hs => ?_)
  refine lv_iconst (v := 1) hx hb d_L_recentOffset_7 (by decide) ?_
  refine lv_isub hx hb d_L_recentOffset_8 ?_
  refine lv_istore (lv' := [(5, .int (v3 - 1)), (4, .int 0), (0, .ref x0), (1, .int x1), (2, .int x2), (3, .int x3)]) hx hb d_L_recentOffset_9 hl (by decide) rfl (fun ls hl => ?_)
  exact t_L_recentOffset_L11 hl0 C hr hex FU _ _ _ _ _ _ _ _ hf _ _ _ _ _ hs (lv_sub hl [2, 3, 4, 5, 1, 0] rfl)
def fb_L_nextSequence_L7 (bs : Nat) (sE : Nat × Nat) (REC : HH → Z3 → Nat → Int32 → Int32 → Int32 → Option RS) (h : HH) (z : Z3) (x0 : Nat) (x1 : Int32) (x2 : Int32) (x3 : Int32) : Option RS :=
  if x3 < 0 then
    (some (.inl (some (.int 0)), h, z))
  else
    ((gR h x0 2 0).bind fun v5 =>
    (oK h v5 5).bind fun _ =>
    cR (f_A_get bs sE h z v5 x3) fun v8 h6 z7 =>
    (oK h6 v8 0).bind fun _ =>
    (oK h6 v8 0).bind fun _ =>
    cI (f_E_isDataOf bs sE h6 z7 v8 x1 x2) fun v11 h9 z10 =>
    if v11 = 0 then
      (REC h9 z10 x0 x1 x2 (x3 + (-1)))
    else
      ((gI h9 v8 0 4).bind fun v13 =>
      some (.inl (some (.int (v13 + 1))), h9, z10)))
def f_L_nextSequence_L7 (bs : Nat) (sE : Nat × Nat) : Nat → HH → Z3 → Nat → Int32 → Int32 → Int32 → Option RS
  | 0 => fun _ _ _ _ _ _ => none
  | n + 1 => fb_L_nextSequence_L7 bs sE (f_L_nextSequence_L7 bs sE n)
set_option maxHeartbeats 4000000 in
set_option maxRecDepth 100000 in
theorem t_L_nextSequence_L7 {G : EN} {p : Program} {l : Launch} {e : Env} {s : State} {m : MethodId} {args : Array Value} {below : List Frame} {meth : Method} {c : Code} {z0 : Z3} (hl0 : l.stackTraces = false) (C : CX G p l s m meth c b_L_nextSequence 5 y_L_nextSequence.cls) (hr : meth.sig.returnType = (some .int)) (hex : c.exceptionTable.toList = []) {r : RS} :
    ∀ (n : Nat) (h : HH) (z : Z3) (x0 : Nat) (x1 : Int32) (x2 : Int32) (x3 : Int32), f_L_nextSequence_L7 G.2.2.1 G.2.2.2 n h z x0 x1 x2 x3 = some r → ∀ (H : Heap) (locs : List Loc) (cells slots : Nat) (ls : Array Slot), ST G (RM 3 64 z0) s h z H locs cells slots → lv_has ls 5 [(0, .ref x0), (1, .int x1), (2, .int x2), (3, .int x3)] → W p l e (RM 3 64 z0) s m args below meth c H locs cells slots (MX G below s r (RM 3 64 z0).cells (RM 3 64 z0).slots) (F0 m 7 ls []) := by
  have hx := C.1
  have hb := C.2.1
  intro n
  induction n with
  | zero => intro h z x0 x1 x2 x3 hf; exact nomatch (show (none : Option RS) = some r from hf)
  | succ n ih =>
    intro h z x0 x1 x2 x3 hf H locs cells slots ls hs hl
    have hf : fb_L_nextSequence_L7 G.2.2.1 G.2.2.2 (f_L_nextSequence_L7 G.2.2.1 G.2.2.2 n) h z x0 x1 x2 x3 = some r := hf
    unfold fb_L_nextSequence_L7 at hf
    refine lv_iload_n hx hb d_L_nextSequence_7 rfl (lv_at hl 3 rfl) ?_
    refine lv_if_lt (tgt := 48) hx hb d_L_nextSequence_8 (by decide) (fun q4 => ?_) (fun q4 => ?_)
    · have hf := ifp q4 hf
      refine lv_iconst (v := 0) hx hb d_L_nextSequence_48 (by decide) ?_
      exact r_ireturn C hs hr d_L_nextSequence_49 hf
    · have hf := ifn q4 hf
      refine lv_aload_n hx hb d_L_nextSequence_11 rfl (lv_at hl 0 rfl) ?_
      refine r_getR C hs fl_L_12 d_L_nextSequence_12 hf (fun v5 hf => ?_)
      refine lv_iload_n hx hb d_L_nextSequence_15 rfl (lv_at hl 3 rfl) ?_
      obtain ⟨_, ho, hf⟩ := bd hf
      refine k_R C hs hex hf (fun res e1 => iv_V (b := v5) (As := [.int x3]) (rest := []) C hs cv_L_63 (c_A_get hl0 e1) (ci := 5) rfl rfl ho rfl hl.1 rfl (Nat.le_of_ble_eq_true rfl) d_L_nextSequence_16 ⟨Nat.le_of_ble_eq_true rfl, Nat.le_of_ble_eq_true rfl⟩) (fun v8 h6 z7 H locs cells slots hf hs => ?_)
      refine r_cast (ci := 0) C hs rfl (tm (i := 515) (by decide +kernel)) (tm (i := 1036) (by decide +kernel)) d_L_nextSequence_19 hf (fun hf => ?_)
      refine lv_astore (lv' := [(4, .ref v8), (0, .ref x0), (1, .int x1), (2, .int x2), (3, .int x3)]) hx hb d_L_nextSequence_22 hl (by decide) rfl (fun ls hl => ?_)
      refine lv_aload hx hb d_L_nextSequence_24 (lv_at hl 0 rfl) ?_
      refine lv_iload_n hx hb d_L_nextSequence_26 rfl (lv_at hl 2 rfl) ?_
      refine lv_iload_n hx hb d_L_nextSequence_27 rfl (lv_at hl 3 rfl) ?_
      obtain ⟨_, ho, hf⟩ := bd hf
      refine k_I C hs hex hf (fun res e1 => iv_V (b := v8) (As := [.int x1, .int x2]) (rest := []) C hs cv_L_81 (c_E_isDataOf hl0 e1) (ci := 0) rfl rfl ho rfl hl.1 rfl (Nat.le_of_ble_eq_true rfl) d_L_nextSequence_28 ⟨Nat.le_of_ble_eq_true rfl, Nat.le_of_ble_eq_true rfl⟩) (fun v11 h9 z10 H locs cells slots hf hs => ?_)
      refine lv_if_eq (tgt := 42) hx hb d_L_nextSequence_31 (by decide) (fun q12 => ?_) (fun q12 => ?_)
      · have hf := ifp q12 hf
        refine lv_iinc (v := x3 + (-1)) (lv' := [(3, .int (x3 + (-1))), (4, .ref v8), (0, .ref x0), (1, .int x1), (2, .int x2)]) hx hb d_L_nextSequence_42 hl (k := 4) rfl rfl (by decide) rfl (fun ls hl => ?_)
        refine lv_goto (tgt := 7) hx hb d_L_nextSequence_45 (by decide) ?_
        exact ih _ _ _ _ _ _ hf _ _ _ _ _ hs (lv_sub hl [2, 3, 4, 0] rfl)
      · have hf := ifn q12 hf
        refine lv_aload hx hb d_L_nextSequence_34 (lv_at hl 0 rfl) ?_
        refine r_getI C hs fl_L_85 d_L_nextSequence_36 hf (fun v13 hf => ?_)
        refine lv_iconst (v := 1) hx hb d_L_nextSequence_39 (by decide) ?_
        refine lv_iadd hx hb d_L_nextSequence_40 ?_
        exact r_ireturn C hs hr d_L_nextSequence_41 hf
def f_L_nextSequence (bs : Nat) (sE : Nat × Nat) (h : HH) (z : Z3) (x0 : Nat) (x1 : Int32) (x2 : Int32) : Option RS :=
  (oK h x0 2).bind fun _ =>
  cI (f_L_length bs sE h z x0) fun v3 h1 z2 =>
  f_L_nextSequence_L7 bs sE FU h1 z2 x0 x1 x2 (v3 - 1)
set_option maxHeartbeats 4000000 in
set_option maxRecDepth 100000 in
theorem c_L_nextSequence {G : EN} {l : Launch} (hl0 : l.stackTraces = false) {h : HH} {z : Z3} {x0 : Nat} {x1 : Int32} {x2 : Int32} {r : RS} (hf : f_L_nextSequence G.2.2.1 G.2.2.2 h z x0 x1 x2 = some r) : CM G l y_L_nextSequence (.code y_L_nextSequence b_L_nextSequence 5 (some .int)) 3 64 [.ref x0, .int x1, .int x2] h z r := by
  refine CM.ofW hl0 rfl ?_
  intro p e s m below meth c C hr hex hin hs
  have hx := C.1
  have hb := C.2.1
  refine x_entry (n := 5) (Nat.le_of_ble_eq_true rfl) (fun ls hl => ?_)
  have hl : lv_has ls 5 [(0, .ref x0), (1, .int x1), (2, .int x2)] := hl
  unfold f_L_nextSequence at hf
  refine lv_aload_n hx hb d_L_nextSequence_0 rfl (lv_at hl 0 rfl) ?_
  obtain ⟨_, ho, hf⟩ := bd hf
  refine k_I C hs hex hf (fun res e1 => iv_V (b := x0) (As := []) (rest := []) C hs cv_L_39 (c_L_length hl0 e1) (ci := 2) rfl rfl ho rfl hl.1 rfl (Nat.le_of_ble_eq_true rfl) d_L_nextSequence_1 ⟨Nat.le_of_ble_eq_true rfl, Nat.le_of_ble_eq_true rfl⟩) (fun v3 h1 z2 H locs cells slots hf hs => ?_)
  refine lv_iconst (v := 1) hx hb d_L_nextSequence_4 (by decide) ?_
  refine lv_isub hx hb d_L_nextSequence_5 ?_
  refine lv_istore_n (lv' := [(3, .int (v3 - 1)), (0, .ref x0), (1, .int x1), (2, .int x2)]) hx hb d_L_nextSequence_6 rfl hl (by decide) rfl (fun ls hl => ?_)
  exact t_L_nextSequence_L7 hl0 C hr hex FU _ _ _ _ _ _ hf _ _ _ _ _ hs (lv_sub hl [1, 2, 3, 0] rfl)
def f_L_isFull (bs : Nat) (sE : Nat × Nat) (h : HH) (z : Z3) (x0 : Nat) : Option RS :=
  (oK h x0 2).bind fun _ =>
  cI (f_L_length bs sE h z x0) fun v3 h1 z2 =>
  (gI h1 x0 2 2).bind fun v4 =>
  if 32 ≤ (v3 - v4) then
    ((bz 1).bind fun _ =>
    some (.inl (some (.int 1)), h1, z2))
  else
    ((oK h1 x0 2).bind fun _ =>
    cI (f_L_length bs sE h1 z2 x0) fun v8 h6 z7 =>
    if v8 < 400 then
      ((bz 0).bind fun _ =>
      some (.inl (some (.int 0)), h6, z7))
    else
      ((bz 1).bind fun _ =>
      some (.inl (some (.int 1)), h6, z7)))
set_option maxHeartbeats 4000000 in
set_option maxRecDepth 100000 in
theorem c_L_isFull {G : EN} {l : Launch} (hl0 : l.stackTraces = false) {h : HH} {z : Z3} {x0 : Nat} {r : RS} (hf : f_L_isFull G.2.2.1 G.2.2.2 h z x0 = some r) : CM G l y_L_isFull (.code y_L_isFull b_L_isFull 1 (some .boolean)) 2 40 [.ref x0] h z r := by
  refine CM.ofW hl0 rfl ?_
  intro p e s m below meth c C hr hex hin hs
  have hx := C.1
  have hb := C.2.1
  refine x_entry (n := 1) (Nat.le_of_ble_eq_true rfl) (fun ls hl => ?_)
  have hl : lv_has ls 1 [(0, .ref x0)] := hl
  unfold f_L_isFull at hf
  refine lv_aload_n hx hb d_L_isFull_0 rfl (lv_at hl 0 rfl) ?_
  obtain ⟨_, ho, hf⟩ := bd hf
  refine k_I C hs hex hf (fun res e1 => iv_V (b := x0) (As := []) (rest := []) C hs cv_L_39 (c_L_length hl0 e1) (ci := 2) rfl rfl ho rfl hl.1 rfl (Nat.le_of_ble_eq_true rfl) d_L_isFull_1 ⟨Nat.le_of_ble_eq_true rfl, Nat.le_of_ble_eq_true rfl⟩) (fun v3 h1 z2 H locs cells slots hf hs => ?_)
  refine lv_aload_n hx hb d_L_isFull_4 rfl (lv_at hl 0 rfl) ?_
  refine r_getI C hs fl_L_22 d_L_isFull_5 hf (fun v4 hf => ?_)
  refine lv_isub hx hb d_L_isFull_8 ?_
  refine lv_bipush (v := 32) hx hb d_L_isFull_9 (by decide) ?_
  refine lv_icmp_ge (tgt := 24) hx hb d_L_isFull_11 (by decide) (fun q5 => ?_) (fun q5 => ?_)
  · have hf := ifp q5 hf
    refine lv_iconst (v := 1) hx hb d_L_isFull_24 (by decide) ?_
    refine lv_goto (tgt := 29) hx hb d_L_isFull_25 (by decide) ?_
    exact r_zreturn C hs hr d_L_isFull_29 hf
  · have hf := ifn q5 hf
    refine lv_aload_n hx hb d_L_isFull_14 rfl (lv_at hl 0 rfl) ?_
    obtain ⟨_, ho, hf⟩ := bd hf
    refine k_I C hs hex hf (fun res e1 => iv_V (b := x0) (As := []) (rest := []) C hs cv_L_39 (c_L_length hl0 e1) (ci := 2) rfl rfl ho rfl hl.1 rfl (Nat.le_of_ble_eq_true rfl) d_L_isFull_15 ⟨Nat.le_of_ble_eq_true rfl, Nat.le_of_ble_eq_true rfl⟩) (fun v8 h6 z7 H locs cells slots hf hs => ?_)
    refine lv_sipush (v := 400) hx hb d_L_isFull_18 (by decide) ?_
    refine lv_icmp_lt (tgt := 28) hx hb d_L_isFull_21 (by decide) (fun q9 => ?_) (fun q9 => ?_)
    · have hf := ifp q9 hf
      refine lv_iconst (v := 0) hx hb d_L_isFull_28 (by decide) ?_
      exact r_zreturn C hs hr d_L_isFull_29 hf
    · have hf := ifn q9 hf
      refine lv_iconst (v := 1) hx hb d_L_isFull_24 (by decide) ?_
      refine lv_goto (tgt := 29) hx hb d_L_isFull_25 (by decide) ?_
      exact r_zreturn C hs hr d_L_isFull_29 hf
def f_E_ofProducer (bs : Nat) (sE : Nat × Nat) (h : HH) (z : Z3) (x0 : Nat) (x1 : Int32) (x2 : Int32) : Option RS :=
  (nO z 6).bind fun _ =>
  (some (va_up h z.1 (some (.inl (0, dfl 0))))).bind fun h1 =>
  (some (nZ z 6)).bind fun z2 =>
  (gI h1 x0 3 3).bind fun v3 =>
  (gI h1 x0 3 0).bind fun v4 =>
  (gI h1 x0 3 2).bind fun v5 =>
  cV (f_E_ctor bs sE h1 z2 z.1 0 v3 v4 v5 x1 x2) fun h6 z7 =>
  some (.inl (some (.ref z.1)), h6, z7)
set_option maxHeartbeats 4000000 in
set_option maxRecDepth 100000 in
theorem c_E_ofProducer {G : EN} {l : Launch} (hl0 : l.stackTraces = false) {h : HH} {z : Z3} {x0 : Nat} {x1 : Int32} {x2 : Int32} {r : RS} (hf : f_E_ofProducer G.2.2.1 G.2.2.2 h z x0 x1 x2 = some r) : CM G l y_E_ofProducer (.code y_E_ofProducer b_E_ofProducer 3 (some (.object "FencedBroker$Entry"))) 2 46 [.ref x0, .int x1, .int x2] h z r := by
  refine CM.ofW hl0 rfl ?_
  intro p e s m below meth c C hr hex hin hs
  have hx := C.1
  have hb := C.2.1
  refine x_entry (n := 3) (Nat.le_of_ble_eq_true rfl) (fun ls hl => ?_)
  have hl : lv_has ls 3 [(0, .ref x0), (1, .int x1), (2, .int x2)] := hl
  unfold f_E_ofProducer at hf
  refine r_new (ci := 0) C hs rfl (tm (i := 226) (by decide +kernel)) (tm (i := 227) (by decide +kernel)) (tm (i := 19) (by decide +kernel)) d_E_ofProducer_0 hf (fun H hf hs => ?_)
  obtain ⟨h1, eh1, hf⟩ := bd hf
  obtain ⟨z2, ez2, hf⟩ := bd hf
  rw [Option.some.inj eh1, Option.some.inj ez2] at hs
  refine lv_dup hx hb d_E_ofProducer_3 rfl ?_
  refine lv_iconst (v := 0) hx hb d_E_ofProducer_4 (by decide) ?_
  refine lv_aload_n hx hb d_E_ofProducer_5 rfl (lv_at hl 0 rfl) ?_
  refine r_getI C hs fl_E_33 d_E_ofProducer_6 hf (fun v3 hf => ?_)
  refine lv_aload_n hx hb d_E_ofProducer_9 rfl (lv_at hl 0 rfl) ?_
  refine r_getI C hs fl_E_36 d_E_ofProducer_10 hf (fun v4 hf => ?_)
  refine lv_aload_n hx hb d_E_ofProducer_13 rfl (lv_at hl 0 rfl) ?_
  refine r_getI C hs fl_E_37 d_E_ofProducer_14 hf (fun v5 hf => ?_)
  refine lv_iload_n hx hb d_E_ofProducer_17 rfl (lv_at hl 1 rfl) ?_
  refine lv_iload_n hx hb d_E_ofProducer_18 rfl (lv_at hl 2 rfl) ?_
  refine k_V C hs hex hf (fun res e1 => iv_I (b := z.1) (As := [.int 0, .int v3, .int v4, .int v5, .int x1, .int x2]) (rest := [.ref z.1]) C hs ci_E_30 (c_E_ctor hl0 e1) rfl hl.1 rfl (Nat.le_of_ble_eq_true rfl) d_E_ofProducer_19 ⟨Nat.le_of_ble_eq_true rfl, Nat.le_of_ble_eq_true rfl⟩) (fun h6 z7 H locs cells slots hf hs => ?_)
  exact r_areturn C hs hr (Or.inl ⟨_, rfl⟩) d_E_ofProducer_22 hf
def f_P_touch (bs : Nat) (sE : Nat × Nat) (h : HH) (z : Z3) (x0 : Nat) (x1 : Int32) : Option RS :=
  (gI h x0 3 5).bind fun v1 =>
  (pV bs h x0 3 5 (.inl (v1 ||| (1 <<< (x1 &&& 31))))).bind fun h2 =>
  some (.inl none, h2, z)
set_option maxHeartbeats 4000000 in
set_option maxRecDepth 100000 in
theorem c_P_touch {G : EN} {l : Launch} (hl0 : l.stackTraces = false) {h : HH} {z : Z3} {x0 : Nat} {x1 : Int32} {r : RS} (hf : f_P_touch G.2.2.1 G.2.2.2 h z x0 x1 = some r) : CM G l y_P_touch (.code y_P_touch b_P_touch 2 none) 0 0 [.ref x0, .int x1] h z r := by
  refine CM.ofW hl0 rfl ?_
  intro p e s m below meth c C hr hex hin hs
  have hx := C.1
  have hb := C.2.1
  refine x_entry (n := 2) (Nat.le_of_ble_eq_true rfl) (fun ls hl => ?_)
  have hl : lv_has ls 2 [(0, .ref x0), (1, .int x1)] := hl
  unfold f_P_touch at hf
  refine lv_aload_n hx hb d_P_touch_0 rfl (lv_at hl 0 rfl) ?_
  refine lv_dup hx hb d_P_touch_1 rfl ?_
  refine r_getI C hs fl_P_24 d_P_touch_2 hf (fun v1 hf => ?_)
  refine lv_iconst (v := 1) hx hb d_P_touch_5 (by decide) ?_
  refine lv_iload_n hx hb d_P_touch_6 rfl (lv_at hl 1 rfl) ?_
  refine lv_ishl hx hb d_P_touch_7 ?_
  refine lv_ior hx hb d_P_touch_8 ?_
  refine r_putV (v := (.inl (v1 ||| (1 <<< (x1 &&& 31))))) C hs flp_P_24 rfl rfl d_P_touch_9 hf (fun h2 H locs hf hs => ?_)
  exact r_vreturn C hs hr d_P_touch_12 hf
def fb_P_putPending_L28 (bs : Nat) (sE : Nat × Nat) (REC : HH → Z3 → Int32 → Nat → Int32 → Int32 → Option RS) (h : HH) (z : Z3) (x4 : Int32) (x5 : Nat) (x6 : Int32) (x7 : Int32) : Option RS :=
  if x6 ≤ x7 then
    (some (.inl (some (.int x4)), h, z))
  else
    ((aI h x5 0 x7).bind fun v6 =>
    if v6 = (-1) then
      (REC h z x4 x5 x6 (x7 + 1))
    else
      (REC h z (x4 + 1) x5 x6 (x7 + 1)))
def f_P_putPending_L28 (bs : Nat) (sE : Nat × Nat) : Nat → HH → Z3 → Int32 → Nat → Int32 → Int32 → Option RS
  | 0 => fun _ _ _ _ _ _ => none
  | n + 1 => fb_P_putPending_L28 bs sE (f_P_putPending_L28 bs sE n)
set_option maxHeartbeats 4000000 in
set_option maxRecDepth 100000 in
theorem t_P_putPending_L28 {G : EN} {p : Program} {l : Launch} {e : Env} {s : State} {m : MethodId} {args : Array Value} {below : List Frame} {meth : Method} {c : Code} {z0 : Z3} (hl0 : l.stackTraces = false) (C : CX G p l s m meth c b_P_putPending 9 y_P_putPending.cls) (hr : meth.sig.returnType = (some .int)) (hex : c.exceptionTable.toList = []) {r : RS} :
    ∀ (n : Nat) (h : HH) (z : Z3) (x4 : Int32) (x5 : Nat) (x6 : Int32) (x7 : Int32), f_P_putPending_L28 G.2.2.1 G.2.2.2 n h z x4 x5 x6 x7 = some r → ∀ (H : Heap) (locs : List Loc) (cells slots : Nat) (ls : Array Slot), ST G (RM 0 0 z0) s h z H locs cells slots → lv_has ls 9 [(4, .int x4), (5, .ref x5), (6, .int x6), (7, .int x7)] → W p l e (RM 0 0 z0) s m args below meth c H locs cells slots (MX G below s r (RM 0 0 z0).cells (RM 0 0 z0).slots) (F0 m 28 ls []) := by
  have hx := C.1
  have hb := C.2.1
  intro n
  induction n with
  | zero => intro h z x4 x5 x6 x7 hf; exact nomatch (show (none : Option RS) = some r from hf)
  | succ n ih =>
    intro h z x4 x5 x6 x7 hf H locs cells slots ls hs hl
    have hf : fb_P_putPending_L28 G.2.2.1 G.2.2.2 (f_P_putPending_L28 G.2.2.1 G.2.2.2 n) h z x4 x5 x6 x7 = some r := hf
    unfold fb_P_putPending_L28 at hf
    refine lv_iload hx hb d_P_putPending_28 (lv_at hl 3 rfl) ?_
    refine lv_iload hx hb d_P_putPending_30 (lv_at hl 2 rfl) ?_
    refine lv_icmp_ge (tgt := 57) hx hb d_P_putPending_32 (by decide) (fun q5 => ?_) (fun q5 => ?_)
    · have hf := ifp q5 hf
      refine lv_iload hx hb d_P_putPending_57 (lv_at hl 0 rfl) ?_
      exact r_ireturn C hs hr d_P_putPending_59 hf
    · have hf := ifn q5 hf
      refine lv_aload hx hb d_P_putPending_35 (lv_at hl 1 rfl) ?_
      refine lv_iload hx hb d_P_putPending_37 (lv_at hl 3 rfl) ?_
      refine r_iald C hs d_P_putPending_39 hf (fun v6 hf => ?_)
      refine lv_istore (lv' := [(8, .int v6), (4, .int x4), (5, .ref x5), (6, .int x6), (7, .int x7)]) hx hb d_P_putPending_40 hl (by decide) rfl (fun ls hl => ?_)
      refine lv_iload hx hb d_P_putPending_42 (lv_at hl 0 rfl) ?_
      refine lv_iconst (v := (-1)) hx hb d_P_putPending_44 (by decide) ?_
      refine lv_icmp_eq (tgt := 51) hx hb d_P_putPending_45 (by decide) (fun q7 => ?_) (fun q7 => ?_)
      · have hf := ifp q7 hf
        refine lv_iinc (v := x7 + 1) (lv' := [(7, .int (x7 + 1)), (8, .int v6), (4, .int x4), (5, .ref x5), (6, .int x6)]) hx hb d_P_putPending_51 hl (k := 4) rfl rfl (by decide) rfl (fun ls hl => ?_)
        refine lv_goto (tgt := 28) hx hb d_P_putPending_54 (by decide) ?_
        exact ih _ _ _ _ _ _ hf _ _ _ _ _ hs (lv_sub hl [2, 3, 4, 0] rfl)
      · have hf := ifn q7 hf
        refine lv_iinc (v := x4 + 1) (lv' := [(4, .int (x4 + 1)), (8, .int v6), (5, .ref x5), (6, .int x6), (7, .int x7)]) hx hb d_P_putPending_48 hl (k := 1) rfl rfl (by decide) rfl (fun ls hl => ?_)
        refine lv_iinc (v := x7 + 1) (lv' := [(7, .int (x7 + 1)), (4, .int (x4 + 1)), (8, .int v6), (5, .ref x5), (6, .int x6)]) hx hb d_P_putPending_51 hl (k := 4) rfl rfl (by decide) rfl (fun ls hl => ?_)
        refine lv_goto (tgt := 28) hx hb d_P_putPending_54 (by decide) ?_
        exact ih _ _ _ _ _ _ hf _ _ _ _ _ hs (lv_sub hl [1, 3, 4, 0] rfl)
def f_P_putPending (bs : Nat) (sE : Nat × Nat) (h : HH) (z : Z3) (x0 : Nat) (x1 : Int32) (x2 : Int32) (x3 : Int32) : Option RS :=
  (gR h x0 3 6).bind fun v1 =>
  (aIs bs h v1 0 ((x1 * 4) + x2) x3).bind fun h2 =>
  (gR h2 x0 3 6).bind fun v3 =>
  (aN h2 v3).bind fun v4 =>
  f_P_putPending_L28 bs sE FU h2 z 0 v3 v4 0
set_option maxHeartbeats 4000000 in
set_option maxRecDepth 100000 in
theorem c_P_putPending {G : EN} {l : Launch} (hl0 : l.stackTraces = false) {h : HH} {z : Z3} {x0 : Nat} {x1 : Int32} {x2 : Int32} {x3 : Int32} {r : RS} (hf : f_P_putPending G.2.2.1 G.2.2.2 h z x0 x1 x2 x3 = some r) : CM G l y_P_putPending (.code y_P_putPending b_P_putPending 9 (some .int)) 0 0 [.ref x0, .int x1, .int x2, .int x3] h z r := by
  refine CM.ofW hl0 rfl ?_
  intro p e s m below meth c C hr hex hin hs
  have hx := C.1
  have hb := C.2.1
  refine x_entry (n := 9) (Nat.le_of_ble_eq_true rfl) (fun ls hl => ?_)
  have hl : lv_has ls 9 [(0, .ref x0), (1, .int x1), (2, .int x2), (3, .int x3)] := hl
  unfold f_P_putPending at hf
  refine lv_aload_n hx hb d_P_putPending_0 rfl (lv_at hl 0 rfl) ?_
  refine r_getR C hs fl_P_27 d_P_putPending_1 hf (fun v1 hf => ?_)
  refine lv_iload_n hx hb d_P_putPending_4 rfl (lv_at hl 1 rfl) ?_
  refine lv_iconst (v := 4) hx hb d_P_putPending_5 (by decide) ?_
  refine lv_imul hx hb d_P_putPending_6 ?_
  refine lv_iload_n hx hb d_P_putPending_7 rfl (lv_at hl 2 rfl) ?_
  refine lv_iadd hx hb d_P_putPending_8 ?_
  refine lv_iload_n hx hb d_P_putPending_9 rfl (lv_at hl 3 rfl) ?_
  refine r_iast C hs d_P_putPending_10 hf (fun h2 H locs hf hs => ?_)
  refine lv_iconst (v := 0) hx hb d_P_putPending_11 (by decide) ?_
  refine lv_istore (lv' := [(4, .int 0), (0, .ref x0), (1, .int x1), (2, .int x2), (3, .int x3)]) hx hb d_P_putPending_12 hl (by decide) rfl (fun ls hl => ?_)
  refine lv_aload_n hx hb d_P_putPending_14 rfl (lv_at hl 1 rfl) ?_
  refine r_getR C hs fl_P_27 d_P_putPending_15 hf (fun v3 hf => ?_)
  refine lv_astore (lv' := [(5, .ref v3), (4, .int 0), (0, .ref x0), (1, .int x1), (2, .int x2), (3, .int x3)]) hx hb d_P_putPending_18 hl (by decide) rfl (fun ls hl => ?_)
  refine lv_aload hx hb d_P_putPending_20 (lv_at hl 0 rfl) ?_
  refine r_alen C hs d_P_putPending_22 hf (fun v4 hf => ?_)
  refine lv_istore (lv' := [(6, .int v4), (5, .ref v3), (4, .int 0), (0, .ref x0), (1, .int x1), (2, .int x2), (3, .int x3)]) hx hb d_P_putPending_23 hl (by decide) rfl (fun ls hl => ?_)
  refine lv_iconst (v := 0) hx hb d_P_putPending_25 (by decide) ?_
  refine lv_istore (lv' := [(7, .int 0), (6, .int v4), (5, .ref v3), (4, .int 0), (0, .ref x0), (1, .int x1), (2, .int x2), (3, .int x3)]) hx hb d_P_putPending_26 hl (by decide) rfl (fun ls hl => ?_)
  exact t_P_putPending_L28 hl0 C hr hex FU _ _ _ _ _ _ hf _ _ _ _ _ hs (lv_sub hl [3, 2, 1, 0] rfl)
def f_E_isData (bs : Nat) (sE : Nat × Nat) (h : HH) (z : Z3) (x0 : Nat) : Option RS :=
  (gI h x0 0 0).bind fun v1 =>
  if v1 = 0 then
    ((bz 1).bind fun _ =>
    some (.inl (some (.int 1)), h, z))
  else
    ((bz 0).bind fun _ =>
    some (.inl (some (.int 0)), h, z))
set_option maxHeartbeats 4000000 in
set_option maxRecDepth 100000 in
theorem c_E_isData {G : EN} {l : Launch} (hl0 : l.stackTraces = false) {h : HH} {z : Z3} {x0 : Nat} {r : RS} (hf : f_E_isData G.2.2.1 G.2.2.2 h z x0 = some r) : CM G l y_E_isData (.code y_E_isData b_E_isData 1 (some .boolean)) 0 0 [.ref x0] h z r := by
  refine CM.ofW hl0 rfl ?_
  intro p e s m below meth c C hr hex hin hs
  have hx := C.1
  have hb := C.2.1
  refine x_entry (n := 1) (Nat.le_of_ble_eq_true rfl) (fun ls hl => ?_)
  have hl : lv_has ls 1 [(0, .ref x0)] := hl
  unfold f_E_isData at hf
  refine lv_aload_n hx hb d_E_isData_0 rfl (lv_at hl 0 rfl) ?_
  refine r_getI C hs fl_E_9 d_E_isData_1 hf (fun v1 hf => ?_)
  refine lv_if_ne (tgt := 11) hx hb d_E_isData_4 (by decide) (fun q2 => ?_) (fun q2 => ?_)
  · have hf := ifn q2 hf
    refine lv_iconst (v := 0) hx hb d_E_isData_11 (by decide) ?_
    exact r_zreturn C hs hr d_E_isData_12 hf
  · have hf := ifp q2 hf
    refine lv_iconst (v := 1) hx hb d_E_isData_7 (by decide) ?_
    refine lv_goto (tgt := 12) hx hb d_E_isData_8 (by decide) ?_
    exact r_zreturn C hs hr d_E_isData_12 hf
def fb_L_hasUncopied_L5 (bs : Nat) (sE : Nat × Nat) (REC : HH → Z3 → Nat → Int32 → Int32 → Option RS) (h : HH) (z : Z3) (x0 : Nat) (x1 : Int32) (x2 : Int32) : Option RS :=
  (oK h x0 2).bind fun _ =>
  cI (f_L_length bs sE h z x0) fun v4 h2 z3 =>
  if v4 ≤ x2 then
    ((bz 0).bind fun _ =>
    some (.inl (some (.int 0)), h2, z3))
  else
    ((gR h2 x0 2 0).bind fun v6 =>
    (oK h2 v6 5).bind fun _ =>
    cR (f_A_get bs sE h2 z3 v6 x2) fun v9 h7 z8 =>
    (oK h7 v9 0).bind fun _ =>
    (oK h7 v9 0).bind fun _ =>
    cI (f_E_isData bs sE h7 z8 v9) fun v12 h10 z11 =>
    if v12 = 0 then
      (REC h10 z11 x0 x1 (x2 + 1))
    else
      ((gI h10 v9 0 1).bind fun v14 =>
      if v14 = x1 then
        ((bz 1).bind fun _ =>
        some (.inl (some (.int 1)), h10, z11))
      else
        (REC h10 z11 x0 x1 (x2 + 1))))
def f_L_hasUncopied_L5 (bs : Nat) (sE : Nat × Nat) : Nat → HH → Z3 → Nat → Int32 → Int32 → Option RS
  | 0 => fun _ _ _ _ _ => none
  | n + 1 => fb_L_hasUncopied_L5 bs sE (f_L_hasUncopied_L5 bs sE n)
set_option maxHeartbeats 4000000 in
set_option maxRecDepth 100000 in
theorem t_L_hasUncopied_L5 {G : EN} {p : Program} {l : Launch} {e : Env} {s : State} {m : MethodId} {args : Array Value} {below : List Frame} {meth : Method} {c : Code} {z0 : Z3} (hl0 : l.stackTraces = false) (C : CX G p l s m meth c b_L_hasUncopied 4 y_L_hasUncopied.cls) (hr : meth.sig.returnType = (some .boolean)) (hex : c.exceptionTable.toList = []) {r : RS} :
    ∀ (n : Nat) (h : HH) (z : Z3) (x0 : Nat) (x1 : Int32) (x2 : Int32), f_L_hasUncopied_L5 G.2.2.1 G.2.2.2 n h z x0 x1 x2 = some r → ∀ (H : Heap) (locs : List Loc) (cells slots : Nat) (ls : Array Slot), ST G (RM 3 64 z0) s h z H locs cells slots → lv_has ls 4 [(0, .ref x0), (1, .int x1), (2, .int x2)] → W p l e (RM 3 64 z0) s m args below meth c H locs cells slots (MX G below s r (RM 3 64 z0).cells (RM 3 64 z0).slots) (F0 m 5 ls []) := by
  have hx := C.1
  have hb := C.2.1
  intro n
  induction n with
  | zero => intro h z x0 x1 x2 hf; exact nomatch (show (none : Option RS) = some r from hf)
  | succ n ih =>
    intro h z x0 x1 x2 hf H locs cells slots ls hs hl
    have hf : fb_L_hasUncopied_L5 G.2.2.1 G.2.2.2 (f_L_hasUncopied_L5 G.2.2.1 G.2.2.2 n) h z x0 x1 x2 = some r := hf
    unfold fb_L_hasUncopied_L5 at hf
    refine lv_iload_n hx hb d_L_hasUncopied_5 rfl (lv_at hl 2 rfl) ?_
    refine lv_aload_n hx hb d_L_hasUncopied_6 rfl (lv_at hl 0 rfl) ?_
    obtain ⟨_, ho, hf⟩ := bd hf
    refine k_I C hs hex hf (fun res e1 => iv_V (b := x0) (As := []) (rest := [.int x2]) C hs cv_L_39 (c_L_length hl0 e1) (ci := 2) rfl rfl ho rfl hl.1 rfl (Nat.le_of_ble_eq_true rfl) d_L_hasUncopied_7 ⟨Nat.le_of_ble_eq_true rfl, Nat.le_of_ble_eq_true rfl⟩) (fun v4 h2 z3 H locs cells slots hf hs => ?_)
    refine lv_icmp_ge (tgt := 48) hx hb d_L_hasUncopied_10 (by decide) (fun q5 => ?_) (fun q5 => ?_)
    · have hf := ifp q5 hf
      refine lv_iconst (v := 0) hx hb d_L_hasUncopied_48 (by decide) ?_
      exact r_zreturn C hs hr d_L_hasUncopied_49 hf
    · have hf := ifn q5 hf
      refine lv_aload_n hx hb d_L_hasUncopied_13 rfl (lv_at hl 0 rfl) ?_
      refine r_getR C hs fl_L_12 d_L_hasUncopied_14 hf (fun v6 hf => ?_)
      refine lv_iload_n hx hb d_L_hasUncopied_17 rfl (lv_at hl 2 rfl) ?_
      obtain ⟨_, ho, hf⟩ := bd hf
      refine k_R C hs hex hf (fun res e1 => iv_V (b := v6) (As := [.int x2]) (rest := []) C hs cv_L_63 (c_A_get hl0 e1) (ci := 5) rfl rfl ho rfl hl.1 rfl (Nat.le_of_ble_eq_true rfl) d_L_hasUncopied_18 ⟨Nat.le_of_ble_eq_true rfl, Nat.le_of_ble_eq_true rfl⟩) (fun v9 h7 z8 H locs cells slots hf hs => ?_)
      refine r_cast (ci := 0) C hs rfl (tm (i := 515) (by decide +kernel)) (tm (i := 1036) (by decide +kernel)) d_L_hasUncopied_21 hf (fun hf => ?_)
      refine lv_astore_n (lv' := [(3, .ref v9), (0, .ref x0), (1, .int x1), (2, .int x2)]) hx hb d_L_hasUncopied_24 rfl hl (by decide) rfl (fun ls hl => ?_)
      refine lv_aload_n hx hb d_L_hasUncopied_25 rfl (lv_at hl 0 rfl) ?_
      obtain ⟨_, ho, hf⟩ := bd hf
      refine k_I C hs hex hf (fun res e1 => iv_V (b := v9) (As := []) (rest := []) C hs cv_L_70 (c_E_isData hl0 e1) (ci := 0) rfl rfl ho rfl hl.1 rfl (Nat.le_of_ble_eq_true rfl) d_L_hasUncopied_26 ⟨Nat.le_of_ble_eq_true rfl, Nat.le_of_ble_eq_true rfl⟩) (fun v12 h10 z11 H locs cells slots hf hs => ?_)
      refine lv_if_eq (tgt := 42) hx hb d_L_hasUncopied_29 (by decide) (fun q13 => ?_) (fun q13 => ?_)
      · have hf := ifp q13 hf
        refine lv_iinc (v := x2 + 1) (lv' := [(2, .int (x2 + 1)), (3, .ref v9), (0, .ref x0), (1, .int x1)]) hx hb d_L_hasUncopied_42 hl (k := 3) rfl rfl (by decide) rfl (fun ls hl => ?_)
        refine lv_goto (tgt := 5) hx hb d_L_hasUncopied_45 (by decide) ?_
        exact ih _ _ _ _ _ hf _ _ _ _ _ hs (lv_sub hl [2, 3, 0] rfl)
      · have hf := ifn q13 hf
        refine lv_aload_n hx hb d_L_hasUncopied_32 rfl (lv_at hl 0 rfl) ?_
        refine r_getI C hs fl_L_74 d_L_hasUncopied_33 hf (fun v14 hf => ?_)
        refine lv_iload_n hx hb d_L_hasUncopied_36 rfl (lv_at hl 2 rfl) ?_
        refine lv_icmp_ne (tgt := 42) hx hb d_L_hasUncopied_37 (by decide) (fun q15 => ?_) (fun q15 => ?_)
        · have hf := ifn q15 hf
          refine lv_iinc (v := x2 + 1) (lv' := [(2, .int (x2 + 1)), (3, .ref v9), (0, .ref x0), (1, .int x1)]) hx hb d_L_hasUncopied_42 hl (k := 3) rfl rfl (by decide) rfl (fun ls hl => ?_)
          refine lv_goto (tgt := 5) hx hb d_L_hasUncopied_45 (by decide) ?_
          exact ih _ _ _ _ _ hf _ _ _ _ _ hs (lv_sub hl [2, 3, 0] rfl)
        · have hf := ifp q15 hf
          refine lv_iconst (v := 1) hx hb d_L_hasUncopied_40 (by decide) ?_
          exact r_zreturn C hs hr d_L_hasUncopied_41 hf
def f_L_hasUncopied (bs : Nat) (sE : Nat × Nat) (h : HH) (z : Z3) (x0 : Nat) (x1 : Int32) : Option RS :=
  (gI h x0 2 3).bind fun v1 =>
  f_L_hasUncopied_L5 bs sE FU h z x0 x1 v1
set_option maxHeartbeats 4000000 in
set_option maxRecDepth 100000 in
theorem c_L_hasUncopied {G : EN} {l : Launch} (hl0 : l.stackTraces = false) {h : HH} {z : Z3} {x0 : Nat} {x1 : Int32} {r : RS} (hf : f_L_hasUncopied G.2.2.1 G.2.2.2 h z x0 x1 = some r) : CM G l y_L_hasUncopied (.code y_L_hasUncopied b_L_hasUncopied 4 (some .boolean)) 3 64 [.ref x0, .int x1] h z r := by
  refine CM.ofW hl0 rfl ?_
  intro p e s m below meth c C hr hex hin hs
  have hx := C.1
  have hb := C.2.1
  refine x_entry (n := 4) (Nat.le_of_ble_eq_true rfl) (fun ls hl => ?_)
  have hl : lv_has ls 4 [(0, .ref x0), (1, .int x1)] := hl
  unfold f_L_hasUncopied at hf
  refine lv_aload_n hx hb d_L_hasUncopied_0 rfl (lv_at hl 0 rfl) ?_
  refine r_getI C hs fl_L_26 d_L_hasUncopied_1 hf (fun v1 hf => ?_)
  refine lv_istore_n (lv' := [(2, .int v1), (0, .ref x0), (1, .int x1)]) hx hb d_L_hasUncopied_4 rfl hl (by decide) rfl (fun ls hl => ?_)
  exact t_L_hasUncopied_L5 hl0 C hr hex FU _ _ _ _ _ hf _ _ _ _ _ hs (lv_sub hl [1, 2, 0] rfl)
def f_P_startEnding (bs : Nat) (sE : Nat × Nat) (h : HH) (z : Z3) (x0 : Nat) (x1 : Int32) : Option RS :=
  if x1 = 0 then
    ((pV bs h x0 3 1 (.inl 3)).bind fun h2 =>
    some (.inl none, h2, z))
  else
    ((pV bs h x0 3 1 (.inl 2)).bind fun h3 =>
    some (.inl none, h3, z))
set_option maxHeartbeats 4000000 in
set_option maxRecDepth 100000 in
theorem c_P_startEnding {G : EN} {l : Launch} (hl0 : l.stackTraces = false) {h : HH} {z : Z3} {x0 : Nat} {x1 : Int32} {r : RS} (hf : f_P_startEnding G.2.2.1 G.2.2.2 h z x0 x1 = some r) : CM G l y_P_startEnding (.code y_P_startEnding b_P_startEnding 2 none) 0 0 [.ref x0, .int x1] h z r := by
  refine CM.ofW hl0 rfl ?_
  intro p e s m below meth c C hr hex hin hs
  have hx := C.1
  have hb := C.2.1
  refine x_entry (n := 2) (Nat.le_of_ble_eq_true rfl) (fun ls hl => ?_)
  have hl : lv_has ls 2 [(0, .ref x0), (1, .int x1)] := hl
  unfold f_P_startEnding at hf
  refine lv_aload_n hx hb d_P_startEnding_0 rfl (lv_at hl 0 rfl) ?_
  refine lv_iload_n hx hb d_P_startEnding_1 rfl (lv_at hl 1 rfl) ?_
  refine lv_if_eq (tgt := 9) hx hb d_P_startEnding_2 (by decide) (fun q1 => ?_) (fun q1 => ?_)
  · have hf := ifp q1 hf
    refine lv_iconst (v := 3) hx hb d_P_startEnding_9 (by decide) ?_
    refine r_putV (v := (.inl 3)) C hs flp_P_11 rfl rfl d_P_startEnding_10 hf (fun h2 H locs hf hs => ?_)
    exact r_vreturn C hs hr d_P_startEnding_13 hf
  · have hf := ifn q1 hf
    refine lv_iconst (v := 2) hx hb d_P_startEnding_5 (by decide) ?_
    refine lv_goto (tgt := 10) hx hb d_P_startEnding_6 (by decide) ?_
    refine r_putV (v := (.inl 2)) C hs flp_P_11 rfl rfl d_P_startEnding_10 hf (fun h3 H locs hf hs => ?_)
    exact r_vreturn C hs hr d_P_startEnding_13 hf
def f_E_ofPlain (bs : Nat) (sE : Nat × Nat) (h : HH) (z : Z3) (x0 : Int32) : Option RS :=
  (nO z 6).bind fun _ =>
  (some (va_up h z.1 (some (.inl (0, dfl 0))))).bind fun h1 =>
  (some (nZ z 6)).bind fun z2 =>
  cV (f_E_ctor bs sE h1 z2 z.1 0 0 (-1) (-1) (-1) x0) fun h3 z4 =>
  some (.inl (some (.ref z.1)), h3, z4)
set_option maxHeartbeats 4000000 in
set_option maxRecDepth 100000 in
theorem c_E_ofPlain {G : EN} {l : Launch} (hl0 : l.stackTraces = false) {h : HH} {z : Z3} {x0 : Int32} {r : RS} (hf : f_E_ofPlain G.2.2.1 G.2.2.2 h z x0 = some r) : CM G l y_E_ofPlain (.code y_E_ofPlain b_E_ofPlain 1 (some (.object "FencedBroker$Entry"))) 2 46 [.int x0] h z r := by
  refine CM.ofW hl0 rfl ?_
  intro p e s m below meth c C hr hex hin hs
  have hx := C.1
  have hb := C.2.1
  refine x_entry (n := 1) (Nat.le_of_ble_eq_true rfl) (fun ls hl => ?_)
  have hl : lv_has ls 1 [(0, .int x0)] := hl
  unfold f_E_ofPlain at hf
  refine r_new (ci := 0) C hs rfl (tm (i := 226) (by decide +kernel)) (tm (i := 227) (by decide +kernel)) (tm (i := 19) (by decide +kernel)) d_E_ofPlain_0 hf (fun H hf hs => ?_)
  obtain ⟨h1, eh1, hf⟩ := bd hf
  obtain ⟨z2, ez2, hf⟩ := bd hf
  rw [Option.some.inj eh1, Option.some.inj ez2] at hs
  refine lv_dup hx hb d_E_ofPlain_3 rfl ?_
  refine lv_iconst (v := 0) hx hb d_E_ofPlain_4 (by decide) ?_
  refine lv_iconst (v := 0) hx hb d_E_ofPlain_5 (by decide) ?_
  refine lv_iconst (v := (-1)) hx hb d_E_ofPlain_6 (by decide) ?_
  refine lv_iconst (v := (-1)) hx hb d_E_ofPlain_7 (by decide) ?_
  refine lv_iconst (v := (-1)) hx hb d_E_ofPlain_8 (by decide) ?_
  refine lv_iload_n hx hb d_E_ofPlain_9 rfl (lv_at hl 0 rfl) ?_
  refine k_V C hs hex hf (fun res e1 => iv_I (b := z.1) (As := [.int 0, .int 0, .int (-1), .int (-1), .int (-1), .int x0]) (rest := [.ref z.1]) C hs ci_E_30 (c_E_ctor hl0 e1) rfl hl.1 rfl (Nat.le_of_ble_eq_true rfl) d_E_ofPlain_10 ⟨Nat.le_of_ble_eq_true rfl, Nat.le_of_ble_eq_true rfl⟩) (fun h3 z4 H locs cells slots hf hs => ?_)
  exact r_areturn C hs hr (Or.inl ⟨_, rfl⟩) d_E_ofPlain_13 hf
def f_L_raiseHigh (bs : Nat) (sE : Nat × Nat) (h : HH) (z : Z3) (x0 : Nat) (x1 : Int32) : Option RS :=
  (gI h x0 2 3).bind fun v1 =>
  (oK h x0 2).bind fun _ =>
  cI (f_L_length bs sE h z x0) fun v4 h2 z3 =>
  (pV bs h2 x0 2 3 (.inl (if v4 < (v1 + x1) then v4 else (v1 + x1)))).bind fun h5 =>
  (gI h5 x0 2 3).bind fun v6 =>
  some (.inl (some (.int v6)), h5, z3)
set_option maxHeartbeats 4000000 in
set_option maxRecDepth 100000 in
theorem c_L_raiseHigh {G : EN} {l : Launch} (hl0 : l.stackTraces = false) {h : HH} {z : Z3} {x0 : Nat} {x1 : Int32} {r : RS} (hf : f_L_raiseHigh G.2.2.1 G.2.2.2 h z x0 x1 = some r) : CM G l y_L_raiseHigh (.code y_L_raiseHigh b_L_raiseHigh 2 (some .int)) 2 40 [.ref x0, .int x1] h z r := by
  refine CM.ofW hl0 rfl ?_
  intro p e s m below meth c C hr hex hin hs
  have hx := C.1
  have hb := C.2.1
  refine x_entry (n := 2) (Nat.le_of_ble_eq_true rfl) (fun ls hl => ?_)
  have hl : lv_has ls 2 [(0, .ref x0), (1, .int x1)] := hl
  unfold f_L_raiseHigh at hf
  refine lv_aload_n hx hb d_L_raiseHigh_0 rfl (lv_at hl 0 rfl) ?_
  refine lv_aload_n hx hb d_L_raiseHigh_1 rfl (lv_at hl 0 rfl) ?_
  refine r_getI C hs fl_L_26 d_L_raiseHigh_2 hf (fun v1 hf => ?_)
  refine lv_iload_n hx hb d_L_raiseHigh_5 rfl (lv_at hl 1 rfl) ?_
  refine lv_iadd hx hb d_L_raiseHigh_6 ?_
  refine lv_aload_n hx hb d_L_raiseHigh_7 rfl (lv_at hl 0 rfl) ?_
  obtain ⟨_, ho, hf⟩ := bd hf
  refine k_I C hs hex hf (fun res e1 => iv_V (b := x0) (As := []) (rest := [.int (v1 + x1), .ref x0]) C hs cv_L_39 (c_L_length hl0 e1) (ci := 2) rfl rfl ho rfl hl.1 rfl (Nat.le_of_ble_eq_true rfl) d_L_raiseHigh_8 ⟨Nat.le_of_ble_eq_true rfl, Nat.le_of_ble_eq_true rfl⟩) (fun v4 h2 z3 H locs cells slots hf hs => ?_)
  refine r_mmin C hs hl.1 (tm (i := 621) (by decide +kernel)) (tm (i := 311) (by decide +kernel)) (tm (i := 21) (by decide +kernel)) (tm (i := 312) (by decide +kernel)) ⟨Nat.le_of_ble_eq_true rfl, Nat.le_of_ble_eq_true rfl⟩ d_L_raiseHigh_11 ?_
  refine r_putV (v := (.inl (if v4 < (v1 + x1) then v4 else (v1 + x1)))) C hs flp_L_26 rfl rfl d_L_raiseHigh_14 hf (fun h5 H locs hf hs => ?_)
  refine lv_aload_n hx hb d_L_raiseHigh_17 rfl (lv_at hl 0 rfl) ?_
  refine r_getI C hs fl_L_26 d_L_raiseHigh_18 hf (fun v6 hf => ?_)
  exact r_ireturn C hs hr d_L_raiseHigh_21 hf
def fb_L_dropUncopied_L17 (bs : Nat) (sE : Nat × Nat) (REC : HH → Z3 → Nat → Int32 → Int32 → Option RS) (h : HH) (z : Z3) (x0 : Nat) (x1 : Int32) (x2 : Int32) : Option RS :=
  (gI h x0 2 3).bind fun v8 =>
  if x2 < v8 then
    (some (.inl (some (.int x1)), h, z))
  else
    ((gR h x0 2 0).bind fun v10 =>
    (oK h v10 5).bind fun _ =>
    cR (f_A_remove bs sE h z v10 x2) fun v13 h11 z12 =>
    (oK h11 v13 0).bind fun _ =>
    (oK h11 v13 0).bind fun _ =>
    cI (f_E_isData bs sE h11 z12 v13) fun v16 h14 z15 =>
    if v16 = 0 then
      ((gR h14 x0 2 1).bind fun v18 =>
      (gI h14 v13 0 1).bind fun v19 =>
      (aIs bs h14 v18 0 v19 (-1)).bind fun h20 =>
      REC h20 z15 x0 x1 (x2 + (-1)))
    else
      (REC h14 z15 x0 x1 (x2 + (-1))))
def f_L_dropUncopied_L17 (bs : Nat) (sE : Nat × Nat) : Nat → HH → Z3 → Nat → Int32 → Int32 → Option RS
  | 0 => fun _ _ _ _ _ => none
  | n + 1 => fb_L_dropUncopied_L17 bs sE (f_L_dropUncopied_L17 bs sE n)
set_option maxHeartbeats 4000000 in
set_option maxRecDepth 100000 in
theorem t_L_dropUncopied_L17 {G : EN} {p : Program} {l : Launch} {e : Env} {s : State} {m : MethodId} {args : Array Value} {below : List Frame} {meth : Method} {c : Code} {z0 : Z3} (hl0 : l.stackTraces = false) (C : CX G p l s m meth c b_L_dropUncopied 4 y_L_dropUncopied.cls) (hr : meth.sig.returnType = (some .int)) (hex : c.exceptionTable.toList = []) {r : RS} :
    ∀ (n : Nat) (h : HH) (z : Z3) (x0 : Nat) (x1 : Int32) (x2 : Int32), f_L_dropUncopied_L17 G.2.2.1 G.2.2.2 n h z x0 x1 x2 = some r → ∀ (H : Heap) (locs : List Loc) (cells slots : Nat) (ls : Array Slot), ST G (RM 3 66 z0) s h z H locs cells slots → lv_has ls 4 [(0, .ref x0), (1, .int x1), (2, .int x2)] → W p l e (RM 3 66 z0) s m args below meth c H locs cells slots (MX G below s r (RM 3 66 z0).cells (RM 3 66 z0).slots) (F0 m 17 ls []) := by
  have hx := C.1
  have hb := C.2.1
  intro n
  induction n with
  | zero => intro h z x0 x1 x2 hf; exact nomatch (show (none : Option RS) = some r from hf)
  | succ n ih =>
    intro h z x0 x1 x2 hf H locs cells slots ls hs hl
    have hf : fb_L_dropUncopied_L17 G.2.2.1 G.2.2.2 (f_L_dropUncopied_L17 G.2.2.1 G.2.2.2 n) h z x0 x1 x2 = some r := hf
    unfold fb_L_dropUncopied_L17 at hf
    refine lv_iload_n hx hb d_L_dropUncopied_17 rfl (lv_at hl 2 rfl) ?_
    refine lv_aload_n hx hb d_L_dropUncopied_18 rfl (lv_at hl 0 rfl) ?_
    refine r_getI C hs fl_L_26 d_L_dropUncopied_19 hf (fun v8 hf => ?_)
    refine lv_icmp_lt (tgt := 60) hx hb d_L_dropUncopied_22 (by decide) (fun q9 => ?_) (fun q9 => ?_)
    · have hf := ifp q9 hf
      refine lv_iload_n hx hb d_L_dropUncopied_60 rfl (lv_at hl 1 rfl) ?_
      exact r_ireturn C hs hr d_L_dropUncopied_61 hf
    · have hf := ifn q9 hf
      refine lv_aload_n hx hb d_L_dropUncopied_25 rfl (lv_at hl 0 rfl) ?_
      refine r_getR C hs fl_L_12 d_L_dropUncopied_26 hf (fun v10 hf => ?_)
      refine lv_iload_n hx hb d_L_dropUncopied_29 rfl (lv_at hl 2 rfl) ?_
      obtain ⟨_, ho, hf⟩ := bd hf
      refine k_R C hs hex hf (fun res e1 => iv_V (b := v10) (As := [.int x2]) (rest := []) C hs cv_L_94 (c_A_remove hl0 e1) (ci := 5) rfl rfl ho rfl hl.1 rfl (Nat.le_of_ble_eq_true rfl) d_L_dropUncopied_30 ⟨Nat.le_of_ble_eq_true rfl, Nat.le_of_ble_eq_true rfl⟩) (fun v13 h11 z12 H locs cells slots hf hs => ?_)
      refine r_cast (ci := 0) C hs rfl (tm (i := 515) (by decide +kernel)) (tm (i := 1036) (by decide +kernel)) d_L_dropUncopied_33 hf (fun hf => ?_)
      refine lv_astore_n (lv' := [(3, .ref v13), (0, .ref x0), (1, .int x1), (2, .int x2)]) hx hb d_L_dropUncopied_36 rfl hl (by decide) rfl (fun ls hl => ?_)
      refine lv_aload_n hx hb d_L_dropUncopied_37 rfl (lv_at hl 0 rfl) ?_
      obtain ⟨_, ho, hf⟩ := bd hf
      refine k_I C hs hex hf (fun res e1 => iv_V (b := v13) (As := []) (rest := []) C hs cv_L_70 (c_E_isData hl0 e1) (ci := 0) rfl rfl ho rfl hl.1 rfl (Nat.le_of_ble_eq_true rfl) d_L_dropUncopied_38 ⟨Nat.le_of_ble_eq_true rfl, Nat.le_of_ble_eq_true rfl⟩) (fun v16 h14 z15 H locs cells slots hf hs => ?_)
      refine lv_if_ne (tgt := 54) hx hb d_L_dropUncopied_41 (by decide) (fun q17 => ?_) (fun q17 => ?_)
      · have hf := ifn q17 hf
        refine lv_iinc (v := x2 + (-1)) (lv' := [(2, .int (x2 + (-1))), (3, .ref v13), (0, .ref x0), (1, .int x1)]) hx hb d_L_dropUncopied_54 hl (k := 3) rfl rfl (by decide) rfl (fun ls hl => ?_)
        refine lv_goto (tgt := 17) hx hb d_L_dropUncopied_57 (by decide) ?_
        exact ih _ _ _ _ _ hf _ _ _ _ _ hs (lv_sub hl [2, 3, 0] rfl)
      · have hf := ifp q17 hf
        refine lv_aload_n hx hb d_L_dropUncopied_44 rfl (lv_at hl 1 rfl) ?_
        refine r_getR C hs fl_L_18 d_L_dropUncopied_45 hf (fun v18 hf => ?_)
        refine lv_aload_n hx hb d_L_dropUncopied_48 rfl (lv_at hl 0 rfl) ?_
        refine r_getI C hs fl_L_74 d_L_dropUncopied_49 hf (fun v19 hf => ?_)
        refine lv_iconst (v := (-1)) hx hb d_L_dropUncopied_52 (by decide) ?_
        refine r_iast C hs d_L_dropUncopied_53 hf (fun h20 H locs hf hs => ?_)
        refine lv_iinc (v := x2 + (-1)) (lv' := [(2, .int (x2 + (-1))), (3, .ref v13), (0, .ref x0), (1, .int x1)]) hx hb d_L_dropUncopied_54 hl (k := 3) rfl rfl (by decide) rfl (fun ls hl => ?_)
        refine lv_goto (tgt := 17) hx hb d_L_dropUncopied_57 (by decide) ?_
        exact ih _ _ _ _ _ hf _ _ _ _ _ hs (lv_sub hl [2, 3, 0] rfl)
def f_L_dropUncopied (bs : Nat) (sE : Nat × Nat) (h : HH) (z : Z3) (x0 : Nat) : Option RS :=
  (oK h x0 2).bind fun _ =>
  cI (f_L_length bs sE h z x0) fun v3 h1 z2 =>
  (gI h1 x0 2 3).bind fun v4 =>
  (oK h1 x0 2).bind fun _ =>
  cI (f_L_length bs sE h1 z2 x0) fun v7 h5 z6 =>
  f_L_dropUncopied_L17 bs sE FU h5 z6 x0 (v3 - v4) (v7 - 1)
set_option maxHeartbeats 4000000 in
set_option maxRecDepth 100000 in
theorem c_L_dropUncopied {G : EN} {l : Launch} (hl0 : l.stackTraces = false) {h : HH} {z : Z3} {x0 : Nat} {r : RS} (hf : f_L_dropUncopied G.2.2.1 G.2.2.2 h z x0 = some r) : CM G l y_L_dropUncopied (.code y_L_dropUncopied b_L_dropUncopied 4 (some .int)) 3 66 [.ref x0] h z r := by
  refine CM.ofW hl0 rfl ?_
  intro p e s m below meth c C hr hex hin hs
  have hx := C.1
  have hb := C.2.1
  refine x_entry (n := 4) (Nat.le_of_ble_eq_true rfl) (fun ls hl => ?_)
  have hl : lv_has ls 4 [(0, .ref x0)] := hl
  unfold f_L_dropUncopied at hf
  refine lv_aload_n hx hb d_L_dropUncopied_0 rfl (lv_at hl 0 rfl) ?_
  obtain ⟨_, ho, hf⟩ := bd hf
  refine k_I C hs hex hf (fun res e1 => iv_V (b := x0) (As := []) (rest := []) C hs cv_L_39 (c_L_length hl0 e1) (ci := 2) rfl rfl ho rfl hl.1 rfl (Nat.le_of_ble_eq_true rfl) d_L_dropUncopied_1 ⟨Nat.le_of_ble_eq_true rfl, Nat.le_of_ble_eq_true rfl⟩) (fun v3 h1 z2 H locs cells slots hf hs => ?_)
  refine lv_aload_n hx hb d_L_dropUncopied_4 rfl (lv_at hl 0 rfl) ?_
  refine r_getI C hs fl_L_26 d_L_dropUncopied_5 hf (fun v4 hf => ?_)
  refine lv_isub hx hb d_L_dropUncopied_8 ?_
  refine lv_istore_n (lv' := [(1, .int (v3 - v4)), (0, .ref x0)]) hx hb d_L_dropUncopied_9 rfl hl (by decide) rfl (fun ls hl => ?_)
  refine lv_aload_n hx hb d_L_dropUncopied_10 rfl (lv_at hl 1 rfl) ?_
  obtain ⟨_, ho, hf⟩ := bd hf
  refine k_I C hs hex hf (fun res e1 => iv_V (b := x0) (As := []) (rest := []) C hs cv_L_39 (c_L_length hl0 e1) (ci := 2) rfl rfl ho rfl hl.1 rfl (Nat.le_of_ble_eq_true rfl) d_L_dropUncopied_11 ⟨Nat.le_of_ble_eq_true rfl, Nat.le_of_ble_eq_true rfl⟩) (fun v7 h5 z6 H locs cells slots hf hs => ?_)
  refine lv_iconst (v := 1) hx hb d_L_dropUncopied_14 (by decide) ?_
  refine lv_isub hx hb d_L_dropUncopied_15 ?_
  refine lv_istore_n (lv' := [(2, .int (v7 - 1)), (1, .int (v3 - v4)), (0, .ref x0)]) hx hb d_L_dropUncopied_16 rfl hl (by decide) rfl (fun ls hl => ?_)
  exact t_L_dropUncopied_L17 hl0 C hr hex FU _ _ _ _ _ hf _ _ _ _ _ hs (lv_sub hl [2, 1, 0] rfl)
def f_L_isUnended (bs : Nat) (sE : Nat × Nat) (h : HH) (z : Z3) (x0 : Nat) (x1 : Nat) : Option RS :=
  (oK h x1 0).bind fun _ =>
  cI (f_E_isData bs sE h z x1) fun v3 h1 z2 =>
  if v3 = 0 then
    ((bz 0).bind fun _ =>
    some (.inl (some (.int 0)), h1, z2))
  else
    ((gI h1 x1 0 1).bind fun v5 =>
    if v5 = 0 then
      ((bz 0).bind fun _ =>
      some (.inl (some (.int 0)), h1, z2))
    else
      ((gI h1 x1 0 1).bind fun v7 =>
      (oK h1 x0 2).bind fun _ =>
      cI (f_L_hasEnded bs sE h1 z2 x0 v7) fun v10 h8 z9 =>
      if v10 = 0 then
        ((bz 1).bind fun _ =>
        some (.inl (some (.int 1)), h8, z9))
      else
        ((bz 0).bind fun _ =>
        some (.inl (some (.int 0)), h8, z9))))
set_option maxHeartbeats 4000000 in
set_option maxRecDepth 100000 in
theorem c_L_isUnended {G : EN} {l : Launch} (hl0 : l.stackTraces = false) {h : HH} {z : Z3} {x0 : Nat} {x1 : Nat} {r : RS} (hf : f_L_isUnended G.2.2.1 G.2.2.2 h z x0 x1 = some r) : CM G l y_L_isUnended (.code y_L_isUnended b_L_isUnended 2 (some .boolean)) 2 42 [.ref x0, .ref x1] h z r := by
  refine CM.ofW hl0 rfl ?_
  intro p e s m below meth c C hr hex hin hs
  have hx := C.1
  have hb := C.2.1
  refine x_entry (n := 2) (Nat.le_of_ble_eq_true rfl) (fun ls hl => ?_)
  have hl : lv_has ls 2 [(0, .ref x0), (1, .ref x1)] := hl
  unfold f_L_isUnended at hf
  refine lv_aload_n hx hb d_L_isUnended_0 rfl (lv_at hl 1 rfl) ?_
  obtain ⟨_, ho, hf⟩ := bd hf
  refine k_I C hs hex hf (fun res e1 => iv_V (b := x1) (As := []) (rest := []) C hs cv_L_70 (c_E_isData hl0 e1) (ci := 0) rfl rfl ho rfl hl.1 rfl (Nat.le_of_ble_eq_true rfl) d_L_isUnended_1 ⟨Nat.le_of_ble_eq_true rfl, Nat.le_of_ble_eq_true rfl⟩) (fun v3 h1 z2 H locs cells slots hf hs => ?_)
  refine lv_if_eq (tgt := 29) hx hb d_L_isUnended_4 (by decide) (fun q4 => ?_) (fun q4 => ?_)
  · have hf := ifp q4 hf
    refine lv_iconst (v := 0) hx hb d_L_isUnended_29 (by decide) ?_
    exact r_zreturn C hs hr d_L_isUnended_30 hf
  · have hf := ifn q4 hf
    refine lv_aload_n hx hb d_L_isUnended_7 rfl (lv_at hl 1 rfl) ?_
    refine r_getI C hs fl_L_74 d_L_isUnended_8 hf (fun v5 hf => ?_)
    refine lv_if_eq (tgt := 29) hx hb d_L_isUnended_11 (by decide) (fun q6 => ?_) (fun q6 => ?_)
    · have hf := ifp q6 hf
      refine lv_iconst (v := 0) hx hb d_L_isUnended_29 (by decide) ?_
      exact r_zreturn C hs hr d_L_isUnended_30 hf
    · have hf := ifn q6 hf
      refine lv_aload_n hx hb d_L_isUnended_14 rfl (lv_at hl 0 rfl) ?_
      refine lv_aload_n hx hb d_L_isUnended_15 rfl (lv_at hl 1 rfl) ?_
      refine r_getI C hs fl_L_74 d_L_isUnended_16 hf (fun v7 hf => ?_)
      obtain ⟨_, ho, hf⟩ := bd hf
      refine k_I C hs hex hf (fun res e1 => iv_V (b := x0) (As := [.int v7]) (rest := []) C hs cv_L_60 (c_L_hasEnded hl0 e1) (ci := 2) rfl rfl ho rfl hl.1 rfl (Nat.le_of_ble_eq_true rfl) d_L_isUnended_19 ⟨Nat.le_of_ble_eq_true rfl, Nat.le_of_ble_eq_true rfl⟩) (fun v10 h8 z9 H locs cells slots hf hs => ?_)
      refine lv_if_ne (tgt := 29) hx hb d_L_isUnended_22 (by decide) (fun q11 => ?_) (fun q11 => ?_)
      · have hf := ifn q11 hf
        refine lv_iconst (v := 0) hx hb d_L_isUnended_29 (by decide) ?_
        exact r_zreturn C hs hr d_L_isUnended_30 hf
      · have hf := ifp q11 hf
        refine lv_iconst (v := 1) hx hb d_L_isUnended_25 (by decide) ?_
        refine lv_goto (tgt := 30) hx hb d_L_isUnended_26 (by decide) ?_
        exact r_zreturn C hs hr d_L_isUnended_30 hf
def fb_L_stableOffset_L2 (bs : Nat) (sE : Nat × Nat) (REC : HH → Z3 → Nat → Int32 → Option RS) (h : HH) (z : Z3) (x0 : Nat) (x1 : Int32) : Option RS :=
  (gI h x0 2 3).bind fun v1 =>
  if v1 ≤ x1 then
    ((gI h x0 2 3).bind fun v3 =>
    some (.inl (some (.int v3)), h, z))
  else
    ((gR h x0 2 0).bind fun v4 =>
    (oK h v4 5).bind fun _ =>
    cR (f_A_get bs sE h z v4 x1) fun v7 h5 z6 =>
    (oK h5 v7 0).bind fun _ =>
    (oK h5 x0 2).bind fun _ =>
    cI (f_L_isUnended bs sE h5 z6 x0 v7) fun v10 h8 z9 =>
    if v10 = 0 then
      (REC h8 z9 x0 (x1 + 1))
    else
      (some (.inl (some (.int x1)), h8, z9)))
def f_L_stableOffset_L2 (bs : Nat) (sE : Nat × Nat) : Nat → HH → Z3 → Nat → Int32 → Option RS
  | 0 => fun _ _ _ _ => none
  | n + 1 => fb_L_stableOffset_L2 bs sE (f_L_stableOffset_L2 bs sE n)
set_option maxHeartbeats 4000000 in
set_option maxRecDepth 100000 in
theorem t_L_stableOffset_L2 {G : EN} {p : Program} {l : Launch} {e : Env} {s : State} {m : MethodId} {args : Array Value} {below : List Frame} {meth : Method} {c : Code} {z0 : Z3} (hl0 : l.stackTraces = false) (C : CX G p l s m meth c b_L_stableOffset 2 y_L_stableOffset.cls) (hr : meth.sig.returnType = (some .int)) (hex : c.exceptionTable.toList = []) {r : RS} :
    ∀ (n : Nat) (h : HH) (z : Z3) (x0 : Nat) (x1 : Int32), f_L_stableOffset_L2 G.2.2.1 G.2.2.2 n h z x0 x1 = some r → ∀ (H : Heap) (locs : List Loc) (cells slots : Nat) (ls : Array Slot), ST G (RM 3 64 z0) s h z H locs cells slots → lv_has ls 2 [(0, .ref x0), (1, .int x1)] → W p l e (RM 3 64 z0) s m args below meth c H locs cells slots (MX G below s r (RM 3 64 z0).cells (RM 3 64 z0).slots) (F0 m 2 ls []) := by
  have hx := C.1
  have hb := C.2.1
  intro n
  induction n with
  | zero => intro h z x0 x1 hf; exact nomatch (show (none : Option RS) = some r from hf)
  | succ n ih =>
    intro h z x0 x1 hf H locs cells slots ls hs hl
    have hf : fb_L_stableOffset_L2 G.2.2.1 G.2.2.2 (f_L_stableOffset_L2 G.2.2.1 G.2.2.2 n) h z x0 x1 = some r := hf
    unfold fb_L_stableOffset_L2 at hf
    refine lv_iload_n hx hb d_L_stableOffset_2 rfl (lv_at hl 1 rfl) ?_
    refine lv_aload_n hx hb d_L_stableOffset_3 rfl (lv_at hl 0 rfl) ?_
    refine r_getI C hs fl_L_26 d_L_stableOffset_4 hf (fun v1 hf => ?_)
    refine lv_icmp_ge (tgt := 36) hx hb d_L_stableOffset_7 (by decide) (fun q2 => ?_) (fun q2 => ?_)
    · have hf := ifp q2 hf
      refine lv_aload_n hx hb d_L_stableOffset_36 rfl (lv_at hl 0 rfl) ?_
      refine r_getI C hs fl_L_26 d_L_stableOffset_37 hf (fun v3 hf => ?_)
      exact r_ireturn C hs hr d_L_stableOffset_40 hf
    · have hf := ifn q2 hf
      refine lv_aload_n hx hb d_L_stableOffset_10 rfl (lv_at hl 0 rfl) ?_
      refine lv_aload_n hx hb d_L_stableOffset_11 rfl (lv_at hl 0 rfl) ?_
      refine r_getR C hs fl_L_12 d_L_stableOffset_12 hf (fun v4 hf => ?_)
      refine lv_iload_n hx hb d_L_stableOffset_15 rfl (lv_at hl 1 rfl) ?_
      obtain ⟨_, ho, hf⟩ := bd hf
      refine k_R C hs hex hf (fun res e1 => iv_V (b := v4) (As := [.int x1]) (rest := [.ref x0]) C hs cv_L_63 (c_A_get hl0 e1) (ci := 5) rfl rfl ho rfl hl.1 rfl (Nat.le_of_ble_eq_true rfl) d_L_stableOffset_16 ⟨Nat.le_of_ble_eq_true rfl, Nat.le_of_ble_eq_true rfl⟩) (fun v7 h5 z6 H locs cells slots hf hs => ?_)
      refine r_cast (ci := 0) C hs rfl (tm (i := 515) (by decide +kernel)) (tm (i := 1036) (by decide +kernel)) d_L_stableOffset_19 hf (fun hf => ?_)
      obtain ⟨_, ho, hf⟩ := bd hf
      refine k_I C hs hex hf (fun res e1 => iv_V (b := x0) (As := [.ref v7]) (rest := []) C hs cv_L_77 (c_L_isUnended hl0 e1) (ci := 2) rfl rfl ho rfl hl.1 rfl (Nat.le_of_ble_eq_true rfl) d_L_stableOffset_22 ⟨Nat.le_of_ble_eq_true rfl, Nat.le_of_ble_eq_true rfl⟩) (fun v10 h8 z9 H locs cells slots hf hs => ?_)
      refine lv_if_eq (tgt := 30) hx hb d_L_stableOffset_25 (by decide) (fun q11 => ?_) (fun q11 => ?_)
      · have hf := ifp q11 hf
        refine lv_iinc (v := x1 + 1) (lv' := [(1, .int (x1 + 1)), (0, .ref x0)]) hx hb d_L_stableOffset_30 hl (k := 1) rfl rfl (by decide) rfl (fun ls hl => ?_)
        refine lv_goto (tgt := 2) hx hb d_L_stableOffset_33 (by decide) ?_
        exact ih _ _ _ _ hf _ _ _ _ _ hs (lv_sub hl [1, 0] rfl)
      · have hf := ifn q11 hf
        refine lv_iload_n hx hb d_L_stableOffset_28 rfl (lv_at hl 1 rfl) ?_
        exact r_ireturn C hs hr d_L_stableOffset_29 hf
def f_L_stableOffset (bs : Nat) (sE : Nat × Nat) (h : HH) (z : Z3) (x0 : Nat) : Option RS :=
  f_L_stableOffset_L2 bs sE FU h z x0 0
set_option maxHeartbeats 4000000 in
set_option maxRecDepth 100000 in
theorem c_L_stableOffset {G : EN} {l : Launch} (hl0 : l.stackTraces = false) {h : HH} {z : Z3} {x0 : Nat} {r : RS} (hf : f_L_stableOffset G.2.2.1 G.2.2.2 h z x0 = some r) : CM G l y_L_stableOffset (.code y_L_stableOffset b_L_stableOffset 2 (some .int)) 3 64 [.ref x0] h z r := by
  refine CM.ofW hl0 rfl ?_
  intro p e s m below meth c C hr hex hin hs
  have hx := C.1
  have hb := C.2.1
  refine x_entry (n := 2) (Nat.le_of_ble_eq_true rfl) (fun ls hl => ?_)
  have hl : lv_has ls 2 [(0, .ref x0)] := hl
  unfold f_L_stableOffset at hf
  refine lv_iconst (v := 0) hx hb d_L_stableOffset_0 (by decide) ?_
  refine lv_istore_n (lv' := [(1, .int 0), (0, .ref x0)]) hx hb d_L_stableOffset_1 rfl hl (by decide) rfl (fun ls hl => ?_)
  exact t_L_stableOffset_L2 hl0 C hr hex FU _ _ _ _ hf _ _ _ _ _ hs (lv_sub hl [1, 0] rfl)
def f_L_isAborted (bs : Nat) (sE : Nat × Nat) (h : HH) (z : Z3) (x0 : Nat) (x1 : Int32) : Option RS :=
  (oK h x0 2).bind fun _ =>
  cI (f_L_hasEnded bs sE h z x0 x1) fun v3 h1 z2 =>
  if v3 = 0 then
    ((bz 0).bind fun _ =>
    some (.inl (some (.int 0)), h1, z2))
  else
    ((gR h1 x0 2 0).bind fun v5 =>
    (gR h1 x0 2 1).bind fun v6 =>
    (aI h1 v6 0 x1).bind fun v7 =>
    (oK h1 v5 5).bind fun _ =>
    cR (f_A_get bs sE h1 z2 v5 v7) fun v10 h8 z9 =>
    (oK h8 v10 0).bind fun _ =>
    (gI h8 v10 0 0).bind fun v11 =>
    if v11 = 2 then
      ((bz 1).bind fun _ =>
      some (.inl (some (.int 1)), h8, z9))
    else
      ((bz 0).bind fun _ =>
      some (.inl (some (.int 0)), h8, z9)))
set_option maxHeartbeats 4000000 in
set_option maxRecDepth 100000 in
theorem c_L_isAborted {G : EN} {l : Launch} (hl0 : l.stackTraces = false) {h : HH} {z : Z3} {x0 : Nat} {x1 : Int32} {r : RS} (hf : f_L_isAborted G.2.2.1 G.2.2.2 h z x0 x1 = some r) : CM G l y_L_isAborted (.code y_L_isAborted b_L_isAborted 2 (some .boolean)) 3 64 [.ref x0, .int x1] h z r := by
  refine CM.ofW hl0 rfl ?_
  intro p e s m below meth c C hr hex hin hs
  have hx := C.1
  have hb := C.2.1
  refine x_entry (n := 2) (Nat.le_of_ble_eq_true rfl) (fun ls hl => ?_)
  have hl : lv_has ls 2 [(0, .ref x0), (1, .int x1)] := hl
  unfold f_L_isAborted at hf
  refine lv_aload_n hx hb d_L_isAborted_0 rfl (lv_at hl 0 rfl) ?_
  refine lv_iload_n hx hb d_L_isAborted_1 rfl (lv_at hl 1 rfl) ?_
  obtain ⟨_, ho, hf⟩ := bd hf
  refine k_I C hs hex hf (fun res e1 => iv_V (b := x0) (As := [.int x1]) (rest := []) C hs cv_L_60 (c_L_hasEnded hl0 e1) (ci := 2) rfl rfl ho rfl hl.1 rfl (Nat.le_of_ble_eq_true rfl) d_L_isAborted_2 ⟨Nat.le_of_ble_eq_true rfl, Nat.le_of_ble_eq_true rfl⟩) (fun v3 h1 z2 H locs cells slots hf hs => ?_)
  refine lv_if_eq (tgt := 35) hx hb d_L_isAborted_5 (by decide) (fun q4 => ?_) (fun q4 => ?_)
  · have hf := ifp q4 hf
    refine lv_iconst (v := 0) hx hb d_L_isAborted_35 (by decide) ?_
    exact r_zreturn C hs hr d_L_isAborted_36 hf
  · have hf := ifn q4 hf
    refine lv_aload_n hx hb d_L_isAborted_8 rfl (lv_at hl 0 rfl) ?_
    refine r_getR C hs fl_L_12 d_L_isAborted_9 hf (fun v5 hf => ?_)
    refine lv_aload_n hx hb d_L_isAborted_12 rfl (lv_at hl 0 rfl) ?_
    refine r_getR C hs fl_L_18 d_L_isAborted_13 hf (fun v6 hf => ?_)
    refine lv_iload_n hx hb d_L_isAborted_16 rfl (lv_at hl 1 rfl) ?_
    refine r_iald C hs d_L_isAborted_17 hf (fun v7 hf => ?_)
    obtain ⟨_, ho, hf⟩ := bd hf
    refine k_R C hs hex hf (fun res e1 => iv_V (b := v5) (As := [.int v7]) (rest := []) C hs cv_L_63 (c_A_get hl0 e1) (ci := 5) rfl rfl ho rfl hl.1 rfl (Nat.le_of_ble_eq_true rfl) d_L_isAborted_18 ⟨Nat.le_of_ble_eq_true rfl, Nat.le_of_ble_eq_true rfl⟩) (fun v10 h8 z9 H locs cells slots hf hs => ?_)
    refine r_cast (ci := 0) C hs rfl (tm (i := 515) (by decide +kernel)) (tm (i := 1036) (by decide +kernel)) d_L_isAborted_21 hf (fun hf => ?_)
    refine r_getI C hs fl_L_67 d_L_isAborted_24 hf (fun v11 hf => ?_)
    refine lv_iconst (v := 2) hx hb d_L_isAborted_27 (by decide) ?_
    refine lv_icmp_ne (tgt := 35) hx hb d_L_isAborted_28 (by decide) (fun q12 => ?_) (fun q12 => ?_)
    · have hf := ifn q12 hf
      refine lv_iconst (v := 0) hx hb d_L_isAborted_35 (by decide) ?_
      exact r_zreturn C hs hr d_L_isAborted_36 hf
    · have hf := ifp q12 hf
      refine lv_iconst (v := 1) hx hb d_L_isAborted_31 (by decide) ?_
      refine lv_goto (tgt := 36) hx hb d_L_isAborted_32 (by decide) ?_
      exact r_zreturn C hs hr d_L_isAborted_36 hf
def fb_L_firstReadable_L19 (bs : Nat) (sE : Nat × Nat) (REC : HH → Z3 → Nat → Int32 → Int32 → Int32 → Option RS) (h : HH) (z : Z3) (x0 : Nat) (x2 : Int32) (x3 : Int32) (x4 : Int32) : Option RS :=
  if x3 ≤ x4 then
    (some (.inl (some (.int (-1))), h, z))
  else
    ((gR h x0 2 0).bind fun v4 =>
    (oK h v4 5).bind fun _ =>
    cR (f_A_get bs sE h z v4 x4) fun v7 h5 z6 =>
    (oK h5 v7 0).bind fun _ =>
    (oK h5 v7 0).bind fun _ =>
    cI (f_E_isData bs sE h5 z6 v7) fun v10 h8 z9 =>
    if v10 = 0 then
      (REC h8 z9 x0 x2 x3 (x4 + 1))
    else
      (if x2 = 0 then
        (some (.inl (some (.int x4)), h8, z9))
      else
        ((gI h8 v7 0 1).bind fun v13 =>
        (oK h8 x0 2).bind fun _ =>
        cI (f_L_isAborted bs sE h8 z9 x0 v13) fun v16 h14 z15 =>
        if v16 = 0 then
          (some (.inl (some (.int x4)), h14, z15))
        else
          (REC h14 z15 x0 x2 x3 (x4 + 1)))))
def f_L_firstReadable_L19 (bs : Nat) (sE : Nat × Nat) : Nat → HH → Z3 → Nat → Int32 → Int32 → Int32 → Option RS
  | 0 => fun _ _ _ _ _ _ => none
  | n + 1 => fb_L_firstReadable_L19 bs sE (f_L_firstReadable_L19 bs sE n)
set_option maxHeartbeats 4000000 in
set_option maxRecDepth 100000 in
theorem t_L_firstReadable_L19 {G : EN} {p : Program} {l : Launch} {e : Env} {s : State} {m : MethodId} {args : Array Value} {below : List Frame} {meth : Method} {c : Code} {z0 : Z3} (hl0 : l.stackTraces = false) (C : CX G p l s m meth c b_L_firstReadable 6 y_L_firstReadable.cls) (hr : meth.sig.returnType = (some .int)) (hex : c.exceptionTable.toList = []) {r : RS} :
    ∀ (n : Nat) (h : HH) (z : Z3) (x0 : Nat) (x2 : Int32) (x3 : Int32) (x4 : Int32), f_L_firstReadable_L19 G.2.2.1 G.2.2.2 n h z x0 x2 x3 x4 = some r → ∀ (H : Heap) (locs : List Loc) (cells slots : Nat) (ls : Array Slot), ST G (RM 4 85 z0) s h z H locs cells slots → lv_has ls 6 [(0, .ref x0), (2, .int x2), (3, .int x3), (4, .int x4)] → W p l e (RM 4 85 z0) s m args below meth c H locs cells slots (MX G below s r (RM 4 85 z0).cells (RM 4 85 z0).slots) (F0 m 19 ls []) := by
  have hx := C.1
  have hb := C.2.1
  intro n
  induction n with
  | zero => intro h z x0 x2 x3 x4 hf; exact nomatch (show (none : Option RS) = some r from hf)
  | succ n ih =>
    intro h z x0 x2 x3 x4 hf H locs cells slots ls hs hl
    have hf : fb_L_firstReadable_L19 G.2.2.1 G.2.2.2 (f_L_firstReadable_L19 G.2.2.1 G.2.2.2 n) h z x0 x2 x3 x4 = some r := hf
    unfold fb_L_firstReadable_L19 at hf
    refine lv_iload hx hb d_L_firstReadable_19 (lv_at hl 3 rfl) ?_
    refine lv_iload_n hx hb d_L_firstReadable_21 rfl (lv_at hl 2 rfl) ?_
    refine lv_icmp_ge (tgt := 72) hx hb d_L_firstReadable_22 (by decide) (fun q3 => ?_) (fun q3 => ?_)
    · have hf := ifp q3 hf
      refine lv_iconst (v := (-1)) hx hb d_L_firstReadable_72 (by decide) ?_
      exact r_ireturn C hs hr d_L_firstReadable_73 hf
    · have hf := ifn q3 hf
      refine lv_aload_n hx hb d_L_firstReadable_25 rfl (lv_at hl 0 rfl) ?_
      refine r_getR C hs fl_L_12 d_L_firstReadable_26 hf (fun v4 hf => ?_)
      refine lv_iload hx hb d_L_firstReadable_29 (lv_at hl 3 rfl) ?_
      obtain ⟨_, ho, hf⟩ := bd hf
      refine k_R C hs hex hf (fun res e1 => iv_V (b := v4) (As := [.int x4]) (rest := []) C hs cv_L_63 (c_A_get hl0 e1) (ci := 5) rfl rfl ho rfl hl.1 rfl (Nat.le_of_ble_eq_true rfl) d_L_firstReadable_31 ⟨Nat.le_of_ble_eq_true rfl, Nat.le_of_ble_eq_true rfl⟩) (fun v7 h5 z6 H locs cells slots hf hs => ?_)
      refine r_cast (ci := 0) C hs rfl (tm (i := 515) (by decide +kernel)) (tm (i := 1036) (by decide +kernel)) d_L_firstReadable_34 hf (fun hf => ?_)
      refine lv_astore (lv' := [(5, .ref v7), (0, .ref x0), (2, .int x2), (3, .int x3), (4, .int x4)]) hx hb d_L_firstReadable_37 hl (by decide) rfl (fun ls hl => ?_)
      refine lv_aload hx hb d_L_firstReadable_39 (lv_at hl 0 rfl) ?_
      obtain ⟨_, ho, hf⟩ := bd hf
      refine k_I C hs hex hf (fun res e1 => iv_V (b := v7) (As := []) (rest := []) C hs cv_L_70 (c_E_isData hl0 e1) (ci := 0) rfl rfl ho rfl hl.1 rfl (Nat.le_of_ble_eq_true rfl) d_L_firstReadable_41 ⟨Nat.le_of_ble_eq_true rfl, Nat.le_of_ble_eq_true rfl⟩) (fun v10 h8 z9 H locs cells slots hf hs => ?_)
      refine lv_if_eq (tgt := 66) hx hb d_L_firstReadable_44 (by decide) (fun q11 => ?_) (fun q11 => ?_)
      · have hf := ifp q11 hf
        refine lv_iinc (v := x4 + 1) (lv' := [(4, .int (x4 + 1)), (5, .ref v7), (0, .ref x0), (2, .int x2), (3, .int x3)]) hx hb d_L_firstReadable_66 hl (k := 4) rfl rfl (by decide) rfl (fun ls hl => ?_)
        refine lv_goto (tgt := 19) hx hb d_L_firstReadable_69 (by decide) ?_
        exact ih _ _ _ _ _ _ hf _ _ _ _ _ hs (lv_sub hl [2, 3, 4, 0] rfl)
      · have hf := ifn q11 hf
        refine lv_iload_n hx hb d_L_firstReadable_47 rfl (lv_at hl 2 rfl) ?_
        refine lv_if_eq (tgt := 63) hx hb d_L_firstReadable_48 (by decide) (fun q12 => ?_) (fun q12 => ?_)
        · have hf := ifp q12 hf
          refine lv_iload hx hb d_L_firstReadable_63 (lv_at hl 4 rfl) ?_
          exact r_ireturn C hs hr d_L_firstReadable_65 hf
        · have hf := ifn q12 hf
          refine lv_aload_n hx hb d_L_firstReadable_51 rfl (lv_at hl 1 rfl) ?_
          refine lv_aload hx hb d_L_firstReadable_52 (lv_at hl 0 rfl) ?_
          refine r_getI C hs fl_L_74 d_L_firstReadable_54 hf (fun v13 hf => ?_)
          obtain ⟨_, ho, hf⟩ := bd hf
          refine k_I C hs hex hf (fun res e1 => iv_V (b := x0) (As := [.int v13]) (rest := []) C hs cv_L_100 (c_L_isAborted hl0 e1) (ci := 2) rfl rfl ho rfl hl.1 rfl (Nat.le_of_ble_eq_true rfl) d_L_firstReadable_57 ⟨Nat.le_of_ble_eq_true rfl, Nat.le_of_ble_eq_true rfl⟩) (fun v16 h14 z15 H locs cells slots hf hs => ?_)
          refine lv_if_ne (tgt := 66) hx hb d_L_firstReadable_60 (by decide) (fun q17 => ?_) (fun q17 => ?_)
          · have hf := ifn q17 hf
            refine lv_iinc (v := x4 + 1) (lv' := [(4, .int (x4 + 1)), (5, .ref v7), (0, .ref x0), (2, .int x2), (3, .int x3)]) hx hb d_L_firstReadable_66 hl (k := 4) rfl rfl (by decide) rfl (fun ls hl => ?_)
            refine lv_goto (tgt := 19) hx hb d_L_firstReadable_69 (by decide) ?_
            exact ih _ _ _ _ _ _ hf _ _ _ _ _ hs (lv_sub hl [2, 3, 4, 0] rfl)
          · have hf := ifp q17 hf
            refine lv_iload hx hb d_L_firstReadable_63 (lv_at hl 4 rfl) ?_
            exact r_ireturn C hs hr d_L_firstReadable_65 hf
def f_L_firstReadable_B15 (bs : Nat) (sE : Nat × Nat) (h : HH) (z : Z3) (x0 : Nat) (x1 : Int32) (x2 : Int32) (w0 : Int32) : Option RS :=
  f_L_firstReadable_L19 bs sE FU h z x0 x2 w0 x1
set_option maxHeartbeats 4000000 in
set_option maxRecDepth 100000 in
theorem t_L_firstReadable_B15 {G : EN} {p : Program} {l : Launch} {e : Env} {s : State} {m : MethodId} {args : Array Value} {below : List Frame} {meth : Method} {c : Code} {z0 : Z3} (hl0 : l.stackTraces = false) (C : CX G p l s m meth c b_L_firstReadable 6 y_L_firstReadable.cls) (hr : meth.sig.returnType = (some .int)) (hex : c.exceptionTable.toList = []) {r : RS} :
    ∀ (h : HH) (z : Z3) (x0 : Nat) (x1 : Int32) (x2 : Int32) (w0 : Int32), f_L_firstReadable_B15 G.2.2.1 G.2.2.2 h z x0 x1 x2 w0 = some r → ∀ (H : Heap) (locs : List Loc) (cells slots : Nat) (ls : Array Slot), ST G (RM 4 85 z0) s h z H locs cells slots → lv_has ls 6 [(0, .ref x0), (1, .int x1), (2, .int x2)] → W p l e (RM 4 85 z0) s m args below meth c H locs cells slots (MX G below s r (RM 4 85 z0).cells (RM 4 85 z0).slots) (F0 m 15 ls [.int w0]) := by
  have hx := C.1
  have hb := C.2.1
  intro h z x0 x1 x2 w0 hf H locs cells slots ls hs hl
  unfold f_L_firstReadable_B15 at hf
  refine lv_istore_n (lv' := [(3, .int w0), (0, .ref x0), (1, .int x1), (2, .int x2)]) hx hb d_L_firstReadable_15 rfl hl (by decide) rfl (fun ls hl => ?_)
  refine lv_iload_n hx hb d_L_firstReadable_16 rfl (lv_at hl 2 rfl) ?_
  refine lv_istore (lv' := [(4, .int x1), (3, .int w0), (0, .ref x0), (1, .int x1), (2, .int x2)]) hx hb d_L_firstReadable_17 hl (by decide) rfl (fun ls hl => ?_)
  exact t_L_firstReadable_L19 hl0 C hr hex FU _ _ _ _ _ _ hf _ _ _ _ _ hs (lv_sub hl [2, 4, 1, 0] rfl)
def f_L_firstReadable (bs : Nat) (sE : Nat × Nat) (h : HH) (z : Z3) (x0 : Nat) (x1 : Int32) (x2 : Int32) : Option RS :=
  if x2 = 0 then
    ((gI h x0 2 3).bind fun v2 =>
    f_L_firstReadable_B15 bs sE h z x0 x1 x2 v2)
  else
    ((oK h x0 2).bind fun _ =>
    cI (f_L_stableOffset bs sE h z x0) fun v20 h18 z19 =>
    f_L_firstReadable_B15 bs sE h18 z19 x0 x1 x2 v20)
set_option maxHeartbeats 4000000 in
set_option maxRecDepth 100000 in
theorem c_L_firstReadable {G : EN} {l : Launch} (hl0 : l.stackTraces = false) {h : HH} {z : Z3} {x0 : Nat} {x1 : Int32} {x2 : Int32} {r : RS} (hf : f_L_firstReadable G.2.2.1 G.2.2.2 h z x0 x1 x2 = some r) : CM G l y_L_firstReadable (.code y_L_firstReadable b_L_firstReadable 6 (some .int)) 4 85 [.ref x0, .int x1, .int x2] h z r := by
  refine CM.ofW hl0 rfl ?_
  intro p e s m below meth c C hr hex hin hs
  have hx := C.1
  have hb := C.2.1
  refine x_entry (n := 6) (Nat.le_of_ble_eq_true rfl) (fun ls hl => ?_)
  have hl : lv_has ls 6 [(0, .ref x0), (1, .int x1), (2, .int x2)] := hl
  unfold f_L_firstReadable at hf
  refine lv_iload_n hx hb d_L_firstReadable_0 rfl (lv_at hl 2 rfl) ?_
  refine lv_if_eq (tgt := 11) hx hb d_L_firstReadable_1 (by decide) (fun q1 => ?_) (fun q1 => ?_)
  · have hf := ifp q1 hf
    refine lv_aload_n hx hb d_L_firstReadable_11 rfl (lv_at hl 0 rfl) ?_
    refine r_getI C hs fl_L_26 d_L_firstReadable_12 hf (fun v2 hf => ?_)
    exact t_L_firstReadable_B15 hl0 C hr hex _ _ _ _ _ _ hf _ _ _ _ _ hs (lv_sub hl [0, 1, 2] rfl)
  · have hf := ifn q1 hf
    refine lv_aload_n hx hb d_L_firstReadable_4 rfl (lv_at hl 0 rfl) ?_
    obtain ⟨_, ho, hf⟩ := bd hf
    refine k_I C hs hex hf (fun res e1 => iv_V (b := x0) (As := []) (rest := []) C hs cv_L_97 (c_L_stableOffset hl0 e1) (ci := 2) rfl rfl ho rfl hl.1 rfl (Nat.le_of_ble_eq_true rfl) d_L_firstReadable_5 ⟨Nat.le_of_ble_eq_true rfl, Nat.le_of_ble_eq_true rfl⟩) (fun v20 h18 z19 H locs cells slots hf hs => ?_)
    refine lv_goto (tgt := 15) hx hb d_L_firstReadable_8 (by decide) ?_
    exact t_L_firstReadable_B15 hl0 C hr hex _ _ _ _ _ _ hf _ _ _ _ _ hs (lv_sub hl [0, 1, 2] rfl)
def f_L_valueAt (bs : Nat) (sE : Nat × Nat) (h : HH) (z : Z3) (x0 : Nat) (x1 : Int32) : Option RS :=
  (gR h x0 2 0).bind fun v1 =>
  (oK h v1 5).bind fun _ =>
  cR (f_A_get bs sE h z v1 x1) fun v4 h2 z3 =>
  (oK h2 v4 0).bind fun _ =>
  (gI h2 v4 0 5).bind fun v5 =>
  some (.inl (some (.int v5)), h2, z3)
set_option maxHeartbeats 4000000 in
set_option maxRecDepth 100000 in
theorem c_L_valueAt {G : EN} {l : Launch} (hl0 : l.stackTraces = false) {h : HH} {z : Z3} {x0 : Nat} {x1 : Int32} {r : RS} (hf : f_L_valueAt G.2.2.1 G.2.2.2 h z x0 x1 = some r) : CM G l y_L_valueAt (.code y_L_valueAt b_L_valueAt 2 (some .int)) 3 64 [.ref x0, .int x1] h z r := by
  refine CM.ofW hl0 rfl ?_
  intro p e s m below meth c C hr hex hin hs
  have hx := C.1
  have hb := C.2.1
  refine x_entry (n := 2) (Nat.le_of_ble_eq_true rfl) (fun ls hl => ?_)
  have hl : lv_has ls 2 [(0, .ref x0), (1, .int x1)] := hl
  unfold f_L_valueAt at hf
  refine lv_aload_n hx hb d_L_valueAt_0 rfl (lv_at hl 0 rfl) ?_
  refine r_getR C hs fl_L_12 d_L_valueAt_1 hf (fun v1 hf => ?_)
  refine lv_iload_n hx hb d_L_valueAt_4 rfl (lv_at hl 1 rfl) ?_
  obtain ⟨_, ho, hf⟩ := bd hf
  refine k_R C hs hex hf (fun res e1 => iv_V (b := v1) (As := [.int x1]) (rest := []) C hs cv_L_63 (c_A_get hl0 e1) (ci := 5) rfl rfl ho rfl hl.1 rfl (Nat.le_of_ble_eq_true rfl) d_L_valueAt_5 ⟨Nat.le_of_ble_eq_true rfl, Nat.le_of_ble_eq_true rfl⟩) (fun v4 h2 z3 H locs cells slots hf hs => ?_)
  refine r_cast (ci := 0) C hs rfl (tm (i := 515) (by decide +kernel)) (tm (i := 1036) (by decide +kernel)) d_L_valueAt_8 hf (fun hf => ?_)
  refine r_getI C hs fl_L_103 d_L_valueAt_11 hf (fun v5 hf => ?_)
  exact r_ireturn C hs hr d_L_valueAt_14 hf
def f_G_isMember (bs : Nat) (sE : Nat × Nat) (h : HH) (z : Z3) (x0 : Nat) (x1 : Int32) : Option RS :=
  (gR h x0 1 1).bind fun v1 =>
  (aI h v1 1 x1).bind fun v2 =>
  (bz v2).bind fun _ =>
  some (.inl (some (.int v2)), h, z)
set_option maxHeartbeats 4000000 in
set_option maxRecDepth 100000 in
theorem c_G_isMember {G : EN} {l : Launch} (hl0 : l.stackTraces = false) {h : HH} {z : Z3} {x0 : Nat} {x1 : Int32} {r : RS} (hf : f_G_isMember G.2.2.1 G.2.2.2 h z x0 x1 = some r) : CM G l y_G_isMember (.code y_G_isMember b_G_isMember 2 (some .boolean)) 0 0 [.ref x0, .int x1] h z r := by
  refine CM.ofW hl0 rfl ?_
  intro p e s m below meth c C hr hex hin hs
  have hx := C.1
  have hb := C.2.1
  refine x_entry (n := 2) (Nat.le_of_ble_eq_true rfl) (fun ls hl => ?_)
  have hl : lv_has ls 2 [(0, .ref x0), (1, .int x1)] := hl
  unfold f_G_isMember at hf
  refine lv_aload_n hx hb d_G_isMember_0 rfl (lv_at hl 0 rfl) ?_
  refine r_getR C hs fl_G_15 d_G_isMember_1 hf (fun v1 hf => ?_)
  refine lv_iload_n hx hb d_G_isMember_4 rfl (lv_at hl 1 rfl) ?_
  refine r_zald C hs d_G_isMember_5 hf (fun v2 hf => ?_)
  exact r_zreturn C hs hr d_G_isMember_6 hf
def f_G_hear (bs : Nat) (sE : Nat × Nat) (h : HH) (z : Z3) (x0 : Nat) (x1 : Int32) (x2 : Int32) : Option RS :=
  (gR h x0 1 2).bind fun v1 =>
  (aIs bs h v1 0 x1 x2).bind fun h2 =>
  some (.inl none, h2, z)
set_option maxHeartbeats 4000000 in
set_option maxRecDepth 100000 in
theorem c_G_hear {G : EN} {l : Launch} (hl0 : l.stackTraces = false) {h : HH} {z : Z3} {x0 : Nat} {x1 : Int32} {x2 : Int32} {r : RS} (hf : f_G_hear G.2.2.1 G.2.2.2 h z x0 x1 x2 = some r) : CM G l y_G_hear (.code y_G_hear b_G_hear 3 none) 0 0 [.ref x0, .int x1, .int x2] h z r := by
  refine CM.ofW hl0 rfl ?_
  intro p e s m below meth c C hr hex hin hs
  have hx := C.1
  have hb := C.2.1
  refine x_entry (n := 3) (Nat.le_of_ble_eq_true rfl) (fun ls hl => ?_)
  have hl : lv_has ls 3 [(0, .ref x0), (1, .int x1), (2, .int x2)] := hl
  unfold f_G_hear at hf
  refine lv_aload_n hx hb d_G_hear_0 rfl (lv_at hl 0 rfl) ?_
  refine r_getR C hs fl_G_19 d_G_hear_1 hf (fun v1 hf => ?_)
  refine lv_iload_n hx hb d_G_hear_4 rfl (lv_at hl 1 rfl) ?_
  refine lv_iload_n hx hb d_G_hear_5 rfl (lv_at hl 2 rfl) ?_
  refine r_iast C hs d_G_hear_6 hf (fun h2 H locs hf hs => ?_)
  exact r_vreturn C hs hr d_G_hear_7 hf
def f_G_addMember (bs : Nat) (sE : Nat × Nat) (h : HH) (z : Z3) (x0 : Nat) (x1 : Int32) (x2 : Int32) : Option RS :=
  (gR h x0 1 1).bind fun v1 =>
  (aIs bs h v1 1 x1 (vp_nar .boolean 1)).bind fun h2 =>
  (oK h2 x0 1).bind fun _ =>
  cV (f_G_hear bs sE h2 z x0 x1 x2) fun h3 z4 =>
  some (.inl none, h3, z4)
set_option maxHeartbeats 4000000 in
set_option maxRecDepth 100000 in
theorem c_G_addMember {G : EN} {l : Launch} (hl0 : l.stackTraces = false) {h : HH} {z : Z3} {x0 : Nat} {x1 : Int32} {x2 : Int32} {r : RS} (hf : f_G_addMember G.2.2.1 G.2.2.2 h z x0 x1 x2 = some r) : CM G l y_G_addMember (.code y_G_addMember b_G_addMember 3 none) 1 22 [.ref x0, .int x1, .int x2] h z r := by
  refine CM.ofW hl0 rfl ?_
  intro p e s m below meth c C hr hex hin hs
  have hx := C.1
  have hb := C.2.1
  refine x_entry (n := 3) (Nat.le_of_ble_eq_true rfl) (fun ls hl => ?_)
  have hl : lv_has ls 3 [(0, .ref x0), (1, .int x1), (2, .int x2)] := hl
  unfold f_G_addMember at hf
  refine lv_aload_n hx hb d_G_addMember_0 rfl (lv_at hl 0 rfl) ?_
  refine r_getR C hs fl_G_15 d_G_addMember_1 hf (fun v1 hf => ?_)
  refine lv_iload_n hx hb d_G_addMember_4 rfl (lv_at hl 1 rfl) ?_
  refine lv_iconst (v := 1) hx hb d_G_addMember_5 (by decide) ?_
  refine r_zast C hs d_G_addMember_6 hf (fun h2 H locs hf hs => ?_)
  refine lv_aload_n hx hb d_G_addMember_7 rfl (lv_at hl 0 rfl) ?_
  refine lv_iload_n hx hb d_G_addMember_8 rfl (lv_at hl 1 rfl) ?_
  refine lv_iload_n hx hb d_G_addMember_9 rfl (lv_at hl 2 rfl) ?_
  obtain ⟨_, ho, hf⟩ := bd hf
  refine k_V C hs hex hf (fun res e1 => iv_V (b := x0) (As := [.int x1, .int x2]) (rest := []) C hs cv_G_35 (c_G_hear hl0 e1) (ci := 1) rfl rfl ho rfl hl.1 rfl (Nat.le_of_ble_eq_true rfl) d_G_addMember_10 ⟨Nat.le_of_ble_eq_true rfl, Nat.le_of_ble_eq_true rfl⟩) (fun h3 z4 H locs cells slots hf hs => ?_)
  exact r_vreturn C hs hr d_G_addMember_13 hf
def fb_G_countMembers_L13 (bs : Nat) (sE : Nat × Nat) (REC : HH → Z3 → Int32 → Nat → Int32 → Int32 → Option RS) (h : HH) (z : Z3) (x1 : Int32) (x2 : Nat) (x3 : Int32) (x4 : Int32) : Option RS :=
  if x3 ≤ x4 then
    (some (.inl (some (.int x1)), h, z))
  else
    ((aI h x2 1 x4).bind fun v4 =>
    if v4 = 0 then
      (REC h z x1 x2 x3 (x4 + 1))
    else
      (REC h z (x1 + 1) x2 x3 (x4 + 1)))
def f_G_countMembers_L13 (bs : Nat) (sE : Nat × Nat) : Nat → HH → Z3 → Int32 → Nat → Int32 → Int32 → Option RS
  | 0 => fun _ _ _ _ _ _ => none
  | n + 1 => fb_G_countMembers_L13 bs sE (f_G_countMembers_L13 bs sE n)
set_option maxHeartbeats 4000000 in
set_option maxRecDepth 100000 in
theorem t_G_countMembers_L13 {G : EN} {p : Program} {l : Launch} {e : Env} {s : State} {m : MethodId} {args : Array Value} {below : List Frame} {meth : Method} {c : Code} {z0 : Z3} (hl0 : l.stackTraces = false) (C : CX G p l s m meth c b_G_countMembers 6 y_G_countMembers.cls) (hr : meth.sig.returnType = (some .int)) (hex : c.exceptionTable.toList = []) {r : RS} :
    ∀ (n : Nat) (h : HH) (z : Z3) (x1 : Int32) (x2 : Nat) (x3 : Int32) (x4 : Int32), f_G_countMembers_L13 G.2.2.1 G.2.2.2 n h z x1 x2 x3 x4 = some r → ∀ (H : Heap) (locs : List Loc) (cells slots : Nat) (ls : Array Slot), ST G (RM 0 0 z0) s h z H locs cells slots → lv_has ls 6 [(1, .int x1), (2, .ref x2), (3, .int x3), (4, .int x4)] → W p l e (RM 0 0 z0) s m args below meth c H locs cells slots (MX G below s r (RM 0 0 z0).cells (RM 0 0 z0).slots) (F0 m 13 ls []) := by
  have hx := C.1
  have hb := C.2.1
  intro n
  induction n with
  | zero => intro h z x1 x2 x3 x4 hf; exact nomatch (show (none : Option RS) = some r from hf)
  | succ n ih =>
    intro h z x1 x2 x3 x4 hf H locs cells slots ls hs hl
    have hf : fb_G_countMembers_L13 G.2.2.1 G.2.2.2 (f_G_countMembers_L13 G.2.2.1 G.2.2.2 n) h z x1 x2 x3 x4 = some r := hf
    unfold fb_G_countMembers_L13 at hf
    refine lv_iload hx hb d_G_countMembers_13 (lv_at hl 3 rfl) ?_
    refine lv_iload_n hx hb d_G_countMembers_15 rfl (lv_at hl 2 rfl) ?_
    refine lv_icmp_ge (tgt := 39) hx hb d_G_countMembers_16 (by decide) (fun q3 => ?_) (fun q3 => ?_)
    · have hf := ifp q3 hf
      refine lv_iload_n hx hb d_G_countMembers_39 rfl (lv_at hl 0 rfl) ?_
      exact r_ireturn C hs hr d_G_countMembers_40 hf
    · have hf := ifn q3 hf
      refine lv_aload_n hx hb d_G_countMembers_19 rfl (lv_at hl 1 rfl) ?_
      refine lv_iload hx hb d_G_countMembers_20 (lv_at hl 3 rfl) ?_
      refine r_zald C hs d_G_countMembers_22 hf (fun v4 hf => ?_)
      refine lv_istore (lv' := [(5, .int v4), (1, .int x1), (2, .ref x2), (3, .int x3), (4, .int x4)]) hx hb d_G_countMembers_23 hl (by decide) rfl (fun ls hl => ?_)
      refine lv_iload hx hb d_G_countMembers_25 (lv_at hl 0 rfl) ?_
      refine lv_if_eq (tgt := 33) hx hb d_G_countMembers_27 (by decide) (fun q5 => ?_) (fun q5 => ?_)
      · have hf := ifp q5 hf
        refine lv_iinc (v := x4 + 1) (lv' := [(4, .int (x4 + 1)), (5, .int v4), (1, .int x1), (2, .ref x2), (3, .int x3)]) hx hb d_G_countMembers_33 hl (k := 4) rfl rfl (by decide) rfl (fun ls hl => ?_)
        refine lv_goto (tgt := 13) hx hb d_G_countMembers_36 (by decide) ?_
        exact ih _ _ _ _ _ _ hf _ _ _ _ _ hs (lv_sub hl [2, 3, 4, 0] rfl)
      · have hf := ifn q5 hf
        refine lv_iinc (v := x1 + 1) (lv' := [(1, .int (x1 + 1)), (5, .int v4), (2, .ref x2), (3, .int x3), (4, .int x4)]) hx hb d_G_countMembers_30 hl (k := 1) rfl rfl (by decide) rfl (fun ls hl => ?_)
        refine lv_iinc (v := x4 + 1) (lv' := [(4, .int (x4 + 1)), (1, .int (x1 + 1)), (5, .int v4), (2, .ref x2), (3, .int x3)]) hx hb d_G_countMembers_33 hl (k := 4) rfl rfl (by decide) rfl (fun ls hl => ?_)
        refine lv_goto (tgt := 13) hx hb d_G_countMembers_36 (by decide) ?_
        exact ih _ _ _ _ _ _ hf _ _ _ _ _ hs (lv_sub hl [1, 3, 4, 0] rfl)
def f_G_countMembers (bs : Nat) (sE : Nat × Nat) (h : HH) (z : Z3) (x0 : Nat) : Option RS :=
  (gR h x0 1 1).bind fun v1 =>
  (aN h v1).bind fun v2 =>
  f_G_countMembers_L13 bs sE FU h z 0 v1 v2 0
set_option maxHeartbeats 4000000 in
set_option maxRecDepth 100000 in
theorem c_G_countMembers {G : EN} {l : Launch} (hl0 : l.stackTraces = false) {h : HH} {z : Z3} {x0 : Nat} {r : RS} (hf : f_G_countMembers G.2.2.1 G.2.2.2 h z x0 = some r) : CM G l y_G_countMembers (.code y_G_countMembers b_G_countMembers 6 (some .int)) 0 0 [.ref x0] h z r := by
  refine CM.ofW hl0 rfl ?_
  intro p e s m below meth c C hr hex hin hs
  have hx := C.1
  have hb := C.2.1
  refine x_entry (n := 6) (Nat.le_of_ble_eq_true rfl) (fun ls hl => ?_)
  have hl : lv_has ls 6 [(0, .ref x0)] := hl
  unfold f_G_countMembers at hf
  refine lv_iconst (v := 0) hx hb d_G_countMembers_0 (by decide) ?_
  refine lv_istore_n (lv' := [(1, .int 0), (0, .ref x0)]) hx hb d_G_countMembers_1 rfl hl (by decide) rfl (fun ls hl => ?_)
  refine lv_aload_n hx hb d_G_countMembers_2 rfl (lv_at hl 1 rfl) ?_
  refine r_getR C hs fl_G_15 d_G_countMembers_3 hf (fun v1 hf => ?_)
  refine lv_astore_n (lv' := [(2, .ref v1), (1, .int 0), (0, .ref x0)]) hx hb d_G_countMembers_6 rfl hl (by decide) rfl (fun ls hl => ?_)
  refine lv_aload_n hx hb d_G_countMembers_7 rfl (lv_at hl 0 rfl) ?_
  refine r_alen C hs d_G_countMembers_8 hf (fun v2 hf => ?_)
  refine lv_istore_n (lv' := [(3, .int v2), (2, .ref v1), (1, .int 0), (0, .ref x0)]) hx hb d_G_countMembers_9 rfl hl (by decide) rfl (fun ls hl => ?_)
  refine lv_iconst (v := 0) hx hb d_G_countMembers_10 (by decide) ?_
  refine lv_istore (lv' := [(4, .int 0), (3, .int v2), (2, .ref v1), (1, .int 0), (0, .ref x0)]) hx hb d_G_countMembers_11 hl (by decide) rfl (fun ls hl => ?_)
  exact t_G_countMembers_L13 hl0 C hr hex FU _ _ _ _ _ _ hf _ _ _ _ _ hs (lv_sub hl [3, 2, 1, 0] rfl)
def fb_G_leastOf_L4 (bs : Nat) (sE : Nat × Nat) (REC : HH → Z3 → Int32 → Int32 → Int32 → Int32 → Option RS) (h : HH) (z : Z3) (x0 : Int32) (x1 : Int32) (x2 : Int32) (x3 : Int32) : Option RS :=
  if 4 ≤ x3 then
    (some (.inl (some (.int x2)), h, z))
  else
    (cI (f_B_has bs sE h z x0 x3) fun v4 h2 z3 =>
    if v4 = 0 then
      (REC h2 z3 x0 x1 x2 (x3 + 1))
    else
      (cI (f_I_bitCount bs sE h2 z3 x2) fun v8 h6 z7 =>
      if x1 ≤ v8 then
        (REC h6 z7 x0 x1 x2 (x3 + 1))
      else
        (REC h6 z7 x0 x1 (x2 ||| (1 <<< (x3 &&& 31))) (x3 + 1))))
def f_G_leastOf_L4 (bs : Nat) (sE : Nat × Nat) : Nat → HH → Z3 → Int32 → Int32 → Int32 → Int32 → Option RS
  | 0 => fun _ _ _ _ _ _ => none
  | n + 1 => fb_G_leastOf_L4 bs sE (f_G_leastOf_L4 bs sE n)
set_option maxHeartbeats 4000000 in
set_option maxRecDepth 100000 in
theorem t_G_leastOf_L4 {G : EN} {p : Program} {l : Launch} {e : Env} {s : State} {m : MethodId} {args : Array Value} {below : List Frame} {meth : Method} {c : Code} {z0 : Z3} (hl0 : l.stackTraces = false) (C : CX G p l s m meth c b_G_leastOf 4 y_G_leastOf.cls) (hr : meth.sig.returnType = (some .int)) (hex : c.exceptionTable.toList = []) {r : RS} :
    ∀ (n : Nat) (h : HH) (z : Z3) (x0 : Int32) (x1 : Int32) (x2 : Int32) (x3 : Int32), f_G_leastOf_L4 G.2.2.1 G.2.2.2 n h z x0 x1 x2 x3 = some r → ∀ (H : Heap) (locs : List Loc) (cells slots : Nat) (ls : Array Slot), ST G (RM 1 21 z0) s h z H locs cells slots → lv_has ls 4 [(0, .int x0), (1, .int x1), (2, .int x2), (3, .int x3)] → W p l e (RM 1 21 z0) s m args below meth c H locs cells slots (MX G below s r (RM 1 21 z0).cells (RM 1 21 z0).slots) (F0 m 4 ls []) := by
  have hx := C.1
  have hb := C.2.1
  intro n
  induction n with
  | zero => intro h z x0 x1 x2 x3 hf; exact nomatch (show (none : Option RS) = some r from hf)
  | succ n ih =>
    intro h z x0 x1 x2 x3 hf H locs cells slots ls hs hl
    have hf : fb_G_leastOf_L4 G.2.2.1 G.2.2.2 (f_G_leastOf_L4 G.2.2.1 G.2.2.2 n) h z x0 x1 x2 x3 = some r := hf
    unfold fb_G_leastOf_L4 at hf
    refine lv_iload_n hx hb d_G_leastOf_4 rfl (lv_at hl 3 rfl) ?_
    refine lv_iconst (v := 4) hx hb d_G_leastOf_5 (by decide) ?_
    refine lv_icmp_ge (tgt := 37) hx hb d_G_leastOf_6 (by decide) (fun q1 => ?_) (fun q1 => ?_)
    · have hf := ifp q1 hf
      refine lv_iload_n hx hb d_G_leastOf_37 rfl (lv_at hl 2 rfl) ?_
      exact r_ireturn C hs hr d_G_leastOf_38 hf
    · have hf := ifn q1 hf
      refine lv_iload_n hx hb d_G_leastOf_9 rfl (lv_at hl 0 rfl) ?_
      refine lv_iload_n hx hb d_G_leastOf_10 rfl (lv_at hl 3 rfl) ?_
      refine k_I C hs hex hf (fun res e1 => iv_S (As := [.int x0, .int x3]) (rest := []) C hs cs_G_66 (c_B_has hl0 e1) rfl hl.1 rfl (Nat.le_of_ble_eq_true rfl) d_G_leastOf_11 ⟨Nat.le_of_ble_eq_true rfl, Nat.le_of_ble_eq_true rfl⟩) (fun v4 h2 z3 H locs cells slots hf hs => ?_)
      refine lv_if_eq (tgt := 31) hx hb d_G_leastOf_14 (by decide) (fun q5 => ?_) (fun q5 => ?_)
      · have hf := ifp q5 hf
        refine lv_iinc (v := x3 + 1) (lv' := [(3, .int (x3 + 1)), (0, .int x0), (1, .int x1), (2, .int x2)]) hx hb d_G_leastOf_31 hl (k := 3) rfl rfl (by decide) rfl (fun ls hl => ?_)
        refine lv_goto (tgt := 4) hx hb d_G_leastOf_34 (by decide) ?_
        exact ih _ _ _ _ _ _ hf _ _ _ _ _ hs (lv_sub hl [1, 2, 3, 0] rfl)
      · have hf := ifn q5 hf
        refine lv_iload_n hx hb d_G_leastOf_17 rfl (lv_at hl 2 rfl) ?_
        refine k_I C hs hex hf (fun res e1 => iv_S (As := [.int x2]) (rest := []) C hs cs_G_56 (c_I_bitCount hl0 e1) rfl hl.1 rfl (Nat.le_of_ble_eq_true rfl) d_G_leastOf_18 ⟨Nat.le_of_ble_eq_true rfl, Nat.le_of_ble_eq_true rfl⟩) (fun v8 h6 z7 H locs cells slots hf hs => ?_)
        refine lv_iload_n hx hb d_G_leastOf_21 rfl (lv_at hl 1 rfl) ?_
        refine lv_icmp_ge (tgt := 31) hx hb d_G_leastOf_22 (by decide) (fun q9 => ?_) (fun q9 => ?_)
        · have hf := ifp q9 hf
          refine lv_iinc (v := x3 + 1) (lv' := [(3, .int (x3 + 1)), (0, .int x0), (1, .int x1), (2, .int x2)]) hx hb d_G_leastOf_31 hl (k := 3) rfl rfl (by decide) rfl (fun ls hl => ?_)
          refine lv_goto (tgt := 4) hx hb d_G_leastOf_34 (by decide) ?_
          exact ih _ _ _ _ _ _ hf _ _ _ _ _ hs (lv_sub hl [1, 2, 3, 0] rfl)
        · have hf := ifn q9 hf
          refine lv_iload_n hx hb d_G_leastOf_25 rfl (lv_at hl 2 rfl) ?_
          refine lv_iconst (v := 1) hx hb d_G_leastOf_26 (by decide) ?_
          refine lv_iload_n hx hb d_G_leastOf_27 rfl (lv_at hl 3 rfl) ?_
          refine lv_ishl hx hb d_G_leastOf_28 ?_
          refine lv_ior hx hb d_G_leastOf_29 ?_
          refine lv_istore_n (lv' := [(2, .int (x2 ||| (1 <<< (x3 &&& 31)))), (0, .int x0), (1, .int x1), (3, .int x3)]) hx hb d_G_leastOf_30 rfl hl (by decide) rfl (fun ls hl => ?_)
          refine lv_iinc (v := x3 + 1) (lv' := [(3, .int (x3 + 1)), (2, .int (x2 ||| (1 <<< (x3 &&& 31)))), (0, .int x0), (1, .int x1)]) hx hb d_G_leastOf_31 hl (k := 3) rfl rfl (by decide) rfl (fun ls hl => ?_)
          refine lv_goto (tgt := 4) hx hb d_G_leastOf_34 (by decide) ?_
          exact ih _ _ _ _ _ _ hf _ _ _ _ _ hs (lv_sub hl [2, 3, 1, 0] rfl)
def f_G_leastOf (bs : Nat) (sE : Nat × Nat) (h : HH) (z : Z3) (x0 : Int32) (x1 : Int32) : Option RS :=
  f_G_leastOf_L4 bs sE FU h z x0 x1 0 0
set_option maxHeartbeats 4000000 in
set_option maxRecDepth 100000 in
theorem c_G_leastOf {G : EN} {l : Launch} (hl0 : l.stackTraces = false) {h : HH} {z : Z3} {x0 : Int32} {x1 : Int32} {r : RS} (hf : f_G_leastOf G.2.2.1 G.2.2.2 h z x0 x1 = some r) : CM G l y_G_leastOf (.code y_G_leastOf b_G_leastOf 4 (some .int)) 1 21 [.int x0, .int x1] h z r := by
  refine CM.ofW hl0 rfl ?_
  intro p e s m below meth c C hr hex hin hs
  have hx := C.1
  have hb := C.2.1
  refine x_entry (n := 4) (Nat.le_of_ble_eq_true rfl) (fun ls hl => ?_)
  have hl : lv_has ls 4 [(0, .int x0), (1, .int x1)] := hl
  unfold f_G_leastOf at hf
  refine lv_iconst (v := 0) hx hb d_G_leastOf_0 (by decide) ?_
  refine lv_istore_n (lv' := [(2, .int 0), (0, .int x0), (1, .int x1)]) hx hb d_G_leastOf_1 rfl hl (by decide) rfl (fun ls hl => ?_)
  refine lv_iconst (v := 0) hx hb d_G_leastOf_2 (by decide) ?_
  refine lv_istore_n (lv' := [(3, .int 0), (2, .int 0), (0, .int x0), (1, .int x1)]) hx hb d_G_leastOf_3 rfl hl (by decide) rfl (fun ls hl => ?_)
  exact t_G_leastOf_L4 hl0 C hr hex FU _ _ _ _ _ _ hf _ _ _ _ _ hs (lv_sub hl [2, 3, 1, 0] rfl)
def fb_G_takeSurplus_L5 (bs : Nat) (sE : Nat × Nat) (REC : HH → Z3 → Nat → Int32 → Int32 → Int32 → Option RS) (h : HH) (z : Z3) (x0 : Nat) (x1 : Int32) (x3 : Int32) (x4 : Int32) : Option RS :=
  if 4 ≤ x4 then
    (some (.inl none, h, z))
  else
    (if x3 ≤ 0 then
      ((gR h x0 1 3).bind fun v3 =>
      (gR h x0 1 3).bind fun v4 =>
      (aI h v4 0 x4).bind fun v5 =>
      cI (f_G_leastOf bs sE h z v5 x1) fun v8 h6 z7 =>
      (aIs bs h6 v3 0 x4 v8).bind fun h9 =>
      REC h9 z7 x0 x1 x3 (x4 + 1))
    else
      ((gR h x0 1 3).bind fun v10 =>
      (aI h v10 0 x4).bind fun v11 =>
      cI (f_I_bitCount bs sE h z v11) fun v14 h12 z13 =>
      if v14 ≤ x1 then
        ((gR h12 x0 1 3).bind fun v16 =>
        (gR h12 x0 1 3).bind fun v17 =>
        (aI h12 v17 0 x4).bind fun v18 =>
        cI (f_G_leastOf bs sE h12 z13 v18 x1) fun v21 h19 z20 =>
        (aIs bs h19 v16 0 x4 v21).bind fun h22 =>
        REC h22 z20 x0 x1 x3 (x4 + 1))
      else
        ((gR h12 x0 1 3).bind fun v23 =>
        (gR h12 x0 1 3).bind fun v24 =>
        (aI h12 v24 0 x4).bind fun v25 =>
        cI (f_G_leastOf bs sE h12 z13 v25 (x1 + 1)) fun v28 h26 z27 =>
        (aIs bs h26 v23 0 x4 v28).bind fun h29 =>
        REC h29 z27 x0 x1 (x3 + (-1)) (x4 + 1))))
def f_G_takeSurplus_L5 (bs : Nat) (sE : Nat × Nat) : Nat → HH → Z3 → Nat → Int32 → Int32 → Int32 → Option RS
  | 0 => fun _ _ _ _ _ _ => none
  | n + 1 => fb_G_takeSurplus_L5 bs sE (f_G_takeSurplus_L5 bs sE n)
set_option maxHeartbeats 4000000 in
set_option maxRecDepth 100000 in
theorem t_G_takeSurplus_L5 {G : EN} {p : Program} {l : Launch} {e : Env} {s : State} {m : MethodId} {args : Array Value} {below : List Frame} {meth : Method} {c : Code} {z0 : Z3} (hl0 : l.stackTraces = false) (C : CX G p l s m meth c b_G_takeSurplus 5 y_G_takeSurplus.cls) (hr : meth.sig.returnType = none) (hex : c.exceptionTable.toList = []) {r : RS} :
    ∀ (n : Nat) (h : HH) (z : Z3) (x0 : Nat) (x1 : Int32) (x3 : Int32) (x4 : Int32), f_G_takeSurplus_L5 G.2.2.1 G.2.2.2 n h z x0 x1 x3 x4 = some r → ∀ (H : Heap) (locs : List Loc) (cells slots : Nat) (ls : Array Slot), ST G (RM 2 44 z0) s h z H locs cells slots → lv_has ls 5 [(0, .ref x0), (1, .int x1), (3, .int x3), (4, .int x4)] → W p l e (RM 2 44 z0) s m args below meth c H locs cells slots (MX G below s r (RM 2 44 z0).cells (RM 2 44 z0).slots) (F0 m 5 ls []) := by
  have hx := C.1
  have hb := C.2.1
  intro n
  induction n with
  | zero => intro h z x0 x1 x3 x4 hf; exact nomatch (show (none : Option RS) = some r from hf)
  | succ n ih =>
    intro h z x0 x1 x3 x4 hf H locs cells slots ls hs hl
    have hf : fb_G_takeSurplus_L5 G.2.2.1 G.2.2.2 (f_G_takeSurplus_L5 G.2.2.1 G.2.2.2 n) h z x0 x1 x3 x4 = some r := hf
    unfold fb_G_takeSurplus_L5 at hf
    refine lv_iload hx hb d_G_takeSurplus_5 (lv_at hl 3 rfl) ?_
    refine lv_iconst (v := 4) hx hb d_G_takeSurplus_7 (by decide) ?_
    refine lv_icmp_ge (tgt := 79) hx hb d_G_takeSurplus_8 (by decide) (fun q1 => ?_) (fun q1 => ?_)
    · have hf := ifp q1 hf
      exact r_vreturn C hs hr d_G_takeSurplus_79 hf
    · have hf := ifn q1 hf
      refine lv_iload_n hx hb d_G_takeSurplus_11 rfl (lv_at hl 2 rfl) ?_
      refine lv_if_le (tgt := 55) hx hb d_G_takeSurplus_12 (by decide) (fun q2 => ?_) (fun q2 => ?_)
      · have hf := ifp q2 hf
        refine lv_aload_n hx hb d_G_takeSurplus_55 rfl (lv_at hl 0 rfl) ?_
        refine r_getR C hs fl_G_23 d_G_takeSurplus_56 hf (fun v3 hf => ?_)
        refine lv_iload hx hb d_G_takeSurplus_59 (lv_at hl 3 rfl) ?_
        refine lv_aload_n hx hb d_G_takeSurplus_61 rfl (lv_at hl 0 rfl) ?_
        refine r_getR C hs fl_G_23 d_G_takeSurplus_62 hf (fun v4 hf => ?_)
        refine lv_iload hx hb d_G_takeSurplus_65 (lv_at hl 3 rfl) ?_
        refine r_iald C hs d_G_takeSurplus_67 hf (fun v5 hf => ?_)
        refine lv_iload_n hx hb d_G_takeSurplus_68 rfl (lv_at hl 1 rfl) ?_
        refine k_I C hs hex hf (fun res e1 => iv_S (As := [.int v5, .int x1]) (rest := [.int x4, .ref v3]) C hs cs_G_62 (c_G_leastOf hl0 e1) rfl hl.1 rfl (Nat.le_of_ble_eq_true rfl) d_G_takeSurplus_69 ⟨Nat.le_of_ble_eq_true rfl, Nat.le_of_ble_eq_true rfl⟩) (fun v8 h6 z7 H locs cells slots hf hs => ?_)
        refine r_iast C hs d_G_takeSurplus_72 hf (fun h9 H locs hf hs => ?_)
        refine lv_iinc (v := x4 + 1) (lv' := [(4, .int (x4 + 1)), (0, .ref x0), (1, .int x1), (3, .int x3)]) hx hb d_G_takeSurplus_73 hl (k := 3) rfl rfl (by decide) rfl (fun ls hl => ?_)
        refine lv_goto (tgt := 5) hx hb d_G_takeSurplus_76 (by decide) ?_
        exact ih _ _ _ _ _ _ hf _ _ _ _ _ hs (lv_sub hl [1, 2, 3, 0] rfl)
      · have hf := ifn q2 hf
        refine lv_aload_n hx hb d_G_takeSurplus_15 rfl (lv_at hl 0 rfl) ?_
        refine r_getR C hs fl_G_23 d_G_takeSurplus_16 hf (fun v10 hf => ?_)
        refine lv_iload hx hb d_G_takeSurplus_19 (lv_at hl 3 rfl) ?_
        refine r_iald C hs d_G_takeSurplus_21 hf (fun v11 hf => ?_)
        refine k_I C hs hex hf (fun res e1 => iv_S (As := [.int v11]) (rest := []) C hs cs_G_56 (c_I_bitCount hl0 e1) rfl hl.1 rfl (Nat.le_of_ble_eq_true rfl) d_G_takeSurplus_22 ⟨Nat.le_of_ble_eq_true rfl, Nat.le_of_ble_eq_true rfl⟩) (fun v14 h12 z13 H locs cells slots hf hs => ?_)
        refine lv_iload_n hx hb d_G_takeSurplus_25 rfl (lv_at hl 1 rfl) ?_
        refine lv_icmp_le (tgt := 55) hx hb d_G_takeSurplus_26 (by decide) (fun q15 => ?_) (fun q15 => ?_)
        · have hf := ifp q15 hf
          refine lv_aload_n hx hb d_G_takeSurplus_55 rfl (lv_at hl 0 rfl) ?_
          refine r_getR C hs fl_G_23 d_G_takeSurplus_56 hf (fun v16 hf => ?_)
          refine lv_iload hx hb d_G_takeSurplus_59 (lv_at hl 3 rfl) ?_
          refine lv_aload_n hx hb d_G_takeSurplus_61 rfl (lv_at hl 0 rfl) ?_
          refine r_getR C hs fl_G_23 d_G_takeSurplus_62 hf (fun v17 hf => ?_)
          refine lv_iload hx hb d_G_takeSurplus_65 (lv_at hl 3 rfl) ?_
          refine r_iald C hs d_G_takeSurplus_67 hf (fun v18 hf => ?_)
          refine lv_iload_n hx hb d_G_takeSurplus_68 rfl (lv_at hl 1 rfl) ?_
          refine k_I C hs hex hf (fun res e1 => iv_S (As := [.int v18, .int x1]) (rest := [.int x4, .ref v16]) C hs cs_G_62 (c_G_leastOf hl0 e1) rfl hl.1 rfl (Nat.le_of_ble_eq_true rfl) d_G_takeSurplus_69 ⟨Nat.le_of_ble_eq_true rfl, Nat.le_of_ble_eq_true rfl⟩) (fun v21 h19 z20 H locs cells slots hf hs => ?_)
          refine r_iast C hs d_G_takeSurplus_72 hf (fun h22 H locs hf hs => ?_)
          refine lv_iinc (v := x4 + 1) (lv' := [(4, .int (x4 + 1)), (0, .ref x0), (1, .int x1), (3, .int x3)]) hx hb d_G_takeSurplus_73 hl (k := 3) rfl rfl (by decide) rfl (fun ls hl => ?_)
          refine lv_goto (tgt := 5) hx hb d_G_takeSurplus_76 (by decide) ?_
          exact ih _ _ _ _ _ _ hf _ _ _ _ _ hs (lv_sub hl [1, 2, 3, 0] rfl)
        · have hf := ifn q15 hf
          refine lv_aload_n hx hb d_G_takeSurplus_29 rfl (lv_at hl 0 rfl) ?_
          refine r_getR C hs fl_G_23 d_G_takeSurplus_30 hf (fun v23 hf => ?_)
          refine lv_iload hx hb d_G_takeSurplus_33 (lv_at hl 3 rfl) ?_
          refine lv_aload_n hx hb d_G_takeSurplus_35 rfl (lv_at hl 0 rfl) ?_
          refine r_getR C hs fl_G_23 d_G_takeSurplus_36 hf (fun v24 hf => ?_)
          refine lv_iload hx hb d_G_takeSurplus_39 (lv_at hl 3 rfl) ?_
          refine r_iald C hs d_G_takeSurplus_41 hf (fun v25 hf => ?_)
          refine lv_iload_n hx hb d_G_takeSurplus_42 rfl (lv_at hl 1 rfl) ?_
          refine lv_iconst (v := 1) hx hb d_G_takeSurplus_43 (by decide) ?_
          refine lv_iadd hx hb d_G_takeSurplus_44 ?_
          refine k_I C hs hex hf (fun res e1 => iv_S (As := [.int v25, .int (x1 + 1)]) (rest := [.int x4, .ref v23]) C hs cs_G_62 (c_G_leastOf hl0 e1) rfl hl.1 rfl (Nat.le_of_ble_eq_true rfl) d_G_takeSurplus_45 ⟨Nat.le_of_ble_eq_true rfl, Nat.le_of_ble_eq_true rfl⟩) (fun v28 h26 z27 H locs cells slots hf hs => ?_)
          refine r_iast C hs d_G_takeSurplus_48 hf (fun h29 H locs hf hs => ?_)
          refine lv_iinc (v := x3 + (-1)) (lv' := [(3, .int (x3 + (-1))), (0, .ref x0), (1, .int x1), (4, .int x4)]) hx hb d_G_takeSurplus_49 hl (k := 2) rfl rfl (by decide) rfl (fun ls hl => ?_)
          refine lv_goto (tgt := 73) hx hb d_G_takeSurplus_52 (by decide) ?_
          refine lv_iinc (v := x4 + 1) (lv' := [(4, .int (x4 + 1)), (3, .int (x3 + (-1))), (0, .ref x0), (1, .int x1)]) hx hb d_G_takeSurplus_73 hl (k := 3) rfl rfl (by decide) rfl (fun ls hl => ?_)
          refine lv_goto (tgt := 5) hx hb d_G_takeSurplus_76 (by decide) ?_
          exact ih _ _ _ _ _ _ hf _ _ _ _ _ hs (lv_sub hl [2, 3, 1, 0] rfl)
def f_G_takeSurplus (bs : Nat) (sE : Nat × Nat) (h : HH) (z : Z3) (x0 : Nat) (x1 : Int32) (x2 : Int32) : Option RS :=
  f_G_takeSurplus_L5 bs sE FU h z x0 x1 x2 0
set_option maxHeartbeats 4000000 in
set_option maxRecDepth 100000 in
theorem c_G_takeSurplus {G : EN} {l : Launch} (hl0 : l.stackTraces = false) {h : HH} {z : Z3} {x0 : Nat} {x1 : Int32} {x2 : Int32} {r : RS} (hf : f_G_takeSurplus G.2.2.1 G.2.2.2 h z x0 x1 x2 = some r) : CM G l y_G_takeSurplus (.code y_G_takeSurplus b_G_takeSurplus 5 none) 2 44 [.ref x0, .int x1, .int x2] h z r := by
  refine CM.ofW hl0 rfl ?_
  intro p e s m below meth c C hr hex hin hs
  have hx := C.1
  have hb := C.2.1
  refine x_entry (n := 5) (Nat.le_of_ble_eq_true rfl) (fun ls hl => ?_)
  have hl : lv_has ls 5 [(0, .ref x0), (1, .int x1), (2, .int x2)] := hl
  unfold f_G_takeSurplus at hf
  refine lv_iload_n hx hb d_G_takeSurplus_0 rfl (lv_at hl 2 rfl) ?_
  refine lv_istore_n (lv' := [(3, .int x2), (0, .ref x0), (1, .int x1), (2, .int x2)]) hx hb d_G_takeSurplus_1 rfl hl (by decide) rfl (fun ls hl => ?_)
  refine lv_iconst (v := 0) hx hb d_G_takeSurplus_2 (by decide) ?_
  refine lv_istore (lv' := [(4, .int 0), (3, .int x2), (0, .ref x0), (1, .int x1), (2, .int x2)]) hx hb d_G_takeSurplus_3 hl (by decide) rfl (fun ls hl => ?_)
  exact t_G_takeSurplus_L5 hl0 C hr hex FU _ _ _ _ _ _ hf _ _ _ _ _ hs (lv_sub hl [2, 3, 1, 0] rfl)
def fb_G_poorestMember_L6 (bs : Nat) (sE : Nat × Nat) (REC : HH → Z3 → Nat → Int32 → Int32 → Int32 → Option RS) (h : HH) (z : Z3) (x0 : Nat) (x1 : Int32) (x2 : Int32) (x3 : Int32) : Option RS :=
  if 4 ≤ x3 then
    (some (.inl (some (.int x1)), h, z))
  else
    ((gR h x0 1 3).bind fun v2 =>
    (aI h v2 0 x3).bind fun v3 =>
    cI (f_I_bitCount bs sE h z v3) fun v6 h4 z5 =>
    (gR h4 x0 1 1).bind fun v7 =>
    (aI h4 v7 1 x3).bind fun v8 =>
    if v8 = 0 then
      (REC h4 z5 x0 x1 x2 (x3 + 1))
    else
      (if x2 ≤ v6 then
        (REC h4 z5 x0 x1 x2 (x3 + 1))
      else
        (REC h4 z5 x0 x3 v6 (x3 + 1))))
def f_G_poorestMember_L6 (bs : Nat) (sE : Nat × Nat) : Nat → HH → Z3 → Nat → Int32 → Int32 → Int32 → Option RS
  | 0 => fun _ _ _ _ _ _ => none
  | n + 1 => fb_G_poorestMember_L6 bs sE (f_G_poorestMember_L6 bs sE n)
set_option maxHeartbeats 4000000 in
set_option maxRecDepth 100000 in
theorem t_G_poorestMember_L6 {G : EN} {p : Program} {l : Launch} {e : Env} {s : State} {m : MethodId} {args : Array Value} {below : List Frame} {meth : Method} {c : Code} {z0 : Z3} (hl0 : l.stackTraces = false) (C : CX G p l s m meth c b_G_poorestMember 5 y_G_poorestMember.cls) (hr : meth.sig.returnType = (some .int)) (hex : c.exceptionTable.toList = []) {r : RS} :
    ∀ (n : Nat) (h : HH) (z : Z3) (x0 : Nat) (x1 : Int32) (x2 : Int32) (x3 : Int32), f_G_poorestMember_L6 G.2.2.1 G.2.2.2 n h z x0 x1 x2 x3 = some r → ∀ (H : Heap) (locs : List Loc) (cells slots : Nat) (ls : Array Slot), ST G (RM 1 20 z0) s h z H locs cells slots → lv_has ls 5 [(0, .ref x0), (1, .int x1), (2, .int x2), (3, .int x3)] → W p l e (RM 1 20 z0) s m args below meth c H locs cells slots (MX G below s r (RM 1 20 z0).cells (RM 1 20 z0).slots) (F0 m 6 ls []) := by
  have hx := C.1
  have hb := C.2.1
  intro n
  induction n with
  | zero => intro h z x0 x1 x2 x3 hf; exact nomatch (show (none : Option RS) = some r from hf)
  | succ n ih =>
    intro h z x0 x1 x2 x3 hf H locs cells slots ls hs hl
    have hf : fb_G_poorestMember_L6 G.2.2.1 G.2.2.2 (f_G_poorestMember_L6 G.2.2.1 G.2.2.2 n) h z x0 x1 x2 x3 = some r := hf
    unfold fb_G_poorestMember_L6 at hf
    refine lv_iload_n hx hb d_G_poorestMember_6 rfl (lv_at hl 3 rfl) ?_
    refine lv_iconst (v := 4) hx hb d_G_poorestMember_7 (by decide) ?_
    refine lv_icmp_ge (tgt := 48) hx hb d_G_poorestMember_8 (by decide) (fun q1 => ?_) (fun q1 => ?_)
    · have hf := ifp q1 hf
      refine lv_iload_n hx hb d_G_poorestMember_48 rfl (lv_at hl 1 rfl) ?_
      exact r_ireturn C hs hr d_G_poorestMember_49 hf
    · have hf := ifn q1 hf
      refine lv_aload_n hx hb d_G_poorestMember_11 rfl (lv_at hl 0 rfl) ?_
      refine r_getR C hs fl_G_23 d_G_poorestMember_12 hf (fun v2 hf => ?_)
      refine lv_iload_n hx hb d_G_poorestMember_15 rfl (lv_at hl 3 rfl) ?_
      refine r_iald C hs d_G_poorestMember_16 hf (fun v3 hf => ?_)
      refine k_I C hs hex hf (fun res e1 => iv_S (As := [.int v3]) (rest := []) C hs cs_G_56 (c_I_bitCount hl0 e1) rfl hl.1 rfl (Nat.le_of_ble_eq_true rfl) d_G_poorestMember_17 ⟨Nat.le_of_ble_eq_true rfl, Nat.le_of_ble_eq_true rfl⟩) (fun v6 h4 z5 H locs cells slots hf hs => ?_)
      refine lv_istore (lv' := [(4, .int v6), (0, .ref x0), (1, .int x1), (2, .int x2), (3, .int x3)]) hx hb d_G_poorestMember_20 hl (by decide) rfl (fun ls hl => ?_)
      refine lv_aload_n hx hb d_G_poorestMember_22 rfl (lv_at hl 1 rfl) ?_
      refine r_getR C hs fl_G_15 d_G_poorestMember_23 hf (fun v7 hf => ?_)
      refine lv_iload_n hx hb d_G_poorestMember_26 rfl (lv_at hl 4 rfl) ?_
      refine r_zald C hs d_G_poorestMember_27 hf (fun v8 hf => ?_)
      refine lv_if_eq (tgt := 42) hx hb d_G_poorestMember_28 (by decide) (fun q9 => ?_) (fun q9 => ?_)
      · have hf := ifp q9 hf
        refine lv_iinc (v := x3 + 1) (lv' := [(3, .int (x3 + 1)), (4, .int v6), (0, .ref x0), (1, .int x1), (2, .int x2)]) hx hb d_G_poorestMember_42 hl (k := 4) rfl rfl (by decide) rfl (fun ls hl => ?_)
        refine lv_goto (tgt := 6) hx hb d_G_poorestMember_45 (by decide) ?_
        exact ih _ _ _ _ _ _ hf _ _ _ _ _ hs (lv_sub hl [2, 3, 4, 0] rfl)
      · have hf := ifn q9 hf
        refine lv_iload hx hb d_G_poorestMember_31 (lv_at hl 0 rfl) ?_
        refine lv_iload_n hx hb d_G_poorestMember_33 rfl (lv_at hl 3 rfl) ?_
        refine lv_icmp_ge (tgt := 42) hx hb d_G_poorestMember_34 (by decide) (fun q10 => ?_) (fun q10 => ?_)
        · have hf := ifp q10 hf
          refine lv_iinc (v := x3 + 1) (lv' := [(3, .int (x3 + 1)), (4, .int v6), (0, .ref x0), (1, .int x1), (2, .int x2)]) hx hb d_G_poorestMember_42 hl (k := 4) rfl rfl (by decide) rfl (fun ls hl => ?_)
          refine lv_goto (tgt := 6) hx hb d_G_poorestMember_45 (by decide) ?_
          exact ih _ _ _ _ _ _ hf _ _ _ _ _ hs (lv_sub hl [2, 3, 4, 0] rfl)
        · have hf := ifn q10 hf
          refine lv_iload_n hx hb d_G_poorestMember_37 rfl (lv_at hl 4 rfl) ?_
          refine lv_istore_n (lv' := [(1, .int x3), (4, .int v6), (0, .ref x0), (2, .int x2), (3, .int x3)]) hx hb d_G_poorestMember_38 rfl hl (by decide) rfl (fun ls hl => ?_)
          refine lv_iload hx hb d_G_poorestMember_39 (lv_at hl 1 rfl) ?_
          refine lv_istore_n (lv' := [(2, .int v6), (1, .int x3), (4, .int v6), (0, .ref x0), (3, .int x3)]) hx hb d_G_poorestMember_41 rfl hl (by decide) rfl (fun ls hl => ?_)
          refine lv_iinc (v := x3 + 1) (lv' := [(3, .int (x3 + 1)), (2, .int v6), (1, .int x3), (4, .int v6), (0, .ref x0)]) hx hb d_G_poorestMember_42 hl (k := 4) rfl rfl (by decide) rfl (fun ls hl => ?_)
          refine lv_goto (tgt := 6) hx hb d_G_poorestMember_45 (by decide) ?_
          exact ih _ _ _ _ _ _ hf _ _ _ _ _ hs (lv_sub hl [4, 2, 1, 0] rfl)
def f_G_poorestMember (bs : Nat) (sE : Nat × Nat) (h : HH) (z : Z3) (x0 : Nat) : Option RS :=
  f_G_poorestMember_L6 bs sE FU h z x0 (-1) 5 0
set_option maxHeartbeats 4000000 in
set_option maxRecDepth 100000 in
theorem c_G_poorestMember {G : EN} {l : Launch} (hl0 : l.stackTraces = false) {h : HH} {z : Z3} {x0 : Nat} {r : RS} (hf : f_G_poorestMember G.2.2.1 G.2.2.2 h z x0 = some r) : CM G l y_G_poorestMember (.code y_G_poorestMember b_G_poorestMember 5 (some .int)) 1 20 [.ref x0] h z r := by
  refine CM.ofW hl0 rfl ?_
  intro p e s m below meth c C hr hex hin hs
  have hx := C.1
  have hb := C.2.1
  refine x_entry (n := 5) (Nat.le_of_ble_eq_true rfl) (fun ls hl => ?_)
  have hl : lv_has ls 5 [(0, .ref x0)] := hl
  unfold f_G_poorestMember at hf
  refine lv_iconst (v := (-1)) hx hb d_G_poorestMember_0 (by decide) ?_
  refine lv_istore_n (lv' := [(1, .int (-1)), (0, .ref x0)]) hx hb d_G_poorestMember_1 rfl hl (by decide) rfl (fun ls hl => ?_)
  refine lv_iconst (v := 5) hx hb d_G_poorestMember_2 (by decide) ?_
  refine lv_istore_n (lv' := [(2, .int 5), (1, .int (-1)), (0, .ref x0)]) hx hb d_G_poorestMember_3 rfl hl (by decide) rfl (fun ls hl => ?_)
  refine lv_iconst (v := 0) hx hb d_G_poorestMember_4 (by decide) ?_
  refine lv_istore_n (lv' := [(3, .int 0), (2, .int 5), (1, .int (-1)), (0, .ref x0)]) hx hb d_G_poorestMember_5 rfl hl (by decide) rfl (fun ls hl => ?_)
  exact t_G_poorestMember_L6 hl0 C hr hex FU _ _ _ _ _ _ hf _ _ _ _ _ hs (lv_sub hl [3, 2, 1, 0] rfl)
def fb_G_isOwned_L11 (bs : Nat) (sE : Nat × Nat) (REC : HH → Z3 → Int32 → Nat → Int32 → Int32 → Option RS) (h : HH) (z : Z3) (x1 : Int32) (x2 : Nat) (x3 : Int32) (x4 : Int32) : Option RS :=
  if x3 ≤ x4 then
    ((bz 0).bind fun _ =>
    some (.inl (some (.int 0)), h, z))
  else
    ((aI h x2 0 x4).bind fun v4 =>
    cI (f_B_has bs sE h z v4 x1) fun v7 h5 z6 =>
    if v7 = 0 then
      (REC h5 z6 x1 x2 x3 (x4 + 1))
    else
      ((bz 1).bind fun _ =>
      some (.inl (some (.int 1)), h5, z6)))
def f_G_isOwned_L11 (bs : Nat) (sE : Nat × Nat) : Nat → HH → Z3 → Int32 → Nat → Int32 → Int32 → Option RS
  | 0 => fun _ _ _ _ _ _ => none
  | n + 1 => fb_G_isOwned_L11 bs sE (f_G_isOwned_L11 bs sE n)
set_option maxHeartbeats 4000000 in
set_option maxRecDepth 100000 in
theorem t_G_isOwned_L11 {G : EN} {p : Program} {l : Launch} {e : Env} {s : State} {m : MethodId} {args : Array Value} {below : List Frame} {meth : Method} {c : Code} {z0 : Z3} (hl0 : l.stackTraces = false) (C : CX G p l s m meth c b_G_isOwned 6 y_G_isOwned.cls) (hr : meth.sig.returnType = (some .boolean)) (hex : c.exceptionTable.toList = []) {r : RS} :
    ∀ (n : Nat) (h : HH) (z : Z3) (x1 : Int32) (x2 : Nat) (x3 : Int32) (x4 : Int32), f_G_isOwned_L11 G.2.2.1 G.2.2.2 n h z x1 x2 x3 x4 = some r → ∀ (H : Heap) (locs : List Loc) (cells slots : Nat) (ls : Array Slot), ST G (RM 1 21 z0) s h z H locs cells slots → lv_has ls 6 [(1, .int x1), (2, .ref x2), (3, .int x3), (4, .int x4)] → W p l e (RM 1 21 z0) s m args below meth c H locs cells slots (MX G below s r (RM 1 21 z0).cells (RM 1 21 z0).slots) (F0 m 11 ls []) := by
  have hx := C.1
  have hb := C.2.1
  intro n
  induction n with
  | zero => intro h z x1 x2 x3 x4 hf; exact nomatch (show (none : Option RS) = some r from hf)
  | succ n ih =>
    intro h z x1 x2 x3 x4 hf H locs cells slots ls hs hl
    have hf : fb_G_isOwned_L11 G.2.2.1 G.2.2.2 (f_G_isOwned_L11 G.2.2.1 G.2.2.2 n) h z x1 x2 x3 x4 = some r := hf
    unfold fb_G_isOwned_L11 at hf
    refine lv_iload hx hb d_G_isOwned_11 (lv_at hl 3 rfl) ?_
    refine lv_iload_n hx hb d_G_isOwned_13 rfl (lv_at hl 2 rfl) ?_
    refine lv_icmp_ge (tgt := 40) hx hb d_G_isOwned_14 (by decide) (fun q3 => ?_) (fun q3 => ?_)
    · have hf := ifp q3 hf
      refine lv_iconst (v := 0) hx hb d_G_isOwned_40 (by decide) ?_
      exact r_zreturn C hs hr d_G_isOwned_41 hf
    · have hf := ifn q3 hf
      refine lv_aload_n hx hb d_G_isOwned_17 rfl (lv_at hl 1 rfl) ?_
      refine lv_iload hx hb d_G_isOwned_18 (lv_at hl 3 rfl) ?_
      refine r_iald C hs d_G_isOwned_20 hf (fun v4 hf => ?_)
      refine lv_istore (lv' := [(5, .int v4), (1, .int x1), (2, .ref x2), (3, .int x3), (4, .int x4)]) hx hb d_G_isOwned_21 hl (by decide) rfl (fun ls hl => ?_)
      refine lv_iload hx hb d_G_isOwned_23 (lv_at hl 0 rfl) ?_
      refine lv_iload_n hx hb d_G_isOwned_25 rfl (lv_at hl 1 rfl) ?_
      refine k_I C hs hex hf (fun res e1 => iv_S (As := [.int v4, .int x1]) (rest := []) C hs cs_G_66 (c_B_has hl0 e1) rfl hl.1 rfl (Nat.le_of_ble_eq_true rfl) d_G_isOwned_26 ⟨Nat.le_of_ble_eq_true rfl, Nat.le_of_ble_eq_true rfl⟩) (fun v7 h5 z6 H locs cells slots hf hs => ?_)
      refine lv_if_eq (tgt := 34) hx hb d_G_isOwned_29 (by decide) (fun q8 => ?_) (fun q8 => ?_)
      · have hf := ifp q8 hf
        refine lv_iinc (v := x4 + 1) (lv' := [(4, .int (x4 + 1)), (5, .int v4), (1, .int x1), (2, .ref x2), (3, .int x3)]) hx hb d_G_isOwned_34 hl (k := 4) rfl rfl (by decide) rfl (fun ls hl => ?_)
        refine lv_goto (tgt := 11) hx hb d_G_isOwned_37 (by decide) ?_
        exact ih _ _ _ _ _ _ hf _ _ _ _ _ hs (lv_sub hl [2, 3, 4, 0] rfl)
      · have hf := ifn q8 hf
        refine lv_iconst (v := 1) hx hb d_G_isOwned_32 (by decide) ?_
        exact r_zreturn C hs hr d_G_isOwned_33 hf
def f_G_isOwned (bs : Nat) (sE : Nat × Nat) (h : HH) (z : Z3) (x0 : Nat) (x1 : Int32) : Option RS :=
  (gR h x0 1 3).bind fun v1 =>
  (aN h v1).bind fun v2 =>
  f_G_isOwned_L11 bs sE FU h z x1 v1 v2 0
set_option maxHeartbeats 4000000 in
set_option maxRecDepth 100000 in
theorem c_G_isOwned {G : EN} {l : Launch} (hl0 : l.stackTraces = false) {h : HH} {z : Z3} {x0 : Nat} {x1 : Int32} {r : RS} (hf : f_G_isOwned G.2.2.1 G.2.2.2 h z x0 x1 = some r) : CM G l y_G_isOwned (.code y_G_isOwned b_G_isOwned 6 (some .boolean)) 1 21 [.ref x0, .int x1] h z r := by
  refine CM.ofW hl0 rfl ?_
  intro p e s m below meth c C hr hex hin hs
  have hx := C.1
  have hb := C.2.1
  refine x_entry (n := 6) (Nat.le_of_ble_eq_true rfl) (fun ls hl => ?_)
  have hl : lv_has ls 6 [(0, .ref x0), (1, .int x1)] := hl
  unfold f_G_isOwned at hf
  refine lv_aload_n hx hb d_G_isOwned_0 rfl (lv_at hl 0 rfl) ?_
  refine r_getR C hs fl_G_23 d_G_isOwned_1 hf (fun v1 hf => ?_)
  refine lv_astore_n (lv' := [(2, .ref v1), (0, .ref x0), (1, .int x1)]) hx hb d_G_isOwned_4 rfl hl (by decide) rfl (fun ls hl => ?_)
  refine lv_aload_n hx hb d_G_isOwned_5 rfl (lv_at hl 0 rfl) ?_
  refine r_alen C hs d_G_isOwned_6 hf (fun v2 hf => ?_)
  refine lv_istore_n (lv' := [(3, .int v2), (2, .ref v1), (0, .ref x0), (1, .int x1)]) hx hb d_G_isOwned_7 rfl hl (by decide) rfl (fun ls hl => ?_)
  refine lv_iconst (v := 0) hx hb d_G_isOwned_8 (by decide) ?_
  refine lv_istore (lv' := [(4, .int 0), (3, .int v2), (2, .ref v1), (0, .ref x0), (1, .int x1)]) hx hb d_G_isOwned_9 hl (by decide) rfl (fun ls hl => ?_)
  exact t_G_isOwned_L11 hl0 C hr hex FU _ _ _ _ _ _ hf _ _ _ _ _ hs (lv_sub hl [4, 2, 1, 0] rfl)
def fb_G_giveUnowned_L2 (bs : Nat) (sE : Nat × Nat) (REC : HH → Z3 → Nat → Int32 → Option RS) (h : HH) (z : Z3) (x0 : Nat) (x1 : Int32) : Option RS :=
  if 4 ≤ x1 then
    (some (.inl none, h, z))
  else
    ((oK h x0 1).bind fun _ =>
    cI (f_G_poorestMember bs sE h z x0) fun v4 h2 z3 =>
    (oK h2 x0 1).bind fun _ =>
    cI (f_G_isOwned bs sE h2 z3 x0 x1) fun v7 h5 z6 =>
    if v7 = 0 then
      (if v4 = (-1) then
        (REC h5 z6 x0 (x1 + 1))
      else
        ((gR h5 x0 1 3).bind fun v10 =>
        (aI h5 v10 0 v4).bind fun v11 =>
        (aIs bs h5 v10 0 v4 (v11 ||| (1 <<< (x1 &&& 31)))).bind fun h12 =>
        REC h12 z6 x0 (x1 + 1)))
    else
      (REC h5 z6 x0 (x1 + 1)))
def f_G_giveUnowned_L2 (bs : Nat) (sE : Nat × Nat) : Nat → HH → Z3 → Nat → Int32 → Option RS
  | 0 => fun _ _ _ _ => none
  | n + 1 => fb_G_giveUnowned_L2 bs sE (f_G_giveUnowned_L2 bs sE n)
set_option maxHeartbeats 4000000 in
set_option maxRecDepth 100000 in
theorem t_G_giveUnowned_L2 {G : EN} {p : Program} {l : Launch} {e : Env} {s : State} {m : MethodId} {args : Array Value} {below : List Frame} {meth : Method} {c : Code} {z0 : Z3} (hl0 : l.stackTraces = false) (C : CX G p l s m meth c b_G_giveUnowned 3 y_G_giveUnowned.cls) (hr : meth.sig.returnType = none) (hex : c.exceptionTable.toList = []) {r : RS} :
    ∀ (n : Nat) (h : HH) (z : Z3) (x0 : Nat) (x1 : Int32), f_G_giveUnowned_L2 G.2.2.1 G.2.2.2 n h z x0 x1 = some r → ∀ (H : Heap) (locs : List Loc) (cells slots : Nat) (ls : Array Slot), ST G (RM 2 46 z0) s h z H locs cells slots → lv_has ls 3 [(0, .ref x0), (1, .int x1)] → W p l e (RM 2 46 z0) s m args below meth c H locs cells slots (MX G below s r (RM 2 46 z0).cells (RM 2 46 z0).slots) (F0 m 2 ls []) := by
  have hx := C.1
  have hb := C.2.1
  intro n
  induction n with
  | zero => intro h z x0 x1 hf; exact nomatch (show (none : Option RS) = some r from hf)
  | succ n ih =>
    intro h z x0 x1 hf H locs cells slots ls hs hl
    have hf : fb_G_giveUnowned_L2 G.2.2.1 G.2.2.2 (f_G_giveUnowned_L2 G.2.2.1 G.2.2.2 n) h z x0 x1 = some r := hf
    unfold fb_G_giveUnowned_L2 at hf
    refine lv_iload_n hx hb d_G_giveUnowned_2 rfl (lv_at hl 1 rfl) ?_
    refine lv_iconst (v := 4) hx hb d_G_giveUnowned_3 (by decide) ?_
    refine lv_icmp_ge (tgt := 43) hx hb d_G_giveUnowned_4 (by decide) (fun q1 => ?_) (fun q1 => ?_)
    · have hf := ifp q1 hf
      exact r_vreturn C hs hr d_G_giveUnowned_43 hf
    · have hf := ifn q1 hf
      refine lv_aload_n hx hb d_G_giveUnowned_7 rfl (lv_at hl 0 rfl) ?_
      obtain ⟨_, ho, hf⟩ := bd hf
      refine k_I C hs hex hf (fun res e1 => iv_V (b := x0) (As := []) (rest := []) C hs cv_G_70 (c_G_poorestMember hl0 e1) (ci := 1) rfl rfl ho rfl hl.1 rfl (Nat.le_of_ble_eq_true rfl) d_G_giveUnowned_8 ⟨Nat.le_of_ble_eq_true rfl, Nat.le_of_ble_eq_true rfl⟩) (fun v4 h2 z3 H locs cells slots hf hs => ?_)
      refine lv_istore_n (lv' := [(2, .int v4), (0, .ref x0), (1, .int x1)]) hx hb d_G_giveUnowned_11 rfl hl (by decide) rfl (fun ls hl => ?_)
      refine lv_aload_n hx hb d_G_giveUnowned_12 rfl (lv_at hl 1 rfl) ?_
      refine lv_iload_n hx hb d_G_giveUnowned_13 rfl (lv_at hl 2 rfl) ?_
      obtain ⟨_, ho, hf⟩ := bd hf
      refine k_I C hs hex hf (fun res e1 => iv_V (b := x0) (As := [.int x1]) (rest := []) C hs cv_G_73 (c_G_isOwned hl0 e1) (ci := 1) rfl rfl ho rfl hl.1 rfl (Nat.le_of_ble_eq_true rfl) d_G_giveUnowned_14 ⟨Nat.le_of_ble_eq_true rfl, Nat.le_of_ble_eq_true rfl⟩) (fun v7 h5 z6 H locs cells slots hf hs => ?_)
      refine lv_if_ne (tgt := 37) hx hb d_G_giveUnowned_17 (by decide) (fun q8 => ?_) (fun q8 => ?_)
      · have hf := ifn q8 hf
        refine lv_iinc (v := x1 + 1) (lv' := [(1, .int (x1 + 1)), (2, .int v4), (0, .ref x0)]) hx hb d_G_giveUnowned_37 hl (k := 2) rfl rfl (by decide) rfl (fun ls hl => ?_)
        refine lv_goto (tgt := 2) hx hb d_G_giveUnowned_40 (by decide) ?_
        exact ih _ _ _ _ hf _ _ _ _ _ hs (lv_sub hl [2, 0] rfl)
      · have hf := ifp q8 hf
        refine lv_iload_n hx hb d_G_giveUnowned_20 rfl (lv_at hl 0 rfl) ?_
        refine lv_iconst (v := (-1)) hx hb d_G_giveUnowned_21 (by decide) ?_
        refine lv_icmp_eq (tgt := 37) hx hb d_G_giveUnowned_22 (by decide) (fun q9 => ?_) (fun q9 => ?_)
        · have hf := ifp q9 hf
          refine lv_iinc (v := x1 + 1) (lv' := [(1, .int (x1 + 1)), (2, .int v4), (0, .ref x0)]) hx hb d_G_giveUnowned_37 hl (k := 2) rfl rfl (by decide) rfl (fun ls hl => ?_)
          refine lv_goto (tgt := 2) hx hb d_G_giveUnowned_40 (by decide) ?_
          exact ih _ _ _ _ hf _ _ _ _ _ hs (lv_sub hl [2, 0] rfl)
        · have hf := ifn q9 hf
          refine lv_aload_n hx hb d_G_giveUnowned_25 rfl (lv_at hl 1 rfl) ?_
          refine r_getR C hs fl_G_23 d_G_giveUnowned_26 hf (fun v10 hf => ?_)
          refine lv_iload_n hx hb d_G_giveUnowned_29 rfl (lv_at hl 0 rfl) ?_
          refine lv_dup2_11 hx hb d_G_giveUnowned_30 rfl rfl ?_
          refine r_iald C hs d_G_giveUnowned_31 hf (fun v11 hf => ?_)
          refine lv_iconst (v := 1) hx hb d_G_giveUnowned_32 (by decide) ?_
          refine lv_iload_n hx hb d_G_giveUnowned_33 rfl (lv_at hl 2 rfl) ?_
          refine lv_ishl hx hb d_G_giveUnowned_34 ?_
          refine lv_ior hx hb d_G_giveUnowned_35 ?_
          refine r_iast C hs d_G_giveUnowned_36 hf (fun h12 H locs hf hs => ?_)
          refine lv_iinc (v := x1 + 1) (lv' := [(1, .int (x1 + 1)), (2, .int v4), (0, .ref x0)]) hx hb d_G_giveUnowned_37 hl (k := 2) rfl rfl (by decide) rfl (fun ls hl => ?_)
          refine lv_goto (tgt := 2) hx hb d_G_giveUnowned_40 (by decide) ?_
          exact ih _ _ _ _ hf _ _ _ _ _ hs (lv_sub hl [2, 0] rfl)
def f_G_giveUnowned (bs : Nat) (sE : Nat × Nat) (h : HH) (z : Z3) (x0 : Nat) : Option RS :=
  f_G_giveUnowned_L2 bs sE FU h z x0 0
set_option maxHeartbeats 4000000 in
set_option maxRecDepth 100000 in
theorem c_G_giveUnowned {G : EN} {l : Launch} (hl0 : l.stackTraces = false) {h : HH} {z : Z3} {x0 : Nat} {r : RS} (hf : f_G_giveUnowned G.2.2.1 G.2.2.2 h z x0 = some r) : CM G l y_G_giveUnowned (.code y_G_giveUnowned b_G_giveUnowned 3 none) 2 46 [.ref x0] h z r := by
  refine CM.ofW hl0 rfl ?_
  intro p e s m below meth c C hr hex hin hs
  have hx := C.1
  have hb := C.2.1
  refine x_entry (n := 3) (Nat.le_of_ble_eq_true rfl) (fun ls hl => ?_)
  have hl : lv_has ls 3 [(0, .ref x0)] := hl
  unfold f_G_giveUnowned at hf
  refine lv_iconst (v := 0) hx hb d_G_giveUnowned_0 (by decide) ?_
  refine lv_istore_n (lv' := [(1, .int 0), (0, .ref x0)]) hx hb d_G_giveUnowned_1 rfl hl (by decide) rfl (fun ls hl => ?_)
  exact t_G_giveUnowned_L2 hl0 C hr hex FU _ _ _ _ hf _ _ _ _ _ hs (lv_sub hl [1, 0] rfl)
def f_G_share (bs : Nat) (sE : Nat × Nat) (h : HH) (z : Z3) (x0 : Nat) : Option RS :=
  (gI h x0 1 0).bind fun v1 =>
  (pV bs h x0 1 0 (.inl (v1 + 1))).bind fun h2 =>
  (oK h2 x0 1).bind fun _ =>
  cI (f_G_countMembers bs sE h2 z x0) fun v5 h3 z4 =>
  if v5 ≤ 0 then
    (some (.inl none, h3, z4))
  else
    (if v5 = 0 then none else
    if v5 = 0 then none else
    (oK h3 x0 1).bind fun _ =>
    cV (f_G_takeSurplus bs sE h3 z4 x0 (4 / v5) (4 - 4 / v5 * v5)) fun h7 z8 =>
    (oK h7 x0 1).bind fun _ =>
    cV (f_G_giveUnowned bs sE h7 z8 x0) fun h10 z11 =>
    some (.inl none, h10, z11))
set_option maxHeartbeats 4000000 in
set_option maxRecDepth 100000 in
theorem c_G_share {G : EN} {l : Launch} (hl0 : l.stackTraces = false) {h : HH} {z : Z3} {x0 : Nat} {r : RS} (hf : f_G_share G.2.2.1 G.2.2.2 h z x0 = some r) : CM G l y_G_share (.code y_G_share b_G_share 2 none) 3 68 [.ref x0] h z r := by
  refine CM.ofW hl0 rfl ?_
  intro p e s m below meth c C hr hex hin hs
  have hx := C.1
  have hb := C.2.1
  refine x_entry (n := 2) (Nat.le_of_ble_eq_true rfl) (fun ls hl => ?_)
  have hl : lv_has ls 2 [(0, .ref x0)] := hl
  unfold f_G_share at hf
  refine lv_aload_n hx hb d_G_share_0 rfl (lv_at hl 0 rfl) ?_
  refine lv_dup hx hb d_G_share_1 rfl ?_
  refine r_getI C hs fl_G_9 d_G_share_2 hf (fun v1 hf => ?_)
  refine lv_iconst (v := 1) hx hb d_G_share_5 (by decide) ?_
  refine lv_iadd hx hb d_G_share_6 ?_
  refine r_putV (v := (.inl (v1 + 1))) C hs flp_G_9 rfl rfl d_G_share_7 hf (fun h2 H locs hf hs => ?_)
  refine lv_aload_n hx hb d_G_share_10 rfl (lv_at hl 0 rfl) ?_
  obtain ⟨_, ho, hf⟩ := bd hf
  refine k_I C hs hex hf (fun res e1 => iv_V (b := x0) (As := []) (rest := []) C hs cv_G_46 (c_G_countMembers hl0 e1) (ci := 1) rfl rfl ho rfl hl.1 rfl (Nat.le_of_ble_eq_true rfl) d_G_share_11 ⟨Nat.le_of_ble_eq_true rfl, Nat.le_of_ble_eq_true rfl⟩) (fun v5 h3 z4 H locs cells slots hf hs => ?_)
  refine lv_istore_n (lv' := [(1, .int v5), (0, .ref x0)]) hx hb d_G_share_14 rfl hl (by decide) rfl (fun ls hl => ?_)
  refine lv_iload_n hx hb d_G_share_15 rfl (lv_at hl 0 rfl) ?_
  refine lv_if_le (tgt := 33) hx hb d_G_share_16 (by decide) (fun q6 => ?_) (fun q6 => ?_)
  · have hf := ifp q6 hf
    exact r_vreturn C hs hr d_G_share_33 hf
  · have hf := ifn q6 hf
    refine lv_aload_n hx hb d_G_share_19 rfl (lv_at hl 1 rfl) ?_
    refine lv_iconst (v := 4) hx hb d_G_share_20 (by decide) ?_
    refine lv_iload_n hx hb d_G_share_21 rfl (lv_at hl 0 rfl) ?_
    by_cases q0 : v5 = 0
    · exact nomatch (show (none : Option RS) = some r from ifp q0 hf)
    have hf := ifn q0 hf
    refine lv_idiv hx hb d_G_share_22 q0 ?_
    refine lv_iconst (v := 4) hx hb d_G_share_23 (by decide) ?_
    refine lv_iload_n hx hb d_G_share_24 rfl (lv_at hl 0 rfl) ?_
    by_cases q0 : v5 = 0
    · exact nomatch (show (none : Option RS) = some r from ifp q0 hf)
    have hf := ifn q0 hf
    refine lv_irem hx hb d_G_share_25 q0 ?_
    obtain ⟨_, ho, hf⟩ := bd hf
    refine k_V C hs hex hf (fun res e1 => iv_V (b := x0) (As := [.int (4 / v5), .int (4 - 4 / v5 * v5)]) (rest := []) C hs cv_G_50 (c_G_takeSurplus hl0 e1) (ci := 1) rfl rfl ho rfl hl.1 rfl (Nat.le_of_ble_eq_true rfl) d_G_share_26 ⟨Nat.le_of_ble_eq_true rfl, Nat.le_of_ble_eq_true rfl⟩) (fun h7 z8 H locs cells slots hf hs => ?_)
    refine lv_aload_n hx hb d_G_share_29 rfl (lv_at hl 1 rfl) ?_
    obtain ⟨_, ho, hf⟩ := bd hf
    refine k_V C hs hex hf (fun res e1 => iv_V (b := x0) (As := []) (rest := []) C hs cv_G_53 (c_G_giveUnowned hl0 e1) (ci := 1) rfl rfl ho rfl hl.1 rfl (Nat.le_of_ble_eq_true rfl) d_G_share_30 ⟨Nat.le_of_ble_eq_true rfl, Nat.le_of_ble_eq_true rfl⟩) (fun h10 z11 H locs cells slots hf hs => ?_)
    exact r_vreturn C hs hr d_G_share_33 hf
def f_G_removeMember (bs : Nat) (sE : Nat × Nat) (h : HH) (z : Z3) (x0 : Nat) (x1 : Int32) : Option RS :=
  (gR h x0 1 1).bind fun v1 =>
  (aIs bs h v1 1 x1 (vp_nar .boolean 0)).bind fun h2 =>
  (gR h2 x0 1 3).bind fun v3 =>
  (aIs bs h2 v3 0 x1 0).bind fun h4 =>
  some (.inl none, h4, z)
set_option maxHeartbeats 4000000 in
set_option maxRecDepth 100000 in
theorem c_G_removeMember {G : EN} {l : Launch} (hl0 : l.stackTraces = false) {h : HH} {z : Z3} {x0 : Nat} {x1 : Int32} {r : RS} (hf : f_G_removeMember G.2.2.1 G.2.2.2 h z x0 x1 = some r) : CM G l y_G_removeMember (.code y_G_removeMember b_G_removeMember 2 none) 0 0 [.ref x0, .int x1] h z r := by
  refine CM.ofW hl0 rfl ?_
  intro p e s m below meth c C hr hex hin hs
  have hx := C.1
  have hb := C.2.1
  refine x_entry (n := 2) (Nat.le_of_ble_eq_true rfl) (fun ls hl => ?_)
  have hl : lv_has ls 2 [(0, .ref x0), (1, .int x1)] := hl
  unfold f_G_removeMember at hf
  refine lv_aload_n hx hb d_G_removeMember_0 rfl (lv_at hl 0 rfl) ?_
  refine r_getR C hs fl_G_15 d_G_removeMember_1 hf (fun v1 hf => ?_)
  refine lv_iload_n hx hb d_G_removeMember_4 rfl (lv_at hl 1 rfl) ?_
  refine lv_iconst (v := 0) hx hb d_G_removeMember_5 (by decide) ?_
  refine r_zast C hs d_G_removeMember_6 hf (fun h2 H locs hf hs => ?_)
  refine lv_aload_n hx hb d_G_removeMember_7 rfl (lv_at hl 0 rfl) ?_
  refine r_getR C hs fl_G_23 d_G_removeMember_8 hf (fun v3 hf => ?_)
  refine lv_iload_n hx hb d_G_removeMember_11 rfl (lv_at hl 1 rfl) ?_
  refine lv_iconst (v := 0) hx hb d_G_removeMember_12 (by decide) ?_
  refine r_iast C hs d_G_removeMember_13 hf (fun h4 H locs hf hs => ?_)
  exact r_vreturn C hs hr d_G_removeMember_14 hf
def fb_G_dropSilent_L4 (bs : Nat) (sE : Nat × Nat) (REC : HH → Z3 → Nat → Int32 → Int32 → Int32 → Option RS) (h : HH) (z : Z3) (x0 : Nat) (x1 : Int32) (x2 : Int32) (x3 : Int32) : Option RS :=
  if 4 ≤ x3 then
    (if x2 ≤ 0 then
      (some (.inl (some (.int x2)), h, z))
    else
      ((oK h x0 1).bind fun _ =>
      cV (f_G_share bs sE h z x0) fun h3 z4 =>
      some (.inl (some (.int x2)), h3, z4)))
  else
    ((gR h x0 1 1).bind fun v6 =>
    (aI h v6 1 x3).bind fun v7 =>
    if v7 = 0 then
      (REC h z x0 x1 x2 (x3 + 1))
    else
      ((gR h x0 1 2).bind fun v9 =>
      (aI h v9 0 x3).bind fun v10 =>
      if (x1 - v10) < 20 then
        (REC h z x0 x1 x2 (x3 + 1))
      else
        ((oK h x0 1).bind fun _ =>
        cV (f_G_removeMember bs sE h z x0 x3) fun h12 z13 =>
        REC h12 z13 x0 x1 (x2 + 1) (x3 + 1))))
def f_G_dropSilent_L4 (bs : Nat) (sE : Nat × Nat) : Nat → HH → Z3 → Nat → Int32 → Int32 → Int32 → Option RS
  | 0 => fun _ _ _ _ _ _ => none
  | n + 1 => fb_G_dropSilent_L4 bs sE (f_G_dropSilent_L4 bs sE n)
set_option maxHeartbeats 4000000 in
set_option maxRecDepth 100000 in
theorem t_G_dropSilent_L4 {G : EN} {p : Program} {l : Launch} {e : Env} {s : State} {m : MethodId} {args : Array Value} {below : List Frame} {meth : Method} {c : Code} {z0 : Z3} (hl0 : l.stackTraces = false) (C : CX G p l s m meth c b_G_dropSilent 4 y_G_dropSilent.cls) (hr : meth.sig.returnType = (some .int)) (hex : c.exceptionTable.toList = []) {r : RS} :
    ∀ (n : Nat) (h : HH) (z : Z3) (x0 : Nat) (x1 : Int32) (x2 : Int32) (x3 : Int32), f_G_dropSilent_L4 G.2.2.1 G.2.2.2 n h z x0 x1 x2 x3 = some r → ∀ (H : Heap) (locs : List Loc) (cells slots : Nat) (ls : Array Slot), ST G (RM 4 89 z0) s h z H locs cells slots → lv_has ls 4 [(0, .ref x0), (1, .int x1), (2, .int x2), (3, .int x3)] → W p l e (RM 4 89 z0) s m args below meth c H locs cells slots (MX G below s r (RM 4 89 z0).cells (RM 4 89 z0).slots) (F0 m 4 ls []) := by
  have hx := C.1
  have hb := C.2.1
  intro n
  induction n with
  | zero => intro h z x0 x1 x2 x3 hf; exact nomatch (show (none : Option RS) = some r from hf)
  | succ n ih =>
    intro h z x0 x1 x2 x3 hf H locs cells slots ls hs hl
    have hf : fb_G_dropSilent_L4 G.2.2.1 G.2.2.2 (f_G_dropSilent_L4 G.2.2.1 G.2.2.2 n) h z x0 x1 x2 x3 = some r := hf
    unfold fb_G_dropSilent_L4 at hf
    refine lv_iload_n hx hb d_G_dropSilent_4 rfl (lv_at hl 3 rfl) ?_
    refine lv_iconst (v := 4) hx hb d_G_dropSilent_5 (by decide) ?_
    refine lv_icmp_ge (tgt := 45) hx hb d_G_dropSilent_6 (by decide) (fun q1 => ?_) (fun q1 => ?_)
    · have hf := ifp q1 hf
      refine lv_iload_n hx hb d_G_dropSilent_45 rfl (lv_at hl 2 rfl) ?_
      refine lv_if_le (tgt := 53) hx hb d_G_dropSilent_46 (by decide) (fun q2 => ?_) (fun q2 => ?_)
      · have hf := ifp q2 hf
        refine lv_iload_n hx hb d_G_dropSilent_53 rfl (lv_at hl 2 rfl) ?_
        exact r_ireturn C hs hr d_G_dropSilent_54 hf
      · have hf := ifn q2 hf
        refine lv_aload_n hx hb d_G_dropSilent_49 rfl (lv_at hl 0 rfl) ?_
        obtain ⟨_, ho, hf⟩ := bd hf
        refine k_V C hs hex hf (fun res e1 => iv_V (b := x0) (As := []) (rest := []) C hs cv_G_43 (c_G_share hl0 e1) (ci := 1) rfl rfl ho rfl hl.1 rfl (Nat.le_of_ble_eq_true rfl) d_G_dropSilent_50 ⟨Nat.le_of_ble_eq_true rfl, Nat.le_of_ble_eq_true rfl⟩) (fun h3 z4 H locs cells slots hf hs => ?_)
        refine lv_iload_n hx hb d_G_dropSilent_53 rfl (lv_at hl 2 rfl) ?_
        exact r_ireturn C hs hr d_G_dropSilent_54 hf
    · have hf := ifn q1 hf
      refine lv_aload_n hx hb d_G_dropSilent_9 rfl (lv_at hl 0 rfl) ?_
      refine r_getR C hs fl_G_15 d_G_dropSilent_10 hf (fun v6 hf => ?_)
      refine lv_iload_n hx hb d_G_dropSilent_13 rfl (lv_at hl 3 rfl) ?_
      refine r_zald C hs d_G_dropSilent_14 hf (fun v7 hf => ?_)
      refine lv_if_eq (tgt := 39) hx hb d_G_dropSilent_15 (by decide) (fun q8 => ?_) (fun q8 => ?_)
      · have hf := ifp q8 hf
        refine lv_iinc (v := x3 + 1) (lv' := [(3, .int (x3 + 1)), (0, .ref x0), (1, .int x1), (2, .int x2)]) hx hb d_G_dropSilent_39 hl (k := 3) rfl rfl (by decide) rfl (fun ls hl => ?_)
        refine lv_goto (tgt := 4) hx hb d_G_dropSilent_42 (by decide) ?_
        exact ih _ _ _ _ _ _ hf _ _ _ _ _ hs (lv_sub hl [1, 2, 3, 0] rfl)
      · have hf := ifn q8 hf
        refine lv_iload_n hx hb d_G_dropSilent_18 rfl (lv_at hl 1 rfl) ?_
        refine lv_aload_n hx hb d_G_dropSilent_19 rfl (lv_at hl 0 rfl) ?_
        refine r_getR C hs fl_G_19 d_G_dropSilent_20 hf (fun v9 hf => ?_)
        refine lv_iload_n hx hb d_G_dropSilent_23 rfl (lv_at hl 3 rfl) ?_
        refine r_iald C hs d_G_dropSilent_24 hf (fun v10 hf => ?_)
        refine lv_isub hx hb d_G_dropSilent_25 ?_
        refine lv_bipush (v := 20) hx hb d_G_dropSilent_26 (by decide) ?_
        refine lv_icmp_lt (tgt := 39) hx hb d_G_dropSilent_28 (by decide) (fun q11 => ?_) (fun q11 => ?_)
        · have hf := ifp q11 hf
          refine lv_iinc (v := x3 + 1) (lv' := [(3, .int (x3 + 1)), (0, .ref x0), (1, .int x1), (2, .int x2)]) hx hb d_G_dropSilent_39 hl (k := 3) rfl rfl (by decide) rfl (fun ls hl => ?_)
          refine lv_goto (tgt := 4) hx hb d_G_dropSilent_42 (by decide) ?_
          exact ih _ _ _ _ _ _ hf _ _ _ _ _ hs (lv_sub hl [1, 2, 3, 0] rfl)
        · have hf := ifn q11 hf
          refine lv_aload_n hx hb d_G_dropSilent_31 rfl (lv_at hl 0 rfl) ?_
          refine lv_iload_n hx hb d_G_dropSilent_32 rfl (lv_at hl 3 rfl) ?_
          obtain ⟨_, ho, hf⟩ := bd hf
          refine k_V C hs hex hf (fun res e1 => iv_V (b := x0) (As := [.int x3]) (rest := []) C hs cv_G_39 (c_G_removeMember hl0 e1) (ci := 1) rfl rfl ho rfl hl.1 rfl (Nat.le_of_ble_eq_true rfl) d_G_dropSilent_33 ⟨Nat.le_of_ble_eq_true rfl, Nat.le_of_ble_eq_true rfl⟩) (fun h12 z13 H locs cells slots hf hs => ?_)
          refine lv_iinc (v := x2 + 1) (lv' := [(2, .int (x2 + 1)), (0, .ref x0), (1, .int x1), (3, .int x3)]) hx hb d_G_dropSilent_36 hl (k := 2) rfl rfl (by decide) rfl (fun ls hl => ?_)
          refine lv_iinc (v := x3 + 1) (lv' := [(3, .int (x3 + 1)), (2, .int (x2 + 1)), (0, .ref x0), (1, .int x1)]) hx hb d_G_dropSilent_39 hl (k := 3) rfl rfl (by decide) rfl (fun ls hl => ?_)
          refine lv_goto (tgt := 4) hx hb d_G_dropSilent_42 (by decide) ?_
          exact ih _ _ _ _ _ _ hf _ _ _ _ _ hs (lv_sub hl [2, 3, 1, 0] rfl)
def f_G_dropSilent (bs : Nat) (sE : Nat × Nat) (h : HH) (z : Z3) (x0 : Nat) (x1 : Int32) : Option RS :=
  f_G_dropSilent_L4 bs sE FU h z x0 x1 0 0
set_option maxHeartbeats 4000000 in
set_option maxRecDepth 100000 in
theorem c_G_dropSilent {G : EN} {l : Launch} (hl0 : l.stackTraces = false) {h : HH} {z : Z3} {x0 : Nat} {x1 : Int32} {r : RS} (hf : f_G_dropSilent G.2.2.1 G.2.2.2 h z x0 x1 = some r) : CM G l y_G_dropSilent (.code y_G_dropSilent b_G_dropSilent 4 (some .int)) 4 89 [.ref x0, .int x1] h z r := by
  refine CM.ofW hl0 rfl ?_
  intro p e s m below meth c C hr hex hin hs
  have hx := C.1
  have hb := C.2.1
  refine x_entry (n := 4) (Nat.le_of_ble_eq_true rfl) (fun ls hl => ?_)
  have hl : lv_has ls 4 [(0, .ref x0), (1, .int x1)] := hl
  unfold f_G_dropSilent at hf
  refine lv_iconst (v := 0) hx hb d_G_dropSilent_0 (by decide) ?_
  refine lv_istore_n (lv' := [(2, .int 0), (0, .ref x0), (1, .int x1)]) hx hb d_G_dropSilent_1 rfl hl (by decide) rfl (fun ls hl => ?_)
  refine lv_iconst (v := 0) hx hb d_G_dropSilent_2 (by decide) ?_
  refine lv_istore_n (lv' := [(3, .int 0), (2, .int 0), (0, .ref x0), (1, .int x1)]) hx hb d_G_dropSilent_3 rfl hl (by decide) rfl (fun ls hl => ?_)
  exact t_G_dropSilent_L4 hl0 C hr hex FU _ _ _ _ _ _ hf _ _ _ _ _ hs (lv_sub hl [2, 3, 1, 0] rfl)
