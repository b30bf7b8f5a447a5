def f_W_init (bs : Nat) (sE : Nat × Nat) (h : HH) (z : Z3) (x0 : Nat) (x1 : Int32) (x2 : Nat) : Option RS :=
  (oK h x0 4).bind fun _ =>
  cX (f_B_init bs sE h z x0 x1)
    (fun v3 h1 z2 =>
      (aJs bs h1 x2 2 0 v3.toInt64).bind fun h4 =>
      some (.inl (some (.int 0)), h4, z2))
    (fun E h5 z6 =>
      if E = "java/lang/IllegalArgumentException" then some (.inl (some (.int 1)), h5, z6) else
      if E = "java/lang/IllegalStateException" then some (.inl (some (.int 2)), h5, z6) else
      none)
set_option maxHeartbeats 4000000 in
set_option maxRecDepth 100000 in
theorem c_W_init {G : EN} {l : Launch} (hl0 : l.stackTraces = false) {h : HH} {z : Z3} {x0 : Nat} {x1 : Int32} {x2 : Nat} {r : RS} (hf : f_W_init G.2.2.1 G.2.2.2 h z x0 x1 x2 = some r) : CM G l y_W_init (.codeWith y_W_init b_W_init 4 (some .int) hh_W_init) 8 134 [.ref x0, .int x1, .ref x2] h z r := by
  refine CM.ofWH hl0 rfl ?_
  intro p e s m below meth c C hr htab hs
  have hx := C.1
  have hb := C.2.1
  have hnc := (C.2.2.2.2.2.1.here C.2.2.2.2.2.2.1).2.2.2.2.2.1
  refine x_entry (n := 4) (Nat.le_of_ble_eq_true rfl) (fun ls hl => ?_)
  have hl : lv_has ls 4 [(0, .ref x0), (1, .int x1), (2, .ref x2)] := hl
  unfold f_W_init at hf
  refine lv_aload_n hx hb d_W_init_0 rfl (lv_at hl 2 rfl) ?_
  refine lv_iconst (v := 0) hx hb d_W_init_1 (by decide) ?_
  refine lv_aload_n hx hb d_W_init_2 rfl (lv_at hl 0 rfl) ?_
  refine lv_iload_n hx hb d_W_init_3 rfl (lv_at hl 1 rfl) ?_
  obtain ⟨_, ho, hf⟩ := bd hf
  refine k_X C hs hf (fun res e1 => iv_V (b := x0) (As := [.int x1]) (rest := [.int 0, .ref x2]) C hs cv_W_7 (c_B_init hl0 e1) (ci := 4) rfl rfl ho rfl hl.1 rfl (Nat.le_of_ble_eq_true rfl) d_W_init_4 ⟨Nat.le_of_ble_eq_true rfl, Nat.le_of_ble_eq_true rfl⟩) ?_ ?_
  · intro v3 h1 z2 H locs cells slots hf hs
    refine lv_i2l (v := v3.toInt64) hx hb d_W_init_7 rfl ?_
    refine r_last C hs d_W_init_8 hf (fun h4 H locs hf hs => ?_)
    refine lv_goto (tgt := 18) hx hb d_W_init_9 (by decide) ?_
    refine lv_iconst (v := 0) hx hb d_W_init_18 (by decide) ?_
    exact r_ireturn C hs hr d_W_init_19 hf
  · intro E h5 z6 hf
    by_cases q0 : E = "java/lang/IllegalArgumentException"
    · subst q0
      have hf := ifp rfl hf
      refine ⟨[], mkE (0, 9, 12, 13), [mkE (0, 9, 15, 15)], htab, (fun y hy => nomatch hy), by decide, by decide, tm (i := 333) (by decide +kernel), tm (i := 344) (by decide +kernel), fun q9 H locs cells slots hs => ?_⟩
      refine lv_astore_n (lv' := [(3, .ref q9), (0, .ref x0), (1, .int x1), (2, .ref x2)]) hx hb d_W_init_12 rfl hl (by decide) rfl (fun ls hl => ?_)
      refine lv_iconst (v := 1) hx hb d_W_init_13 (by decide) ?_
      exact r_ireturn C hs hr d_W_init_14 hf
    have hf := ifn q0 hf
    by_cases q1 : E = "java/lang/IllegalStateException"
    · subst q1
      have hf := ifp rfl hf
      refine ⟨[mkE (0, 9, 12, 13)], mkE (0, 9, 15, 15), [], htab, (fun y hy => by
          simp only [List.mem_cons, List.not_mem_nil, or_false] at hy
          rcases hy with rfl
          all_goals first
            | exact ⟨by decide, by decide, "java/lang/IllegalArgumentException", tm (i := 333) (by decide +kernel), hnc _ (by decide) "java/lang/IllegalArgumentException" (by decide) (by decide)⟩), by decide, by decide, tm (i := 334) (by decide +kernel), tm (i := 414) (by decide +kernel), fun q9 H locs cells slots hs => ?_⟩
      refine lv_astore_n (lv' := [(3, .ref q9), (0, .ref x0), (1, .int x1), (2, .ref x2)]) hx hb d_W_init_15 rfl hl (by decide) rfl (fun ls hl => ?_)
      refine lv_iconst (v := 2) hx hb d_W_init_16 (by decide) ?_
      exact r_ireturn C hs hr d_W_init_17 hf
    have hf := ifn q1 hf
    exact nomatch (show (none : Option RS) = some r from hf)
def f_W_begin (bs : Nat) (sE : Nat × Nat) (h : HH) (z : Z3) (x0 : Nat) (x1 : Int32) (x2 : Int32) (x3 : Nat) : Option RS :=
  (oK h x0 4).bind fun _ =>
  cX (f_B_begin bs sE h z x0 x1 x2)
    (fun v3 h1 z2 =>
      (aJs bs h1 x3 2 0 v3.toInt64).bind fun h4 =>
      some (.inl (some (.int 0)), h4, z2))
    (fun E h5 z6 =>
      if E = "java/lang/IllegalArgumentException" then some (.inl (some (.int 1)), h5, z6) else
      if E = "java/util/NoSuchElementException" then some (.inl (some (.int 2)), h5, z6) else
      if E = "java/lang/IllegalStateException" then some (.inl (some (.int 3)), h5, z6) else
      none)
set_option maxHeartbeats 4000000 in
set_option maxRecDepth 100000 in
theorem c_W_begin {G : EN} {l : Launch} (hl0 : l.stackTraces = false) {h : HH} {z : Z3} {x0 : Nat} {x1 : Int32} {x2 : Int32} {x3 : Nat} {r : RS} (hf : f_W_begin G.2.2.1 G.2.2.2 h z x0 x1 x2 x3 = some r) : CM G l y_W_begin (.codeWith y_W_begin b_W_begin 5 (some .int) hh_W_begin) 8 136 [.ref x0, .int x1, .int x2, .ref x3] h z r := by
  refine CM.ofWH hl0 rfl ?_
  intro p e s m below meth c C hr htab hs
  have hx := C.1
  have hb := C.2.1
  have hnc := (C.2.2.2.2.2.1.here C.2.2.2.2.2.2.1).2.2.2.2.2.1
  refine x_entry (n := 5) (Nat.le_of_ble_eq_true rfl) (fun ls hl => ?_)
  have hl : lv_has ls 5 [(0, .ref x0), (1, .int x1), (2, .int x2), (3, .ref x3)] := hl
  unfold f_W_begin at hf
  refine lv_aload_n hx hb d_W_begin_0 rfl (lv_at hl 3 rfl) ?_
  refine lv_iconst (v := 0) hx hb d_W_begin_1 (by decide) ?_
  refine lv_aload_n hx hb d_W_begin_2 rfl (lv_at hl 0 rfl) ?_
  refine lv_iload_n hx hb d_W_begin_3 rfl (lv_at hl 1 rfl) ?_
  refine lv_iload_n hx hb d_W_begin_4 rfl (lv_at hl 2 rfl) ?_
  obtain ⟨_, ho, hf⟩ := bd hf
  refine k_X C hs hf (fun res e1 => iv_V (b := x0) (As := [.int x1, .int x2]) (rest := [.int 0, .ref x3]) C hs cv_W_17 (c_B_begin hl0 e1) (ci := 4) rfl rfl ho rfl hl.1 rfl (Nat.le_of_ble_eq_true rfl) d_W_begin_5 ⟨Nat.le_of_ble_eq_true rfl, Nat.le_of_ble_eq_true rfl⟩) ?_ ?_
  · intro v3 h1 z2 H locs cells slots hf hs
    refine lv_i2l (v := v3.toInt64) hx hb d_W_begin_8 rfl ?_
    refine r_last C hs d_W_begin_9 hf (fun h4 H locs hf hs => ?_)
    refine lv_goto (tgt := 25) hx hb d_W_begin_10 (by decide) ?_
    refine lv_iconst (v := 0) hx hb d_W_begin_25 (by decide) ?_
    exact r_ireturn C hs hr d_W_begin_26 hf
  · intro E h5 z6 hf
    by_cases q0 : E = "java/lang/IllegalArgumentException"
    · subst q0
      have hf := ifp rfl hf
      refine ⟨[], mkE (0, 10, 13, 13), [mkE (0, 10, 17, 21), mkE (0, 10, 21, 15)], htab, (fun y hy => nomatch hy), by decide, by decide, tm (i := 333) (by decide +kernel), tm (i := 344) (by decide +kernel), fun q9 H locs cells slots hs => ?_⟩
      refine lv_astore (lv' := [(4, .ref q9), (0, .ref x0), (1, .int x1), (2, .int x2), (3, .ref x3)]) hx hb d_W_begin_13 hl (by decide) rfl (fun ls hl => ?_)
      refine lv_iconst (v := 1) hx hb d_W_begin_15 (by decide) ?_
      exact r_ireturn C hs hr d_W_begin_16 hf
    have hf := ifn q0 hf
    by_cases q1 : E = "java/util/NoSuchElementException"
    · subst q1
      have hf := ifp rfl hf
      refine ⟨[mkE (0, 10, 13, 13)], mkE (0, 10, 17, 21), [mkE (0, 10, 21, 15)], htab, (fun y hy => by
          simp only [List.mem_cons, List.not_mem_nil, or_false] at hy
          rcases hy with rfl
          all_goals first
            | exact ⟨by decide, by decide, "java/lang/IllegalArgumentException", tm (i := 333) (by decide +kernel), hnc _ (by decide) "java/lang/IllegalArgumentException" (by decide) (by decide)⟩), by decide, by decide, tm (i := 444) (by decide +kernel), tm (i := 459) (by decide +kernel), fun q9 H locs cells slots hs => ?_⟩
      refine lv_astore (lv' := [(4, .ref q9), (0, .ref x0), (1, .int x1), (2, .int x2), (3, .ref x3)]) hx hb d_W_begin_17 hl (by decide) rfl (fun ls hl => ?_)
      refine lv_iconst (v := 2) hx hb d_W_begin_19 (by decide) ?_
      exact r_ireturn C hs hr d_W_begin_20 hf
    have hf := ifn q1 hf
    by_cases q2 : E = "java/lang/IllegalStateException"
    · subst q2
      have hf := ifp rfl hf
      refine ⟨[mkE (0, 10, 13, 13), mkE (0, 10, 17, 21)], mkE (0, 10, 21, 15), [], htab, (fun y hy => by
          simp only [List.mem_cons, List.not_mem_nil, or_false] at hy
          rcases hy with rfl | rfl
          all_goals first
            | exact ⟨by decide, by decide, "java/lang/IllegalArgumentException", tm (i := 333) (by decide +kernel), hnc _ (by decide) "java/lang/IllegalArgumentException" (by decide) (by decide)⟩
            | exact ⟨by decide, by decide, "java/util/NoSuchElementException", tm (i := 444) (by decide +kernel), hnc _ (by decide) "java/util/NoSuchElementException" (by decide) (by decide)⟩), by decide, by decide, tm (i := 334) (by decide +kernel), tm (i := 414) (by decide +kernel), fun q9 H locs cells slots hs => ?_⟩
      refine lv_astore (lv' := [(4, .ref q9), (0, .ref x0), (1, .int x1), (2, .int x2), (3, .ref x3)]) hx hb d_W_begin_21 hl (by decide) rfl (fun ls hl => ?_)
      refine lv_iconst (v := 3) hx hb d_W_begin_23 (by decide) ?_
      exact r_ireturn C hs hr d_W_begin_24 hf
    have hf := ifn q2 hf
    exact nomatch (show (none : Option RS) = some r from hf)
def f_W_send (bs : Nat) (sE : Nat × Nat) (h : HH) (z : Z3) (x0 : Nat) (x1 : Int32) (x2 : Int32) (x3 : Int32) (x4 : Int32) (x5 : Int32) (x6 : Nat) : Option RS :=
  (oK h x0 4).bind fun _ =>
  cX (f_B_send bs sE h z x0 x1 x2 x3 x4 x5)
    (fun v3 h1 z2 =>
      (aJs bs h1 x6 2 0 v3.toInt64).bind fun h4 =>
      some (.inl (some (.int 0)), h4, z2))
    (fun E h5 z6 =>
      if E = "java/lang/IllegalArgumentException" then some (.inl (some (.int 1)), h5, z6) else
      if E = "java/util/NoSuchElementException" then some (.inl (some (.int 2)), h5, z6) else
      if E = "java/lang/IllegalStateException" then some (.inl (some (.int 3)), h5, z6) else
      if E = "java/lang/UnsupportedOperationException" then some (.inl (some (.int 4)), h5, z6) else
      none)
set_option maxHeartbeats 4000000 in
set_option maxRecDepth 100000 in
theorem c_W_send {G : EN} {l : Launch} (hl0 : l.stackTraces = false) {h : HH} {z : Z3} {x0 : Nat} {x1 : Int32} {x2 : Int32} {x3 : Int32} {x4 : Int32} {x5 : Int32} {x6 : Nat} {r : RS} (hf : f_W_send G.2.2.1 G.2.2.2 h z x0 x1 x2 x3 x4 x5 x6 = some r) : CM G l y_W_send (.codeWith y_W_send b_W_send 8 (some .int) hh_W_send) 10 263 [.ref x0, .int x1, .int x2, .int x3, .int x4, .int x5, .ref x6] h z r := by
  refine CM.ofWH hl0 rfl ?_
  intro p e s m below meth c C hr htab hs
  have hx := C.1
  have hb := C.2.1
  have hnc := (C.2.2.2.2.2.1.here C.2.2.2.2.2.2.1).2.2.2.2.2.1
  refine x_entry (n := 8) (Nat.le_of_ble_eq_true rfl) (fun ls hl => ?_)
  have hl : lv_has ls 8 [(0, .ref x0), (1, .int x1), (2, .int x2), (3, .int x3), (4, .int x4), (5, .int x5), (6, .ref x6)] := hl
  unfold f_W_send at hf
  refine lv_aload hx hb d_W_send_0 (lv_at hl 6 rfl) ?_
  refine lv_iconst (v := 0) hx hb d_W_send_2 (by decide) ?_
  refine lv_aload_n hx hb d_W_send_3 rfl (lv_at hl 0 rfl) ?_
  refine lv_iload_n hx hb d_W_send_4 rfl (lv_at hl 1 rfl) ?_
  refine lv_iload_n hx hb d_W_send_5 rfl (lv_at hl 2 rfl) ?_
  refine lv_iload_n hx hb d_W_send_6 rfl (lv_at hl 3 rfl) ?_
  refine lv_iload hx hb d_W_send_7 (lv_at hl 4 rfl) ?_
  refine lv_iload hx hb d_W_send_9 (lv_at hl 5 rfl) ?_
  obtain ⟨_, ho, hf⟩ := bd hf
  refine k_X C hs hf (fun res e1 => iv_V (b := x0) (As := [.int x1, .int x2, .int x3, .int x4, .int x5]) (rest := [.int 0, .ref x6]) C hs cv_W_23 (c_B_send hl0 e1) (ci := 4) rfl rfl ho rfl hl.1 rfl (Nat.le_of_ble_eq_true rfl) d_W_send_11 ⟨Nat.le_of_ble_eq_true rfl, Nat.le_of_ble_eq_true rfl⟩) ?_ ?_
  · intro v3 h1 z2 H locs cells slots hf hs
    refine lv_i2l (v := v3.toInt64) hx hb d_W_send_14 rfl ?_
    refine r_last C hs d_W_send_15 hf (fun h4 H locs hf hs => ?_)
    refine lv_goto (tgt := 35) hx hb d_W_send_16 (by decide) ?_
    refine lv_iconst (v := 0) hx hb d_W_send_35 (by decide) ?_
    exact r_ireturn C hs hr d_W_send_36 hf
  · intro E h5 z6 hf
    by_cases q0 : E = "java/lang/IllegalArgumentException"
    · subst q0
      have hf := ifp rfl hf
      refine ⟨[], mkE (0, 16, 19, 13), [mkE (0, 16, 23, 21), mkE (0, 16, 27, 15), mkE (0, 16, 31, 27)], htab, (fun y hy => nomatch hy), by decide, by decide, tm (i := 333) (by decide +kernel), tm (i := 344) (by decide +kernel), fun q9 H locs cells slots hs => ?_⟩
      refine lv_astore (lv' := [(7, .ref q9), (0, .ref x0), (1, .int x1), (2, .int x2), (3, .int x3), (4, .int x4), (5, .int x5), (6, .ref x6)]) hx hb d_W_send_19 hl (by decide) rfl (fun ls hl => ?_)
      refine lv_iconst (v := 1) hx hb d_W_send_21 (by decide) ?_
      exact r_ireturn C hs hr d_W_send_22 hf
    have hf := ifn q0 hf
    by_cases q1 : E = "java/util/NoSuchElementException"
    · subst q1
      have hf := ifp rfl hf
      refine ⟨[mkE (0, 16, 19, 13)], mkE (0, 16, 23, 21), [mkE (0, 16, 27, 15), mkE (0, 16, 31, 27)], htab, (fun y hy => by
          simp only [List.mem_cons, List.not_mem_nil, or_false] at hy
          rcases hy with rfl
          all_goals first
            | exact ⟨by decide, by decide, "java/lang/IllegalArgumentException", tm (i := 333) (by decide +kernel), hnc _ (by decide) "java/lang/IllegalArgumentException" (by decide) (by decide)⟩), by decide, by decide, tm (i := 444) (by decide +kernel), tm (i := 459) (by decide +kernel), fun q9 H locs cells slots hs => ?_⟩
      refine lv_astore (lv' := [(7, .ref q9), (0, .ref x0), (1, .int x1), (2, .int x2), (3, .int x3), (4, .int x4), (5, .int x5), (6, .ref x6)]) hx hb d_W_send_23 hl (by decide) rfl (fun ls hl => ?_)
      refine lv_iconst (v := 2) hx hb d_W_send_25 (by decide) ?_
      exact r_ireturn C hs hr d_W_send_26 hf
    have hf := ifn q1 hf
    by_cases q2 : E = "java/lang/IllegalStateException"
    · subst q2
      have hf := ifp rfl hf
      refine ⟨[mkE (0, 16, 19, 13), mkE (0, 16, 23, 21)], mkE (0, 16, 27, 15), [mkE (0, 16, 31, 27)], htab, (fun y hy => by
          simp only [List.mem_cons, List.not_mem_nil, or_false] at hy
          rcases hy with rfl | rfl
          all_goals first
            | exact ⟨by decide, by decide, "java/lang/IllegalArgumentException", tm (i := 333) (by decide +kernel), hnc _ (by decide) "java/lang/IllegalArgumentException" (by decide) (by decide)⟩
            | exact ⟨by decide, by decide, "java/util/NoSuchElementException", tm (i := 444) (by decide +kernel), hnc _ (by decide) "java/util/NoSuchElementException" (by decide) (by decide)⟩), by decide, by decide, tm (i := 334) (by decide +kernel), tm (i := 414) (by decide +kernel), fun q9 H locs cells slots hs => ?_⟩
      refine lv_astore (lv' := [(7, .ref q9), (0, .ref x0), (1, .int x1), (2, .int x2), (3, .int x3), (4, .int x4), (5, .int x5), (6, .ref x6)]) hx hb d_W_send_27 hl (by decide) rfl (fun ls hl => ?_)
      refine lv_iconst (v := 3) hx hb d_W_send_29 (by decide) ?_
      exact r_ireturn C hs hr d_W_send_30 hf
    have hf := ifn q2 hf
    by_cases q3 : E = "java/lang/UnsupportedOperationException"
    · subst q3
      have hf := ifp rfl hf
      refine ⟨[mkE (0, 16, 19, 13), mkE (0, 16, 23, 21), mkE (0, 16, 27, 15)], mkE (0, 16, 31, 27), [], htab, (fun y hy => by
          simp only [List.mem_cons, List.not_mem_nil, or_false] at hy
          rcases hy with rfl | rfl | rfl
          all_goals first
            | exact ⟨by decide, by decide, "java/lang/IllegalArgumentException", tm (i := 333) (by decide +kernel), hnc _ (by decide) "java/lang/IllegalArgumentException" (by decide) (by decide)⟩
            | exact ⟨by decide, by decide, "java/util/NoSuchElementException", tm (i := 444) (by decide +kernel), hnc _ (by decide) "java/util/NoSuchElementException" (by decide) (by decide)⟩
            | exact ⟨by decide, by decide, "java/lang/IllegalStateException", tm (i := 334) (by decide +kernel), hnc _ (by decide) "java/lang/IllegalStateException" (by decide) (by decide)⟩), by decide, by decide, tm (i := 487) (by decide +kernel), tm (i := 529) (by decide +kernel), fun q9 H locs cells slots hs => ?_⟩
      refine lv_astore (lv' := [(7, .ref q9), (0, .ref x0), (1, .int x1), (2, .int x2), (3, .int x3), (4, .int x4), (5, .int x5), (6, .ref x6)]) hx hb d_W_send_31 hl (by decide) rfl (fun ls hl => ?_)
      refine lv_iconst (v := 4) hx hb d_W_send_33 (by decide) ?_
      exact r_ireturn C hs hr d_W_send_34 hf
    have hf := ifn q3 hf
    exact nomatch (show (none : Option RS) = some r from hf)
def f_W_pend (bs : Nat) (sE : Nat × Nat) (h : HH) (z : Z3) (x0 : Nat) (x1 : Int32) (x2 : Int32) (x3 : Int32) (x4 : Int32) (x5 : Int32) (x6 : Nat) : Option RS :=
  (oK h x0 4).bind fun _ =>
  cX (f_B_pend bs sE h z x0 x1 x2 x3 x4 x5)
    (fun v3 h1 z2 =>
      (aJs bs h1 x6 2 0 v3.toInt64).bind fun h4 =>
      some (.inl (some (.int 0)), h4, z2))
    (fun E h5 z6 =>
      if E = "java/lang/IllegalArgumentException" then some (.inl (some (.int 1)), h5, z6) else
      if E = "java/util/NoSuchElementException" then some (.inl (some (.int 2)), h5, z6) else
      if E = "java/lang/IllegalStateException" then some (.inl (some (.int 3)), h5, z6) else
      none)
set_option maxHeartbeats 4000000 in
set_option maxRecDepth 100000 in
theorem c_W_pend {G : EN} {l : Launch} (hl0 : l.stackTraces = false) {h : HH} {z : Z3} {x0 : Nat} {x1 : Int32} {x2 : Int32} {x3 : Int32} {x4 : Int32} {x5 : Int32} {x6 : Nat} {r : RS} (hf : f_W_pend G.2.2.1 G.2.2.2 h z x0 x1 x2 x3 x4 x5 x6 = some r) : CM G l y_W_pend (.codeWith y_W_pend b_W_pend 8 (some .int) hh_W_pend) 9 161 [.ref x0, .int x1, .int x2, .int x3, .int x4, .int x5, .ref x6] h z r := by
  refine CM.ofWH hl0 rfl ?_
  intro p e s m below meth c C hr htab hs
  have hx := C.1
  have hb := C.2.1
  have hnc := (C.2.2.2.2.2.1.here C.2.2.2.2.2.2.1).2.2.2.2.2.1
  refine x_entry (n := 8) (Nat.le_of_ble_eq_true rfl) (fun ls hl => ?_)
  have hl : lv_has ls 8 [(0, .ref x0), (1, .int x1), (2, .int x2), (3, .int x3), (4, .int x4), (5, .int x5), (6, .ref x6)] := hl
  unfold f_W_pend at hf
  refine lv_aload hx hb d_W_pend_0 (lv_at hl 6 rfl) ?_
  refine lv_iconst (v := 0) hx hb d_W_pend_2 (by decide) ?_
  refine lv_aload_n hx hb d_W_pend_3 rfl (lv_at hl 0 rfl) ?_
  refine lv_iload_n hx hb d_W_pend_4 rfl (lv_at hl 1 rfl) ?_
  refine lv_iload_n hx hb d_W_pend_5 rfl (lv_at hl 2 rfl) ?_
  refine lv_iload_n hx hb d_W_pend_6 rfl (lv_at hl 3 rfl) ?_
  refine lv_iload hx hb d_W_pend_7 (lv_at hl 4 rfl) ?_
  refine lv_iload hx hb d_W_pend_9 (lv_at hl 5 rfl) ?_
  obtain ⟨_, ho, hf⟩ := bd hf
  refine k_X C hs hf (fun res e1 => iv_V (b := x0) (As := [.int x1, .int x2, .int x3, .int x4, .int x5]) (rest := [.int 0, .ref x6]) C hs cv_W_29 (c_B_pend hl0 e1) (ci := 4) rfl rfl ho rfl hl.1 rfl (Nat.le_of_ble_eq_true rfl) d_W_pend_11 ⟨Nat.le_of_ble_eq_true rfl, Nat.le_of_ble_eq_true rfl⟩) ?_ ?_
  · intro v3 h1 z2 H locs cells slots hf hs
    refine lv_i2l (v := v3.toInt64) hx hb d_W_pend_14 rfl ?_
    refine r_last C hs d_W_pend_15 hf (fun h4 H locs hf hs => ?_)
    refine lv_goto (tgt := 31) hx hb d_W_pend_16 (by decide) ?_
    refine lv_iconst (v := 0) hx hb d_W_pend_31 (by decide) ?_
    exact r_ireturn C hs hr d_W_pend_32 hf
  · intro E h5 z6 hf
    by_cases q0 : E = "java/lang/IllegalArgumentException"
    · subst q0
      have hf := ifp rfl hf
      refine ⟨[], mkE (0, 16, 19, 13), [mkE (0, 16, 23, 21), mkE (0, 16, 27, 15)], htab, (fun y hy => nomatch hy), by decide, by decide, tm (i := 333) (by decide +kernel), tm (i := 344) (by decide +kernel), fun q9 H locs cells slots hs => ?_⟩
      refine lv_astore (lv' := [(7, .ref q9), (0, .ref x0), (1, .int x1), (2, .int x2), (3, .int x3), (4, .int x4), (5, .int x5), (6, .ref x6)]) hx hb d_W_pend_19 hl (by decide) rfl (fun ls hl => ?_)
      refine lv_iconst (v := 1) hx hb d_W_pend_21 (by decide) ?_
      exact r_ireturn C hs hr d_W_pend_22 hf
    have hf := ifn q0 hf
    by_cases q1 : E = "java/util/NoSuchElementException"
    · subst q1
      have hf := ifp rfl hf
      refine ⟨[mkE (0, 16, 19, 13)], mkE (0, 16, 23, 21), [mkE (0, 16, 27, 15)], htab, (fun y hy => by
          simp only [List.mem_cons, List.not_mem_nil, or_false] at hy
          rcases hy with rfl
          all_goals first
            | exact ⟨by decide, by decide, "java/lang/IllegalArgumentException", tm (i := 333) (by decide +kernel), hnc _ (by decide) "java/lang/IllegalArgumentException" (by decide) (by decide)⟩), by decide, by decide, tm (i := 444) (by decide +kernel), tm (i := 459) (by decide +kernel), fun q9 H locs cells slots hs => ?_⟩
      refine lv_astore (lv' := [(7, .ref q9), (0, .ref x0), (1, .int x1), (2, .int x2), (3, .int x3), (4, .int x4), (5, .int x5), (6, .ref x6)]) hx hb d_W_pend_23 hl (by decide) rfl (fun ls hl => ?_)
      refine lv_iconst (v := 2) hx hb d_W_pend_25 (by decide) ?_
      exact r_ireturn C hs hr d_W_pend_26 hf
    have hf := ifn q1 hf
    by_cases q2 : E = "java/lang/IllegalStateException"
    · subst q2
      have hf := ifp rfl hf
      refine ⟨[mkE (0, 16, 19, 13), mkE (0, 16, 23, 21)], mkE (0, 16, 27, 15), [], htab, (fun y hy => by
          simp only [List.mem_cons, List.not_mem_nil, or_false] at hy
          rcases hy with rfl | rfl
          all_goals first
            | exact ⟨by decide, by decide, "java/lang/IllegalArgumentException", tm (i := 333) (by decide +kernel), hnc _ (by decide) "java/lang/IllegalArgumentException" (by decide) (by decide)⟩
            | exact ⟨by decide, by decide, "java/util/NoSuchElementException", tm (i := 444) (by decide +kernel), hnc _ (by decide) "java/util/NoSuchElementException" (by decide) (by decide)⟩), by decide, by decide, tm (i := 334) (by decide +kernel), tm (i := 414) (by decide +kernel), fun q9 H locs cells slots hs => ?_⟩
      refine lv_astore (lv' := [(7, .ref q9), (0, .ref x0), (1, .int x1), (2, .int x2), (3, .int x3), (4, .int x4), (5, .int x5), (6, .ref x6)]) hx hb d_W_pend_27 hl (by decide) rfl (fun ls hl => ?_)
      refine lv_iconst (v := 3) hx hb d_W_pend_29 (by decide) ?_
      exact r_ireturn C hs hr d_W_pend_30 hf
    have hf := ifn q2 hf
    exact nomatch (show (none : Option RS) = some r from hf)
def f_W_finish (bs : Nat) (sE : Nat × Nat) (h : HH) (z : Z3) (x0 : Nat) (x1 : Int32) (x2 : Int32) (x3 : Int32) (x4 : Nat) : Option RS :=
  (oK h x0 4).bind fun _ =>
  cX (f_B_finish bs sE h z x0 x1 x2 x3)
    (fun v3 h1 z2 =>
      (aJs bs h1 x4 2 0 v3.toInt64).bind fun h4 =>
      some (.inl (some (.int 0)), h4, z2))
    (fun E h5 z6 =>
      if E = "java/lang/IllegalArgumentException" then some (.inl (some (.int 1)), h5, z6) else
      if E = "java/util/NoSuchElementException" then some (.inl (some (.int 2)), h5, z6) else
      if E = "java/lang/IllegalStateException" then some (.inl (some (.int 3)), h5, z6) else
      if E = "java/lang/UnsupportedOperationException" then some (.inl (some (.int 4)), h5, z6) else
      none)
set_option maxHeartbeats 4000000 in
set_option maxRecDepth 100000 in
theorem c_W_finish {G : EN} {l : Launch} (hl0 : l.stackTraces = false) {h : HH} {z : Z3} {x0 : Nat} {x1 : Int32} {x2 : Int32} {x3 : Int32} {x4 : Nat} {r : RS} (hf : f_W_finish G.2.2.1 G.2.2.2 h z x0 x1 x2 x3 x4 = some r) : CM G l y_W_finish (.codeWith y_W_finish b_W_finish 6 (some .int) hh_W_finish) 9 160 [.ref x0, .int x1, .int x2, .int x3, .ref x4] h z r := by
  refine CM.ofWH hl0 rfl ?_
  intro p e s m below meth c C hr htab hs
  have hx := C.1
  have hb := C.2.1
  have hnc := (C.2.2.2.2.2.1.here C.2.2.2.2.2.2.1).2.2.2.2.2.1
  refine x_entry (n := 6) (Nat.le_of_ble_eq_true rfl) (fun ls hl => ?_)
  have hl : lv_has ls 6 [(0, .ref x0), (1, .int x1), (2, .int x2), (3, .int x3), (4, .ref x4)] := hl
  unfold f_W_finish at hf
  refine lv_aload hx hb d_W_finish_0 (lv_at hl 4 rfl) ?_
  refine lv_iconst (v := 0) hx hb d_W_finish_2 (by decide) ?_
  refine lv_aload_n hx hb d_W_finish_3 rfl (lv_at hl 0 rfl) ?_
  refine lv_iload_n hx hb d_W_finish_4 rfl (lv_at hl 1 rfl) ?_
  refine lv_iload_n hx hb d_W_finish_5 rfl (lv_at hl 2 rfl) ?_
  refine lv_iload_n hx hb d_W_finish_6 rfl (lv_at hl 3 rfl) ?_
  obtain ⟨_, ho, hf⟩ := bd hf
  refine k_X C hs hf (fun res e1 => iv_V (b := x0) (As := [.int x1, .int x2, .int x3]) (rest := [.int 0, .ref x4]) C hs cv_W_32 (c_B_finish hl0 e1) (ci := 4) rfl rfl ho rfl hl.1 rfl (Nat.le_of_ble_eq_true rfl) d_W_finish_7 ⟨Nat.le_of_ble_eq_true rfl, Nat.le_of_ble_eq_true rfl⟩) ?_ ?_
  · intro v3 h1 z2 H locs cells slots hf hs
    refine lv_i2l (v := v3.toInt64) hx hb d_W_finish_10 rfl ?_
    refine r_last C hs d_W_finish_11 hf (fun h4 H locs hf hs => ?_)
    refine lv_goto (tgt := 31) hx hb d_W_finish_12 (by decide) ?_
    refine lv_iconst (v := 0) hx hb d_W_finish_31 (by decide) ?_
    exact r_ireturn C hs hr d_W_finish_32 hf
  · intro E h5 z6 hf
    by_cases q0 : E = "java/lang/IllegalArgumentException"
    · subst q0
      have hf := ifp rfl hf
      refine ⟨[], mkE (0, 12, 15, 13), [mkE (0, 12, 19, 21), mkE (0, 12, 23, 15), mkE (0, 12, 27, 27)], htab, (fun y hy => nomatch hy), by decide, by decide, tm (i := 333) (by decide +kernel), tm (i := 344) (by decide +kernel), fun q9 H locs cells slots hs => ?_⟩
      refine lv_astore (lv' := [(5, .ref q9), (0, .ref x0), (1, .int x1), (2, .int x2), (3, .int x3), (4, .ref x4)]) hx hb d_W_finish_15 hl (by decide) rfl (fun ls hl => ?_)
      refine lv_iconst (v := 1) hx hb d_W_finish_17 (by decide) ?_
      exact r_ireturn C hs hr d_W_finish_18 hf
    have hf := ifn q0 hf
    by_cases q1 : E = "java/util/NoSuchElementException"
    · subst q1
      have hf := ifp rfl hf
      refine ⟨[mkE (0, 12, 15, 13)], mkE (0, 12, 19, 21), [mkE (0, 12, 23, 15), mkE (0, 12, 27, 27)], htab, (fun y hy => by
          simp only [List.mem_cons, List.not_mem_nil, or_false] at hy
          rcases hy with rfl
          all_goals first
            | exact ⟨by decide, by decide, "java/lang/IllegalArgumentException", tm (i := 333) (by decide +kernel), hnc _ (by decide) "java/lang/IllegalArgumentException" (by decide) (by decide)⟩), by decide, by decide, tm (i := 444) (by decide +kernel), tm (i := 459) (by decide +kernel), fun q9 H locs cells slots hs => ?_⟩
      refine lv_astore (lv' := [(5, .ref q9), (0, .ref x0), (1, .int x1), (2, .int x2), (3, .int x3), (4, .ref x4)]) hx hb d_W_finish_19 hl (by decide) rfl (fun ls hl => ?_)
      refine lv_iconst (v := 2) hx hb d_W_finish_21 (by decide) ?_
      exact r_ireturn C hs hr d_W_finish_22 hf
    have hf := ifn q1 hf
    by_cases q2 : E = "java/lang/IllegalStateException"
    · subst q2
      have hf := ifp rfl hf
      refine ⟨[mkE (0, 12, 15, 13), mkE (0, 12, 19, 21)], mkE (0, 12, 23, 15), [mkE (0, 12, 27, 27)], htab, (fun y hy => by
          simp only [List.mem_cons, List.not_mem_nil, or_false] at hy
          rcases hy with rfl | rfl
          all_goals first
            | exact ⟨by decide, by decide, "java/lang/IllegalArgumentException", tm (i := 333) (by decide +kernel), hnc _ (by decide) "java/lang/IllegalArgumentException" (by decide) (by decide)⟩
            | exact ⟨by decide, by decide, "java/util/NoSuchElementException", tm (i := 444) (by decide +kernel), hnc _ (by decide) "java/util/NoSuchElementException" (by decide) (by decide)⟩), by decide, by decide, tm (i := 334) (by decide +kernel), tm (i := 414) (by decide +kernel), fun q9 H locs cells slots hs => ?_⟩
      refine lv_astore (lv' := [(5, .ref q9), (0, .ref x0), (1, .int x1), (2, .int x2), (3, .int x3), (4, .ref x4)]) hx hb d_W_finish_23 hl (by decide) rfl (fun ls hl => ?_)
      refine lv_iconst (v := 3) hx hb d_W_finish_25 (by decide) ?_
      exact r_ireturn C hs hr d_W_finish_26 hf
    have hf := ifn q2 hf
    by_cases q3 : E = "java/lang/UnsupportedOperationException"
    · subst q3
      have hf := ifp rfl hf
      refine ⟨[mkE (0, 12, 15, 13), mkE (0, 12, 19, 21), mkE (0, 12, 23, 15)], mkE (0, 12, 27, 27), [], htab, (fun y hy => by
          simp only [List.mem_cons, List.not_mem_nil, or_false] at hy
          rcases hy with rfl | rfl | rfl
          all_goals first
            | exact ⟨by decide, by decide, "java/lang/IllegalArgumentException", tm (i := 333) (by decide +kernel), hnc _ (by decide) "java/lang/IllegalArgumentException" (by decide) (by decide)⟩
            | exact ⟨by decide, by decide, "java/util/NoSuchElementException", tm (i := 444) (by decide +kernel), hnc _ (by decide) "java/util/NoSuchElementException" (by decide) (by decide)⟩
            | exact ⟨by decide, by decide, "java/lang/IllegalStateException", tm (i := 334) (by decide +kernel), hnc _ (by decide) "java/lang/IllegalStateException" (by decide) (by decide)⟩), by decide, by decide, tm (i := 487) (by decide +kernel), tm (i := 529) (by decide +kernel), fun q9 H locs cells slots hs => ?_⟩
      refine lv_astore (lv' := [(5, .ref q9), (0, .ref x0), (1, .int x1), (2, .int x2), (3, .int x3), (4, .ref x4)]) hx hb d_W_finish_27 hl (by decide) rfl (fun ls hl => ?_)
      refine lv_iconst (v := 4) hx hb d_W_finish_29 (by decide) ?_
      exact r_ireturn C hs hr d_W_finish_30 hf
    have hf := ifn q3 hf
    exact nomatch (show (none : Option RS) = some r from hf)
def f_W_plain (bs : Nat) (sE : Nat × Nat) (h : HH) (z : Z3) (x0 : Nat) (x1 : Int32) (x2 : Int32) (x3 : Nat) : Option RS :=
  (oK h x0 4).bind fun _ =>
  cX (f_B_plain bs sE h z x0 x1 x2)
    (fun v3 h1 z2 =>
      (aJs bs h1 x3 2 0 v3.toInt64).bind fun h4 =>
      some (.inl (some (.int 0)), h4, z2))
    (fun E h5 z6 =>
      if E = "java/lang/IllegalArgumentException" then some (.inl (some (.int 1)), h5, z6) else
      if E = "java/lang/IllegalStateException" then some (.inl (some (.int 2)), h5, z6) else
      none)
set_option maxHeartbeats 4000000 in
set_option maxRecDepth 100000 in
theorem c_W_plain {G : EN} {l : Launch} (hl0 : l.stackTraces = false) {h : HH} {z : Z3} {x0 : Nat} {x1 : Int32} {x2 : Int32} {x3 : Nat} {r : RS} (hf : f_W_plain G.2.2.1 G.2.2.2 h z x0 x1 x2 x3 = some r) : CM G l y_W_plain (.codeWith y_W_plain b_W_plain 5 (some .int) hh_W_plain) 9 235 [.ref x0, .int x1, .int x2, .ref x3] h z r := by
  refine CM.ofWH hl0 rfl ?_
  intro p e s m below meth c C hr htab hs
  have hx := C.1
  have hb := C.2.1
  have hnc := (C.2.2.2.2.2.1.here C.2.2.2.2.2.2.1).2.2.2.2.2.1
  refine x_entry (n := 5) (Nat.le_of_ble_eq_true rfl) (fun ls hl => ?_)
  have hl : lv_has ls 5 [(0, .ref x0), (1, .int x1), (2, .int x2), (3, .ref x3)] := hl
  unfold f_W_plain at hf
  refine lv_aload_n hx hb d_W_plain_0 rfl (lv_at hl 3 rfl) ?_
  refine lv_iconst (v := 0) hx hb d_W_plain_1 (by decide) ?_
  refine lv_aload_n hx hb d_W_plain_2 rfl (lv_at hl 0 rfl) ?_
  refine lv_iload_n hx hb d_W_plain_3 rfl (lv_at hl 1 rfl) ?_
  refine lv_iload_n hx hb d_W_plain_4 rfl (lv_at hl 2 rfl) ?_
  obtain ⟨_, ho, hf⟩ := bd hf
  refine k_X C hs hf (fun res e1 => iv_V (b := x0) (As := [.int x1, .int x2]) (rest := [.int 0, .ref x3]) C hs cv_W_36 (c_B_plain hl0 e1) (ci := 4) rfl rfl ho rfl hl.1 rfl (Nat.le_of_ble_eq_true rfl) d_W_plain_5 ⟨Nat.le_of_ble_eq_true rfl, Nat.le_of_ble_eq_true rfl⟩) ?_ ?_
  · intro v3 h1 z2 H locs cells slots hf hs
    refine lv_i2l (v := v3.toInt64) hx hb d_W_plain_8 rfl ?_
    refine r_last C hs d_W_plain_9 hf (fun h4 H locs hf hs => ?_)
    refine lv_goto (tgt := 21) hx hb d_W_plain_10 (by decide) ?_
    refine lv_iconst (v := 0) hx hb d_W_plain_21 (by decide) ?_
    exact r_ireturn C hs hr d_W_plain_22 hf
  · intro E h5 z6 hf
    by_cases q0 : E = "java/lang/IllegalArgumentException"
    · subst q0
      have hf := ifp rfl hf
      refine ⟨[], mkE (0, 10, 13, 13), [mkE (0, 10, 17, 15)], htab, (fun y hy => nomatch hy), by decide, by decide, tm (i := 333) (by decide +kernel), tm (i := 344) (by decide +kernel), fun q9 H locs cells slots hs => ?_⟩
      refine lv_astore (lv' := [(4, .ref q9), (0, .ref x0), (1, .int x1), (2, .int x2), (3, .ref x3)]) hx hb d_W_plain_13 hl (by decide) rfl (fun ls hl => ?_)
      refine lv_iconst (v := 1) hx hb d_W_plain_15 (by decide) ?_
      exact r_ireturn C hs hr d_W_plain_16 hf
    have hf := ifn q0 hf
    by_cases q1 : E = "java/lang/IllegalStateException"
    · subst q1
      have hf := ifp rfl hf
      refine ⟨[mkE (0, 10, 13, 13)], mkE (0, 10, 17, 15), [], htab, (fun y hy => by
          simp only [List.mem_cons, List.not_mem_nil, or_false] at hy
          rcases hy with rfl
          all_goals first
            | exact ⟨by decide, by decide, "java/lang/IllegalArgumentException", tm (i := 333) (by decide +kernel), hnc _ (by decide) "java/lang/IllegalArgumentException" (by decide) (by decide)⟩), by decide, by decide, tm (i := 334) (by decide +kernel), tm (i := 414) (by decide +kernel), fun q9 H locs cells slots hs => ?_⟩
      refine lv_astore (lv' := [(4, .ref q9), (0, .ref x0), (1, .int x1), (2, .int x2), (3, .ref x3)]) hx hb d_W_plain_17 hl (by decide) rfl (fun ls hl => ?_)
      refine lv_iconst (v := 2) hx hb d_W_plain_19 (by decide) ?_
      exact r_ireturn C hs hr d_W_plain_20 hf
    have hf := ifn q1 hf
    exact nomatch (show (none : Option RS) = some r from hf)
def f_W_copy (bs : Nat) (sE : Nat × Nat) (h : HH) (z : Z3) (x0 : Nat) (x1 : Int32) (x2 : Int32) (x3 : Nat) : Option RS :=
  (oK h x0 4).bind fun _ =>
  cX (f_B_copy bs sE h z x0 x1 x2)
    (fun v3 h1 z2 =>
      (aJs bs h1 x3 2 0 v3.toInt64).bind fun h4 =>
      some (.inl (some (.int 0)), h4, z2))
    (fun E h5 z6 =>
      if E = "java/lang/IllegalArgumentException" then some (.inl (some (.int 1)), h5, z6) else
      none)
set_option maxHeartbeats 4000000 in
set_option maxRecDepth 100000 in
theorem c_W_copy {G : EN} {l : Launch} (hl0 : l.stackTraces = false) {h : HH} {z : Z3} {x0 : Nat} {x1 : Int32} {x2 : Int32} {x3 : Nat} {r : RS} (hf : f_W_copy G.2.2.1 G.2.2.2 h z x0 x1 x2 x3 = some r) : CM G l y_W_copy (.codeWith y_W_copy b_W_copy 5 (some .int) hh_W_copy) 8 134 [.ref x0, .int x1, .int x2, .ref x3] h z r := by
  refine CM.ofWH hl0 rfl ?_
  intro p e s m below meth c C hr htab hs
  have hx := C.1
  have hb := C.2.1
  have hnc := (C.2.2.2.2.2.1.here C.2.2.2.2.2.2.1).2.2.2.2.2.1
  refine x_entry (n := 5) (Nat.le_of_ble_eq_true rfl) (fun ls hl => ?_)
  have hl : lv_has ls 5 [(0, .ref x0), (1, .int x1), (2, .int x2), (3, .ref x3)] := hl
  unfold f_W_copy at hf
  refine lv_aload_n hx hb d_W_copy_0 rfl (lv_at hl 3 rfl) ?_
  refine lv_iconst (v := 0) hx hb d_W_copy_1 (by decide) ?_
  refine lv_aload_n hx hb d_W_copy_2 rfl (lv_at hl 0 rfl) ?_
  refine lv_iload_n hx hb d_W_copy_3 rfl (lv_at hl 1 rfl) ?_
  refine lv_iload_n hx hb d_W_copy_4 rfl (lv_at hl 2 rfl) ?_
  obtain ⟨_, ho, hf⟩ := bd hf
  refine k_X C hs hf (fun res e1 => iv_V (b := x0) (As := [.int x1, .int x2]) (rest := [.int 0, .ref x3]) C hs cv_W_39 (c_B_copy hl0 e1) (ci := 4) rfl rfl ho rfl hl.1 rfl (Nat.le_of_ble_eq_true rfl) d_W_copy_5 ⟨Nat.le_of_ble_eq_true rfl, Nat.le_of_ble_eq_true rfl⟩) ?_ ?_
  · intro v3 h1 z2 H locs cells slots hf hs
    refine lv_i2l (v := v3.toInt64) hx hb d_W_copy_8 rfl ?_
    refine r_last C hs d_W_copy_9 hf (fun h4 H locs hf hs => ?_)
    refine lv_goto (tgt := 17) hx hb d_W_copy_10 (by decide) ?_
    refine lv_iconst (v := 0) hx hb d_W_copy_17 (by decide) ?_
    exact r_ireturn C hs hr d_W_copy_18 hf
  · intro E h5 z6 hf
    by_cases q0 : E = "java/lang/IllegalArgumentException"
    · subst q0
      have hf := ifp rfl hf
      refine ⟨[], mkE (0, 10, 13, 13), [], htab, (fun y hy => nomatch hy), by decide, by decide, tm (i := 333) (by decide +kernel), tm (i := 344) (by decide +kernel), fun q9 H locs cells slots hs => ?_⟩
      refine lv_astore (lv' := [(4, .ref q9), (0, .ref x0), (1, .int x1), (2, .int x2), (3, .ref x3)]) hx hb d_W_copy_13 hl (by decide) rfl (fun ls hl => ?_)
      refine lv_iconst (v := 1) hx hb d_W_copy_15 (by decide) ?_
      exact r_ireturn C hs hr d_W_copy_16 hf
    have hf := ifn q0 hf
    exact nomatch (show (none : Option RS) = some r from hf)
def f_W_lose (bs : Nat) (sE : Nat × Nat) (h : HH) (z : Z3) (x0 : Nat) (x1 : Int32) (x2 : Nat) : Option RS :=
  (oK h x0 4).bind fun _ =>
  cX (f_B_lose bs sE h z x0 x1)
    (fun v3 h1 z2 =>
      (aJs bs h1 x2 2 0 v3.toInt64).bind fun h4 =>
      some (.inl (some (.int 0)), h4, z2))
    (fun E h5 z6 =>
      if E = "java/lang/IllegalArgumentException" then some (.inl (some (.int 1)), h5, z6) else
      none)
set_option maxHeartbeats 4000000 in
set_option maxRecDepth 100000 in
theorem c_W_lose {G : EN} {l : Launch} (hl0 : l.stackTraces = false) {h : HH} {z : Z3} {x0 : Nat} {x1 : Int32} {x2 : Nat} {r : RS} (hf : f_W_lose G.2.2.1 G.2.2.2 h z x0 x1 x2 = some r) : CM G l y_W_lose (.codeWith y_W_lose b_W_lose 4 (some .int) hh_W_lose) 8 133 [.ref x0, .int x1, .ref x2] h z r := by
  refine CM.ofWH hl0 rfl ?_
  intro p e s m below meth c C hr htab hs
  have hx := C.1
  have hb := C.2.1
  have hnc := (C.2.2.2.2.2.1.here C.2.2.2.2.2.2.1).2.2.2.2.2.1
  refine x_entry (n := 4) (Nat.le_of_ble_eq_true rfl) (fun ls hl => ?_)
  have hl : lv_has ls 4 [(0, .ref x0), (1, .int x1), (2, .ref x2)] := hl
  unfold f_W_lose at hf
  refine lv_aload_n hx hb d_W_lose_0 rfl (lv_at hl 2 rfl) ?_
  refine lv_iconst (v := 0) hx hb d_W_lose_1 (by decide) ?_
  refine lv_aload_n hx hb d_W_lose_2 rfl (lv_at hl 0 rfl) ?_
  refine lv_iload_n hx hb d_W_lose_3 rfl (lv_at hl 1 rfl) ?_
  obtain ⟨_, ho, hf⟩ := bd hf
  refine k_X C hs hf (fun res e1 => iv_V (b := x0) (As := [.int x1]) (rest := [.int 0, .ref x2]) C hs cv_W_42 (c_B_lose hl0 e1) (ci := 4) rfl rfl ho rfl hl.1 rfl (Nat.le_of_ble_eq_true rfl) d_W_lose_4 ⟨Nat.le_of_ble_eq_true rfl, Nat.le_of_ble_eq_true rfl⟩) ?_ ?_
  · intro v3 h1 z2 H locs cells slots hf hs
    refine lv_i2l (v := v3.toInt64) hx hb d_W_lose_7 rfl ?_
    refine r_last C hs d_W_lose_8 hf (fun h4 H locs hf hs => ?_)
    refine lv_goto (tgt := 15) hx hb d_W_lose_9 (by decide) ?_
    refine lv_iconst (v := 0) hx hb d_W_lose_15 (by decide) ?_
    exact r_ireturn C hs hr d_W_lose_16 hf
  · intro E h5 z6 hf
    by_cases q0 : E = "java/lang/IllegalArgumentException"
    · subst q0
      have hf := ifp rfl hf
      refine ⟨[], mkE (0, 9, 12, 13), [], htab, (fun y hy => nomatch hy), by decide, by decide, tm (i := 333) (by decide +kernel), tm (i := 344) (by decide +kernel), fun q9 H locs cells slots hs => ?_⟩
      refine lv_astore_n (lv' := [(3, .ref q9), (0, .ref x0), (1, .int x1), (2, .ref x2)]) hx hb d_W_lose_12 rfl hl (by decide) rfl (fun ls hl => ?_)
      refine lv_iconst (v := 1) hx hb d_W_lose_13 (by decide) ?_
      exact r_ireturn C hs hr d_W_lose_14 hf
    have hf := ifn q0 hf
    exact nomatch (show (none : Option RS) = some r from hf)
def f_W_fetch (bs : Nat) (sE : Nat × Nat) (h : HH) (z : Z3) (x0 : Nat) (x1 : Int32) (x2 : Int32) (x3 : Int32) (x4 : Nat) : Option RS :=
  (oK h x0 4).bind fun _ =>
  cX (f_B_fetch bs sE h z x0 x1 x2 x3)
    (fun v3 h1 z2 =>
      (aJs bs h1 x4 2 0 v3.toInt64).bind fun h4 =>
      some (.inl (some (.int 0)), h4, z2))
    (fun E h5 z6 =>
      if E = "java/lang/IllegalArgumentException" then some (.inl (some (.int 1)), h5, z6) else
      if E = "java/lang/IndexOutOfBoundsException" then some (.inl (some (.int 2)), h5, z6) else
      if E = "java/util/NoSuchElementException" then some (.inl (some (.int 3)), h5, z6) else
      none)
set_option maxHeartbeats 4000000 in
set_option maxRecDepth 100000 in
theorem c_W_fetch {G : EN} {l : Launch} (hl0 : l.stackTraces = false) {h : HH} {z : Z3} {x0 : Nat} {x1 : Int32} {x2 : Int32} {x3 : Int32} {x4 : Nat} {r : RS} (hf : f_W_fetch G.2.2.1 G.2.2.2 h z x0 x1 x2 x3 x4 = some r) : CM G l y_W_fetch (.codeWith y_W_fetch b_W_fetch 6 (some .int) hh_W_fetch) 8 137 [.ref x0, .int x1, .int x2, .int x3, .ref x4] h z r := by
  refine CM.ofWH hl0 rfl ?_
  intro p e s m below meth c C hr htab hs
  have hx := C.1
  have hb := C.2.1
  have hnc := (C.2.2.2.2.2.1.here C.2.2.2.2.2.2.1).2.2.2.2.2.1
  refine x_entry (n := 6) (Nat.le_of_ble_eq_true rfl) (fun ls hl => ?_)
  have hl : lv_has ls 6 [(0, .ref x0), (1, .int x1), (2, .int x2), (3, .int x3), (4, .ref x4)] := hl
  unfold f_W_fetch at hf
  refine lv_aload hx hb d_W_fetch_0 (lv_at hl 4 rfl) ?_
  refine lv_iconst (v := 0) hx hb d_W_fetch_2 (by decide) ?_
  refine lv_aload_n hx hb d_W_fetch_3 rfl (lv_at hl 0 rfl) ?_
  refine lv_iload_n hx hb d_W_fetch_4 rfl (lv_at hl 1 rfl) ?_
  refine lv_iload_n hx hb d_W_fetch_5 rfl (lv_at hl 2 rfl) ?_
  refine lv_iload_n hx hb d_W_fetch_6 rfl (lv_at hl 3 rfl) ?_
  obtain ⟨_, ho, hf⟩ := bd hf
  refine k_X C hs hf (fun res e1 => iv_V (b := x0) (As := [.int x1, .int x2, .int x3]) (rest := [.int 0, .ref x4]) C hs cv_W_45 (c_B_fetch hl0 e1) (ci := 4) rfl rfl ho rfl hl.1 rfl (Nat.le_of_ble_eq_true rfl) d_W_fetch_7 ⟨Nat.le_of_ble_eq_true rfl, Nat.le_of_ble_eq_true rfl⟩) ?_ ?_
  · intro v3 h1 z2 H locs cells slots hf hs
    refine lv_i2l (v := v3.toInt64) hx hb d_W_fetch_10 rfl ?_
    refine r_last C hs d_W_fetch_11 hf (fun h4 H locs hf hs => ?_)
    refine lv_goto (tgt := 27) hx hb d_W_fetch_12 (by decide) ?_
    refine lv_iconst (v := 0) hx hb d_W_fetch_27 (by decide) ?_
    exact r_ireturn C hs hr d_W_fetch_28 hf
  · intro E h5 z6 hf
    by_cases q0 : E = "java/lang/IllegalArgumentException"
    · subst q0
      have hf := ifp rfl hf
      refine ⟨[], mkE (0, 12, 15, 13), [mkE (0, 12, 19, 48), mkE (0, 12, 23, 21)], htab, (fun y hy => nomatch hy), by decide, by decide, tm (i := 333) (by decide +kernel), tm (i := 344) (by decide +kernel), fun q9 H locs cells slots hs => ?_⟩
      refine lv_astore (lv' := [(5, .ref q9), (0, .ref x0), (1, .int x1), (2, .int x2), (3, .int x3), (4, .ref x4)]) hx hb d_W_fetch_15 hl (by decide) rfl (fun ls hl => ?_)
      refine lv_iconst (v := 1) hx hb d_W_fetch_17 (by decide) ?_
      exact r_ireturn C hs hr d_W_fetch_18 hf
    have hf := ifn q0 hf
    by_cases q1 : E = "java/lang/IndexOutOfBoundsException"
    · subst q1
      have hf := ifp rfl hf
      refine ⟨[mkE (0, 12, 15, 13)], mkE (0, 12, 19, 48), [mkE (0, 12, 23, 21)], htab, (fun y hy => by
          simp only [List.mem_cons, List.not_mem_nil, or_false] at hy
          rcases hy with rfl
          all_goals first
            | exact ⟨by decide, by decide, "java/lang/IllegalArgumentException", tm (i := 333) (by decide +kernel), hnc _ (by decide) "java/lang/IllegalArgumentException" (by decide) (by decide)⟩), by decide, by decide, tm (i := 645) (by decide +kernel), tm (i := 652) (by decide +kernel), fun q9 H locs cells slots hs => ?_⟩
      refine lv_astore (lv' := [(5, .ref q9), (0, .ref x0), (1, .int x1), (2, .int x2), (3, .int x3), (4, .ref x4)]) hx hb d_W_fetch_19 hl (by decide) rfl (fun ls hl => ?_)
      refine lv_iconst (v := 2) hx hb d_W_fetch_21 (by decide) ?_
      exact r_ireturn C hs hr d_W_fetch_22 hf
    have hf := ifn q1 hf
    by_cases q2 : E = "java/util/NoSuchElementException"
    · subst q2
      have hf := ifp rfl hf
      refine ⟨[mkE (0, 12, 15, 13), mkE (0, 12, 19, 48)], mkE (0, 12, 23, 21), [], htab, (fun y hy => by
          simp only [List.mem_cons, List.not_mem_nil, or_false] at hy
          rcases hy with rfl | rfl
          all_goals first
            | exact ⟨by decide, by decide, "java/lang/IllegalArgumentException", tm (i := 333) (by decide +kernel), hnc _ (by decide) "java/lang/IllegalArgumentException" (by decide) (by decide)⟩
            | exact ⟨by decide, by decide, "java/lang/IndexOutOfBoundsException", tm (i := 645) (by decide +kernel), hnc _ (by decide) "java/lang/IndexOutOfBoundsException" (by decide) (by decide)⟩), by decide, by decide, tm (i := 444) (by decide +kernel), tm (i := 459) (by decide +kernel), fun q9 H locs cells slots hs => ?_⟩
      refine lv_astore (lv' := [(5, .ref q9), (0, .ref x0), (1, .int x1), (2, .int x2), (3, .int x3), (4, .ref x4)]) hx hb d_W_fetch_23 hl (by decide) rfl (fun ls hl => ?_)
      refine lv_iconst (v := 3) hx hb d_W_fetch_25 (by decide) ?_
      exact r_ireturn C hs hr d_W_fetch_26 hf
    have hf := ifn q2 hf
    exact nomatch (show (none : Option RS) = some r from hf)
def f_W_trim (bs : Nat) (sE : Nat × Nat) (h : HH) (z : Z3) (x0 : Nat) (x1 : Int32) (x2 : Int32) (x3 : Nat) : Option RS :=
  (oK h x0 4).bind fun _ =>
  cX (f_B_trim bs sE h z x0 x1 x2)
    (fun v3 h1 z2 =>
      (aJs bs h1 x3 2 0 v3.toInt64).bind fun h4 =>
      some (.inl (some (.int 0)), h4, z2))
    (fun E h5 z6 =>
      if E = "java/lang/IllegalArgumentException" then some (.inl (some (.int 1)), h5, z6) else
      if E = "java/lang/IndexOutOfBoundsException" then some (.inl (some (.int 2)), h5, z6) else
      none)
set_option maxHeartbeats 4000000 in
set_option maxRecDepth 100000 in
theorem c_W_trim {G : EN} {l : Launch} (hl0 : l.stackTraces = false) {h : HH} {z : Z3} {x0 : Nat} {x1 : Int32} {x2 : Int32} {x3 : Nat} {r : RS} (hf : f_W_trim G.2.2.1 G.2.2.2 h z x0 x1 x2 x3 = some r) : CM G l y_W_trim (.codeWith y_W_trim b_W_trim 5 (some .int) hh_W_trim) 8 136 [.ref x0, .int x1, .int x2, .ref x3] h z r := by
  refine CM.ofWH hl0 rfl ?_
  intro p e s m below meth c C hr htab hs
  have hx := C.1
  have hb := C.2.1
  have hnc := (C.2.2.2.2.2.1.here C.2.2.2.2.2.2.1).2.2.2.2.2.1
  refine x_entry (n := 5) (Nat.le_of_ble_eq_true rfl) (fun ls hl => ?_)
  have hl : lv_has ls 5 [(0, .ref x0), (1, .int x1), (2, .int x2), (3, .ref x3)] := hl
  unfold f_W_trim at hf
  refine lv_aload_n hx hb d_W_trim_0 rfl (lv_at hl 3 rfl) ?_
  refine lv_iconst (v := 0) hx hb d_W_trim_1 (by decide) ?_
  refine lv_aload_n hx hb d_W_trim_2 rfl (lv_at hl 0 rfl) ?_
  refine lv_iload_n hx hb d_W_trim_3 rfl (lv_at hl 1 rfl) ?_
  refine lv_iload_n hx hb d_W_trim_4 rfl (lv_at hl 2 rfl) ?_
  obtain ⟨_, ho, hf⟩ := bd hf
  refine k_X C hs hf (fun res e1 => iv_V (b := x0) (As := [.int x1, .int x2]) (rest := [.int 0, .ref x3]) C hs cv_W_50 (c_B_trim hl0 e1) (ci := 4) rfl rfl ho rfl hl.1 rfl (Nat.le_of_ble_eq_true rfl) d_W_trim_5 ⟨Nat.le_of_ble_eq_true rfl, Nat.le_of_ble_eq_true rfl⟩) ?_ ?_
  · intro v3 h1 z2 H locs cells slots hf hs
    refine lv_i2l (v := v3.toInt64) hx hb d_W_trim_8 rfl ?_
    refine r_last C hs d_W_trim_9 hf (fun h4 H locs hf hs => ?_)
    refine lv_goto (tgt := 21) hx hb d_W_trim_10 (by decide) ?_
    refine lv_iconst (v := 0) hx hb d_W_trim_21 (by decide) ?_
    exact r_ireturn C hs hr d_W_trim_22 hf
  · intro E h5 z6 hf
    by_cases q0 : E = "java/lang/IllegalArgumentException"
    · subst q0
      have hf := ifp rfl hf
      refine ⟨[], mkE (0, 10, 13, 13), [mkE (0, 10, 17, 48)], htab, (fun y hy => nomatch hy), by decide, by decide, tm (i := 333) (by decide +kernel), tm (i := 344) (by decide +kernel), fun q9 H locs cells slots hs => ?_⟩
      refine lv_astore (lv' := [(4, .ref q9), (0, .ref x0), (1, .int x1), (2, .int x2), (3, .ref x3)]) hx hb d_W_trim_13 hl (by decide) rfl (fun ls hl => ?_)
      refine lv_iconst (v := 1) hx hb d_W_trim_15 (by decide) ?_
      exact r_ireturn C hs hr d_W_trim_16 hf
    have hf := ifn q0 hf
    by_cases q1 : E = "java/lang/IndexOutOfBoundsException"
    · subst q1
      have hf := ifp rfl hf
      refine ⟨[mkE (0, 10, 13, 13)], mkE (0, 10, 17, 48), [], htab, (fun y hy => by
          simp only [List.mem_cons, List.not_mem_nil, or_false] at hy
          rcases hy with rfl
          all_goals first
            | exact ⟨by decide, by decide, "java/lang/IllegalArgumentException", tm (i := 333) (by decide +kernel), hnc _ (by decide) "java/lang/IllegalArgumentException" (by decide) (by decide)⟩), by decide, by decide, tm (i := 645) (by decide +kernel), tm (i := 652) (by decide +kernel), fun q9 H locs cells slots hs => ?_⟩
      refine lv_astore (lv' := [(4, .ref q9), (0, .ref x0), (1, .int x1), (2, .int x2), (3, .ref x3)]) hx hb d_W_trim_17 hl (by decide) rfl (fun ls hl => ?_)
      refine lv_iconst (v := 2) hx hb d_W_trim_19 (by decide) ?_
      exact r_ireturn C hs hr d_W_trim_20 hf
    have hf := ifn q1 hf
    exact nomatch (show (none : Option RS) = some r from hf)
def f_W_join (bs : Nat) (sE : Nat × Nat) (h : HH) (z : Z3) (x0 : Nat) (x1 : Int32) (x2 : Int32) (x3 : Nat) : Option RS :=
  (oK h x0 4).bind fun _ =>
  cX (f_B_join bs sE h z x0 x1 x2)
    (fun v3 h1 z2 =>
      (aJs bs h1 x3 2 0 v3.toInt64).bind fun h4 =>
      some (.inl (some (.int 0)), h4, z2))
    (fun E h5 z6 =>
      if E = "java/lang/IllegalArgumentException" then some (.inl (some (.int 1)), h5, z6) else
      if E = "java/lang/IllegalStateException" then some (.inl (some (.int 2)), h5, z6) else
      none)
set_option maxHeartbeats 4000000 in
set_option maxRecDepth 100000 in
theorem c_W_join {G : EN} {l : Launch} (hl0 : l.stackTraces = false) {h : HH} {z : Z3} {x0 : Nat} {x1 : Int32} {x2 : Int32} {x3 : Nat} {r : RS} (hf : f_W_join G.2.2.1 G.2.2.2 h z x0 x1 x2 x3 = some r) : CM G l y_W_join (.codeWith y_W_join b_W_join 5 (some .int) hh_W_join) 8 135 [.ref x0, .int x1, .int x2, .ref x3] h z r := by
  refine CM.ofWH hl0 rfl ?_
  intro p e s m below meth c C hr htab hs
  have hx := C.1
  have hb := C.2.1
  have hnc := (C.2.2.2.2.2.1.here C.2.2.2.2.2.2.1).2.2.2.2.2.1
  refine x_entry (n := 5) (Nat.le_of_ble_eq_true rfl) (fun ls hl => ?_)
  have hl : lv_has ls 5 [(0, .ref x0), (1, .int x1), (2, .int x2), (3, .ref x3)] := hl
  unfold f_W_join at hf
  refine lv_aload_n hx hb d_W_join_0 rfl (lv_at hl 3 rfl) ?_
  refine lv_iconst (v := 0) hx hb d_W_join_1 (by decide) ?_
  refine lv_aload_n hx hb d_W_join_2 rfl (lv_at hl 0 rfl) ?_
  refine lv_iload_n hx hb d_W_join_3 rfl (lv_at hl 1 rfl) ?_
  refine lv_iload_n hx hb d_W_join_4 rfl (lv_at hl 2 rfl) ?_
  obtain ⟨_, ho, hf⟩ := bd hf
  refine k_X C hs hf (fun res e1 => iv_V (b := x0) (As := [.int x1, .int x2]) (rest := [.int 0, .ref x3]) C hs cv_W_53 (c_B_join hl0 e1) (ci := 4) rfl rfl ho rfl hl.1 rfl (Nat.le_of_ble_eq_true rfl) d_W_join_5 ⟨Nat.le_of_ble_eq_true rfl, Nat.le_of_ble_eq_true rfl⟩) ?_ ?_
  · intro v3 h1 z2 H locs cells slots hf hs
    refine lv_i2l (v := v3.toInt64) hx hb d_W_join_8 rfl ?_
    refine r_last C hs d_W_join_9 hf (fun h4 H locs hf hs => ?_)
    refine lv_goto (tgt := 21) hx hb d_W_join_10 (by decide) ?_
    refine lv_iconst (v := 0) hx hb d_W_join_21 (by decide) ?_
    exact r_ireturn C hs hr d_W_join_22 hf
  · intro E h5 z6 hf
    by_cases q0 : E = "java/lang/IllegalArgumentException"
    · subst q0
      have hf := ifp rfl hf
      refine ⟨[], mkE (0, 10, 13, 13), [mkE (0, 10, 17, 15)], htab, (fun y hy => nomatch hy), by decide, by decide, tm (i := 333) (by decide +kernel), tm (i := 344) (by decide +kernel), fun q9 H locs cells slots hs => ?_⟩
      refine lv_astore (lv' := [(4, .ref q9), (0, .ref x0), (1, .int x1), (2, .int x2), (3, .ref x3)]) hx hb d_W_join_13 hl (by decide) rfl (fun ls hl => ?_)
      refine lv_iconst (v := 1) hx hb d_W_join_15 (by decide) ?_
      exact r_ireturn C hs hr d_W_join_16 hf
    have hf := ifn q0 hf
    by_cases q1 : E = "java/lang/IllegalStateException"
    · subst q1
      have hf := ifp rfl hf
      refine ⟨[mkE (0, 10, 13, 13)], mkE (0, 10, 17, 15), [], htab, (fun y hy => by
          simp only [List.mem_cons, List.not_mem_nil, or_false] at hy
          rcases hy with rfl
          all_goals first
            | exact ⟨by decide, by decide, "java/lang/IllegalArgumentException", tm (i := 333) (by decide +kernel), hnc _ (by decide) "java/lang/IllegalArgumentException" (by decide) (by decide)⟩), by decide, by decide, tm (i := 334) (by decide +kernel), tm (i := 414) (by decide +kernel), fun q9 H locs cells slots hs => ?_⟩
      refine lv_astore (lv' := [(4, .ref q9), (0, .ref x0), (1, .int x1), (2, .int x2), (3, .ref x3)]) hx hb d_W_join_17 hl (by decide) rfl (fun ls hl => ?_)
      refine lv_iconst (v := 2) hx hb d_W_join_19 (by decide) ?_
      exact r_ireturn C hs hr d_W_join_20 hf
    have hf := ifn q1 hf
    exact nomatch (show (none : Option RS) = some r from hf)
def f_W_leave (bs : Nat) (sE : Nat × Nat) (h : HH) (z : Z3) (x0 : Nat) (x1 : Int32) (x2 : Int32) (x3 : Nat) : Option RS :=
  (oK h x0 4).bind fun _ =>
  cX (f_B_leave bs sE h z x0 x1 x2)
    (fun v3 h1 z2 =>
      (aJs bs h1 x3 2 0 v3.toInt64).bind fun h4 =>
      some (.inl (some (.int 0)), h4, z2))
    (fun E h5 z6 =>
      if E = "java/lang/IllegalArgumentException" then some (.inl (some (.int 1)), h5, z6) else
      if E = "java/util/NoSuchElementException" then some (.inl (some (.int 2)), h5, z6) else
      none)
set_option maxHeartbeats 4000000 in
set_option maxRecDepth 100000 in
theorem c_W_leave {G : EN} {l : Launch} (hl0 : l.stackTraces = false) {h : HH} {z : Z3} {x0 : Nat} {x1 : Int32} {x2 : Int32} {x3 : Nat} {r : RS} (hf : f_W_leave G.2.2.1 G.2.2.2 h z x0 x1 x2 x3 = some r) : CM G l y_W_leave (.codeWith y_W_leave b_W_leave 5 (some .int) hh_W_leave) 8 136 [.ref x0, .int x1, .int x2, .ref x3] h z r := by
  refine CM.ofWH hl0 rfl ?_
  intro p e s m below meth c C hr htab hs
  have hx := C.1
  have hb := C.2.1
  have hnc := (C.2.2.2.2.2.1.here C.2.2.2.2.2.2.1).2.2.2.2.2.1
  refine x_entry (n := 5) (Nat.le_of_ble_eq_true rfl) (fun ls hl => ?_)
  have hl : lv_has ls 5 [(0, .ref x0), (1, .int x1), (2, .int x2), (3, .ref x3)] := hl
  unfold f_W_leave at hf
  refine lv_aload_n hx hb d_W_leave_0 rfl (lv_at hl 3 rfl) ?_
  refine lv_iconst (v := 0) hx hb d_W_leave_1 (by decide) ?_
  refine lv_aload_n hx hb d_W_leave_2 rfl (lv_at hl 0 rfl) ?_
  refine lv_iload_n hx hb d_W_leave_3 rfl (lv_at hl 1 rfl) ?_
  refine lv_iload_n hx hb d_W_leave_4 rfl (lv_at hl 2 rfl) ?_
  obtain ⟨_, ho, hf⟩ := bd hf
  refine k_X C hs hf (fun res e1 => iv_V (b := x0) (As := [.int x1, .int x2]) (rest := [.int 0, .ref x3]) C hs cv_W_56 (c_B_leave hl0 e1) (ci := 4) rfl rfl ho rfl hl.1 rfl (Nat.le_of_ble_eq_true rfl) d_W_leave_5 ⟨Nat.le_of_ble_eq_true rfl, Nat.le_of_ble_eq_true rfl⟩) ?_ ?_
  · intro v3 h1 z2 H locs cells slots hf hs
    refine lv_i2l (v := v3.toInt64) hx hb d_W_leave_8 rfl ?_
    refine r_last C hs d_W_leave_9 hf (fun h4 H locs hf hs => ?_)
    refine lv_goto (tgt := 21) hx hb d_W_leave_10 (by decide) ?_
    refine lv_iconst (v := 0) hx hb d_W_leave_21 (by decide) ?_
    exact r_ireturn C hs hr d_W_leave_22 hf
  · intro E h5 z6 hf
    by_cases q0 : E = "java/lang/IllegalArgumentException"
    · subst q0
      have hf := ifp rfl hf
      refine ⟨[], mkE (0, 10, 13, 13), [mkE (0, 10, 17, 21)], htab, (fun y hy => nomatch hy), by decide, by decide, tm (i := 333) (by decide +kernel), tm (i := 344) (by decide +kernel), fun q9 H locs cells slots hs => ?_⟩
      refine lv_astore (lv' := [(4, .ref q9), (0, .ref x0), (1, .int x1), (2, .int x2), (3, .ref x3)]) hx hb d_W_leave_13 hl (by decide) rfl (fun ls hl => ?_)
      refine lv_iconst (v := 1) hx hb d_W_leave_15 (by decide) ?_
      exact r_ireturn C hs hr d_W_leave_16 hf
    have hf := ifn q0 hf
    by_cases q1 : E = "java/util/NoSuchElementException"
    · subst q1
      have hf := ifp rfl hf
      refine ⟨[mkE (0, 10, 13, 13)], mkE (0, 10, 17, 21), [], htab, (fun y hy => by
          simp only [List.mem_cons, List.not_mem_nil, or_false] at hy
          rcases hy with rfl
          all_goals first
            | exact ⟨by decide, by decide, "java/lang/IllegalArgumentException", tm (i := 333) (by decide +kernel), hnc _ (by decide) "java/lang/IllegalArgumentException" (by decide) (by decide)⟩), by decide, by decide, tm (i := 444) (by decide +kernel), tm (i := 459) (by decide +kernel), fun q9 H locs cells slots hs => ?_⟩
      refine lv_astore (lv' := [(4, .ref q9), (0, .ref x0), (1, .int x1), (2, .int x2), (3, .ref x3)]) hx hb d_W_leave_17 hl (by decide) rfl (fun ls hl => ?_)
      refine lv_iconst (v := 2) hx hb d_W_leave_19 (by decide) ?_
      exact r_ireturn C hs hr d_W_leave_20 hf
    have hf := ifn q1 hf
    exact nomatch (show (none : Option RS) = some r from hf)
def f_W_beat (bs : Nat) (sE : Nat × Nat) (h : HH) (z : Z3) (x0 : Nat) (x1 : Int32) (x2 : Int32) (x3 : Int32) (x4 : Nat) : Option RS :=
  (oK h x0 4).bind fun _ =>
  cX (f_B_beat bs sE h z x0 x1 x2 x3)
    (fun v3 h1 z2 =>
      (aJs bs h1 x4 2 0 v3.toInt64).bind fun h4 =>
      some (.inl (some (.int 0)), h4, z2))
    (fun E h5 z6 =>
      if E = "java/lang/IllegalArgumentException" then some (.inl (some (.int 1)), h5, z6) else
      if E = "java/util/NoSuchElementException" then some (.inl (some (.int 2)), h5, z6) else
      if E = "java/lang/IllegalStateException" then some (.inl (some (.int 3)), h5, z6) else
      none)
set_option maxHeartbeats 4000000 in
set_option maxRecDepth 100000 in
theorem c_W_beat {G : EN} {l : Launch} (hl0 : l.stackTraces = false) {h : HH} {z : Z3} {x0 : Nat} {x1 : Int32} {x2 : Int32} {x3 : Int32} {x4 : Nat} {r : RS} (hf : f_W_beat G.2.2.1 G.2.2.2 h z x0 x1 x2 x3 x4 = some r) : CM G l y_W_beat (.codeWith y_W_beat b_W_beat 6 (some .int) hh_W_beat) 9 161 [.ref x0, .int x1, .int x2, .int x3, .ref x4] h z r := by
  refine CM.ofWH hl0 rfl ?_
  intro p e s m below meth c C hr htab hs
  have hx := C.1
  have hb := C.2.1
  have hnc := (C.2.2.2.2.2.1.here C.2.2.2.2.2.2.1).2.2.2.2.2.1
  refine x_entry (n := 6) (Nat.le_of_ble_eq_true rfl) (fun ls hl => ?_)
  have hl : lv_has ls 6 [(0, .ref x0), (1, .int x1), (2, .int x2), (3, .int x3), (4, .ref x4)] := hl
  unfold f_W_beat at hf
  refine lv_aload hx hb d_W_beat_0 (lv_at hl 4 rfl) ?_
  refine lv_iconst (v := 0) hx hb d_W_beat_2 (by decide) ?_
  refine lv_aload_n hx hb d_W_beat_3 rfl (lv_at hl 0 rfl) ?_
  refine lv_iload_n hx hb d_W_beat_4 rfl (lv_at hl 1 rfl) ?_
  refine lv_iload_n hx hb d_W_beat_5 rfl (lv_at hl 2 rfl) ?_
  refine lv_iload_n hx hb d_W_beat_6 rfl (lv_at hl 3 rfl) ?_
  obtain ⟨_, ho, hf⟩ := bd hf
  refine k_X C hs hf (fun res e1 => iv_V (b := x0) (As := [.int x1, .int x2, .int x3]) (rest := [.int 0, .ref x4]) C hs cv_W_59 (c_B_beat hl0 e1) (ci := 4) rfl rfl ho rfl hl.1 rfl (Nat.le_of_ble_eq_true rfl) d_W_beat_7 ⟨Nat.le_of_ble_eq_true rfl, Nat.le_of_ble_eq_true rfl⟩) ?_ ?_
  · intro v3 h1 z2 H locs cells slots hf hs
    refine lv_i2l (v := v3.toInt64) hx hb d_W_beat_10 rfl ?_
    refine r_last C hs d_W_beat_11 hf (fun h4 H locs hf hs => ?_)
    refine lv_goto (tgt := 27) hx hb d_W_beat_12 (by decide) ?_
    refine lv_iconst (v := 0) hx hb d_W_beat_27 (by decide) ?_
    exact r_ireturn C hs hr d_W_beat_28 hf
  · intro E h5 z6 hf
    by_cases q0 : E = "java/lang/IllegalArgumentException"
    · subst q0
      have hf := ifp rfl hf
      refine ⟨[], mkE (0, 12, 15, 13), [mkE (0, 12, 19, 21), mkE (0, 12, 23, 15)], htab, (fun y hy => nomatch hy), by decide, by decide, tm (i := 333) (by decide +kernel), tm (i := 344) (by decide +kernel), fun q9 H locs cells slots hs => ?_⟩
      refine lv_astore (lv' := [(5, .ref q9), (0, .ref x0), (1, .int x1), (2, .int x2), (3, .int x3), (4, .ref x4)]) hx hb d_W_beat_15 hl (by decide) rfl (fun ls hl => ?_)
      refine lv_iconst (v := 1) hx hb d_W_beat_17 (by decide) ?_
      exact r_ireturn C hs hr d_W_beat_18 hf
    have hf := ifn q0 hf
    by_cases q1 : E = "java/util/NoSuchElementException"
    · subst q1
      have hf := ifp rfl hf
      refine ⟨[mkE (0, 12, 15, 13)], mkE (0, 12, 19, 21), [mkE (0, 12, 23, 15)], htab, (fun y hy => by
          simp only [List.mem_cons, List.not_mem_nil, or_false] at hy
          rcases hy with rfl
          all_goals first
            | exact ⟨by decide, by decide, "java/lang/IllegalArgumentException", tm (i := 333) (by decide +kernel), hnc _ (by decide) "java/lang/IllegalArgumentException" (by decide) (by decide)⟩), by decide, by decide, tm (i := 444) (by decide +kernel), tm (i := 459) (by decide +kernel), fun q9 H locs cells slots hs => ?_⟩
      refine lv_astore (lv' := [(5, .ref q9), (0, .ref x0), (1, .int x1), (2, .int x2), (3, .int x3), (4, .ref x4)]) hx hb d_W_beat_19 hl (by decide) rfl (fun ls hl => ?_)
      refine lv_iconst (v := 2) hx hb d_W_beat_21 (by decide) ?_
      exact r_ireturn C hs hr d_W_beat_22 hf
    have hf := ifn q1 hf
    by_cases q2 : E = "java/lang/IllegalStateException"
    · subst q2
      have hf := ifp rfl hf
      refine ⟨[mkE (0, 12, 15, 13), mkE (0, 12, 19, 21)], mkE (0, 12, 23, 15), [], htab, (fun y hy => by
          simp only [List.mem_cons, List.not_mem_nil, or_false] at hy
          rcases hy with rfl | rfl
          all_goals first
            | exact ⟨by decide, by decide, "java/lang/IllegalArgumentException", tm (i := 333) (by decide +kernel), hnc _ (by decide) "java/lang/IllegalArgumentException" (by decide) (by decide)⟩
            | exact ⟨by decide, by decide, "java/util/NoSuchElementException", tm (i := 444) (by decide +kernel), hnc _ (by decide) "java/util/NoSuchElementException" (by decide) (by decide)⟩), by decide, by decide, tm (i := 334) (by decide +kernel), tm (i := 414) (by decide +kernel), fun q9 H locs cells slots hs => ?_⟩
      refine lv_astore (lv' := [(5, .ref q9), (0, .ref x0), (1, .int x1), (2, .int x2), (3, .int x3), (4, .ref x4)]) hx hb d_W_beat_23 hl (by decide) rfl (fun ls hl => ?_)
      refine lv_iconst (v := 3) hx hb d_W_beat_25 (by decide) ?_
      exact r_ireturn C hs hr d_W_beat_26 hf
    have hf := ifn q2 hf
    exact nomatch (show (none : Option RS) = some r from hf)
def f_W_mark (bs : Nat) (sE : Nat × Nat) (h : HH) (z : Z3) (x0 : Nat) (x1 : Int32) (x2 : Int32) (x3 : Int32) (x4 : Int32) (x5 : Int32) (x6 : Nat) : Option RS :=
  (oK h x0 4).bind fun _ =>
  cX (f_B_mark bs sE h z x0 x1 x2 x3 x4 x5)
    (fun v3 h1 z2 =>
      (aJs bs h1 x6 2 0 v3.toInt64).bind fun h4 =>
      some (.inl (some (.int 0)), h4, z2))
    (fun E h5 z6 =>
      if E = "java/lang/IllegalArgumentException" then some (.inl (some (.int 1)), h5, z6) else
      if E = "java/util/NoSuchElementException" then some (.inl (some (.int 2)), h5, z6) else
      if E = "java/lang/IllegalStateException" then some (.inl (some (.int 3)), h5, z6) else
      if E = "java/lang/UnsupportedOperationException" then some (.inl (some (.int 4)), h5, z6) else
      none)
set_option maxHeartbeats 4000000 in
set_option maxRecDepth 100000 in
theorem c_W_mark {G : EN} {l : Launch} (hl0 : l.stackTraces = false) {h : HH} {z : Z3} {x0 : Nat} {x1 : Int32} {x2 : Int32} {x3 : Int32} {x4 : Int32} {x5 : Int32} {x6 : Nat} {r : RS} (hf : f_W_mark G.2.2.1 G.2.2.2 h z x0 x1 x2 x3 x4 x5 x6 = some r) : CM G l y_W_mark (.codeWith y_W_mark b_W_mark 8 (some .int) hh_W_mark) 9 164 [.ref x0, .int x1, .int x2, .int x3, .int x4, .int x5, .ref x6] h z r := by
  refine CM.ofWH hl0 rfl ?_
  intro p e s m below meth c C hr htab hs
  have hx := C.1
  have hb := C.2.1
  have hnc := (C.2.2.2.2.2.1.here C.2.2.2.2.2.2.1).2.2.2.2.2.1
  refine x_entry (n := 8) (Nat.le_of_ble_eq_true rfl) (fun ls hl => ?_)
  have hl : lv_has ls 8 [(0, .ref x0), (1, .int x1), (2, .int x2), (3, .int x3), (4, .int x4), (5, .int x5), (6, .ref x6)] := hl
  unfold f_W_mark at hf
  refine lv_aload hx hb d_W_mark_0 (lv_at hl 6 rfl) ?_
  refine lv_iconst (v := 0) hx hb d_W_mark_2 (by decide) ?_
  refine lv_aload_n hx hb d_W_mark_3 rfl (lv_at hl 0 rfl) ?_
  refine lv_iload_n hx hb d_W_mark_4 rfl (lv_at hl 1 rfl) ?_
  refine lv_iload_n hx hb d_W_mark_5 rfl (lv_at hl 2 rfl) ?_
  refine lv_iload_n hx hb d_W_mark_6 rfl (lv_at hl 3 rfl) ?_
  refine lv_iload hx hb d_W_mark_7 (lv_at hl 4 rfl) ?_
  refine lv_iload hx hb d_W_mark_9 (lv_at hl 5 rfl) ?_
  obtain ⟨_, ho, hf⟩ := bd hf
  refine k_X C hs hf (fun res e1 => iv_V (b := x0) (As := [.int x1, .int x2, .int x3, .int x4, .int x5]) (rest := [.int 0, .ref x6]) C hs cv_W_63 (c_B_mark hl0 e1) (ci := 4) rfl rfl ho rfl hl.1 rfl (Nat.le_of_ble_eq_true rfl) d_W_mark_11 ⟨Nat.le_of_ble_eq_true rfl, Nat.le_of_ble_eq_true rfl⟩) ?_ ?_
  · intro v3 h1 z2 H locs cells slots hf hs
    refine lv_i2l (v := v3.toInt64) hx hb d_W_mark_14 rfl ?_
    refine r_last C hs d_W_mark_15 hf (fun h4 H locs hf hs => ?_)
    refine lv_goto (tgt := 35) hx hb d_W_mark_16 (by decide) ?_
    refine lv_iconst (v := 0) hx hb d_W_mark_35 (by decide) ?_
    exact r_ireturn C hs hr d_W_mark_36 hf
  · intro E h5 z6 hf
    by_cases q0 : E = "java/lang/IllegalArgumentException"
    · subst q0
      have hf := ifp rfl hf
      refine ⟨[], mkE (0, 16, 19, 13), [mkE (0, 16, 23, 21), mkE (0, 16, 27, 15), mkE (0, 16, 31, 27)], htab, (fun y hy => nomatch hy), by decide, by decide, tm (i := 333) (by decide +kernel), tm (i := 344) (by decide +kernel), fun q9 H locs cells slots hs => ?_⟩
      refine lv_astore (lv' := [(7, .ref q9), (0, .ref x0), (1, .int x1), (2, .int x2), (3, .int x3), (4, .int x4), (5, .int x5), (6, .ref x6)]) hx hb d_W_mark_19 hl (by decide) rfl (fun ls hl => ?_)
      refine lv_iconst (v := 1) hx hb d_W_mark_21 (by decide) ?_
      exact r_ireturn C hs hr d_W_mark_22 hf
    have hf := ifn q0 hf
    by_cases q1 : E = "java/util/NoSuchElementException"
    · subst q1
      have hf := ifp rfl hf
      refine ⟨[mkE (0, 16, 19, 13)], mkE (0, 16, 23, 21), [mkE (0, 16, 27, 15), mkE (0, 16, 31, 27)], htab, (fun y hy => by
          simp only [List.mem_cons, List.not_mem_nil, or_false] at hy
          rcases hy with rfl
          all_goals first
            | exact ⟨by decide, by decide, "java/lang/IllegalArgumentException", tm (i := 333) (by decide +kernel), hnc _ (by decide) "java/lang/IllegalArgumentException" (by decide) (by decide)⟩), by decide, by decide, tm (i := 444) (by decide +kernel), tm (i := 459) (by decide +kernel), fun q9 H locs cells slots hs => ?_⟩
      refine lv_astore (lv' := [(7, .ref q9), (0, .ref x0), (1, .int x1), (2, .int x2), (3, .int x3), (4, .int x4), (5, .int x5), (6, .ref x6)]) hx hb d_W_mark_23 hl (by decide) rfl (fun ls hl => ?_)
      refine lv_iconst (v := 2) hx hb d_W_mark_25 (by decide) ?_
      exact r_ireturn C hs hr d_W_mark_26 hf
    have hf := ifn q1 hf
    by_cases q2 : E = "java/lang/IllegalStateException"
    · subst q2
      have hf := ifp rfl hf
      refine ⟨[mkE (0, 16, 19, 13), mkE (0, 16, 23, 21)], mkE (0, 16, 27, 15), [mkE (0, 16, 31, 27)], htab, (fun y hy => by
          simp only [List.mem_cons, List.not_mem_nil, or_false] at hy
          rcases hy with rfl | rfl
          all_goals first
            | exact ⟨by decide, by decide, "java/lang/IllegalArgumentException", tm (i := 333) (by decide +kernel), hnc _ (by decide) "java/lang/IllegalArgumentException" (by decide) (by decide)⟩
            | exact ⟨by decide, by decide, "java/util/NoSuchElementException", tm (i := 444) (by decide +kernel), hnc _ (by decide) "java/util/NoSuchElementException" (by decide) (by decide)⟩), by decide, by decide, tm (i := 334) (by decide +kernel), tm (i := 414) (by decide +kernel), fun q9 H locs cells slots hs => ?_⟩
      refine lv_astore (lv' := [(7, .ref q9), (0, .ref x0), (1, .int x1), (2, .int x2), (3, .int x3), (4, .int x4), (5, .int x5), (6, .ref x6)]) hx hb d_W_mark_27 hl (by decide) rfl (fun ls hl => ?_)
      refine lv_iconst (v := 3) hx hb d_W_mark_29 (by decide) ?_
      exact r_ireturn C hs hr d_W_mark_30 hf
    have hf := ifn q2 hf
    by_cases q3 : E = "java/lang/UnsupportedOperationException"
    · subst q3
      have hf := ifp rfl hf
      refine ⟨[mkE (0, 16, 19, 13), mkE (0, 16, 23, 21), mkE (0, 16, 27, 15)], mkE (0, 16, 31, 27), [], htab, (fun y hy => by
          simp only [List.mem_cons, List.not_mem_nil, or_false] at hy
          rcases hy with rfl | rfl | rfl
          all_goals first
            | exact ⟨by decide, by decide, "java/lang/IllegalArgumentException", tm (i := 333) (by decide +kernel), hnc _ (by decide) "java/lang/IllegalArgumentException" (by decide) (by decide)⟩
            | exact ⟨by decide, by decide, "java/util/NoSuchElementException", tm (i := 444) (by decide +kernel), hnc _ (by decide) "java/util/NoSuchElementException" (by decide) (by decide)⟩
            | exact ⟨by decide, by decide, "java/lang/IllegalStateException", tm (i := 334) (by decide +kernel), hnc _ (by decide) "java/lang/IllegalStateException" (by decide) (by decide)⟩), by decide, by decide, tm (i := 487) (by decide +kernel), tm (i := 529) (by decide +kernel), fun q9 H locs cells slots hs => ?_⟩
      refine lv_astore (lv' := [(7, .ref q9), (0, .ref x0), (1, .int x1), (2, .int x2), (3, .int x3), (4, .int x4), (5, .int x5), (6, .ref x6)]) hx hb d_W_mark_31 hl (by decide) rfl (fun ls hl => ?_)
      refine lv_iconst (v := 4) hx hb d_W_mark_33 (by decide) ?_
      exact r_ireturn C hs hr d_W_mark_34 hf
    have hf := ifn q3 hf
    exact nomatch (show (none : Option RS) = some r from hf)
def f_W_tick (bs : Nat) (sE : Nat × Nat) (h : HH) (z : Z3) (x0 : Nat) (x1 : Int32) (x2 : Nat) : Option RS :=
  (oK h x0 4).bind fun _ =>
  cX (f_B_tick bs sE h z x0 x1)
    (fun v3 h1 z2 =>
      (aJs bs h1 x2 2 0 v3.toInt64).bind fun h4 =>
      some (.inl (some (.int 0)), h4, z2))
    (fun E h5 z6 =>
      if E = "java/lang/IllegalArgumentException" then some (.inl (some (.int 1)), h5, z6) else
      none)
set_option maxHeartbeats 4000000 in
set_option maxRecDepth 100000 in
theorem c_W_tick {G : EN} {l : Launch} (hl0 : l.stackTraces = false) {h : HH} {z : Z3} {x0 : Nat} {x1 : Int32} {x2 : Nat} {r : RS} (hf : f_W_tick G.2.2.1 G.2.2.2 h z x0 x1 x2 = some r) : CM G l y_W_tick (.codeWith y_W_tick b_W_tick 4 (some .int) hh_W_tick) 8 136 [.ref x0, .int x1, .ref x2] h z r := by
  refine CM.ofWH hl0 rfl ?_
  intro p e s m below meth c C hr htab hs
  have hx := C.1
  have hb := C.2.1
  have hnc := (C.2.2.2.2.2.1.here C.2.2.2.2.2.2.1).2.2.2.2.2.1
  refine x_entry (n := 4) (Nat.le_of_ble_eq_true rfl) (fun ls hl => ?_)
  have hl : lv_has ls 4 [(0, .ref x0), (1, .int x1), (2, .ref x2)] := hl
  unfold f_W_tick at hf
  refine lv_aload_n hx hb d_W_tick_0 rfl (lv_at hl 2 rfl) ?_
  refine lv_iconst (v := 0) hx hb d_W_tick_1 (by decide) ?_
  refine lv_aload_n hx hb d_W_tick_2 rfl (lv_at hl 0 rfl) ?_
  refine lv_iload_n hx hb d_W_tick_3 rfl (lv_at hl 1 rfl) ?_
  obtain ⟨_, ho, hf⟩ := bd hf
  refine k_X C hs hf (fun res e1 => iv_V (b := x0) (As := [.int x1]) (rest := [.int 0, .ref x2]) C hs cv_W_66 (c_B_tick hl0 e1) (ci := 4) rfl rfl ho rfl hl.1 rfl (Nat.le_of_ble_eq_true rfl) d_W_tick_4 ⟨Nat.le_of_ble_eq_true rfl, Nat.le_of_ble_eq_true rfl⟩) ?_ ?_
  · intro v3 h1 z2 H locs cells slots hf hs
    refine lv_i2l (v := v3.toInt64) hx hb d_W_tick_7 rfl ?_
    refine r_last C hs d_W_tick_8 hf (fun h4 H locs hf hs => ?_)
    refine lv_goto (tgt := 15) hx hb d_W_tick_9 (by decide) ?_
    refine lv_iconst (v := 0) hx hb d_W_tick_15 (by decide) ?_
    exact r_ireturn C hs hr d_W_tick_16 hf
  · intro E h5 z6 hf
    by_cases q0 : E = "java/lang/IllegalArgumentException"
    · subst q0
      have hf := ifp rfl hf
      refine ⟨[], mkE (0, 9, 12, 13), [], htab, (fun y hy => nomatch hy), by decide, by decide, tm (i := 333) (by decide +kernel), tm (i := 344) (by decide +kernel), fun q9 H locs cells slots hs => ?_⟩
      refine lv_astore_n (lv' := [(3, .ref q9), (0, .ref x0), (1, .int x1), (2, .ref x2)]) hx hb d_W_tick_12 rfl hl (by decide) rfl (fun ls hl => ?_)
      refine lv_iconst (v := 1) hx hb d_W_tick_13 (by decide) ?_
      exact r_ireturn C hs hr d_W_tick_14 hf
    have hf := ifn q0 hf
    exact nomatch (show (none : Option RS) = some r from hf)
def f_W_edge (bs : Nat) (sE : Nat × Nat) (h : HH) (z : Z3) (x0 : Nat) (x1 : Int32) (x2 : Int32) (x3 : Nat) : Option RS :=
  (oK h x0 4).bind fun _ =>
  cX (f_B_edge bs sE h z x0 x1 x2)
    (fun v3 h1 z2 =>
      (aJs bs h1 x3 2 0 v3.toInt64).bind fun h4 =>
      some (.inl (some (.int 0)), h4, z2))
    (fun E h5 z6 =>
      if E = "java/lang/IllegalArgumentException" then some (.inl (some (.int 1)), h5, z6) else
      none)
set_option maxHeartbeats 4000000 in
set_option maxRecDepth 100000 in
theorem c_W_edge {G : EN} {l : Launch} (hl0 : l.stackTraces = false) {h : HH} {z : Z3} {x0 : Nat} {x1 : Int32} {x2 : Int32} {x3 : Nat} {r : RS} (hf : f_W_edge G.2.2.1 G.2.2.2 h z x0 x1 x2 x3 = some r) : CM G l y_W_edge (.codeWith y_W_edge b_W_edge 5 (some .int) hh_W_edge) 8 135 [.ref x0, .int x1, .int x2, .ref x3] h z r := by
  refine CM.ofWH hl0 rfl ?_
  intro p e s m below meth c C hr htab hs
  have hx := C.1
  have hb := C.2.1
  have hnc := (C.2.2.2.2.2.1.here C.2.2.2.2.2.2.1).2.2.2.2.2.1
  refine x_entry (n := 5) (Nat.le_of_ble_eq_true rfl) (fun ls hl => ?_)
  have hl : lv_has ls 5 [(0, .ref x0), (1, .int x1), (2, .int x2), (3, .ref x3)] := hl
  unfold f_W_edge at hf
  refine lv_aload_n hx hb d_W_edge_0 rfl (lv_at hl 3 rfl) ?_
  refine lv_iconst (v := 0) hx hb d_W_edge_1 (by decide) ?_
  refine lv_aload_n hx hb d_W_edge_2 rfl (lv_at hl 0 rfl) ?_
  refine lv_iload_n hx hb d_W_edge_3 rfl (lv_at hl 1 rfl) ?_
  refine lv_iload_n hx hb d_W_edge_4 rfl (lv_at hl 2 rfl) ?_
  obtain ⟨_, ho, hf⟩ := bd hf
  refine k_X C hs hf (fun res e1 => iv_V (b := x0) (As := [.int x1, .int x2]) (rest := [.int 0, .ref x3]) C hs cv_W_69 (c_B_edge hl0 e1) (ci := 4) rfl rfl ho rfl hl.1 rfl (Nat.le_of_ble_eq_true rfl) d_W_edge_5 ⟨Nat.le_of_ble_eq_true rfl, Nat.le_of_ble_eq_true rfl⟩) ?_ ?_
  · intro v3 h1 z2 H locs cells slots hf hs
    refine lv_i2l (v := v3.toInt64) hx hb d_W_edge_8 rfl ?_
    refine r_last C hs d_W_edge_9 hf (fun h4 H locs hf hs => ?_)
    refine lv_goto (tgt := 17) hx hb d_W_edge_10 (by decide) ?_
    refine lv_iconst (v := 0) hx hb d_W_edge_17 (by decide) ?_
    exact r_ireturn C hs hr d_W_edge_18 hf
  · intro E h5 z6 hf
    by_cases q0 : E = "java/lang/IllegalArgumentException"
    · subst q0
      have hf := ifp rfl hf
      refine ⟨[], mkE (0, 10, 13, 13), [], htab, (fun y hy => nomatch hy), by decide, by decide, tm (i := 333) (by decide +kernel), tm (i := 344) (by decide +kernel), fun q9 H locs cells slots hs => ?_⟩
      refine lv_astore (lv' := [(4, .ref q9), (0, .ref x0), (1, .int x1), (2, .int x2), (3, .ref x3)]) hx hb d_W_edge_13 hl (by decide) rfl (fun ls hl => ?_)
      refine lv_iconst (v := 1) hx hb d_W_edge_15 (by decide) ?_
      exact r_ireturn C hs hr d_W_edge_16 hf
    have hf := ifn q0 hf
    exact nomatch (show (none : Option RS) = some r from hf)
def f_W_fact (bs : Nat) (sE : Nat × Nat) (h : HH) (z : Z3) (x0 : Nat) (x1 : Int32) (x2 : Int32) (x3 : Nat) : Option RS :=
  (oK h x0 4).bind fun _ =>
  cX (f_B_fact bs sE h z x0 x1 x2)
    (fun v3 h1 z2 =>
      (aJs bs h1 x3 2 0 v3.toInt64).bind fun h4 =>
      some (.inl (some (.int 0)), h4, z2))
    (fun E h5 z6 =>
      if E = "java/lang/IllegalArgumentException" then some (.inl (some (.int 1)), h5, z6) else
      none)
set_option maxHeartbeats 4000000 in
set_option maxRecDepth 100000 in
theorem c_W_fact {G : EN} {l : Launch} (hl0 : l.stackTraces = false) {h : HH} {z : Z3} {x0 : Nat} {x1 : Int32} {x2 : Int32} {x3 : Nat} {r : RS} (hf : f_W_fact G.2.2.1 G.2.2.2 h z x0 x1 x2 x3 = some r) : CM G l y_W_fact (.codeWith y_W_fact b_W_fact 5 (some .int) hh_W_fact) 8 135 [.ref x0, .int x1, .int x2, .ref x3] h z r := by
  refine CM.ofWH hl0 rfl ?_
  intro p e s m below meth c C hr htab hs
  have hx := C.1
  have hb := C.2.1
  have hnc := (C.2.2.2.2.2.1.here C.2.2.2.2.2.2.1).2.2.2.2.2.1
  refine x_entry (n := 5) (Nat.le_of_ble_eq_true rfl) (fun ls hl => ?_)
  have hl : lv_has ls 5 [(0, .ref x0), (1, .int x1), (2, .int x2), (3, .ref x3)] := hl
  unfold f_W_fact at hf
  refine lv_aload_n hx hb d_W_fact_0 rfl (lv_at hl 3 rfl) ?_
  refine lv_iconst (v := 0) hx hb d_W_fact_1 (by decide) ?_
  refine lv_aload_n hx hb d_W_fact_2 rfl (lv_at hl 0 rfl) ?_
  refine lv_iload_n hx hb d_W_fact_3 rfl (lv_at hl 1 rfl) ?_
  refine lv_iload_n hx hb d_W_fact_4 rfl (lv_at hl 2 rfl) ?_
  obtain ⟨_, ho, hf⟩ := bd hf
  refine k_X C hs hf (fun res e1 => iv_V (b := x0) (As := [.int x1, .int x2]) (rest := [.int 0, .ref x3]) C hs cv_W_72 (c_B_fact hl0 e1) (ci := 4) rfl rfl ho rfl hl.1 rfl (Nat.le_of_ble_eq_true rfl) d_W_fact_5 ⟨Nat.le_of_ble_eq_true rfl, Nat.le_of_ble_eq_true rfl⟩) ?_ ?_
  · intro v3 h1 z2 H locs cells slots hf hs
    refine lv_i2l (v := v3.toInt64) hx hb d_W_fact_8 rfl ?_
    refine r_last C hs d_W_fact_9 hf (fun h4 H locs hf hs => ?_)
    refine lv_goto (tgt := 17) hx hb d_W_fact_10 (by decide) ?_
    refine lv_iconst (v := 0) hx hb d_W_fact_17 (by decide) ?_
    exact r_ireturn C hs hr d_W_fact_18 hf
  · intro E h5 z6 hf
    by_cases q0 : E = "java/lang/IllegalArgumentException"
    · subst q0
      have hf := ifp rfl hf
      refine ⟨[], mkE (0, 10, 13, 13), [], htab, (fun y hy => nomatch hy), by decide, by decide, tm (i := 333) (by decide +kernel), tm (i := 344) (by decide +kernel), fun q9 H locs cells slots hs => ?_⟩
      refine lv_astore (lv' := [(4, .ref q9), (0, .ref x0), (1, .int x1), (2, .int x2), (3, .ref x3)]) hx hb d_W_fact_13 hl (by decide) rfl (fun ls hl => ?_)
      refine lv_iconst (v := 1) hx hb d_W_fact_15 (by decide) ?_
      exact r_ireturn C hs hr d_W_fact_16 hf
    have hf := ifn q0 hf
    exact nomatch (show (none : Option RS) = some r from hf)
