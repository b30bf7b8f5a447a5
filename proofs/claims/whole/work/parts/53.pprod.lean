/-! producers: begin, pend, fact -/
def fw (r : RH) (f m a b : Nat) (x : Int32) : RH := fun f' m' i => if f' = f ∧ m' = m ∧ a ≤ i ∧ i < b then x else r f' m' i
theorem fw_0 {r : RH} {f m a b : Nat} {x : Int32} (h : b ≤ a) : fw r f m a b x = r := by
  funext f' m' i
  unfold fw
  rw [if_neg (by omega)]
theorem fw_s {r : RH} {f m a b : Nat} {x : Int32} (h : a < b) : fw (up3 r f m a x) f m (a + 1) b x = fw r f m a b x := by
  funext f' m' i
  unfold fw up3
  by_cases h1 : f' = f ∧ m' = m ∧ a + 1 ≤ i ∧ i < b
  · rw [if_pos h1, if_pos (by omega)]
  · rw [if_neg h1]
    by_cases h2 : f' = f ∧ m' = m ∧ i = a
    · rw [if_pos h2, if_pos (by omega)]
    · rw [if_neg h2, if_neg (by omega)]
def cnt (P : Nat → Bool) : Nat → Nat → Nat
  | 0, _ => 0
  | d + 1, i => (if P i = true then 1 else 0) + cnt P d (i + 1)
theorem cnt_c {P Q : Nat → Bool} : ∀ {d i : Nat}, (∀ j, i ≤ j → j < i + d → P j = Q j) → cnt P d i = cnt Q d i
  | 0, i => fun _ => rfl
  | d + 1, i => fun h => by
    simp only [cnt]
    rw [h i (by omega) (by omega), cnt_c (fun j h1 h2 => h j (by omega) (by omega))]
section OPP
variable {old : HH} {bs : Nat} {r : RH} {ed : Nat → Nat} {o : Int64} {D : HH} {sE : Nat × Nat} {z : Z3} {T : Nat}
theorem R_fill_Pe {n : Nat} {x : Int32} (hn : n < 4) : ∀ (d fuel i : Nat) (r : RH), i + d = 8 → d < fuel → f_R_fill_L5 bs sE fuel (HB old bs r ed o D) z (aPe bs n) x (kI i) 8 = some (.inl none, HB old bs (fw r 5 n i 8 x) ed o D, z) := by
  intro d
  induction d with
  | zero =>
    intro fuel i r hi hf
    obtain ⟨f, rfl⟩ : ∃ f, fuel = f + 1 := ⟨fuel - 1, by omega⟩
    have c : (8 : Int32) ≤ kI i := (kI_le (a := 8) (by omega) (by omega)).mpr (by omega)
    simp only [f_R_fill_L5, fb_R_fill_L5, if_pos c, fw_0 (show 8 ≤ i by omega)]
  | succ d ih =>
    intro fuel i r hi hf
    obtain ⟨f, rfl⟩ : ∃ f, fuel = f + 1 := ⟨fuel - 1, by omega⟩
    have c : ¬ (8 : Int32) ≤ kI i := fun h => by have := (kI_le (a := 8) (by omega) (by omega)).mp h; omega
    simp only [f_R_fill_L5, fb_R_fill_L5, if_neg c, aIs_Pe hn (show i < 8 by omega), bn_s, kI_add1]
    rw [ih f (i + 1) _ (by omega) (by omega), fw_s (by omega)]
theorem P_becomeIdle {n : Nat} (hn : n < 4) : f_P_becomeIdle bs sE (HB old bs r ed o D) z (aP bs n) = some (.inl none, HB old bs (fw (up3 (up3 r 4 n 1 0) 4 n 3 0) 5 n 0 8 (-1)) ed o D, z) := by
  simp only [f_P_becomeIdle, pV_P1 hn, pV_P3 hn, gR_P6 hn, f_R_fill, aN_Pe hn, bn_s]
  have := R_fill_Pe (old := old) (bs := bs) (ed := ed) (o := o) (D := D) (sE := sE) (z := z) (x := -1) hn 8 FU 0 (up3 (up3 r 4 n 1 0) 4 n 3 0) (by omega) (by show _ < 1000; omega)
  rw [show (0 : Int32) = kI 0 from rfl] at *
  rw [this, cV_s]
theorem M_begin_L {n : Nat} (hn : n < 4) : ∀ (d fuel i : Nat) (r : RH), i + d = 8 → d < fuel → f_M_begin_L94 bs sE fuel (HB old bs r ed o D) z (aM bs) (kI n) (kI i) = some (.inl (some (.int (r 20 16 0))), HB old bs (fw r 20 15 (8 * n + i) (8 * n + 8) (-1)) ed o D, z) := by
  intro d
  induction d with
  | zero =>
    intro fuel i r hi hf
    obtain ⟨f, rfl⟩ : ∃ f, fuel = f + 1 := ⟨fuel - 1, by omega⟩
    have c : (8 : Int32) ≤ kI i := (kI_le (a := 8) (by omega) (by omega)).mpr (by omega)
    simp only [f_M_begin_L94, fb_M_begin_L94, if_pos c, gI_M16, bn_s, fw_0 (show 8 * n + 8 ≤ 8 * n + i by omega)]
  | succ d ih =>
    intro fuel i r hi hf
    obtain ⟨f, rfl⟩ : ∃ f, fuel = f + 1 := ⟨fuel - 1, by omega⟩
    have c : ¬ (8 : Int32) ≤ kI i := fun h => by have := (kI_le (a := 8) (by omega) (by omega)).mp h; omega
    simp only [f_M_begin_L94, fb_M_begin_L94, if_neg c, gR_M15, kI_8, kI_add, aIs_MA (show marr 15 = true from rfl) (show 8 * n + i < msz 15 by simp [msz]; omega), bn_s, kI_add1]
    rw [ih f (i + 1) _ (by omega) (by omega), show 8 * n + (i + 1) = 8 * n + i + 1 by omega, fw_s (by omega)]
    simp [up3]
theorem op_begin (hT : T ≤ 512) (hI : INV bs sE.1 T r ed D z) (x1 x2 : Int32) : OPK bs sE.1 T old r ed o D z (fun h z => f_W_begin bs sE h z (aB bs) x1 x2 (aOu bs)) (fun h z => f_M_begin bs sE h z (aM bs) x1 x2) := by
  have hz := INV_RO (by omega) hI
  rcases rg 3 (by omega) x1 with ⟨n, hn, rfl⟩ | hb
  · have hn4 : n < 4 := by omega
    obtain ⟨h1, h2, tx, tm, h3, h4, h5, h6⟩ := id hI
    obtain ⟨b1, b2, b3, b4, b5, b6, b7⟩ := id h3
    obtain ⟨a1, a2, a3, a4, a5, a6, a7, a8, a9, a10, a11⟩ := h4 n hn4
    by_cases e : r 20 10 n = -1
    · refine ⟨2, 0, r, ed, o, D, nZ z 6, up3 r 20 0 0 2, ?_, ?_, by simp [up3], by simp, INV_f ZR_6 hI⟩
      · simp [f_W_begin, f_B_begin, f_B_knownProducer, gI_P2, req3 hn, cI_s, cI_x, cR_s, cR_x, cV_s, cV_x, cX_s, cX_x, bn_s, bz_0, bz_1, bz_b, bI_0, bI_1, oK_B, gR_B1, aR_Ps, hn4, oK_P, P_isEnding, P_isCommitting, P_isOpen, P_isKnown, P_isIdle, P_fence, P_renew, P_open, P_untouch, P_touch, P_startEnding, a2, e, tO_r hz]
      · simp [f_M_begin, f_M_begin_B21, ou3 hn, cI_s, cI_x, cR_s, cR_x, cV_s, cV_x, cX_s, cX_x, bn_s, bz_0, bz_1, bz_b, bI_0, bI_1, pV_M0, gI_M0, oK_M, M_check hn4, e, up3]
    have a5 := a5 e
    have e0 : (0 : Int32) ≤ r 20 10 n := by rcases a3 with h | h | h | h | h <;> first | exact absurd h e | (rw [h]; decide)
    by_cases ea : r 20 11 n = x2
    · by_cases ei : r 20 10 n = 0
      · by_cases et : tx = 40
        · subst et
          refine ⟨3, 0, r, ed, o, D, nZ z 6, up3 r 20 0 0 3, ?_, ?_, by simp [up3], by simp, INV_f ZR_6 hI⟩
          · simp [f_W_begin, f_B_begin, f_B_knownProducer, gI_P2, req3 hn, cI_s, cI_x, cR_s, cR_x, cV_s, cV_x, cX_s, cX_x, bn_s, bz_0, bz_1, bz_b, bI_0, bI_1, oK_B, gR_B1, aR_Ps, hn4, oK_P, P_isEnding, P_isCommitting, P_isOpen, P_isKnown, P_isIdle, P_fence, P_renew, P_open, P_untouch, P_touch, P_startEnding, a2, ei, a5, ea, gI_B3, b3, show ¬ kI 40 < 40 by decide, tO_r hz]
          · simp [f_M_begin, f_M_begin_B21, ou3 hn, cI_s, cI_x, cR_s, cR_x, cV_s, cV_x, cX_s, cX_x, bn_s, bz_0, bz_1, bz_b, bI_0, bI_1, pV_M0, gI_M0, oK_M, M_check hn4, ei, ea, up3, gI_M16, b4, show (kI 40 = 40) = True from eq_true rfl, M_fail, up3_s]
        · have c1 : kI tx < 40 := (kI_lt (b := 40) (by omega) (by omega)).mpr (by omega)
          have c2 : ¬ kI tx = 40 := fun h => et ((kI_eq (b := 40) (by omega) (by omega)).mp h)
          have hl := fun (r : RH) (o : Int64) => M_begin_L (old := old) (bs := bs) (ed := ed) (o := o) (D := D) (sE := sE) (z := z) hn4 8 FU 0 r (by omega) (by show _ < 1000; omega)
          refine ⟨0, kI (tx + 1), up3 (up3 (up3 (up3 r 0 0 3 (kI (tx + 1))) 4 n 1 1) 4 n 3 (kI (tx + 1))) 4 n 4 (kI tm), ed, (kI (tx + 1)).toInt64, D, z, fw (up3 (up3 (up3 (up3 (up3 (up3 (up3 (up3 (up3 (up3 r 0 0 3 (kI (tx + 1))) 4 n 1 1) 4 n 3 (kI (tx + 1))) 4 n 4 (kI tm)) 20 0 0 0) 20 16 0 (kI (tx + 1))) 20 10 n 1) 20 12 n (kI (tx + 1))) 20 13 n 0) 20 14 n (kI tm)) 20 15 (8 * n + 0) (8 * n + 8) (-1), ?_, ?_, by simp [fw, up3], by simp, ?_⟩
          · simp [f_W_begin, f_B_begin, f_B_knownProducer, gI_P2, req3 hn, cI_s, cI_x, cR_s, cR_x, cV_s, cV_x, cX_s, cX_x, bn_s, bz_0, bz_1, bz_b, bI_0, bI_1, oK_B, gR_B1, aR_Ps, hn4, oK_P, P_isEnding, P_isCommitting, P_isOpen, P_isKnown, P_isIdle, P_fence, P_renew, P_open, P_untouch, P_touch, P_startEnding, a2, ei, a5, ea, gI_B3, gI_B4, pV_B3, b3, b5, c1, kI_add1, up3, aJs_Ou]
          · simp [f_M_begin, f_M_begin_B21, ou3 hn, cI_s, cI_x, cR_s, cR_x, cV_s, cV_x, cX_s, cX_x, bn_s, bz_0, bz_1, bz_b, bI_0, bI_1, pV_M0, gI_M0, oK_M, M_check hn4, ei, ea, up3_r, gI_M16, pV_M16, gI_M22, b4, b6, c2, kI_add1, gR_M10, gR_M12, gR_M13, gR_M14, aIs_MA, marr, msz, hn4, upd]
            refine (hl _ _).trans ?_
            simp [up3]
          · refine INV_p hT ZR_rfl h1 h2 (tx' := tx + 1) (by omega) ?_ h4 h5 h6 hn4 ?_ ?_
            · exact ⟨by omega, by omega, by simp [fw, up3], by simp [fw, up3], by simp [fw, up3]; exact b5, by simp [fw, up3]; exact b6, by simp [fw, up3]; exact b7⟩
            · intro f m i q1 q2 q3
              simp only [dP, dZ] at q1 q2
              simp only [fw, up3]
              repeat (rw [if_neg (by omega)])
            · have b6' := a6 (Or.inr ei)
              refine ⟨by simp [fw, up3]; exact a1, by simp [fw, up3], by simp [fw, up3], by simp [fw, up3], by simp [fw, up3]; exact a5, by simp [fw, up3], fun _ => ⟨by simp [fw, up3], ⟨tx + 1, by omega, by omega, by simp [fw, up3]⟩, fun j hj => ?_⟩, by simp [fw, up3], ⟨tm, by omega, by simp [fw, up3]⟩, by simp [fw, up3]; rw [a10]; exact b6'.2.1, ⟨0, by omega, by simp [fw, up3]; rfl⟩⟩
              simp [fw, up3, hj, b6'.2.2 j hj]
      · refine ⟨3, 0, r, ed, o, D, nZ z 6, up3 r 20 0 0 3, ?_, ?_, by simp [up3], by simp, INV_f ZR_6 hI⟩
        · simp [f_W_begin, f_B_begin, f_B_knownProducer, gI_P2, req3 hn, cI_s, cI_x, cR_s, cR_x, cV_s, cV_x, cX_s, cX_x, bn_s, bz_0, bz_1, bz_b, bI_0, bI_1, oK_B, gR_B1, aR_Ps, hn4, oK_P, P_isEnding, P_isCommitting, P_isOpen, P_isKnown, P_isIdle, P_fence, P_renew, P_open, P_untouch, P_touch, P_startEnding, a2, e, a5, ea, ei, tO_r hz]
        · simp [f_M_begin, f_M_begin_B21, ou3 hn, cI_s, cI_x, cR_s, cR_x, cV_s, cV_x, cX_s, cX_x, bn_s, bz_0, bz_1, bz_b, bI_0, bI_1, pV_M0, gI_M0, oK_M, M_check hn4, e0, ea, ei, up3]
    · refine ⟨3, 0, r, ed, o, D, nZ z 6, up3 r 20 0 0 3, ?_, ?_, by simp [up3], by simp, INV_f ZR_6 hI⟩
      · simp [f_W_begin, f_B_begin, f_B_knownProducer, gI_P2, req3 hn, cI_s, cI_x, cR_s, cR_x, cV_s, cV_x, cX_s, cX_x, bn_s, bz_0, bz_1, bz_b, bI_0, bI_1, oK_B, gR_B1, aR_Ps, hn4, oK_P, P_isEnding, P_isCommitting, P_isOpen, P_isKnown, P_isIdle, P_fence, P_renew, P_open, P_untouch, P_touch, P_startEnding, a2, e, a5, ea, tO_r hz]
      · simp [f_M_begin, f_M_begin_B21, ou3 hn, cI_s, cI_x, cR_s, cR_x, cV_s, cV_x, cX_s, cX_x, bn_s, bz_0, bz_1, bz_b, bI_0, bI_1, pV_M0, gI_M0, oK_M, M_check hn4, e0, show ¬ x2 = r 20 11 n from fun h => ea h.symm, up3]
  · refine ⟨1, 0, r, ed, o, D, nZ z 6, up3 r 20 0 0 1, ?_, ?_, by simp [up3], by simp, INV_f ZR_6 hI⟩
    · simp [f_W_begin, f_B_begin, reb3 hz hb, cI_s, cI_x, cR_s, cR_x, cV_s, cV_x, cX_s, cX_x, bn_s, bz_0, bz_1, bz_b, bI_0, bI_1, oK_B]
    · simp [f_M_begin, f_M_begin_B21, oub3 hb, M_fail, cI_s, cI_x, cR_s, cR_x, cV_s, cV_x, cX_s, cX_x, bn_s, bz_0, bz_1, bz_b, bI_0, bI_1, pV_M0, gI_M0, oK_M, up3_s, up3]
theorem putP_L {n : Nat} (hn : n < 4) : ∀ (d fuel i c : Nat), i + d = 8 → d < fuel → f_P_putPending_L28 bs sE fuel (HB old bs r ed o D) z (kI c) (aPe bs n) 8 (kI i) = some (.inl (some (.int (kI (c + cnt (fun j => decide (r 5 n j ≠ -1)) d i)))), HB old bs r ed o D, z) := by
  intro d
  induction d with
  | zero =>
    intro fuel i c hi hf
    obtain ⟨f, rfl⟩ : ∃ f, fuel = f + 1 := ⟨fuel - 1, by omega⟩
    have q : (8 : Int32) ≤ kI i := (kI_le (a := 8) (by omega) (by omega)).mpr (by omega)
    simp only [f_P_putPending_L28, fb_P_putPending_L28, if_pos q, cnt, Nat.add_zero]
  | succ d ih =>
    intro fuel i c hi hf
    obtain ⟨f, rfl⟩ : ∃ f, fuel = f + 1 := ⟨fuel - 1, by omega⟩
    have q : ¬ (8 : Int32) ≤ kI i := fun h => by have := (kI_le (a := 8) (by omega) (by omega)).mp h; omega
    have i1 := ih f (i + 1) c (by omega) (by omega)
    have i2 := ih f (i + 1) (c + 1) (by omega) (by omega)
    simp only [f_P_putPending_L28, fb_P_putPending_L28, if_neg q, aI_Pe hn (show i < 8 by omega), bn_s, kI_add1, i1, i2, cnt]
    by_cases e : r 5 n i = -1
    · simp [e]
    · simp [e]
      congr 1
      omega
theorem M_pend_L {n : Nat} (hn : n < 4) : ∀ (d fuel i c : Nat), i + d = 8 → d < fuel → f_M_pend_L88 bs sE fuel (HB old bs r ed o D) z (aM bs) (kI n) (kI c) (kI i) = some (.inl (some (.int (kI (c + cnt (fun j => decide (¬ r 20 15 (8 * n + j) < 0)) d i)))), HB old bs r ed o D, z) := by
  intro d
  induction d with
  | zero =>
    intro fuel i c hi hf
    obtain ⟨f, rfl⟩ : ∃ f, fuel = f + 1 := ⟨fuel - 1, by omega⟩
    have q : (8 : Int32) ≤ kI i := (kI_le (a := 8) (by omega) (by omega)).mpr (by omega)
    simp only [f_M_pend_L88, fb_M_pend_L88, if_pos q, cnt, Nat.add_zero]
  | succ d ih =>
    intro fuel i c hi hf
    obtain ⟨f, rfl⟩ : ∃ f, fuel = f + 1 := ⟨fuel - 1, by omega⟩
    have q : ¬ (8 : Int32) ≤ kI i := fun h => by have := (kI_le (a := 8) (by omega) (by omega)).mp h; omega
    have i1 := ih f (i + 1) c (by omega) (by omega)
    have i2 := ih f (i + 1) (c + 1) (by omega) (by omega)
    simp only [f_M_pend_L88, fb_M_pend_L88, if_neg q, gR_M15, kI_8, kI_add, aI_MA (show marr 15 = true from rfl) (show 8 * n + i < msz 15 by simp [msz]; omega), bn_s, kI_add1, Int32.add_zero, i1, i2, cnt]
    by_cases e : r 20 15 (8 * n + i) < 0
    · simp [e]
    · rw [if_neg e, if_pos (decide_eq_true e), Nat.add_assoc]
theorem B_open {n : Nat} {x : Int32} (hn : n < 4) (hz : RO z) : f_B_openProducer bs sE (HB old bs r ed o D) z (aB bs) (kI n) x = if r 4 n 1 = -1 then some (.inr "java/util/NoSuchElementException", HB old bs r ed o D, nZ z 6) else if r 4 n 2 = x then (if r 4 n 1 = 1 then some (.inl (some (.ref (aP bs n))), HB old bs r ed o D, z) else some (.inr "java/lang/IllegalStateException", HB old bs r ed o D, nZ z 6)) else some (.inr "java/lang/IllegalStateException", HB old bs r ed o D, nZ z 6) := by
  by_cases e1 : r 4 n 1 = -1
  · simp [f_B_openProducer, f_B_knownProducer, gI_P2, cI_s, cI_x, cR_s, cR_x, cV_s, cV_x, cX_s, cX_x, bn_s, bz_0, bz_1, bz_b, bI_0, bI_1, oK_B, gR_B1, aR_Ps, hn, oK_P, P_isEnding, P_isCommitting, P_isOpen, P_isKnown, P_isIdle, P_fence, P_renew, P_open, P_untouch, P_touch, P_startEnding, e1, tO_r hz]
  · by_cases e2 : r 4 n 2 = x <;> by_cases e3 : r 4 n 1 = 1 <;> simp [f_B_openProducer, f_B_knownProducer, gI_P2, cI_s, cI_x, cR_s, cR_x, cV_s, cV_x, cX_s, cX_x, bn_s, bz_0, bz_1, bz_b, bI_0, bI_1, oK_B, gR_B1, aR_Ps, hn, oK_P, P_isEnding, P_isCommitting, P_isOpen, P_isKnown, P_isIdle, P_fence, P_renew, P_open, P_untouch, P_touch, P_startEnding, e1, e2, e3, tO_r hz]
/-- an open producer of this age, or what is thrown: the same on both sides -/
def opn (r : RH) (n : Nat) (x : Int32) : Nat := if r 20 10 n = -1 then 2 else if r 20 11 n = x ∧ r 20 10 n = 1 then 0 else 3
theorem opn_c {tx tm n : Nat} {x : Int32} (h4 : IVP tx tm r) (hn : n < 4) (hz : RO z) : f_B_openProducer bs sE (HB old bs r ed o D) z (aB bs) (kI n) x = if opn r n x = 0 then some (.inl (some (.ref (aP bs n))), HB old bs r ed o D, z) else some (.inr (if opn r n x = 2 then "java/util/NoSuchElementException" else "java/lang/IllegalStateException"), HB old bs r ed o D, nZ z 6) := by
  obtain ⟨a1, a2, a3, a4, a5, a6, a7, a8, a9, a10, a11⟩ := h4 n hn
  rw [B_open hn hz, a2]
  by_cases e1 : r 20 10 n = -1
  · simp [opn, e1]
  · rw [a5 e1]
    by_cases e2 : r 20 11 n = x <;> by_cases e3 : r 20 10 n = 1 <;> simp [opn, e1, e2, e3]
theorem opn_m {r' : RH} {tx tm n : Nat} {x : Int32} (h4 : IVP tx tm r) (hn : n < 4) (hr1 : r' 20 10 n = r 20 10 n) (hr2 : r' 20 11 n = r 20 11 n) : f_M_check bs sE (HB old bs r' ed o D) z (aM bs) (kI n) x 1 = some (.inl (some (.int (kI (opn r n x)))), HB old bs r' ed o D, z) := by
  obtain ⟨a1, a2, a3, a4, a5, a6, a7, a8, a9, a10, a11⟩ := h4 n hn
  rw [M_check hn, hr1, hr2]
  by_cases e1 : r 20 10 n = -1
  · simp [opn, e1]
    rfl
  · have e0 : (0 : Int32) ≤ r 20 10 n := by rcases a3 with h | h | h | h | h <;> first | exact absurd h e1 | (rw [h]; decide)
    by_cases e2 : r 20 11 n = x <;> by_cases e3 : r 20 10 n = 1
    · simp [opn, e2, e3]; rfl
    · simp [opn, e0, e1, e2, e3]; rfl
    · have : ¬ x = r 20 11 n := fun h => e2 h.symm
      simp [opn, e0, e1, e2, e3, this]; rfl
    · have : ¬ x = r 20 11 n := fun h => e2 h.symm
      simp [opn, e0, e1, e2, e3, this]; rfl
theorem opn_3 {n : Nat} {x : Int32} (h : opn r n x ≠ 0) : opn r n x = 2 ∨ opn r n x = 3 := by
  unfold opn at h ⊢
  split
  · exact Or.inl rfl
  · rename_i h1
    rw [if_neg h1] at h
    split
    · rename_i h2
      rw [if_pos h2] at h
      exact absurd rfl h
    · exact Or.inr rfl
theorem opn_0 {n : Nat} {x : Int32} (h : opn r n x = 0) : r 20 10 n = 1 ∧ r 20 11 n = x := by
  unfold opn at h
  split at h
  · cases h
  · split at h
    · rename_i h2; exact ⟨h2.2, h2.1⟩
    · cases h
theorem op_pend (hT : T ≤ 512) (hI : INV bs sE.1 T r ed D z) (x1 x2 x3 x4 x5 : Int32) : OPK bs sE.1 T old r ed o D z (fun h z => f_W_pend bs sE h z (aB bs) x1 x2 x3 x4 x5 (aOu bs)) (fun h z => f_M_pend bs sE h z (aM bs) x1 x2 x3 x4 x5) := by
  have hz := INV_RO (by omega) hI
  rcases rg 3 (by omega) x1 with ⟨n, hn, rfl⟩ | hb
  · have hn4 : n < 4 := by omega
    obtain ⟨h1, h2, tx, tm, h3, h4, h5, h6⟩ := id hI
    rcases rg 1 (by omega) x3 with ⟨g, hg, rfl⟩ | hb
    · rcases rg 3 (by omega) x4 with ⟨p, hp, rfl⟩ | hb
      · rcases rg 600 (by omega) x5 with ⟨k, hk, rfl⟩ | hb
        · by_cases e : opn r n x2 = 0
          · obtain ⟨e1, e2⟩ := opn_0 e
            obtain ⟨a1, a2, a3, a4, a5, a6, a7, a8, a9, a10, a11⟩ := h4 n hn4
            obtain ⟨q1, q2, q3⟩ := a7 (Or.inl e1)
            have hj : ∀ j, j < 8 → (decide (up3 r 5 n (g * 4 + p) (kI k) 5 n j ≠ -1)) = decide (¬ (up3 (up3 (up3 r 5 n (g * 4 + p) (kI k)) 20 0 0 0) 20 15 (8 * n + 4 * g + p) (kI k)) 20 15 (8 * n + j) < 0) := by
              intro j hj
              by_cases ej : j = g * 4 + p
              · subst ej
                have : 8 * n + (g * 4 + p) = 8 * n + 4 * g + p := by omega
                simp [up3, this, kI_nm1 (show k < 2147483648 by omega)]
                rw [← Int32.not_lt, kI_nl0 (by omega)]
                exact id
              · have e1 : up3 r 5 n (g * 4 + p) (kI k) 5 n j = r 5 n j := by simp [up3, ej]
                have e2 : (up3 (up3 (up3 r 5 n (g * 4 + p) (kI k)) 20 0 0 0) 20 15 (8 * n + 4 * g + p) (kI k)) 20 15 (8 * n + j) = r 20 15 (8 * n + j) := by
                  simp only [up3]
                  repeat (rw [if_neg (by omega)])
                rw [e1, e2, ← (q3 j hj).1]
                rcases (q3 j hj).2 with h | ⟨x, hx, h⟩
                · rw [h]; decide
                · rw [h]
                  simp only [ne_eq, kI_nm1 (show x < 2147483648 by omega), kI_nl0 (show x < 2147483648 by omega)]
            have hc := cnt_c (P := fun j => decide (up3 r 5 n (g * 4 + p) (kI k) 5 n j ≠ -1)) (Q := fun j => decide (¬ (up3 (up3 (up3 r 5 n (g * 4 + p) (kI k)) 20 0 0 0) 20 15 (8 * n + 4 * g + p) (kI k)) 20 15 (8 * n + j) < 0)) (d := 8) (i := 0) (fun j _ hj' => hj j (by omega))
            have l1 := putP_L (old := old) (bs := bs) (r := up3 r 5 n (g * 4 + p) (kI k)) (ed := ed) (o := o) (D := D) (sE := sE) (z := z) hn4 8 FU 0 0 (by omega) (by show _ < 1000; omega)
            have l2 := fun (o : Int64) => M_pend_L (old := old) (bs := bs) (r := up3 (up3 (up3 r 5 n (g * 4 + p) (kI k)) 20 0 0 0) 20 15 (8 * n + 4 * g + p) (kI k)) (ed := ed) (o := o) (D := D) (sE := sE) (z := z) hn4 8 FU 0 0 (by omega) (by show _ < 1000; omega)
            rw [← hc] at l2
            generalize cnt (fun j => decide (up3 r 5 n (g * 4 + p) (kI k) 5 n j ≠ -1)) 8 0 = C at l1 l2
            refine ⟨0, kI (0 + C), up3 r 5 n (g * 4 + p) (kI k), ed, (kI (0 + C)).toInt64, D, z, up3 (up3 (up3 r 5 n (g * 4 + p) (kI k)) 20 0 0 0) 20 15 (8 * n + 4 * g + p) (kI k), ?_, ?_, by simp [up3], by simp, ?_⟩
            · simp only [f_W_pend, f_B_pend, f_P_putPending, req3 hn, req1 hg, req3 hp, req600 hk, cI_s, cI_x, cR_s, cR_x, cV_s, cV_x, cX_s, cX_x, bn_s, bz_0, bz_1, bz_b, bI_0, bI_1, oK_B, opn_c h4 hn4 hz, e, if_true, oK_P hn4, gR_P6 hn4, kI_m4, kI_add, aIs_Pe hn4 (show g * 4 + p < 8 by omega), aN_Pe hn4]
              rw [show f_P_putPending_L28 bs sE FU (HB old bs (up3 r 5 n (g * 4 + p) (kI k)) ed o D) z 0 (aPe bs n) 8 0 = _ from l1]
              simp only [cI_s, cI_x, cR_s, cR_x, cV_s, cV_x, cX_s, cX_x, bn_s, bz_0, bz_1, bz_b, bI_0, bI_1, aJs_Ou]
            · have l2 := l2 (kI (0 + C)).toInt64
              simp only [f_M_pend, f_M_pend_B52, ou3 hn, ou1 hg, ou3 hp, ou600 hk, cI_s, cI_x, cR_s, cR_x, cV_s, cV_x, cX_s, cX_x, bn_s, bz_0, bz_1, bz_b, bI_0, bI_1, oK_M, opn_m (r' := up3 r 5 n (g * 4 + p) (kI k)) h4 hn4 (by simp [up3]) (by simp [up3]), e, pV_M0, gI_M0, show (up3 (up3 r 5 n (g * 4 + p) (kI k)) 20 0 0 (kI 0)) 20 0 0 ≤ 0 from by simp [up3, kI_0], if_true, gR_M15, kI_8, kI_4, kI_add, aIs_MA (show marr 15 = true from rfl) (show 8 * n + 4 * g + p < msz 15 by simp [msz]; omega)]
              exact l2
            · refine INV_p hT ZR_rfl h1 h2 (Nat.le_refl _) (IV0_fr ?_ h3) h4 h5 h6 hn4 ?_ ?_
              · (intro f m i q; simp only [dZ] at q; simp only [pu, up3]; repeat (rw [if_neg (by omega)]))
              · (intro f m i q1 q2 q3; simp only [dP, dZ] at q1 q2; simp only [pu, up3]; repeat (rw [if_neg (by omega)]))
              · refine ⟨by simp [up3]; exact a1, by simp [up3]; exact a2, by simp [up3]; exact a3, by simp [up3, e1], by simp [up3]; exact a5, by simp [up3, e1], fun _ => ⟨by simp [up3]; exact q1, by simp [up3]; exact q2, fun j hj => ?_⟩, by simp [up3]; exact a8, by simp [up3]; exact a9, by simp [up3]; exact a10, by simp [up3]; exact a11⟩
                by_cases ej : j = g * 4 + p
                · subst ej
                  have : 8 * n + (g * 4 + p) = 8 * n + 4 * g + p := by omega
                  exact ⟨by simp [up3, this], Or.inr ⟨k, hk, by simp [up3]⟩⟩
                · have e1 : (up3 (up3 (up3 r 5 n (g * 4 + p) (kI k)) 20 0 0 0) 20 15 (8 * n + 4 * g + p) (kI k)) 5 n j = r 5 n j := by simp [up3, ej]
                  have e2 : (up3 (up3 (up3 r 5 n (g * 4 + p) (kI k)) 20 0 0 0) 20 15 (8 * n + 4 * g + p) (kI k)) 20 15 (8 * n + j) = r 20 15 (8 * n + j) := by
                    simp only [up3]
                    repeat (rw [if_neg (by omega)])
                  rw [e1, e2]
                  exact q3 j hj
          · refine ⟨kI (opn r n x2), 0, r, ed, o, D, nZ z 6, up3 r 20 0 0 (kI (opn r n x2)), ?_, ?_, by simp [up3], ?_, INV_f ZR_6 hI⟩
            · rcases opn_3 e with q | q <;> simp [f_W_pend, f_B_pend, req3 hn, req1 hg, req3 hp, req600 hk, cI_s, cI_x, cR_s, cR_x, cV_s, cV_x, cX_s, cX_x, bn_s, bz_0, bz_1, bz_b, bI_0, bI_1, oK_B, opn_c h4 hn4 hz, q] <;> rfl
            · rcases opn_3 e with q | q <;> simp [f_M_pend, f_M_pend_B52, ou3 hn, ou1 hg, ou3 hp, ou600 hk, cI_s, cI_x, cR_s, cR_x, cV_s, cV_x, cX_s, cX_x, bn_s, bz_0, bz_1, bz_b, bI_0, bI_1, oK_M, opn_m (r' := r) h4 hn4 rfl rfl, q, pV_M0, gI_M0, up3, show ¬ kI 2 ≤ 0 by decide, show ¬ kI 3 ≤ 0 by decide]
            · rcases opn_3 e with q | q <;> (rw [q]; intro h; exact absurd h (by decide))
        · refine ⟨1, 0, r, ed, o, D, nZ z 6, up3 r 20 0 0 1, ?_, ?_, by simp [up3], by simp, INV_f ZR_6 hI⟩
          · simp [f_W_pend, f_B_pend, req3 hn, req1 hg, req3 hp, reb600 hz hb, cI_s, cI_x, cR_s, cR_x, cV_s, cV_x, cX_s, cX_x, bn_s, bz_0, bz_1, bz_b, bI_0, bI_1, oK_B]
          · simp [f_M_pend, f_M_pend_B41, f_M_pend_B52, ou3 hn, ou1 hg, ou3 hp, oub600 hb, M_fail, cI_s, cI_x, cR_s, cR_x, cV_s, cV_x, cX_s, cX_x, bn_s, bz_0, bz_1, bz_b, bI_0, bI_1, pV_M0, gI_M0, oK_M, up3_s, up3]
      · refine ⟨1, 0, r, ed, o, D, nZ z 6, up3 r 20 0 0 1, ?_, ?_, by simp [up3], by simp, INV_f ZR_6 hI⟩
        · simp [f_W_pend, f_B_pend, req3 hn, req1 hg, reb3 hz hb, cI_s, cI_x, cR_s, cR_x, cV_s, cV_x, cX_s, cX_x, bn_s, bz_0, bz_1, bz_b, bI_0, bI_1, oK_B]
        · simp [f_M_pend, f_M_pend_B41, f_M_pend_B52, ou3 hn, ou1 hg, oub3 hb, M_fail, cI_s, cI_x, cR_s, cR_x, cV_s, cV_x, cX_s, cX_x, bn_s, bz_0, bz_1, bz_b, bI_0, bI_1, pV_M0, gI_M0, oK_M, up3_s, up3]
    · refine ⟨1, 0, r, ed, o, D, nZ z 6, up3 r 20 0 0 1, ?_, ?_, by simp [up3], by simp, INV_f ZR_6 hI⟩
      · simp [f_W_pend, f_B_pend, req3 hn, reb1 hz hb, cI_s, cI_x, cR_s, cR_x, cV_s, cV_x, cX_s, cX_x, bn_s, bz_0, bz_1, bz_b, bI_0, bI_1, oK_B]
      · simp [f_M_pend, f_M_pend_B41, f_M_pend_B52, ou3 hn, oub1 hb, M_fail, cI_s, cI_x, cR_s, cR_x, cV_s, cV_x, cX_s, cX_x, bn_s, bz_0, bz_1, bz_b, bI_0, bI_1, pV_M0, gI_M0, oK_M, up3_s, up3]
  · refine ⟨1, 0, r, ed, o, D, nZ z 6, up3 r 20 0 0 1, ?_, ?_, by simp [up3], by simp, INV_f ZR_6 hI⟩
    · simp [f_W_pend, f_B_pend, reb3 hz hb, cI_s, cI_x, cR_s, cR_x, cV_s, cV_x, cX_s, cX_x, bn_s, bz_0, bz_1, bz_b, bI_0, bI_1, oK_B]
    · simp [f_M_pend, f_M_pend_B41, f_M_pend_B52, oub3 hb, M_fail, cI_s, cI_x, cR_s, cR_x, cV_s, cV_x, cX_s, cX_x, bn_s, bz_0, bz_1, bz_b, bI_0, bI_1, pV_M0, gI_M0, oK_M, up3_s, up3]
end OPP
