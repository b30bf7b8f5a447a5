section OPS
variable {old : HH} {bs : Nat} {r : RH} {ed : Nat → Nat} {o : Int64} {D : HH} {sE : Nat × Nat} {z : Z3} {T : Nat}
theorem op_fact (hT : T ≤ 512) (hI : INV bs sE.1 T r ed D z) (x1 x2 : Int32) : OPK bs sE.1 T old r ed o D z (fun h z => f_W_fact bs sE h z (aB bs) x1 x2 (aOu bs)) (fun h z => f_M_fact bs sE h z (aM bs) x1 x2) := by
  have hz := INV_RO (by omega) hI
  rcases rg 3 (by omega) x1 with ⟨n, hn, rfl⟩ | hb
  · have hn4 : n < 4 := by omega
    obtain ⟨h1, h2, tx, tm, h3, h4, h5, h6⟩ := id hI
    obtain ⟨a1, a2, a3, a4, a5, a6, a7, a8, a9, a10, a11⟩ := h4 n hn4
    rcases rg 7 (by omega) x2 with ⟨k, hk, rfl⟩ | hb
    · by_cases e : r 20 10 n = -1
      · refine ⟨0, -1, r, ed, (-1 : Int32).toInt64, D, z, up3 r 20 0 0 0, ?_, ?_, by simp [up3], by simp, INV_f ZR_rfl hI⟩
        · simp [f_W_fact, f_B_fact, req3 hn, req7 hk, cI_s, cI_x, cR_s, cR_x, cV_s, cV_x, cX_s, cX_x, bn_s, bz_0, bz_1, bz_b, bI_0, bI_1, oK_B, gR_B1, aR_Ps, hn4, oK_P, P_isEnding, P_isCommitting, P_isOpen, P_isKnown, P_isIdle, P_fence, P_renew, P_open, P_untouch, P_touch, P_startEnding, a2, e, aJs_Ou]
        · by_cases ek : kI k = 0
          · simp [f_M_fact, f_M_fact_B43, ou3 hn, ou7 hk, cI_s, cI_x, cR_s, cR_x, cV_s, cV_x, cX_s, cX_x, bn_s, bz_0, bz_1, bz_b, bI_0, bI_1, pV_M0, oK_M, gR_M10, aI_MA, marr, msz, hn4, up3_r, e, show (kI k = 0) = True from eq_true ek]
          · simp [f_M_fact, f_M_fact_B43, ou3 hn, ou7 hk, cI_s, cI_x, cR_s, cR_x, cV_s, cV_x, cX_s, cX_x, bn_s, bz_0, bz_1, bz_b, bI_0, bI_1, pV_M0, oK_M, gR_M10, aI_MA, marr, msz, hn4, up3_r, e, ek]
      have a5 := a5 e
      have e0 : (0 : Int32) ≤ r 20 10 n := by rcases a3 with h | h | h | h | h <;> first | exact absurd h e | (rw [h]; decide)
      have hr0 : ∀ m, 1 ≤ m → m ≤ 9 → (up3 r 20 0 0 0) 20 m = r 20 m := fun m _ _ => up3_fn (by omega)
      rcases (show k = 0 ∨ k = 1 ∨ k = 2 ∨ k = 3 ∨ (4 ≤ k ∧ k ≤ 7) by omega) with rfl | rfl | rfl | rfl | hk4
      · refine ⟨0, r 20 10 n, r, ed, (r 20 10 n).toInt64, D, z, up3 r 20 0 0 0, ?_, ?_, by simp [up3], by simp, INV_f ZR_rfl hI⟩
        · simp [f_W_fact, f_B_fact, req3 hn, req7 hk, cI_s, cI_x, cR_s, cR_x, cV_s, cV_x, cX_s, cX_x, bn_s, bz_0, bz_1, bz_b, bI_0, bI_1, oK_B, gR_B1, aR_Ps, hn4, oK_P, P_isEnding, P_isCommitting, P_isOpen, P_isKnown, P_isIdle, P_fence, P_renew, P_open, P_untouch, P_touch, P_startEnding, a2, e, aJs_Ou, gI_P1, show (kI 0 = 0) = True from eq_true rfl]
        · simp [f_M_fact, f_M_fact_B43, ou3 hn, ou7 hk, cI_s, cI_x, cR_s, cR_x, cV_s, cV_x, cX_s, cX_x, bn_s, bz_0, bz_1, bz_b, bI_0, bI_1, pV_M0, oK_M, gR_M10, aI_MA, marr, msz, hn4, up3_r, show (kI 0 = 0) = True from eq_true rfl]
      · refine ⟨0, r 20 11 n, r, ed, (r 20 11 n).toInt64, D, z, up3 r 20 0 0 0, ?_, ?_, by simp [up3], by simp, INV_f ZR_rfl hI⟩
        · simp [f_W_fact, f_B_fact, req3 hn, req7 hk, cI_s, cI_x, cR_s, cR_x, cV_s, cV_x, cX_s, cX_x, bn_s, bz_0, bz_1, bz_b, bI_0, bI_1, oK_B, gR_B1, aR_Ps, hn4, oK_P, P_isEnding, P_isCommitting, P_isOpen, P_isKnown, P_isIdle, P_fence, P_renew, P_open, P_untouch, P_touch, P_startEnding, a2, e, aJs_Ou, gI_P2, a5, show (kI 1 = 1) = True from eq_true rfl, show ¬ kI 1 = 0 by decide]
        · simp [f_M_fact, f_M_fact_B43, ou3 hn, ou7 hk, cI_s, cI_x, cR_s, cR_x, cV_s, cV_x, cX_s, cX_x, bn_s, bz_0, bz_1, bz_b, bI_0, bI_1, pV_M0, oK_M, gR_M10, gR_M11, aI_MA, marr, msz, hn4, up3_r, e0, show (kI 1 = 1) = True from eq_true rfl, show ¬ kI 1 = 0 by decide]
      · by_cases ei : r 20 10 n = 0
        · have q := (a6 (Or.inr ei)).1
          refine ⟨0, 0, r, ed, (0 : Int32).toInt64, D, z, up3 r 20 0 0 0, ?_, ?_, by simp [up3], by simp, INV_f ZR_rfl hI⟩
          · simp [f_W_fact, f_B_fact, req3 hn, req7 hk, cI_s, cI_x, cR_s, cR_x, cV_s, cV_x, cX_s, cX_x, bn_s, bz_0, bz_1, bz_b, bI_0, bI_1, oK_B, gR_B1, aR_Ps, hn4, oK_P, P_isEnding, P_isCommitting, P_isOpen, P_isKnown, P_isIdle, P_fence, P_renew, P_open, P_untouch, P_touch, P_startEnding, a2, e, aJs_Ou, gI_P3, q, show (kI 2 = 2) = True from eq_true rfl, show ¬ kI 2 = 0 by decide, show ¬ kI 2 = 1 by decide]
          · simp [f_M_fact, f_M_fact_B43, ou3 hn, ou7 hk, cI_s, cI_x, cR_s, cR_x, cV_s, cV_x, cX_s, cX_x, bn_s, bz_0, bz_1, bz_b, bI_0, bI_1, pV_M0, oK_M, gR_M10, gR_M12, aI_MA, marr, msz, hn4, up3_r, ei, show (kI 2 = 2) = True from eq_true rfl, show ¬ kI 2 = 0 by decide, show ¬ kI 2 = 1 by decide, show ¬ 4 ≤ kI 2 by decide]
        · have q := (a7 (by rcases a3 with h | h | h | h | h <;> simp_all)).1
          refine ⟨0, r 20 12 n, r, ed, (r 20 12 n).toInt64, D, z, up3 r 20 0 0 0, ?_, ?_, by simp [up3], by simp, INV_f ZR_rfl hI⟩
          · simp [f_W_fact, f_B_fact, req3 hn, req7 hk, cI_s, cI_x, cR_s, cR_x, cV_s, cV_x, cX_s, cX_x, bn_s, bz_0, bz_1, bz_b, bI_0, bI_1, oK_B, gR_B1, aR_Ps, hn4, oK_P, P_isEnding, P_isCommitting, P_isOpen, P_isKnown, P_isIdle, P_fence, P_renew, P_open, P_untouch, P_touch, P_startEnding, a2, e, aJs_Ou, gI_P3, q, show (kI 2 = 2) = True from eq_true rfl, show ¬ kI 2 = 0 by decide, show ¬ kI 2 = 1 by decide]
          · simp [f_M_fact, f_M_fact_B43, ou3 hn, ou7 hk, cI_s, cI_x, cR_s, cR_x, cV_s, cV_x, cX_s, cX_x, bn_s, bz_0, bz_1, bz_b, bI_0, bI_1, pV_M0, oK_M, gR_M10, gR_M12, aI_MA, marr, msz, hn4, up3_r, ei, e0, show (kI 2 = 2) = True from eq_true rfl, show ¬ kI 2 = 0 by decide, show ¬ kI 2 = 1 by decide, show ¬ 4 ≤ kI 2 by decide]
      · by_cases ei : r 20 10 n = 0
        · have q := (a6 (Or.inr ei)).2.1
          refine ⟨0, 0, r, ed, (0 : Int32).toInt64, D, z, up3 r 20 0 0 0, ?_, ?_, by simp [up3], by simp, INV_f ZR_rfl hI⟩
          · simp [f_W_fact, f_B_fact, req3 hn, req7 hk, cI_s, cI_x, cR_s, cR_x, cV_s, cV_x, cX_s, cX_x, bn_s, bz_0, bz_1, bz_b, bI_0, bI_1, oK_B, gR_B1, aR_Ps, hn4, oK_P, P_isEnding, P_isCommitting, P_isOpen, P_isKnown, P_isIdle, P_fence, P_renew, P_open, P_untouch, P_touch, P_startEnding, a2, e, aJs_Ou, gI_P5, a10, q, show (kI 3 = 3) = True from eq_true rfl, show ¬ kI 3 = 0 by decide, show ¬ kI 3 = 1 by decide, show ¬ kI 3 = 2 by decide]
          · simp [f_M_fact, f_M_fact_B43, ou3 hn, ou7 hk, cI_s, cI_x, cR_s, cR_x, cV_s, cV_x, cX_s, cX_x, bn_s, bz_0, bz_1, bz_b, bI_0, bI_1, pV_M0, oK_M, gR_M10, gR_M12, aI_MA, marr, msz, hn4, up3_r, ei, show (kI 3 = 3) = True from eq_true rfl, show ¬ kI 3 = 0 by decide, show ¬ kI 3 = 1 by decide, show ¬ kI 3 = 2 by decide, show ¬ 4 ≤ kI 3 by decide]
        · refine ⟨0, r 20 13 n, r, ed, (r 20 13 n).toInt64, D, z, up3 r 20 0 0 0, ?_, ?_, by simp [up3], by simp, INV_f ZR_rfl hI⟩
          · simp [f_W_fact, f_B_fact, req3 hn, req7 hk, cI_s, cI_x, cR_s, cR_x, cV_s, cV_x, cX_s, cX_x, bn_s, bz_0, bz_1, bz_b, bI_0, bI_1, oK_B, gR_B1, aR_Ps, hn4, oK_P, P_isEnding, P_isCommitting, P_isOpen, P_isKnown, P_isIdle, P_fence, P_renew, P_open, P_untouch, P_touch, P_startEnding, a2, e, aJs_Ou, gI_P5, a10, show (kI 3 = 3) = True from eq_true rfl, show ¬ kI 3 = 0 by decide, show ¬ kI 3 = 1 by decide, show ¬ kI 3 = 2 by decide]
          · simp [f_M_fact, f_M_fact_B43, ou3 hn, ou7 hk, cI_s, cI_x, cR_s, cR_x, cV_s, cV_x, cX_s, cX_x, bn_s, bz_0, bz_1, bz_b, bI_0, bI_1, pV_M0, oK_M, gR_M10, gR_M13, aI_MA, marr, msz, hn4, up3_r, ei, e0, show (kI 3 = 3) = True from eq_true rfl, show ¬ kI 3 = 0 by decide, show ¬ kI 3 = 1 by decide, show ¬ kI 3 = 2 by decide, show ¬ 4 ≤ kI 3 by decide]
      · obtain ⟨p, hp, rfl⟩ : ∃ p, p < 4 ∧ k = p + 4 := ⟨k - 4, by omega, by omega⟩
        obtain ⟨m, hi, hL⟩ := h6 p hp
        have hG := MG_c hr0 (MG_of hL)
        have e4 : kI (p + 4) - 4 = kI p := by rw [show (4 : Int32) = kI 4 from rfl, kI_sub (by omega), Nat.add_sub_cancel]
        have k0 : ¬ kI (p + 4) = 0 := fun h => by have := (kI_eq (b := 0) (by omega) (by omega)).mp h; omega
        have k1 : ¬ kI (p + 4) = 1 := fun h => by have := (kI_eq (b := 1) (by omega) (by omega)).mp h; omega
        have k2 : ¬ kI (p + 4) = 2 := fun h => by have := (kI_eq (b := 2) (by omega) (by omega)).mp h; omega
        have k3 : ¬ kI (p + 4) = 3 := fun h => by have := (kI_eq (b := 3) (by omega) (by omega)).mp h; omega
        have k4 : 4 ≤ kI (p + 4) := (kI_le (a := 4) (by omega) (by omega)).mpr (by omega)
        have hne : kI n ≠ -1 := fun h => by rw [kI_nm1 (by omega)] at h; exact h
        have hN := L_nextSequence (old := old) (o := o) (z := z) (x1 := kI n) (x2 := r 20 11 n) hp (show T ≤ 513 by omega) hL hne
        have hM := fun (o : Int64) => M_next (old := old) (bs := bs) (ed := ed) (o := o) (D := D) (sE := sE) (z := z) hp (show T ≤ 513 by omega) hG hn4
        rw [ofP_c hr0, hr0 5 (by omega) (by omega), up3_fn (show ¬ (20 = 20 ∧ 11 = 0) by omega)] at hM
        generalize nx (ofP r p (kI n) (r 20 11 n)) (fun i => r 20 5 (520 * p + i)) m = N at hN hM
        refine ⟨0, N, r, ed, N.toInt64, D, z, up3 r 20 0 0 0, ?_, ?_, by simp [up3], by simp, INV_f ZR_rfl hI⟩
        · simp [f_W_fact, f_B_fact, req3 hn, req7 hk, cI_s, cI_x, cR_s, cR_x, cV_s, cV_x, cX_s, cX_x, bn_s, bz_0, bz_1, bz_b, bI_0, bI_1, oK_B, gR_B1, aR_Ps, hn4, oK_P, P_isEnding, P_isCommitting, P_isOpen, P_isKnown, P_isIdle, P_fence, P_renew, P_open, P_untouch, P_touch, P_startEnding, a2, e, k0, k1, k2, k3, gR_B0, e4, aR_Ls, hp, oK_L, gI_P2, a5, hN, aJs_Ou]
        · simp [f_M_fact, f_M_fact_B43, ou3 hn, ou7 hk, cI_s, cI_x, cR_s, cR_x, cV_s, cV_x, cX_s, cX_x, bn_s, bz_0, bz_1, bz_b, bI_0, bI_1, pV_M0, oK_M, gR_M10, aI_MA, marr, msz, hn4, up3_fn, e0, k0, k1, k4, e4, hM]
    · refine ⟨1, 0, r, ed, o, D, nZ z 6, up3 r 20 0 0 1, ?_, ?_, by simp [up3], by simp, INV_f ZR_6 hI⟩
      · simp [f_W_fact, f_B_fact, req3 hn, reb7 hz hb, cI_s, cI_x, cR_s, cR_x, cV_s, cV_x, cX_s, cX_x, bn_s, bz_0, bz_1, bz_b, bI_0, bI_1, oK_B]
      · simp [f_M_fact, ou3 hn, oub7 hb, M_fail, cI_s, cI_x, cR_s, cR_x, cV_s, cV_x, cX_s, cX_x, bn_s, bz_0, bz_1, bz_b, bI_0, bI_1, pV_M0, oK_M, up3_s]
  · refine ⟨1, 0, r, ed, o, D, nZ z 6, up3 r 20 0 0 1, ?_, ?_, by simp [up3], by simp, INV_f ZR_6 hI⟩
    · simp [f_W_fact, f_B_fact, reb3 hz hb, cI_s, cI_x, cR_s, cR_x, cV_s, cV_x, cX_s, cX_x, bn_s, bz_0, bz_1, bz_b, bI_0, bI_1, oK_B]
    · simp [f_M_fact, oub3 hb, M_fail, cI_s, cI_x, cR_s, cR_x, cV_s, cV_x, cX_s, cX_x, bn_s, bz_0, bz_1, bz_b, bI_0, bI_1, pV_M0, oK_M, up3_s]
theorem touch_ok {q p : Nat} (hq : q < 16) (hp : p < 4) : ∃ k, k < 16 ∧ (kI q ||| (1 <<< (kI p &&& 31))) = kI k := by
  have : ∀ q, q < 16 → ∀ p, p < 4 → ∃ k, k < 16 ∧ (kI q ||| (1 <<< (kI p &&& 31))) = kI k := by decide +kernel
  exact this q hq p hp
theorem op_send (hT : T ≤ 512) (hO : OLD old bs sE.1) (hI : INV bs sE.1 T r ed D z) (x1 x2 x3 x4 x5 : Int32) : OPK bs sE.1 T old r ed o D z (fun h z => f_W_send bs sE h z (aB bs) x1 x2 x3 x4 x5 (aOu bs)) (fun h z => f_M_send bs sE h z (aM bs) x1 x2 x3 x4 x5) := by
  have hz := INV_RO (by omega) hI
  obtain ⟨hz6, hzb⟩ := INV_RO2 hT hI
  rcases rg 3 (by omega) x1 with ⟨w, hw, rfl⟩ | hb
  · have hw4 : w < 4 := by omega
    obtain ⟨h1, h2, tx, tm, h3, h4, h5, h6⟩ := id hI
    rcases rg 3 (by omega) x3 with ⟨p, hp3, rfl⟩ | hb
    · have hp : p < 4 := by omega
      rcases rg 1000 (by omega) x4 with ⟨s, hs, rfl⟩ | hb
      · by_cases e : opn r w x2 = 0
        · obtain ⟨e1, e2⟩ := opn_0 e
          obtain ⟨a1, a2, a3, a4, a5, a6, a7, a8, a9, a10, a11⟩ := h4 w hw4
          obtain ⟨q1, q2, q3⟩ := a7 (Or.inl e1)
          have a5 := a5 (by rw [e1]; decide)
          obtain ⟨n, hi, hL⟩ := h6 p hp
          obtain ⟨c1, c2, c3, c4, c5, c6, c7, -⟩ := id hL
          obtain ⟨k0, k1, k2⟩ := a11
          obtain ⟨k3, k4, k5⟩ := touch_ok k1 hp
          have hne : kI w ≠ -1 := fun h => by rw [kI_nm1 (by omega)] at h; exact h
          have LR := L_recentOffset (old := old) (o := o) (z := z) (x1 := kI w) (x2 := x2) (x3 := kI s) hp (show T ≤ 513 by omega) hL hne
          have LN := L_nextSequence (old := old) (o := o) (z := z) (x1 := kI w) (x2 := x2) hp (show T ≤ 513 by omega) hL hne
          have MR : ∀ (r' : RH) (o : Int64) (ed : Nat → Nat) (D : HH) (z : Z3), (∀ m, 1 ≤ m → m ≤ 12 → r' 20 m = r 20 m) → f_M_recent bs sE (HB old bs r' ed o D) z (aM bs) (kI w) (kI p) (kI s) = some (.inl (some (.int (oI (rcn (ofP r p (kI w) x2) (fun i => r 20 5 (520 * p + i)) (kI s) n 0)))), HB old bs r' ed o D, z) := by
            intro r' o ed D z hr
            have := M_recent (old := old) (bs := bs) (r := r') (ed := ed) (o := o) (D := D) (sE := sE) (z := z) (n := n) (x3 := kI s) (w := w) hp (by omega) (by rw [hr 7 (by omega) (by omega)]; exact c4) hw4
            rw [ofP_c (fun m h1 h2 => hr m h1 (by omega)), hr 5 (by omega) (by omega), hr 11 (by omega) (by omega), e2] at this
            exact this
          have MN : ∀ (r' : RH) (o : Int64) (ed : Nat → Nat) (D : HH) (z : Z3), (∀ m, 1 ≤ m → m ≤ 12 → r' 20 m = r 20 m) → f_M_next bs sE (HB old bs r' ed o D) z (aM bs) (kI w) (kI p) = some (.inl (some (.int (nx (ofP r p (kI w) x2) (fun i => r 20 5 (520 * p + i)) n))), HB old bs r' ed o D, z) := by
            intro r' o ed D z hr
            have := M_next (old := old) (bs := bs) (r := r') (ed := ed) (o := o) (D := D) (sE := sE) (z := z) (w := w) hp (show T ≤ 513 by omega) (MG_c (fun m h1 h2 => hr m h1 (by omega)) (MG_of hL)) hw4
            rw [ofP_c (fun m h1 h2 => hr m h1 (by omega)), hr 5 (by omega) (by omega), hr 11 (by omega) (by omega), e2] at this
            exact this
          have MC := fun (r' : RH) (o : Int64) (ed : Nat → Nat) (D : HH) (z : Z3) => opn_m (old := old) (bs := bs) (r' := r') (ed := ed) (o := o) (D := D) (sE := sE) (z := z) (x := x2) h4 hw4
          cases hrc : rcn (ofP r p (kI w) x2) (fun i => r 20 5 (520 * p + i)) (kI s) n 0 with
          | some j =>
            have hj := rcn_at hrc
            rw [hrc] at LR MR
            have cj : ¬ kI j < 0 := by rw [kI_nl0 (by omega)]; exact id
            have cj' : (0 : Int32) ≤ kI j := by rw [kI_0le (by omega)]; trivial
            refine ⟨0, kI j, up3 r 4 w 5 (kI k3), ed, (kI j).toInt64, D, z, up3 (up3 (up3 r 4 w 5 (kI k3)) 20 0 0 0) 20 13 w (kI k3), ?_, ?_, by simp [up3], by simp, ?_⟩
            · simp [f_W_send, f_B_send, req3 hw, req3 hp3, req1000 hs, cI_s, cI_x, cR_s, cR_x, cV_s, cV_x, cX_s, cX_x, bn_s, bz_0, bz_1, bz_b, bI_0, bI_1, oK_B, opn_c h4 hw4 hz, e, gR_B0, aR_Ls, hp, oK_L, LR, oI, kI_nm1 (show j < 2147483648 by omega), oK_P, hw4, P_touch, a10, k2, k5, aJs_Ou]
            · simp only [f_M_send, ou3 hw, ou3 hp3, ou1000 hs, cI_s, cI_x, cR_s, cR_x, cV_s, cV_x, cX_s, cX_x, bn_s, bz_0, bz_1, bz_b, bI_0, bI_1, oK_M, MC (up3 r 4 w 5 (kI k3)) _ ed D z (by simp [up3]) (by simp [up3]), e, f_M_send_B42, pV_M0, gI_M0, show (up3 (up3 r 4 w 5 (kI k3)) 20 0 0 (kI 0)) 20 0 0 ≤ 0 from by simp [up3, kI_0], if_true, MR (up3 (up3 r 4 w 5 (kI k3)) 20 0 0 (kI 0)) _ ed D z (fun m h1 h2 => by rw [up3_fn (by omega), up3_fn (by omega)]), oI, if_pos cj', f_M_send_B86, f_M_send_B105, gR_M13, aI_MA (show marr 13 = true from rfl) (show w < msz 13 by simp [msz, hw4]), aIs_MA (show marr 13 = true from rfl) (show w < msz 13 by simp [msz, hw4]), if_neg cj]
              rw [show (up3 (up3 r 4 w 5 (kI k3)) 20 0 0 (kI 0)) 20 13 w = kI k0 by simp [up3, k2], k5]
              rfl
            · refine INV_p hT ZR_rfl h1 h2 (Nat.le_refl _) (IV0_fr ?_ h3) h4 h5 h6 hw4 ?_ ?_
              · (intro f m i q; simp only [dZ] at q; simp only [pu, up3]; repeat (rw [if_neg (by omega)]))
              · (intro f m i q1 q2 q3; simp only [dP, dZ] at q1 q2; simp only [pu, up3]; repeat (rw [if_neg (by omega)]))
              · exact ⟨by simp [up3]; exact a1, by simp [up3]; exact a2, by simp [up3]; exact a3, by simp [up3, e1], by simp [up3]; exact fun _ => a5, by simp [up3, e1], fun _ => ⟨by simp [up3]; exact q1, by simp [up3]; exact q2, fun j hj => by simp [up3]; exact q3 j hj⟩, by simp [up3]; exact a8, by simp [up3]; exact a9, by simp [up3], ⟨k3, k4, by simp [up3]⟩⟩
          | none =>
            rw [hrc] at LR MR
            by_cases hN : kI s = nx (ofP r p (kI w) x2) (fun i => r 20 5 (520 * p + i)) n
            · by_cases hf : fulq (kI n) (r 20 8 p) = true
              · refine ⟨3, 0, r, ed, o, D, nZ z 6, up3 r 20 0 0 3, ?_, ?_, by simp [up3], by simp, INV_f ZR_6 hI⟩
                · simp [f_W_send, f_B_send, f_B_sendNew, f_B_requireSpace, req3 hw, req3 hp3, req1000 hs, cI_s, cI_x, cR_s, cR_x, cV_s, cV_x, cX_s, cX_x, bn_s, bz_0, bz_1, bz_b, bI_0, bI_1, oK_B, opn_c h4 hw4 hz, e, gR_B0, aR_Ls, hp, oK_L, LR, oI, oK_P, hw4, gI_P0, gI_P2, a1, a5, e2, LN, ← hN, L_isFull, c3, c7, hf, tO_r hz]
                · simp only [f_M_send, ou3 hw, ou3 hp3, ou1000 hs, cI_s, cI_x, cR_s, cR_x, cV_s, cV_x, cX_s, cX_x, bn_s, bz_0, bz_1, bz_b, bI_0, bI_1, oK_M, MC r _ ed D _ rfl rfl, e, f_M_send_B42, pV_M0, gI_M0, show (up3 r 20 0 0 (kI 0)) 20 0 0 ≤ 0 from by simp [up3, kI_0], if_true, MR (up3 r 20 0 0 (kI 0)) _ ed D _ (fun m h1 h2 => by rw [up3_fn (by omega)]), MN (up3 r 20 0 0 (kI 0)) _ ed D _ (fun m h1 h2 => by rw [up3_fn (by omega)]), oI, show ¬ (0 : Int32) ≤ -1 by decide, if_false, ← hN, f_M_send_B86, M_full hp, up3_fn (show ¬ (20 = 20 ∧ 7 = 0) by omega), up3_fn (show ¬ (20 = 20 ∧ 8 = 0) by omega), c4, hf, M_fail, up3_s, Bool.true_eq_false]
              · have hf : fulq (kI n) (r 20 8 p) = false := by simpa using hf
                have hL1 := IL_new (x := some (.inl (0, [.inl 0, .inl (r 20 12 w), .inl (kI w), .inl x2, .inl (kI s), .inl x5]))) (zz' := (nZ z 6).1) hO.1 hzb (by simp [nZ]) hL
                have hM := IVL_M hO.1 hzb h6
                obtain ⟨ed', D', z', g1, g2⟩ := L_put (o := o) (a := z.1) (fs := [.inl 0, .inl (r 20 12 w), .inl (kI w), .inl x2, .inl (kI s), .inl x5]) hp hz6 hO h2 (fun q hq => by have := hM q hq; simp [nZ]; omega) (by omega) c3 (by simp [nZ]; omega) hL1.2.2.2.2.2.2.2.1 hzb (by simp [nZ]) vau_e
                have hr2 : ∀ m, 1 ≤ m → m ≤ 12 → (up3 (up3 (up3 (up3 r 2 p 0 (r 2 p 0 + 1)) 2 p 2 (kI (n + 1))) 4 w 5 (kI k3)) 20 0 0 (kI 0)) 20 m = r 20 m := fun m _ _ => by rw [up3_fn (by omega), up3_fn (by omega), up3_fn (by omega), up3_fn (by omega)]
                refine ⟨0, kI n, up3 (up3 (up3 r 2 p 0 (r 2 p 0 + 1)) 2 p 2 (kI (n + 1))) 4 w 5 (kI k3), ed', (kI n).toInt64, D', z', pu (up3 (up3 (up3 (up3 (up3 r 2 p 0 (r 2 p 0 + 1)) 2 p 2 (kI (n + 1))) 4 w 5 (kI k3)) 20 0 0 0) 20 13 w (kI k3)) p n 1 x5 (kI w) x2 (kI s) (r 20 12 w), ?_, ?_, by simp [pu, up3], by simp, ?_⟩
                · have q45 : (up3 (up3 r 2 p 0 (r 2 p 0 + 1)) 2 p 2 (kI (n + 1))) 4 w 5 = kI k0 := by simp [up3]; rw [a10]; exact k2
                  simp only [f_W_send, f_B_send, f_B_sendNew, f_B_requireSpace, req3 hw, req3 hp3, req1000 hs, cI_s, cI_x, cR_s, cR_x, cV_s, cV_x, cX_s, cX_x, bn_s, bz_0, bz_1, bz_b, bI_0, bI_1, oK_B, opn_c h4 hw4 hz, e, if_true, gR_B0, aR_Ls hp, oK_L hp, LR, oI, oK_P hw4, gI_P0 hw4, gI_P2 hw4, a1, a5, e2, LN, ← hN, L_isFull hp, c3, c7, hf, E_ofProducer hw4 hz hzb, q1, g1, P_touch hw4, q45, k5, aJs_Ou]
                · simp only [f_M_send, ou3 hw, ou3 hp3, ou1000 hs, cI_s, cI_x, cR_s, cR_x, cV_s, cV_x, cX_s, cX_x, bn_s, bz_0, bz_1, bz_b, bI_0, bI_1, oK_M, MC (up3 (up3 (up3 r 2 p 0 (r 2 p 0 + 1)) 2 p 2 (kI (n + 1))) 4 w 5 (kI k3)) _ ed' D' z' (by simp [up3]) (by simp [up3]), e, f_M_send_B42, pV_M0, gI_M0, show (up3 (up3 (up3 (up3 r 2 p 0 (r 2 p 0 + 1)) 2 p 2 (kI (n + 1))) 4 w 5 (kI k3)) 20 0 0 (kI 0)) 20 0 0 ≤ 0 from by simp [up3, kI_0], if_true, MR _ _ ed' D' z' hr2, MN _ _ ed' D' z' hr2, oI, show ¬ (0 : Int32) ≤ -1 by decide, if_false, ← hN, f_M_send_B86, M_full hp, hr2 7 (by omega) (by omega), hr2 8 (by omega) (by omega), c4, hf, f_M_send_B105, gR_M13, aI_MA (show marr 13 = true from rfl) (show w < msz 13 by simp [msz, hw4]), aIs_MA (show marr 13 = true from rfl) (show w < msz 13 by simp [msz, hw4]), show (-1 : Int32) < 0 by decide]
                  rw [show (up3 (up3 (up3 (up3 r 2 p 0 (r 2 p 0 + 1)) 2 p 2 (kI (n + 1))) 4 w 5 (kI k3)) 20 0 0 (kI 0)) 20 13 w = kI k0 by simp [up3, k2], k5]
                  have := M_put (old := old) (bs := bs) (sE := sE) (r := up3 (up3 (up3 (up3 (up3 r 2 p 0 (r 2 p 0 + 1)) 2 p 2 (kI (n + 1))) 4 w 5 (kI k3)) 20 0 0 (kI 0)) 20 13 w (kI k3)) (ed := ed') (o := (kI n).toInt64) (D := D') (z := z') (p := p) (n := n) (k := 1) (v := x5) (s := kI s) (w := w) hp (by omega) hw4 (by simp [up3, c4])
                  rw [this, cI_s]
                  simp only [up3_fn (show ¬ (20 = 20 ∧ 11 = 13) by omega), up3_fn (show ¬ (20 = 20 ∧ 12 = 13) by omega), hr2 11 (by omega) (by omega), hr2 12 (by omega) (by omega), e2]
                  rfl
                · refine INV_gen hT (tx := tx) (tm := tm) ⟨?_, ?_, ?_⟩ h1 g2.2.2.2.1 (Nat.le_refl _) (Nat.le_refl _) (IV0_fr ?_ h3) h4 h5 h6 (fun n' hn' => ?_) (fun g hg => Or.inl ?_) (fun q hq => ?_)
                  · have := g2.1; simp [nZ] at this; omega
                  · have := g2.2.1; simp [nZ] at this; omega
                  · have := g2.2.2.1; simp [nZ] at this; omega
                  · (intro f m i q; simp only [dZ] at q; simp only [pu, up3]; repeat (rw [if_neg (by omega)]))
                  · by_cases en : n' = w
                    · subst en
                      exact Or.inr ⟨by simp [pu, up3]; exact a1, by simp [pu, up3]; exact a2, by simp [pu, up3]; exact a3, by simp [pu, up3, e1], by simp [pu, up3]; exact fun _ => a5, by simp [pu, up3, e1], fun _ => ⟨by simp [pu, up3]; exact q1, by simp [pu, up3]; exact q2, fun j hj => by simp [pu, up3]; exact q3 j hj⟩, by simp [pu, up3]; exact a8, by simp [pu, up3]; exact a9, by simp [pu, up3], ⟨k3, k4, by simp [pu, up3]⟩⟩
                    · refine Or.inl ?_
                      intro f m i q
                      simp only [dP] at q
                      simp only [pu, up3]
                      repeat (rw [if_neg (by omega)])
                  · intro f m i q
                    simp only [dG] at q
                    simp only [pu, up3]
                    repeat (rw [if_neg (by omega)])
                  · by_cases eq : q = p
                    · subst eq
                      refine Or.inr ⟨n + 1, hi, IL_put hT hL1 g2 ?_ ?_ ?_ ?_ ?_ ?_ ?_ ?_ ?_ ?_ ?_⟩
                      · simp [pu, up3]
                      · simp [pu, up3]
                      · simp [pu, up3]
                      · simp [pu, up3]
                      · simp [pu, up3]
                      · simp [pu, up3]
                      · intro m q1 q2 i hi
                        simp only [pu, up3]
                        repeat (rw [if_neg (by omega)])
                      · simp [eC, ec, pu, up3]
                      · obtain ⟨t, t1, t2, t3⟩ := q2
                        have htx : tx ≤ 40 := h3.1
                        refine ⟨by simp [pu, up3], ⟨t, by omega, by simp [pu, up3]; exact t3, ?_⟩, fun _ => ⟨s, hs, by simp [pu, up3]⟩⟩
                        simp [pu, up3]
                        omega
                      · exact Or.inl ⟨by simp [pu, up3], by simp [pu, up3_r]⟩
                      · intro _ i hi' b1 b2 b3
                        have b2' : r 20 3 (520 * q + i) = kI w := by rw [b2]; simp [pu, up3]
                        have b3' : r 20 4 (520 * q + i) = x2 := by rw [b3]; simp [pu, up3]
                        have := LG_nx (z := z) hL (a := kI w) (b := x2) i hi' (decide_eq_true ⟨b1, b2', b3'⟩)
                        rw [← hN] at this
                        simpa [pu, up3] using this
                    · refine Or.inl ⟨?_, fun m c hl => ?_⟩
                      · intro f m i q
                        simp only [dL] at q
                        simp only [pu, up3]
                        repeat (rw [if_neg (by omega)])
                      · rw [g2.2.2.2.2.1 q eq]
                        exact g2.2.2.2.2.2.1 _ _ _ (fun e => h2 q p hq hp eq e) (LD_new hO.1 hzb (by simp [nZ]) hl)
            · refine ⟨4, 0, r, ed, o, D, nZ z 6, up3 r 20 0 0 4, ?_, ?_, by simp [up3], by simp, INV_f ZR_6 hI⟩
              · simp [f_W_send, f_B_send, f_B_sendNew, f_B_requireSpace, req3 hw, req3 hp3, req1000 hs, cI_s, cI_x, cR_s, cR_x, cV_s, cV_x, cX_s, cX_x, bn_s, bz_0, bz_1, bz_b, bI_0, bI_1, oK_B, opn_c h4 hw4 hz, e, gR_B0, aR_Ls, hp, oK_L, LR, oI, oK_P, hw4, gI_P0, gI_P2, a1, a5, e2, LN, hN, tO_r hz]
              · simp only [f_M_send, ou3 hw, ou3 hp3, ou1000 hs, cI_s, cI_x, cR_s, cR_x, cV_s, cV_x, cX_s, cX_x, bn_s, bz_0, bz_1, bz_b, bI_0, bI_1, oK_M, MC r _ ed D _ rfl rfl, e, f_M_send_B42, pV_M0, gI_M0, show (up3 r 20 0 0 (kI 0)) 20 0 0 ≤ 0 from by simp [up3, kI_0], if_true, MR (up3 r 20 0 0 (kI 0)) _ ed D _ (fun m h1 h2 => by rw [up3_fn (by omega)]), MN (up3 r 20 0 0 (kI 0)) _ ed D _ (fun m h1 h2 => by rw [up3_fn (by omega)]), oI, show ¬ (0 : Int32) ≤ -1 by decide, if_false, hN, M_fail, up3_s]
        · refine ⟨kI (opn r w x2), 0, r, ed, o, D, nZ z 6, up3 r 20 0 0 (kI (opn r w x2)), ?_, ?_, by simp [up3], ?_, INV_f ZR_6 hI⟩
          · rcases opn_3 e with q | q <;> simp [f_W_send, f_B_send, req3 hw, req3 hp3, req1000 hs, cI_s, cI_x, cR_s, cR_x, cV_s, cV_x, cX_s, cX_x, bn_s, bz_0, bz_1, bz_b, bI_0, bI_1, oK_B, opn_c h4 hw4 hz, q] <;> rfl
          · rcases opn_3 e with q | q <;> simp [f_M_send, f_M_send_B42, ou3 hw, ou3 hp3, ou1000 hs, cI_s, cI_x, cR_s, cR_x, cV_s, cV_x, cX_s, cX_x, bn_s, bz_0, bz_1, bz_b, bI_0, bI_1, oK_M, opn_m (r' := r) h4 hw4 rfl rfl, q, pV_M0, gI_M0, up3, show ¬ kI 2 ≤ 0 by decide, show ¬ kI 3 ≤ 0 by decide]
          · rcases opn_3 e with q | q <;> (rw [q]; intro h; exact absurd h (by decide))
      · refine ⟨1, 0, r, ed, o, D, nZ z 6, up3 r 20 0 0 1, ?_, ?_, by simp [up3], by simp, INV_f ZR_6 hI⟩
        · simp [f_W_send, f_B_send, req3 hw, req3 hp3, reb1000 hz hb, cI_s, cI_x, cR_s, cR_x, cV_s, cV_x, cX_s, cX_x, bn_s, bz_0, bz_1, bz_b, bI_0, bI_1, oK_B]
        · simp [f_M_send, f_M_send_B31, f_M_send_B42, ou3 hw, ou3 hp3, oub1000 hb, M_fail, cI_s, cI_x, cR_s, cR_x, cV_s, cV_x, cX_s, cX_x, bn_s, bz_0, bz_1, bz_b, bI_0, bI_1, pV_M0, gI_M0, oK_M, up3_s, up3]
    · refine ⟨1, 0, r, ed, o, D, nZ z 6, up3 r 20 0 0 1, ?_, ?_, by simp [up3], by simp, INV_f ZR_6 hI⟩
      · simp [f_W_send, f_B_send, req3 hw, reb3 hz hb, cI_s, cI_x, cR_s, cR_x, cV_s, cV_x, cX_s, cX_x, bn_s, bz_0, bz_1, bz_b, bI_0, bI_1, oK_B]
      · simp [f_M_send, f_M_send_B31, f_M_send_B42, ou3 hw, oub3 hb, M_fail, cI_s, cI_x, cR_s, cR_x, cV_s, cV_x, cX_s, cX_x, bn_s, bz_0, bz_1, bz_b, bI_0, bI_1, pV_M0, gI_M0, oK_M, up3_s, up3]
  · refine ⟨1, 0, r, ed, o, D, nZ z 6, up3 r 20 0 0 1, ?_, ?_, by simp [up3], by simp, INV_f ZR_6 hI⟩
    · simp [f_W_send, f_B_send, reb3 hz hb, cI_s, cI_x, cR_s, cR_x, cV_s, cV_x, cX_s, cX_x, bn_s, bz_0, bz_1, bz_b, bI_0, bI_1, oK_B]
    · simp [f_M_send, f_M_send_B31, f_M_send_B42, oub3 hb, M_fail, cI_s, cI_x, cR_s, cR_x, cV_s, cV_x, cX_s, cX_x, bn_s, bz_0, bz_1, bz_b, bI_0, bI_1, pV_M0, gI_M0, oK_M, up3_s, up3]
end OPS
