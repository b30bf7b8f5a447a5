section OP1
variable {old : HH} {bs : Nat} {r : RH} {ed : Nat → Nat} {o : Int64} {D : HH} {sE : Nat × Nat} {z : Z3} {T : Nat}
theorem op_init (hT : T ≤ 512) (hI : INV bs sE.1 T r ed D z) (x1 : Int32) : OPK bs sE.1 T old r ed o D z (fun h z => f_W_init bs sE h z (aB bs) x1 (aOu bs)) (fun h z => f_M_init bs sE h z (aM bs) x1) := by
  have hz := INV_RO (by omega) hI
  rcases rg 3 (by omega) x1 with ⟨n, hn, rfl⟩ | hb
  · have hn4 : n < 4 := by omega
    obtain ⟨h1, h2, tx, tm, h3, h4, h5, h6⟩ := id hI
    obtain ⟨a1, a2, a3, a4, a5, a6, a7, a8, a9, a10, a11⟩ := h4 n hn4
    rcases a3 with e | e | e | e | e
    · have b4 := a4 e
      refine ⟨0, 0, up3 (up3 r 4 n 1 0) 4 n 2 0, ed, (0 : Int32).toInt64, D, z, up3 (up3 (up3 (up3 (up3 r 4 n 1 0) 4 n 2 0) 20 0 0 0) 20 11 n 0) 20 10 n 0, ?_, ?_, ?_, ?_, ?_⟩
      · simp [f_W_init, f_B_init, req3 hn, cI_s, cI_x, cR_s, cR_x, cV_s, cV_x, cX_s, cX_x, bn_s, bz_0, bz_1, bz_b, bI_0, bI_1, oK_B, gR_B1, aR_Ps, hn4, oK_P, P_isEnding, P_isCommitting, P_isOpen, P_isKnown, P_isIdle, P_fence, P_renew, P_open, P_untouch, P_touch, P_startEnding, a2, e, b4, aJs_Ou]
      · simp [f_M_init, f_M_init_B74, ou3 hn, cI_s, cI_x, cR_s, cR_x, cV_s, cV_x, cX_s, cX_x, bn_s, bz_0, bz_1, bz_b, bI_0, bI_1, pV_M0, oK_M, gR_M10, gR_M11, aI_MA, aIs_MA, marr, msz, hn4, up3, e]
      · simp [up3]
      · simp
      · refine INV_p hT ZR_rfl h1 h2 (Nat.le_refl _) (IV0_fr ?_ h3) h4 h5 h6 hn4 ?_ ?_
        · (intro f m i q; simp only [dZ] at q; simp only [pu, up3]; repeat (rw [if_neg (by omega)]))
        · (intro f m i q1 q2 q3; simp only [dP, dZ] at q1 q2; simp only [pu, up3]; repeat (rw [if_neg (by omega)]))
        · have b6 := a6 (Or.inl e)
          simp [IP, up3, e, a1, b6, a8, a9, a10]
          exact ⟨b6.2.2, 0, by omega, rfl⟩
    · have b5 := a5 (by rw [e]; decide)
      refine ⟨0, r 20 11 n + 1, up3 (up3 r 4 n 1 0) 4 n 2 (r 20 11 n + 1), ed, (r 20 11 n + 1).toInt64, D, z, up3 (up3 (up3 (up3 (up3 r 4 n 1 0) 4 n 2 (r 20 11 n + 1)) 20 0 0 0) 20 11 n (r 20 11 n + 1)) 20 10 n 0, ?_, ?_, ?_, ?_, ?_⟩
      · simp [f_W_init, f_B_init, req3 hn, cI_s, cI_x, cR_s, cR_x, cV_s, cV_x, cX_s, cX_x, bn_s, bz_0, bz_1, bz_b, bI_0, bI_1, oK_B, gR_B1, aR_Ps, hn4, oK_P, P_isEnding, P_isCommitting, P_isOpen, P_isKnown, P_isIdle, P_fence, P_renew, P_open, P_untouch, P_touch, P_startEnding, a2, e, b5, aJs_Ou]
      · simp [f_M_init, f_M_init_B74, ou3 hn, cI_s, cI_x, cR_s, cR_x, cV_s, cV_x, cX_s, cX_x, bn_s, bz_0, bz_1, bz_b, bI_0, bI_1, pV_M0, oK_M, gR_M10, gR_M11, aI_MA, aIs_MA, marr, msz, hn4, up3, e]
      · simp [up3]
      · simp
      · refine INV_p hT ZR_rfl h1 h2 (Nat.le_refl _) (IV0_fr ?_ h3) h4 h5 h6 hn4 ?_ ?_
        · (intro f m i q; simp only [dZ] at q; simp only [pu, up3]; repeat (rw [if_neg (by omega)]))
        · (intro f m i q1 q2 q3; simp only [dP, dZ] at q1 q2; simp only [pu, up3]; repeat (rw [if_neg (by omega)]))
        · have b6 := a6 (Or.inr e)
          simp [IP, up3, e, a1, b6, a8, a9, a10]
          exact ⟨b6.2.2, 0, by omega, rfl⟩
    · have b5 := a5 (by rw [e]; decide)
      refine ⟨2, 0, up3 (up3 r 4 n 2 (r 20 11 n + 1)) 4 n 1 3, ed, o, D, nZ z 6, up3 (up3 (up3 (up3 (up3 (up3 r 4 n 2 (r 20 11 n + 1)) 4 n 1 3) 20 0 0 0) 20 11 n (r 20 11 n + 1)) 20 10 n 3) 20 0 0 2, ?_, ?_, ?_, ?_, ?_⟩
      · simp [f_W_init, f_B_init, req3 hn, cI_s, cI_x, cR_s, cR_x, cV_s, cV_x, cX_s, cX_x, bn_s, bz_0, bz_1, bz_b, bI_0, bI_1, oK_B, gR_B1, aR_Ps, hn4, oK_P, P_isEnding, P_isCommitting, P_isOpen, P_isKnown, P_isIdle, P_fence, P_renew, P_open, P_untouch, P_touch, P_startEnding, a2, e, b5, tO_r hz]
      · simp [f_M_init, f_M_init_B74, ou3 hn, cI_s, cI_x, cR_s, cR_x, cV_s, cV_x, cX_s, cX_x, bn_s, bz_0, bz_1, bz_b, bI_0, bI_1, pV_M0, oK_M, gR_M10, gR_M11, aI_MA, aIs_MA, marr, msz, hn4, up3, e, M_fail, M_abort]
      · simp [up3]
      · simp
      · refine INV_p hT ZR_6 h1 h2 (Nat.le_refl _) (IV0_fr ?_ h3) h4 h5 h6 hn4 ?_ ?_
        · (intro f m i q; simp only [dZ] at q; simp only [pu, up3]; repeat (rw [if_neg (by omega)]))
        · (intro f m i q1 q2 q3; simp only [dP, dZ] at q1 q2; simp only [pu, up3]; repeat (rw [if_neg (by omega)]))
        · have b7 := a7 (Or.inl e)
          simp [IP, up3, a1, a8, a9, a10, a11]
          exact b7
    · refine ⟨2, 0, r, ed, o, D, nZ z 6, up3 r 20 0 0 2, ?_, ?_, by simp [up3], by simp, INV_f ZR_6 hI⟩
      · simp [f_W_init, f_B_init, req3 hn, cI_s, cI_x, cR_s, cR_x, cV_s, cV_x, cX_s, cX_x, bn_s, bz_0, bz_1, bz_b, bI_0, bI_1, oK_B, gR_B1, aR_Ps, hn4, oK_P, P_isEnding, P_isCommitting, P_isOpen, P_isKnown, P_isIdle, P_fence, P_renew, P_open, P_untouch, P_touch, P_startEnding, a2, e, tO_r hz]
      · simp [f_M_init, f_M_init_B74, ou3 hn, cI_s, cI_x, cR_s, cR_x, cV_s, cV_x, cX_s, cX_x, bn_s, bz_0, bz_1, bz_b, bI_0, bI_1, pV_M0, oK_M, gR_M10, gR_M11, aI_MA, aIs_MA, marr, msz, hn4, up3_s, up3_r, e, M_fail, M_abort]
    · refine ⟨2, 0, r, ed, o, D, nZ z 6, up3 r 20 0 0 2, ?_, ?_, by simp [up3], by simp, INV_f ZR_6 hI⟩
      · simp [f_W_init, f_B_init, req3 hn, cI_s, cI_x, cR_s, cR_x, cV_s, cV_x, cX_s, cX_x, bn_s, bz_0, bz_1, bz_b, bI_0, bI_1, oK_B, gR_B1, aR_Ps, hn4, oK_P, P_isEnding, P_isCommitting, P_isOpen, P_isKnown, P_isIdle, P_fence, P_renew, P_open, P_untouch, P_touch, P_startEnding, a2, e, tO_r hz]
      · simp [f_M_init, f_M_init_B74, ou3 hn, cI_s, cI_x, cR_s, cR_x, cV_s, cV_x, cX_s, cX_x, bn_s, bz_0, bz_1, bz_b, bI_0, bI_1, pV_M0, oK_M, gR_M10, gR_M11, aI_MA, aIs_MA, marr, msz, hn4, up3_s, up3_r, e, M_fail, M_abort]
  · refine ⟨1, 0, r, ed, o, D, nZ z 6, up3 r 20 0 0 1, ?_, ?_, by simp [up3], by simp, INV_f ZR_6 hI⟩
    · simp [f_W_init, f_B_init, reb3 hz hb, cI_s, cI_x, cR_s, cR_x, cV_s, cV_x, cX_s, cX_x, bn_s, bz_0, bz_1, bz_b, bI_0, bI_1, oK_B]
    · simp [f_M_init, oub3 hb, M_fail, cI_s, cI_x, cR_s, cR_x, cV_s, cV_x, cX_s, cX_x, bn_s, bz_0, bz_1, bz_b, bI_0, bI_1, pV_M0, oK_M, up3_s]
end OP1
