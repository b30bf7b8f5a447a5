section OPR
variable {old : HH} {bs : Nat} {r : RH} {ed : Nat → Nat} {o : Int64} {D : HH} {sE : Nat × Nat} {z : Z3} {T : Nat}
theorem INV_f0 {z' : Z3} (hz : ZR z z') {x : Int32} {y : Int32} (h : INV bs sE.1 T r ed D z) : INV bs sE.1 (T + 1) (up3 (up3 r 20 0 0 y) 20 0 0 x) ed D z' := by
  rw [up3_s]
  exact INV_f hz h
theorem op_edge (hT : T ≤ 512) (hI : INV bs sE.1 T r ed D z) (x1 x2 : Int32) : OPK bs sE.1 T old r ed o D z (fun h z => f_W_edge bs sE h z (aB bs) x1 x2 (aOu bs)) (fun h z => f_M_edge bs sE h z (aM bs) x1 x2) := by
  have hz := INV_RO (by omega) hI
  rcases rg 3 (by omega) x1 with ⟨p, hn, rfl⟩ | hb
  · have hp : p < 4 := by omega
    obtain ⟨h1, h2, tx, tm, h3, h4, h5, h6⟩ := id hI
    obtain ⟨n, hi, hL⟩ := h6 p hp
    obtain ⟨a1, a2, a3, a4, a5, a6, a7, a8, a9, a10, a11⟩ := id hL
    rcases rg 5 (by omega) x2 with ⟨k, hk, rfl⟩ | hb
    · have hr0 : ∀ m, 1 ≤ m → m ≤ 9 → (up3 r 20 0 0 0) 20 m = r 20 m := fun m _ _ => up3_fn (by omega)
      have hG := MG_c hr0 (MG_of hL)
      have hg : ∀ g, g < 2 → r 10 g p = r 20 21 (4 * g + p) := fun g hg => ((h5 g hg).2 p hp).2.2.2.2.2.1
      rcases (show k = 0 ∨ k = 1 ∨ k = 2 ∨ k = 3 ∨ k = 4 ∨ k = 5 by omega) with rfl | rfl | rfl | rfl | rfl | rfl
      · refine ⟨0, r 20 8 p, r, ed, (r 20 8 p).toInt64, D, z, up3 r 20 0 0 0, ?_, ?_, by simp [up3], by simp, INV_f ZR_rfl hI⟩
        · simp [f_W_edge, f_B_edge, req3 hn, req5 hk, cI_s, cI_x, cR_s, cR_x, cV_s, cV_x, cX_s, cX_x, bn_s, bz_0, bz_1, bz_b, bI_0, bI_1, oK_B, gR_B0, aR_Ls, hp, oK_L, gI_L2, a7, aJs_Ou, show (kI 0 = 0) = True from eq_true rfl]
        · simp [f_M_edge, ou3 hn, ou5 hk, cI_s, cI_x, cR_s, cR_x, cV_s, cV_x, cX_s, cX_x, bn_s, bz_0, bz_1, bz_b, bI_0, bI_1, pV_M0, oK_M, show (kI 0 = 0) = True from eq_true rfl, gR_M8, aI_MA, marr, msz, hp, up3_r]
      · refine ⟨0, kI (fst_ (stP r p hi) hi 0), r, ed, (kI (fst_ (stP r p hi) hi 0)).toInt64, D, z, up3 r 20 0 0 0, ?_, ?_, by simp [up3], by simp, INV_f ZR_rfl hI⟩
        · simp [f_W_edge, f_B_edge, req3 hn, req5 hk, cI_s, cI_x, cR_s, cR_x, cV_s, cV_x, cX_s, cX_x, bn_s, bz_0, bz_1, bz_b, bI_0, bI_1, oK_B, gR_B0, aR_Ls, hp, oK_L, L_stableOffset hp (by omega) hL, aJs_Ou, show (kI 1 = 1) = True from eq_true rfl, show ¬ kI 1 = 0 by decide]
        · simp [f_M_edge, ou3 hn, ou5 hk, cI_s, cI_x, cR_s, cR_x, cV_s, cV_x, cX_s, cX_x, bn_s, bz_0, bz_1, bz_b, bI_0, bI_1, pV_M0, oK_M, show (kI 1 = 1) = True from eq_true rfl, show ¬ kI 1 = 0 by decide, M_stable hp (by omega) hG, stP_c hr0]
      · refine ⟨0, r 20 9 p, r, ed, (r 20 9 p).toInt64, D, z, up3 r 20 0 0 0, ?_, ?_, by simp [up3], by simp, INV_f ZR_rfl hI⟩
        · simp [f_W_edge, f_B_edge, req3 hn, req5 hk, cI_s, cI_x, cR_s, cR_x, cV_s, cV_x, cX_s, cX_x, bn_s, bz_0, bz_1, bz_b, bI_0, bI_1, oK_B, gR_B0, aR_Ls, hp, oK_L, gI_L3, a5, a6, aJs_Ou, show (kI 2 = 2) = True from eq_true rfl, show ¬ kI 2 = 0 by decide, show ¬ kI 2 = 1 by decide]
        · simp [f_M_edge, ou3 hn, ou5 hk, cI_s, cI_x, cR_s, cR_x, cV_s, cV_x, cX_s, cX_x, bn_s, bz_0, bz_1, bz_b, bI_0, bI_1, pV_M0, oK_M, show (kI 2 = 2) = True from eq_true rfl, show ¬ kI 2 = 0 by decide, show ¬ kI 2 = 1 by decide, gR_M9, aI_MA, marr, msz, hp, up3_r]
      · refine ⟨0, r 20 7 p, r, ed, (r 20 7 p).toInt64, D, z, up3 r 20 0 0 0, ?_, ?_, by simp [up3], by simp, INV_f ZR_rfl hI⟩
        · simp [f_W_edge, f_B_edge, req3 hn, req5 hk, cI_s, cI_x, cR_s, cR_x, cV_s, cV_x, cX_s, cX_x, bn_s, bz_0, bz_1, bz_b, bI_0, bI_1, oK_B, gR_B0, aR_Ls, hp, oK_L, L_length, a3, a4, aJs_Ou, show (kI 3 = 3) = True from eq_true rfl, show ¬ kI 3 = 0 by decide, show ¬ kI 3 = 1 by decide, show ¬ kI 3 = 2 by decide]
        · simp [f_M_edge, ou3 hn, ou5 hk, cI_s, cI_x, cR_s, cR_x, cV_s, cV_x, cX_s, cX_x, bn_s, bz_0, bz_1, bz_b, bI_0, bI_1, pV_M0, oK_M, show (kI 3 = 3) = True from eq_true rfl, show ¬ kI 3 = 0 by decide, show ¬ kI 3 = 1 by decide, show ¬ kI 3 = 2 by decide, gR_M7, aI_MA, marr, msz, hp, up3_r]
      · have e1 : kI 4 - 4 = kI 0 := rfl
        have := hg 0 (by omega)
        refine ⟨0, r 20 21 (4 * 0 + p), r, ed, (r 20 21 (4 * 0 + p)).toInt64, D, z, up3 r 20 0 0 0, ?_, ?_, by simp [up3], by simp, INV_f ZR_rfl hI⟩
        · simp [f_W_edge, f_B_edge, req3 hn, req5 hk, cI_s, cI_x, cR_s, cR_x, cV_s, cV_x, cX_s, cX_x, bn_s, bz_0, bz_1, bz_b, bI_0, bI_1, oK_B, gR_B0, aR_Ls, gR_B2, aR_Gs, hp, gR_G4, aI_Co, this, aJs_Ou, e1, show ¬ kI 4 = 0 by decide, show ¬ kI 4 = 1 by decide, show ¬ kI 4 = 2 by decide, show ¬ kI 4 = 3 by decide]
        · simp [f_M_edge, ou3 hn, ou5 hk, cI_s, cI_x, cR_s, cR_x, cV_s, cV_x, cX_s, cX_x, bn_s, bz_0, bz_1, bz_b, bI_0, bI_1, pV_M0, oK_M, e1, show ¬ kI 4 = 0 by decide, show ¬ kI 4 = 1 by decide, show ¬ kI 4 = 2 by decide, show ¬ kI 4 = 3 by decide, gR_M21, kI_4, kI_add, aI_MA, marr, msz, show p < 8 by omega, up3_r]
      · have e1 : kI 5 - 4 = kI 1 := rfl
        have := hg 1 (by omega)
        refine ⟨0, r 20 21 (4 * 1 + p), r, ed, (r 20 21 (4 * 1 + p)).toInt64, D, z, up3 r 20 0 0 0, ?_, ?_, by simp [up3], by simp, INV_f ZR_rfl hI⟩
        · simp [f_W_edge, f_B_edge, req3 hn, req5 hk, cI_s, cI_x, cR_s, cR_x, cV_s, cV_x, cX_s, cX_x, bn_s, bz_0, bz_1, bz_b, bI_0, bI_1, oK_B, gR_B0, aR_Ls, gR_B2, aR_Gs, hp, gR_G4, aI_Co, this, aJs_Ou, e1, show ¬ kI 5 = 0 by decide, show ¬ kI 5 = 1 by decide, show ¬ kI 5 = 2 by decide, show ¬ kI 5 = 3 by decide]
        · simp [f_M_edge, ou3 hn, ou5 hk, cI_s, cI_x, cR_s, cR_x, cV_s, cV_x, cX_s, cX_x, bn_s, bz_0, bz_1, bz_b, bI_0, bI_1, pV_M0, oK_M, e1, show ¬ kI 5 = 0 by decide, show ¬ kI 5 = 1 by decide, show ¬ kI 5 = 2 by decide, show ¬ kI 5 = 3 by decide, gR_M21, kI_4, kI_add, aI_MA, marr, msz, show 4 + p < 8 by omega, up3_r]
    · refine ⟨1, 0, r, ed, o, D, nZ z 6, up3 r 20 0 0 1, ?_, ?_, by simp [up3], by simp, INV_f ZR_6 hI⟩
      · simp [f_W_edge, f_B_edge, req3 hn, reb5 hz hb, cI_s, cI_x, cR_s, cR_x, cV_s, cV_x, cX_s, cX_x, bn_s, bz_0, bz_1, bz_b, bI_0, bI_1, oK_B]
      · simp [f_M_edge, ou3 hn, oub5 hb, M_fail, cI_s, cI_x, cR_s, cR_x, cV_s, cV_x, cX_s, cX_x, bn_s, bz_0, bz_1, bz_b, bI_0, bI_1, pV_M0, oK_M, up3_s]
  · refine ⟨1, 0, r, ed, o, D, nZ z 6, up3 r 20 0 0 1, ?_, ?_, by simp [up3], by simp, INV_f ZR_6 hI⟩
    · simp [f_W_edge, f_B_edge, reb3 hz hb, cI_s, cI_x, cR_s, cR_x, cV_s, cV_x, cX_s, cX_x, bn_s, bz_0, bz_1, bz_b, bI_0, bI_1, oK_B]
    · simp [f_M_edge, oub3 hb, M_fail, cI_s, cI_x, cR_s, cR_x, cV_s, cV_x, cX_s, cX_x, bn_s, bz_0, bz_1, bz_b, bI_0, bI_1, pV_M0, oK_M, up3_s]
theorem op_trim (hT : T ≤ 512) (hI : INV bs sE.1 T r ed D z) (x1 x2 : Int32) : OPK bs sE.1 T old r ed o D z (fun h z => f_W_trim bs sE h z (aB bs) x1 x2 (aOu bs)) (fun h z => f_M_trim bs sE h z (aM bs) x1 x2) := by
  have hz := INV_RO (by omega) hI
  rcases rg 3 (by omega) x1 with ⟨p, hn, rfl⟩ | hb
  · have hp : p < 4 := by omega
    obtain ⟨h1, h2, tx, tm, h3, h4, h5, h6⟩ := id hI
    obtain ⟨n, hi, hL⟩ := h6 p hp
    obtain ⟨a1, a2, a3, a4, a5, a6, a7, a8, a9, a10, a11⟩ := id hL
    rcases rg 600 (by omega) x2 with ⟨k, hk, rfl⟩ | hb
    · have hr0 : ∀ m, 1 ≤ m → m ≤ 9 → (up3 r 20 0 0 0) 20 m = r 20 m := fun m _ _ => up3_fn (by omega)
      have hr1 : ∀ m, 1 ≤ m → m ≤ 9 → (up3 (up3 r 1 p 2 (kI k)) 20 0 0 0) 20 m = r 20 m := fun m _ _ => by rw [up3_fn (by omega), up3_fn (by omega)]
      have hG := MG_c hr0 (MG_of hL)
      have hG1 := MG_c hr1 (MG_of hL)
      by_cases c1 : kI k < r 20 8 p
      · refine ⟨2, 0, r, ed, o, D, nZ z 6, up3 r 20 0 0 2, ?_, ?_, by simp [up3], by simp, INV_f ZR_6 hI⟩
        · simp [f_W_trim, f_B_trim, req3 hn, req600 hk, cI_s, cI_x, cR_s, cR_x, cV_s, cV_x, cX_s, cX_x, bn_s, bz_0, bz_1, bz_b, bI_0, bI_1, oK_B, gR_B0, aR_Ls, hp, oK_L, gI_L2, a7, c1, tO_r hz]
        · simp [f_M_trim, ou3 hn, ou600 hk, cI_s, cI_x, cR_s, cR_x, cV_s, cV_x, cX_s, cX_x, bn_s, bz_0, bz_1, bz_b, bI_0, bI_1, pV_M0, oK_M, gR_M8, aI_MA, marr, msz, hp, up3_r, c1, M_fail, up3_s]
      by_cases c2 : kI k ≤ kI (fst_ (stP r p hi) hi 0)
      · refine ⟨0, kI k - r 20 8 p, up3 r 1 p 2 (kI k), ed, (kI k - r 20 8 p).toInt64, D, z, up3 (up3 (up3 r 1 p 2 (kI k)) 20 0 0 0) 20 8 p (kI k), ?_, ?_, by simp [up3], by simp, ?_⟩
        · simp [f_W_trim, f_B_trim, req3 hn, req600 hk, cI_s, cI_x, cR_s, cR_x, cV_s, cV_x, cX_s, cX_x, bn_s, bz_0, bz_1, bz_b, bI_0, bI_1, oK_B, gR_B0, aR_Ls, hp, oK_L, gI_L2, a7, c1, c2, L_stableOffset hp (by omega) hL, pV_L2, aJs_Ou]
        · simp [f_M_trim, ou3 hn, ou600 hk, cI_s, cI_x, cR_s, cR_x, cV_s, cV_x, cX_s, cX_x, bn_s, bz_0, bz_1, bz_b, bI_0, bI_1, pV_M0, oK_M, gR_M8, aI_MA, aIs_MA, marr, msz, hp, hr1, c1, M_stable hp (by omega) hG1, stP_c hr1, c2]
        · refine INV_l hT ZR_rfl h1 h2 (IV0_fr ?_ h3) h4 h5 h6 hp ?_ (fun q _ _ m c h => h) ⟨n, hi, by omega, by omega, ?_, ?_, ?_, ?_, ?_, ?_, ?_, ?_, ?_⟩
          · (intro f m i q; simp only [dZ] at q; simp only [pu, up3]; repeat (rw [if_neg (by omega)]))
          · (intro f m i q1 q2 q3; simp only [dL, dZ] at q1 q2; simp only [pu, up3]; repeat (rw [if_neg (by omega)]))
          · simp [up3]; exact a3
          · simp [up3]; exact a4
          · simp [up3]; exact a5
          · simp [up3]; exact a6
          · simp [up3]
          · simpa [up3_r] using a8
          · simpa [up3_r] using a9
          · simpa [up3_r] using a10
          · simpa [up3_r] using a11
      · refine ⟨2, 0, r, ed, o, D, nZ z 6, up3 r 20 0 0 2, ?_, ?_, by simp [up3], by simp, INV_f ZR_6 hI⟩
        · simp [f_W_trim, f_B_trim, req3 hn, req600 hk, cI_s, cI_x, cR_s, cR_x, cV_s, cV_x, cX_s, cX_x, bn_s, bz_0, bz_1, bz_b, bI_0, bI_1, oK_B, gR_B0, aR_Ls, hp, oK_L, gI_L2, a7, c1, c2, L_stableOffset hp (by omega) hL, tO_r hz]
        · simp [f_M_trim, ou3 hn, ou600 hk, cI_s, cI_x, cR_s, cR_x, cV_s, cV_x, cX_s, cX_x, bn_s, bz_0, bz_1, bz_b, bI_0, bI_1, pV_M0, oK_M, gR_M8, aI_MA, aIs_MA, marr, msz, hp, hr0, c1, M_stable hp (by omega) hG, stP_c hr0, c2, M_fail, up3_s]
    · refine ⟨1, 0, r, ed, o, D, nZ z 6, up3 r 20 0 0 1, ?_, ?_, by simp [up3], by simp, INV_f ZR_6 hI⟩
      · simp [f_W_trim, f_B_trim, req3 hn, reb600 hz hb, cI_s, cI_x, cR_s, cR_x, cV_s, cV_x, cX_s, cX_x, bn_s, bz_0, bz_1, bz_b, bI_0, bI_1, oK_B]
      · simp [f_M_trim, ou3 hn, oub600 hb, M_fail, cI_s, cI_x, cR_s, cR_x, cV_s, cV_x, cX_s, cX_x, bn_s, bz_0, bz_1, bz_b, bI_0, bI_1, pV_M0, oK_M, up3_s]
  · refine ⟨1, 0, r, ed, o, D, nZ z 6, up3 r 20 0 0 1, ?_, ?_, by simp [up3], by simp, INV_f ZR_6 hI⟩
    · simp [f_W_trim, f_B_trim, reb3 hz hb, cI_s, cI_x, cR_s, cR_x, cV_s, cV_x, cX_s, cX_x, bn_s, bz_0, bz_1, bz_b, bI_0, bI_1, oK_B]
    · simp [f_M_trim, oub3 hb, M_fail, cI_s, cI_x, cR_s, cR_x, cV_s, cV_x, cX_s, cX_x, bn_s, bz_0, bz_1, bz_b, bI_0, bI_1, pV_M0, oK_M, up3_s]
theorem op_fetch (hT : T ≤ 512) (hI : INV bs sE.1 T r ed D z) (x1 x2 x3 : Int32) : OPK bs sE.1 T old r ed o D z (fun h z => f_W_fetch bs sE h z (aB bs) x1 x2 x3 (aOu bs)) (fun h z => f_M_fetch bs sE h z (aM bs) x1 x2 x3) := by
  have hz := INV_RO (by omega) hI
  rcases rg 3 (by omega) x1 with ⟨p, hn, rfl⟩ | hb
  · have hp : p < 4 := by omega
    obtain ⟨h1, h2, tx, tm, h3, h4, h5, h6⟩ := id hI
    obtain ⟨n, hi, hL⟩ := h6 p hp
    obtain ⟨a1, a2, a3, a4, a5, a6, a7, a8, a9, a10, a11⟩ := id hL
    rcases rg 600 (by omega) x2 with ⟨k, hk, rfl⟩ | hb
    · by_cases c1 : r 20 8 p ≤ kI k
      · have key : ∀ (r' : RH) (o : Int64) (z : Z3), (∀ m, 1 ≤ m → m ≤ 9 → r' 20 m = r 20 m) → (if x3 = 0 then f_M_fetch_B65 bs sE (HB old bs r' ed o D) z (aM bs) (kI p) (kI k) x3 (kI hi) else cI (f_M_stable bs sE (HB old bs r' ed o D) z (aM bs) (kI p)) fun v49 h47 z48 => f_M_fetch_B65 bs sE h47 z48 (aM bs) (kI p) (kI k) x3 v49) = ftc old bs r' ed o D z p (srch (rdP r p hi (decide (x3 ≠ 0))) ((if x3 = 0 then hi else fst_ (stP r p hi) hi 0) - k) k) := by
          intro r' o z hr
          have hG := MG_c hr (MG_of hL)
          have base : ∀ w, w ≤ n → f_M_fetch_B65 bs sE (HB old bs r' ed o D) z (aM bs) (kI p) (kI k) x3 (kI w) = ftc old bs r' ed o D z p (srch (rdP r p hi (decide (x3 ≠ 0))) (w - k) k) := by
            intro w hw
            rw [← rdP_c hr]
            by_cases h : k ≤ w
            · exact M_fetch_L hp (by omega) hG hw (w - k) FU k (by omega) (by show _ < 1000; omega)
            · have e : w - k = 0 := by omega
              obtain ⟨f, hf⟩ := FUn 0 (by omega)
              have c : kI w ≤ kI k := (kI_le (by omega) (by omega)).mpr (by omega)
              rw [e, f_M_fetch_B65, hf]
              simp only [f_M_fetch_L70, fb_M_fetch_L70, if_pos c, srch, ftc, cI_s, cI_x, cR_s, cR_x, cV_s, cV_x, cX_s, cX_x, bn_s, bz_0, bz_1, bz_b, bI_0, bI_1, oK_M, M_fail]
          by_cases hx : x3 = 0
          · rw [if_pos hx, if_pos hx]
            exact base hi a2
          · rw [if_neg hx, if_neg hx, M_stable hp (by omega) hG, cI_s, stP_c hr]
            exact base _ (Nat.le_trans fst_le (by omega))
        have hsr := fun j => srch_at (P := rdP r p hi (decide (x3 ≠ 0))) (d := (if x3 = 0 then hi else fst_ (stP r p hi) hi 0) - k) (i := k) (j := j)
        have hle : (if x3 = 0 then hi else fst_ (stP r p hi) hi 0) ≤ n := by
          split
          · exact a2
          · exact Nat.le_trans fst_le (by omega)
        have LF := L_firstReadable (old := old) (o := o) (z := z) (x2 := x3) hp (show T ≤ 513 by omega) hL hk
        cases hsc : srch (rdP r p hi (decide (x3 ≠ 0))) ((if x3 = 0 then hi else fst_ (stP r p hi) hi 0) - k) k with
        | none =>
          have key := key (up3 r 20 0 0 0) o (nZ z 6) (fun m _ _ => up3_fn (by omega))
          rw [hsc] at key LF
          refine ⟨3, 0, r, ed, o, D, nZ z 6, up3 r 20 0 0 3, ?_, ?_, by simp [up3], by simp, INV_f ZR_6 hI⟩
          · simp [f_W_fetch, f_B_fetch, req3 hn, req600 hk, cI_s, cI_x, cR_s, cR_x, cV_s, cV_x, cX_s, cX_x, bn_s, bz_0, bz_1, bz_b, bI_0, bI_1, oK_B, gR_B0, aR_Ls, hp, oK_L, gI_L2, a7, c1, LF, oI, tO_r hz]
          · simp only [f_M_fetch, ou3 hn, ou600 hk, cI_s, cI_x, cR_s, cR_x, cV_s, cV_x, cX_s, cX_x, bn_s, bz_0, bz_1, bz_b, bI_0, bI_1, pV_M0, oK_M, gR_M8, aI_MA (show marr 8 = true from rfl) (show p < msz 8 by simp [msz, hp]), gR_M9, aI_MA (show marr 9 = true from rfl) (show p < msz 9 by simp [msz, hp]), up3_fn (show ¬ (20 = 20 ∧ 8 = 0) by omega), up3_fn (show ¬ (20 = 20 ∧ 9 = 0) by omega), c1, a6, if_true]
            rw [key]
            simp only [ftc, up3_s]
        | some j =>
          have hj := hsr j hsc
          have key := key (up3 (up3 r 0 0 5 (r 20 2 (520 * p + j))) 20 0 0 0) (kI j).toInt64 z (fun m _ _ => by rw [up3_fn (by omega), up3_fn (by omega)])
          rw [hsc] at key LF
          refine ⟨0, kI j, up3 r 0 0 5 (r 20 2 (520 * p + j)), ed, (kI j).toInt64, D, z, up3 (up3 (up3 r 0 0 5 (r 20 2 (520 * p + j))) 20 0 0 0) 20 23 0 (r 20 2 (520 * p + j)), ?_, ?_, by simp [up3], by simp, ?_⟩
          · simp [f_W_fetch, f_B_fetch, req3 hn, req600 hk, cI_s, cI_x, cR_s, cR_x, cV_s, cV_x, cX_s, cX_x, bn_s, bz_0, bz_1, bz_b, bI_0, bI_1, oK_B, gR_B0, aR_Ls, hp, oK_L, gI_L2, a7, c1, LF, oI, kI_nm1 (show j < 2147483648 by omega), L_valueAt hp (by omega) hL (show j < n by omega), pV_B5, aJs_Ou]
          · simp only [f_M_fetch, ou3 hn, ou600 hk, cI_s, cI_x, cR_s, cR_x, cV_s, cV_x, cX_s, cX_x, bn_s, bz_0, bz_1, bz_b, bI_0, bI_1, pV_M0, oK_M, gR_M8, aI_MA (show marr 8 = true from rfl) (show p < msz 8 by simp [msz, hp]), gR_M9, aI_MA (show marr 9 = true from rfl) (show p < msz 9 by simp [msz, hp]), up3_fn (show ¬ (20 = 20 ∧ 8 = 0) by omega), up3_fn (show ¬ (20 = 20 ∧ 9 = 0) by omega), up3_fn (show ¬ (20 = 0 ∧ 8 = 0) by omega), up3_fn (show ¬ (20 = 0 ∧ 9 = 0) by omega), c1, a6, if_true]
            rw [key]
            simp only [ftc, up3_fn (show ¬ (20 = 20 ∧ 2 = 0) by omega), up3_fn (show ¬ (20 = 0 ∧ 2 = 0) by omega)]
          · refine INV_gen hT ZR_rfl h1 h2 (Nat.le_refl _) (Nat.le_refl _) (tx := tx) (tm := tm) ?_ h4 h5 h6 (fun n _ => Or.inl ?_) (fun g _ => Or.inl ?_) (fun q _ => Or.inl ⟨?_, fun _ _ h => h⟩)
            · obtain ⟨b1, b2, b3, b4, b5, b6, b7⟩ := h3
              exact ⟨b1, by omega, by simp [up3]; exact b3, by simp [up3]; exact b4, by simp [up3]; exact b5, by simp [up3]; exact b6, by simp [up3]⟩
            all_goals (intro f m i q; simp only [dP, dG, dL] at q; simp only [up3]; repeat (rw [if_neg (by omega)]))
      · refine ⟨2, 0, r, ed, o, D, nZ z 6, up3 r 20 0 0 2, ?_, ?_, by simp [up3], by simp, INV_f ZR_6 hI⟩
        · simp [f_W_fetch, f_B_fetch, req3 hn, req600 hk, cI_s, cI_x, cR_s, cR_x, cV_s, cV_x, cX_s, cX_x, bn_s, bz_0, bz_1, bz_b, bI_0, bI_1, oK_B, gR_B0, aR_Ls, hp, oK_L, gI_L2, a7, c1, tO_r hz]
        · simp [f_M_fetch, ou3 hn, ou600 hk, cI_s, cI_x, cR_s, cR_x, cV_s, cV_x, cX_s, cX_x, bn_s, bz_0, bz_1, bz_b, bI_0, bI_1, pV_M0, oK_M, gR_M8, aI_MA, marr, msz, hp, up3_r, c1, M_fail, up3_s]
    · refine ⟨1, 0, r, ed, o, D, nZ z 6, up3 r 20 0 0 1, ?_, ?_, by simp [up3], by simp, INV_f ZR_6 hI⟩
      · simp [f_W_fetch, f_B_fetch, req3 hn, reb600 hz hb, cI_s, cI_x, cR_s, cR_x, cV_s, cV_x, cX_s, cX_x, bn_s, bz_0, bz_1, bz_b, bI_0, bI_1, oK_B]
      · simp [f_M_fetch, ou3 hn, oub600 hb, M_fail, cI_s, cI_x, cR_s, cR_x, cV_s, cV_x, cX_s, cX_x, bn_s, bz_0, bz_1, bz_b, bI_0, bI_1, pV_M0, oK_M, up3_s]
  · refine ⟨1, 0, r, ed, o, D, nZ z 6, up3 r 20 0 0 1, ?_, ?_, by simp [up3], by simp, INV_f ZR_6 hI⟩
    · simp [f_W_fetch, f_B_fetch, reb3 hz hb, cI_s, cI_x, cR_s, cR_x, cV_s, cV_x, cX_s, cX_x, bn_s, bz_0, bz_1, bz_b, bI_0, bI_1, oK_B]
    · simp [f_M_fetch, oub3 hb, M_fail, cI_s, cI_x, cR_s, cR_x, cV_s, cV_x, cX_s, cX_x, bn_s, bz_0, bz_1, bz_b, bI_0, bI_1, pV_M0, oK_M, up3_s]
end OPR
