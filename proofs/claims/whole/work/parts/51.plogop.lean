section OPL
variable {old : HH} {bs : Nat} {r : RH} {ed : Nat → Nat} {o : Int64} {D : HH} {sE : Nat × Nat} {z : Z3} {T : Nat}
theorem INV_RO2 (hT : T ≤ 512) (h : INV bs sE.1 T r ed D z) : RO (nZ z 6) ∧ bs + 56 ≤ z.1 := by
  obtain ⟨⟨h1, h2, h3⟩, -⟩ := h
  refine ⟨?_, h1⟩
  simp only [RO, nZ]
  omega
theorem IL_new {x : Option HC} {zz zz' p n hi : Nat} (hs : sE.1 < bs) (hb : bs + 56 ≤ zz) (hz : zz < zz') (hL : LG bs sE.1 T r ed D zz p n hi) : LG bs sE.1 T r ed (va_up D zz x) zz' p n hi := by
  obtain ⟨a1, a2, a3, a4, a5, a6, a7, a8, a9⟩ := hL
  refine ⟨a1, a2, a3, a4, a5, a6, a7, LD_D (x := zz) (by omega) (fun b hb _ => vau_n (by omega)) (fun b fs _ hb => by omega) (fun q => ?_) a8, a9⟩
  rcases a8 with ⟨_, h⟩ | ⟨_, _, _, _, _, h, _⟩ <;> omega
theorem LD_new {x : Option HC} {zz zz' e n : Nat} {c : Nat → HC} (hs : sE.1 < bs) (hb : bs + 56 ≤ zz) (hz : zz < zz') (hL : LD bs sE.1 D zz e n c) : LD bs sE.1 (va_up D zz x) zz' e n c := by
  refine LD_D (x := zz) (by omega) (fun b hb _ => vau_n (by omega)) (fun b fs _ hb => by omega) (fun q => ?_) hL
  rcases hL with ⟨_, h⟩ | ⟨_, _, _, _, _, h, _⟩ <;> omega
theorem op_plain (hT : T ≤ 512) (hO : OLD old bs sE.1) (hI : INV bs sE.1 T r ed D z) (x1 x2 : Int32) : OPK bs sE.1 T old r ed o D z (fun h z => f_W_plain bs sE h z (aB bs) x1 x2 (aOu bs)) (fun h z => f_M_plain bs sE h z (aM bs) x1 x2) := by
  have hz := INV_RO (by omega) hI
  obtain ⟨hz6, hzb⟩ := INV_RO2 hT hI
  rcases rg 3 (by omega) x1 with ⟨p, hn, rfl⟩ | hb
  · have hp : p < 4 := by omega
    obtain ⟨h1, h2, tx, tm, h3, h4, h5, h6⟩ := id hI
    obtain ⟨n, hi, hL⟩ := h6 p hp
    obtain ⟨a1, a2, a3, a4, a5, a6, a7, -⟩ := id hL
    by_cases hf : fulq (kI n) (r 20 8 p) = true
    · refine ⟨2, 0, r, ed, o, D, nZ z 6, up3 r 20 0 0 2, ?_, ?_, by simp [up3], by simp, INV_f ZR_6 hI⟩
      · simp [f_W_plain, f_B_plain, f_B_requireSpace, req3 hn, cI_s, cI_x, cR_s, cR_x, cV_s, cV_x, cX_s, cX_x, bn_s, bz_0, bz_1, bz_b, bI_0, bI_1, oK_B, gR_B0, aR_Ls, hp, oK_L, L_isFull, a3, a7, hf, tO_r hz]
      · simp [f_M_plain, ou3 hn, cI_s, cI_x, cR_s, cR_x, cV_s, cV_x, cX_s, cX_x, bn_s, bz_0, bz_1, bz_b, bI_0, bI_1, pV_M0, oK_M, M_full hp, up3_r, a4, hf, M_fail, up3_s]
    · have hf : fulq (kI n) (r 20 8 p) = false := by simpa using hf
      have hL1 := IL_new (x := some (.inl (0, [.inl 0, .inl 0, .inl (-1), .inl (-1), .inl (-1), .inl x2]))) (zz' := (nZ z 6).1) hO.1 hzb (by simp [nZ]) hL
      have hM := IVL_M hO.1 hzb h6
      obtain ⟨ed', D', z', g1, g2⟩ := L_put (o := o) (a := z.1) (fs := [.inl 0, .inl 0, .inl (-1), .inl (-1), .inl (-1), .inl x2]) hp hz6 hO h2 (fun q hq => by have := hM q hq; simp [nZ]; omega) (by omega) a3 (by simp [nZ]; omega) hL1.2.2.2.2.2.2.2.1 hzb (by simp [nZ]) vau_e
      refine ⟨0, kI n, (up3 (up3 r 2 p 0 (r 2 p 0 + 1)) 2 p 2 (kI (n + 1))), ed', (kI n).toInt64, D', z', pu (up3 (up3 (up3 r 2 p 0 (r 2 p 0 + 1)) 2 p 2 (kI (n + 1))) 20 0 0 0) p n 0 x2 (-1) 0 (-1) 0, ?_, ?_, by simp [pu, up3], by simp, ?_⟩
      · simp [f_W_plain, f_B_plain, f_B_requireSpace, req3 hn, cI_s, cI_x, cR_s, cR_x, cV_s, cV_x, cX_s, cX_x, bn_s, bz_0, bz_1, bz_b, bI_0, bI_1, oK_B, gR_B0, aR_Ls, hp, oK_L, L_isFull, a3, a7, hf, E_ofPlain hz hzb, g1, aJs_Ou]
      · have q : (up3 (up3 (up3 r 2 p 0 (r 2 p 0 + 1)) 2 p 2 (kI (n + 1))) 20 0 0 0) 20 7 p = kI n := by simp [up3_r, a4]
        simp [f_M_plain, ou3 hn, cI_s, cI_x, cR_s, cR_x, cV_s, cV_x, cX_s, cX_x, bn_s, bz_0, bz_1, bz_b, bI_0, bI_1, pV_M0, oK_M, M_full hp, up3_r, a4, hf]
        rw [M_put0 hp (by omega) q, cI_s]
      · refine INV_l hT ⟨?_, ?_, ?_⟩ h1 g2.2.2.2.1 (IV0_fr ?_ h3) h4 h5 h6 hp ?_ ?_ ⟨n + 1, hi, IL_put hT hL1 g2 ?_ ?_ ?_ ?_ ?_ ?_ ?_ ?_ ?_ ?_ ?_⟩
        · have := g2.1; simp [nZ] at this; omega
        · have := g2.2.1; simp [nZ] at this; omega
        · have := g2.2.2.1; simp [nZ] at this; omega
        · (intro f m i q; simp only [dZ] at q; simp only [pu, up3]; repeat (rw [if_neg (by omega)]))
        · (intro f m i q1 q2 q3; simp only [dL, dZ] at q1 q2; simp only [pu, up3]; repeat (rw [if_neg (by omega)]))
        · intro q hq hne m c hl
          rw [g2.2.2.2.2.1 q hne]
          exact g2.2.2.2.2.2.1 _ _ _ (fun e => h2 q p hq hp hne e) (LD_new hO.1 hzb (by simp [nZ]) hl)
        · simp [pu, up3]
        · simp [pu, up3]
        · simp [pu, up3]
        · simp [pu, up3]
        · simp [pu, up3]
        · simp [pu, up3]
        · intro m q1 q2 i hi
          simp only [pu, up3]
          repeat (rw [if_neg (by omega)])
        · simp [eC, ec, pu, up3]
        · exact ⟨by simp [pu, up3], ⟨0, by omega, by simp [pu, up3]; rfl, by simp [pu, up3]⟩, by simp [pu, up3]⟩
        · exact Or.inl ⟨by simp [pu, up3], by simp [pu, up3_r]⟩
        · intro e
          simp [pu, up3] at e
  · refine ⟨1, 0, r, ed, o, D, nZ z 6, up3 r 20 0 0 1, ?_, ?_, by simp [up3], by simp, INV_f ZR_6 hI⟩
    · simp [f_W_plain, f_B_plain, reb3 hz hb, cI_s, cI_x, cR_s, cR_x, cV_s, cV_x, cX_s, cX_x, bn_s, bz_0, bz_1, bz_b, bI_0, bI_1, oK_B]
    · simp [f_M_plain, oub3 hb, M_fail, cI_s, cI_x, cR_s, cR_x, cV_s, cV_x, cX_s, cX_x, bn_s, bz_0, bz_1, bz_b, bI_0, bI_1, pV_M0, oK_M, up3_s]
theorem op_copy (hT : T ≤ 512) (hI : INV bs sE.1 T r ed D z) (x1 x2 : Int32) : OPK bs sE.1 T old r ed o D z (fun h z => f_W_copy bs sE h z (aB bs) x1 x2 (aOu bs)) (fun h z => f_M_copy bs sE h z (aM bs) x1 x2) := by
  have hz := INV_RO (by omega) hI
  rcases rg 3 (by omega) x1 with ⟨p, hn, rfl⟩ | hb
  · have hp : p < 4 := by omega
    obtain ⟨h1, h2, tx, tm, h3, h4, h5, h6⟩ := id hI
    obtain ⟨n, hi, hL⟩ := h6 p hp
    obtain ⟨a1, a2, a3, a4, a5, a6, a7, a8, a9, a10, a11⟩ := id hL
    by_cases c1 : x2 < 1
    · refine ⟨1, 0, r, ed, o, D, nZ z 6, up3 r 20 0 0 1, ?_, ?_, by simp [up3], by simp, INV_f ZR_6 hI⟩
      · simp [f_W_copy, f_B_copy, f_B_requireRange, show ¬ kI p < 0 by rw [kI_nl0 (by omega)]; exact id, show kI p ≤ 3 from (kI_le (b := 3) (by omega) (by omega)).mpr hn, c1, cI_s, cI_x, cR_s, cR_x, cV_s, cV_x, cX_s, cX_x, bn_s, bz_0, bz_1, bz_b, bI_0, bI_1, oK_B, tO_r hz]
      · simp [f_M_copy, ou3 hn, c1, M_fail, cI_s, cI_x, cR_s, cR_x, cV_s, cV_x, cX_s, cX_x, bn_s, bz_0, bz_1, bz_b, bI_0, bI_1, pV_M0, oK_M, up3_s]
    by_cases c2 : x2 ≤ 40
    · obtain ⟨k, hk, rfl⟩ := kI_rg (m := 40) (by omega) (fun h => c1 (Int32.lt_trans h (by decide))) c2
      have hk1 : ¬ kI k < 1 := c1
      have e : kI (hi + k) ≤ kI n ↔ hi + k ≤ n := kI_le (by omega) (by omega)
      have e' : kI n < kI (hi + k) ↔ n < hi + k := kI_lt (by omega) (by omega)
      refine ⟨0, kI (if n < hi + k then n else hi + k), up3 r 1 p 3 (kI (if n < hi + k then n else hi + k)), ed, (kI (if n < hi + k then n else hi + k)).toInt64, D, z, up3 (up3 (up3 r 1 p 3 (kI (if n < hi + k then n else hi + k))) 20 0 0 0) 20 9 p (kI (if n < hi + k then n else hi + k)), ?_, ?_, by simp [up3], by simp, ?_⟩
      · by_cases c : n < hi + k <;> simp [f_W_copy, f_B_copy, f_B_requireRange, show ¬ kI p < 0 by rw [kI_nl0 (by omega)]; exact id, show kI p ≤ 3 from (kI_le (b := 3) (by omega) (by omega)).mpr hn, c2, hk1, cI_s, cI_x, cR_s, cR_x, cV_s, cV_x, cX_s, cX_x, bn_s, bz_0, bz_1, bz_b, bI_0, bI_1, oK_B, gR_B0, aR_Ls, hp, oK_L, L_raiseHigh, a3, a5, kI_add, e', c, aJs_Ou]
      · have hk2 : ¬ kI k < 1 := c1
        by_cases c : n < hi + k
        · have : ¬ hi + k ≤ n := by omega
          simp [f_M_copy, ou3 hn, hk2, c2, cI_s, cI_x, cR_s, cR_x, cV_s, cV_x, cX_s, cX_x, bn_s, bz_0, bz_1, bz_b, bI_0, bI_1, pV_M0, oK_M, gR_M9, gR_M7, aI_MA, aIs_MA, marr, msz, hp, up3_r, a4, a6, kI_add, e, this, c, upd]
        · have : hi + k ≤ n := by omega
          simp [f_M_copy, ou3 hn, hk2, c2, cI_s, cI_x, cR_s, cR_x, cV_s, cV_x, cX_s, cX_x, bn_s, bz_0, bz_1, bz_b, bI_0, bI_1, pV_M0, oK_M, gR_M9, gR_M7, aI_MA, aIs_MA, marr, msz, hp, up3_r, a4, a6, kI_add, e, this, c, upd]
      · refine INV_l hT ZR_rfl h1 h2 (IV0_fr ?_ h3) h4 h5 h6 hp ?_ (fun q _ _ m c h => h) ⟨n, if n < hi + k then n else hi + k, by omega, by split <;> omega, ?_, ?_, ?_, ?_, ?_, ?_, ?_, ?_, ?_⟩
        · (intro f m i q; simp only [dZ] at q; simp only [pu, up3]; repeat (rw [if_neg (by omega)]))
        · (intro f m i q1 q2 q3; simp only [dL, dZ] at q1 q2; simp only [pu, up3]; repeat (rw [if_neg (by omega)]))
        · simp [up3]; exact a3
        · simp [up3]; exact a4
        · simp [up3]
        · simp [up3]
        · simp [up3]; exact a7
        · simpa [up3_r] using a8
        · simpa [up3_r] using a9
        · simpa [up3_r] using a10
        · simpa [up3_r] using a11
    · refine ⟨1, 0, r, ed, o, D, nZ z 6, up3 r 20 0 0 1, ?_, ?_, by simp [up3], by simp, INV_f ZR_6 hI⟩
      · simp [f_W_copy, f_B_copy, f_B_requireRange, show ¬ kI p < 0 by rw [kI_nl0 (by omega)]; exact id, show kI p ≤ 3 from (kI_le (b := 3) (by omega) (by omega)).mpr hn, c1, c2, cI_s, cI_x, cR_s, cR_x, cV_s, cV_x, cX_s, cX_x, bn_s, bz_0, bz_1, bz_b, bI_0, bI_1, oK_B, tO_r hz]
      · simp [f_M_copy, ou3 hn, c1, c2, M_fail, cI_s, cI_x, cR_s, cR_x, cV_s, cV_x, cX_s, cX_x, bn_s, bz_0, bz_1, bz_b, bI_0, bI_1, pV_M0, oK_M, up3_s]
  · refine ⟨1, 0, r, ed, o, D, nZ z 6, up3 r 20 0 0 1, ?_, ?_, by simp [up3], by simp, INV_f ZR_6 hI⟩
    · simp [f_W_copy, f_B_copy, reb3 hz hb, cI_s, cI_x, cR_s, cR_x, cV_s, cV_x, cX_s, cX_x, bn_s, bz_0, bz_1, bz_b, bI_0, bI_1, oK_B]
    · simp [f_M_copy, oub3 hb, M_fail, cI_s, cI_x, cR_s, cR_x, cV_s, cV_x, cX_s, cX_x, bn_s, bz_0, bz_1, bz_b, bI_0, bI_1, pV_M0, oK_M, up3_s]
theorem op_lose (hT : T ≤ 512) (hI : INV bs sE.1 T r ed D z) (x1 : Int32) : OPK bs sE.1 T old r ed o D z (fun h z => f_W_lose bs sE h z (aB bs) x1 (aOu bs)) (fun h z => f_M_lose bs sE h z (aM bs) x1) := by
  have hz := INV_RO (by omega) hI
  rcases rg 3 (by omega) x1 with ⟨p, hn, rfl⟩ | hb
  · have hp : p < 4 := by omega
    obtain ⟨h1, h2, tx, tm, h3, h4, h5, h6⟩ := id hI
    obtain ⟨n, hi, hL⟩ := h6 p hp
    obtain ⟨a1, a2, a3, a4, a5, a6, a7, a8, a9, a10, a11⟩ := id hL
    obtain ⟨r1, D1, g1, g2, g3, g4, g5, g6⟩ := L_drop (old := old) (o := o) hp (by omega) hL
    have hr : ∀ m, r1 20 m = r 20 m := fun m => funext fun i => g2 _ _ _ (by omega) (by omega)
    have hr1 : r1 1 = r 1 := funext fun m => funext fun i => g2 _ _ _ (by omega) (by omega)
    refine ⟨0, kI n - kI hi, r1, ed, (kI n - kI hi).toInt64, D1, z, up3 (up3 r1 20 0 0 0) 20 7 p (kI hi), ?_, ?_, by simp [up3], by simp, ?_⟩
    · simp [f_W_lose, f_B_lose, req3 hn, cI_s, cI_x, cR_s, cR_x, cV_s, cV_x, cX_s, cX_x, bn_s, bz_0, bz_1, bz_b, bI_0, bI_1, oK_B, gR_B0, aR_Ls, hp, oK_L, g1, aJs_Ou]
    · simp [f_M_lose, ou3 hn, cI_s, cI_x, cR_s, cR_x, cV_s, cV_x, cX_s, cX_x, bn_s, bz_0, bz_1, bz_b, bI_0, bI_1, pV_M0, oK_M, gR_M9, gR_M7, aI_MA, aIs_MA, marr, msz, hp, up3_r, hr, a4, a6]
    · refine INV_l hT ZR_rfl h1 h2 (IV0_fr ?_ h3) h4 h5 h6 hp ?_ (fun q hq hne m c h => g6 _ _ _ (fun e => h2 q p hq hp hne e) h) ⟨hi, hi, by omega, by omega, ?_, ?_, ?_, ?_, ?_, ?_, ?_, ?_, ?_⟩
      · intro f m i q
        simp only [dZ] at q
        simp only [up3]
        repeat (rw [if_neg (by omega)])
        exact g2 _ _ _ (by omega) (by omega)
      · intro f m i q1 q2 q3
        simp only [dL, dZ] at q1 q2
        simp only [up3]
        repeat (rw [if_neg (by omega)])
        exact g2 _ _ _ (by omega) (by omega)
      · simp [up3]; exact g3
      · simp [up3]
      · simp [up3, hr1]; exact a5
      · simp [up3, hr]; exact a6
      · simp [up3, hr, hr1]; exact a7
      · simpa [up3_r, hr] using g4
      · simp only [up3_r, hr]
        simp
        exact fun i hi => a9 i (by omega)
      · simpa [up3_r, hr] using g5
      · simp only [up3_r, hr]
        simp
        exact fun i j h1 h2 => a11 i j h1 (by omega)
  · refine ⟨1, 0, r, ed, o, D, nZ z 6, up3 r 20 0 0 1, ?_, ?_, by simp [up3], by simp, INV_f ZR_6 hI⟩
    · simp [f_W_lose, f_B_lose, reb3 hz hb, cI_s, cI_x, cR_s, cR_x, cV_s, cV_x, cX_s, cX_x, bn_s, bz_0, bz_1, bz_b, bI_0, bI_1, oK_B]
    · simp [f_M_lose, oub3 hb, M_fail, cI_s, cI_x, cR_s, cR_x, cV_s, cV_x, cX_s, cX_x, bn_s, bz_0, bz_1, bz_b, bI_0, bI_1, pV_M0, oK_M, up3_s]
end OPL
