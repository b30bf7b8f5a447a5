section GR2
variable {old : HH} {bs : Nat} {r : RH} {ed : Nat → Nat} {o : Int64} {D : HH} {sE : Nat × Nat} {z : Z3} {T : Nat}
theorem op_leave (hT : T ≤ 512) (hI : INV bs sE.1 T r ed D z) (x1 x2 : Int32) : OPK bs sE.1 T old r ed o D z (fun h z => f_W_leave bs sE h z (aB bs) x1 x2 (aOu bs)) (fun h z => f_M_leave bs sE h z (aM bs) x1 x2) := by
  have hz := INV_RO (by omega) hI
  rcases rg 1 (by omega) x1 with ⟨g, hg1, rfl⟩ | hb
  · have hg : g < 2 := by omega
    rcases rg 3 (by omega) x2 with ⟨m, hm3, rfl⟩ | hb
    · have hm : m < 4 := by omega
      obtain ⟨h1, h2, tx, tm, h3, h4, h5, h6⟩ := id hI
      obtain ⟨q1, q2, q3, q4, q5, q6, q7⟩ := id h3
      obtain ⟨b1, b2⟩ := id (h5 g hg)
      obtain ⟨me, ho, G1, G2, G3⟩ := GF_of (h5 g hg)
      have d1 := b2 m hm
      by_cases e : r 7 g m = 1
      · have e18 : ¬ r 20 18 (4 * g + m) = 0 := by rw [← d1.1, e]; decide
        have h01 := g4_me1 (x := 0) hm (Or.inl rfl) (fun i hi => (G1 i hi).2.2.1)
        have c7 : ∀ i, i < 4 → (up3 (up3 r 7 g m 0) 9 g m 0) 7 g i = g4 (s4 me m 0) i := by
          intro i hi
          rw [g4_s4 hm hi]
          by_cases ei : i = m
          · simp [up3, ei]
          · simp [up3, ei]
            exact (G1 i hi).1
        have c9 : ∀ i, i < 4 → (up3 (up3 r 7 g m 0) 9 g m 0) 9 g i = g4 (wof (s4 me m 0) ho) i := by
          intro i hi
          rw [g4_wof hi, g4_s4 hm hi]
          by_cases ei : i = m
          · simp [ei, up3]
          · have : (up3 (up3 r 7 g m 0) 9 g m 0) 9 g i = mk_ ho i := by simp [up3, ei]; exact (G1 i hi).2.2.2.2
            rw [this]
            simp only [if_neg ei]
            by_cases e0 : g4 me i = 0
            · rw [if_pos e0, G3 i hi e0]
            · rw [if_neg e0]
        have CS := G_share (old := old) (bs := bs) (ed := ed) (o := o) (D := D) (sE := sE) (z := z) hg c7 c9
        have MS : ∀ (r' : RH) (o : Int64), (∀ i, i < 4 → r' 20 18 (4 * g + i) = g4 (s4 me m 0) i) → (∀ i, i < 4 → r' 20 20 (4 * g + i) = g4 ho i) → _ := fun r' o a b => M_share (old := old) (bs := bs) (r := r') (ed := ed) (o := o) (D := D) (sE := sE) (z := z) hg G2 a b
        generalize hC : shC (s4 me m 0) (wof (s4 me m 0) ho) = C at CS
        generalize hA : (up3 (up3 r 7 g m 0) 9 g m 0) = rA at CS c7 c9
        have hAo : ∀ f m' i, ¬ (f = 7 ∧ m' = g) → ¬ (f = 9 ∧ m' = g) → rA f m' i = r f m' i := fun f m' i n1 n2 => by
          rw [← hA, up3_o (by omega), up3_o (by omega)]
        have hA6 : rA 6 g 0 = r 20 17 g := by rw [hAo 6 g 0 (by omega) (by omega)]; exact b1
        generalize hB : ur (up3 rA 6 g 0 (rA 6 g 0 + 1)) 9 g C = rB at CS
        have hBo : ∀ f m' i, ¬ (6 ≤ f ∧ f ≤ 9 ∧ m' = g) → rB f m' i = r f m' i := fun f m' i n1 => by
          rw [← hB, ur_o (by omega), up3_o (by omega), hAo f m' i (by omega) (by omega)]
        generalize hD : up3 (up3 rB 20 0 0 0) 20 18 (4 * g + m) 0 = rD
        have hDo : ∀ f m' i, ¬ (f = 20 ∧ (m' = 0 ∨ m' = 18)) → rD f m' i = rB f m' i := fun f m' i n1 => by
          rw [← hD, up3_o (by omega), up3_o (by omega)]
        have hD18 : ∀ i, i < 4 → rD 20 18 (4 * g + i) = g4 (s4 me m 0) i := by
          intro i hi
          rw [← hD, g4_s4 hm hi]
          by_cases ei : i = m
          · simp [up3, ei]
          · rw [up3_o (by omega), up3_o (by omega), hBo 20 18 _ (by omega), if_neg ei]
            exact (G1 i hi).2.1
        have hD20 : ∀ i, i < 4 → rD 20 20 (4 * g + i) = g4 ho i := by
          intro i hi
          rw [hDo 20 20 _ (by omega), hBo 20 20 _ (by omega)]
          exact (G1 i hi).2.2.2.1
        have hD17 : rD 20 17 g = r 20 17 g := by rw [hDo 20 17 g (by omega), hBo 20 17 g (by omega)]
        have MS := MS rD (r 20 17 g + 1).toInt64 hD18 hD20
        rw [hD17] at MS
        have hB6 : rB 6 g 0 = r 20 17 g + 1 := by rw [← hB, ur_o (by omega)]; simp [up3]; exact hA6
        refine ⟨0, r 20 17 g + 1, rB, ed, (r 20 17 g + 1).toInt64, D, z, uw (up3 rD 20 17 g (r 20 17 g + 1)) 20 g (shM (s4 me m 0) ho), ?_, ?_, ?_, by simp, ?_⟩
        · simp only [f_W_leave, f_B_leave, f_B_groupWith, f_G_isMember, f_G_removeMember, req1 hg1, req3 hm3, cI_s, cI_x, cR_s, cR_x, cV_s, cV_x, cX_s, cX_x, bn_s, bz_0, bz_1, bz_b, bI_0, bI_1, oK_B, gR_B2, aR_Gs hg, oK_G hg, gR_G1 hg, gR_G3 hg, aI_Me hg hm, e, show ¬ (1 : Int32) = 0 by decide, if_false, nar0, aIs_Me hg hm, aIs_Ow hg hm, hA, CS, gI_G0 hg, hB6, aJs_Ou]
        · have m1 : ¬ (up3 rB 20 0 0 0) 20 18 (4 * g + m) = 0 := by rw [up3_o (by omega), hBo 20 18 _ (by omega)]; exact e18
          have m3 : (uw (up3 rD 20 17 g (r 20 17 g + 1)) 20 g (shM (s4 me m 0) ho)) 20 17 g = r 20 17 g + 1 := by rw [uw_o (by omega)]; simp [up3]
          simp only [f_M_leave, ou1 hg1, ou3 hm3, cI_s, cI_x, cR_s, cR_x, cV_s, cV_x, cX_s, cX_x, bn_s, bz_0, bz_1, bz_b, bI_0, bI_1, pV_M0, oK_M, gR_M18, gR_M17, kI_4, kI_add, aI_MA18 (show 4 * g + m < 8 by omega), aIs_MA18 (show 4 * g + m < 8 by omega), if_true, if_neg m1, nar0, hD, MS, aI_MA (show marr 17 = true from rfl) (show g < msz 17 by simp [msz, hg]), m3]
        · rw [uw_o (by omega), up3_o (by omega), ← hD]
          simp [up3]
        · have fr : ∀ f m' i, ¬ dG g f m' i → ¬ (f = 20 ∧ m' = 0) → (uw (up3 rD 20 17 g (r 20 17 g + 1)) 20 g (shM (s4 me m 0) ho)) f m' i = r f m' i := by
            intro f m' i n1 n2
            simp only [dG] at n1
            unfold uw
            rw [if_neg (by omega), up3_o (by omega), ← hD, up3_o (by omega), up3_o (by omega), hBo f m' i (by omega)]
          refine INV_g hT ZR_rfl h1 h2 (IV0_fr (fun f m' i q => fr f m' i (by simp only [dZ] at q; simp only [dG]; omega) (by simp only [dZ] at q; omega)) h3) h4 h5 h6 hg (fun f m' i n1 _ n3 => fr f m' i n1 n3) ?_
          refine IG_sh (me := s4 me m 0) (ho := ho) G2 h01 ?_ (fun i hi => ⟨?_, ?_⟩) (fun i hi => ⟨?_, ?_⟩) (fun i hi => ?_) (fun i hi => ?_) (fun i hi => ?_)
          · rw [uw_o (by omega), uw_o (by omega), up3_o (by omega), hDo 6 g 0 (by omega), hB6]
            simp [up3]
          · rw [uw_o (by omega), up3_o (by omega), hDo 7 g i (by omega), ← hB, ur_o (by omega), up3_o (by omega)]
            exact c7 i hi
          · rw [uw_o (by omega), up3_o (by omega)]
            exact hD18 i hi
          · rw [uw_o (by omega), uw_o (by omega), up3_o (by omega), up3_o (by omega), hDo 8 g i (by omega), hDo 20 19 _ (by omega), hBo 20 19 _ (by omega), ← hB, ur_o (by omega), up3_o (by omega), hAo 8 g i (by omega) (by omega)]
            exact (b2 i hi).2.2.1
          · rw [uw_o (by omega), up3_o (by omega), hDo 8 g i (by omega), ← hB, ur_o (by omega), up3_o (by omega), hAo 8 g i (by omega) (by omega)]
            exact (b2 i hi).2.2.2.1
          · rw [uw_o (by omega), up3_o (by omega), hDo 9 g i (by omega), ← hB, ur_at hi, hC]
          · rw [uw_o (by omega), uw_o (by omega), up3_o (by omega), up3_o (by omega), hDo 10 g i (by omega), hDo 20 21 _ (by omega), hBo 10 g i (by omega), hBo 20 21 _ (by omega)]
            exact (b2 i hi).2.2.2.2.2.1
          · exact uw_at hi
      · have e0 : r 7 g m = 0 := d1.2.1.resolve_right e
        have e18 : r 20 18 (4 * g + m) = 0 := by rw [← d1.1]; exact e0
        refine ⟨2, 0, r, ed, o, D, nZ z 6, up3 r 20 0 0 2, ?_, ?_, by simp [up3], by simp, INV_f ZR_6 hI⟩
        · simp [f_W_leave, f_B_leave, f_B_groupWith, f_G_isMember, req1 hg1, req3 hm3, cI_s, cI_x, cR_s, cR_x, cV_s, cV_x, cX_s, cX_x, bn_s, bz_0, bz_1, bz_b, bI_0, bI_1, oK_B, gR_B2, aR_Gs, hg, oK_G, gR_G1, aI_Me, hm, e0, tO_r hz]
        · simp [f_M_leave, ou1 hg1, ou3 hm3, cI_s, cI_x, cR_s, cR_x, cV_s, cV_x, cX_s, cX_x, bn_s, bz_0, bz_1, bz_b, bI_0, bI_1, pV_M0, oK_M, gR_M18, kI_4, kI_add, aI_MA18 (show 4 * g + m < 8 by omega), up3_r, e18, M_fail, up3_s]
    · refine ⟨1, 0, r, ed, o, D, nZ z 6, up3 r 20 0 0 1, ?_, ?_, by simp [up3], by simp, INV_f ZR_6 hI⟩
      · simp [f_W_leave, f_B_leave, req1 hg1, reb3 hz hb, cI_s, cI_x, cR_s, cR_x, cV_s, cV_x, cX_s, cX_x, bn_s, bz_0, bz_1, bz_b, bI_0, bI_1, oK_B]
      · simp [f_M_leave, ou1 hg1, oub3 hb, M_fail, cI_s, cI_x, cR_s, cR_x, cV_s, cV_x, cX_s, cX_x, bn_s, bz_0, bz_1, bz_b, bI_0, bI_1, pV_M0, oK_M, up3_s]
  · refine ⟨1, 0, r, ed, o, D, nZ z 6, up3 r 20 0 0 1, ?_, ?_, by simp [up3], by simp, INV_f ZR_6 hI⟩
    · simp [f_W_leave, f_B_leave, reb1 hz hb, cI_s, cI_x, cR_s, cR_x, cV_s, cV_x, cX_s, cX_x, bn_s, bz_0, bz_1, bz_b, bI_0, bI_1, oK_B]
    · simp [f_M_leave, oub1 hb, M_fail, cI_s, cI_x, cR_s, cR_x, cV_s, cV_x, cX_s, cX_x, bn_s, bz_0, bz_1, bz_b, bI_0, bI_1, pV_M0, oK_M, up3_s]
theorem bit_msk {f : Rw} {b m p : Nat} (hp : p < 4) : (((msk f b m) >>> (kI p &&& 31)) &&& 1 = 0) = ¬ f (b + p) = kI m := by
  unfold msk
  rcases c4 hp with rfl | rfl | rfl | rfl <;> by_cases h0 : f (b + 0) = kI m <;> by_cases h1 : f (b + 1) = kI m <;> by_cases h2 : f (b + 2) = kI m <;> by_cases h3 : f (b + 3) = kI m <;> simp only [h0, h1, h2, h3, if_true, if_false, not_true_eq_false, not_false_eq_true] <;> decide
theorem beat_L {g m : Nat} (hg : g < 2) : f_M_beat_L84 bs sE FU (HB old bs r ed o D) z (aM bs) (kI g) (kI m) 0 (kI 0) = some (.inl (some (.int (msk (r 20 20) (4 * g) m))), HB old bs r ed o D, z) := by
  obtain ⟨k, hk⟩ := FUn 4 (by omega)
  have a : ∀ i, i < 4 → aI (HB old bs r ed o D) (aMA bs 20) 0 (kI (4 * g + i)) = some (r 20 20 (4 * g + i)) := fun i hi => aI_MA (show marr 20 = true from rfl) (show 4 * g + i < msz 20 by simp [msz]; omega)
  rw [hk]
  simp only [f_M_beat_L84, fb_M_beat_L84, gR_M20, kI_4, kI_add, kI_add1, bn_s, if_neg (k4n (show 0 < 4 by omega)), if_neg (k4n (show 0 + 1 < 4 by omega)), if_neg (k4n (show 0 + 1 + 1 < 4 by omega)), if_neg (k4n (show 0 + 1 + 1 + 1 < 4 by omega)), if_pos (k4l (show 4 ≤ 0 + 1 + 1 + 1 + 1 by omega) (by omega)), a 0 (by omega), a (0 + 1) (by omega), a (0 + 1 + 1) (by omega), a (0 + 1 + 1 + 1) (by omega), msk]
  by_cases h0 : r 20 20 (4 * g + 0) = kI m <;> by_cases h1 : r 20 20 (4 * g + 1) = kI m <;> by_cases h2 : r 20 20 (4 * g + 2) = kI m <;> by_cases h3 : r 20 20 (4 * g + 3) = kI m <;> simp only [h0, h1, h2, h3, if_true, if_false, show 0 + 1 = 1 from rfl, show 1 + 1 = 2 from rfl, show 2 + 1 = 3 from rfl] <;> rfl
theorem op_beat (hT : T ≤ 512) (hI : INV bs sE.1 T r ed D z) (x1 x2 x3 : Int32) : OPK bs sE.1 T old r ed o D z (fun h z => f_W_beat bs sE h z (aB bs) x1 x2 x3 (aOu bs)) (fun h z => f_M_beat bs sE h z (aM bs) x1 x2 x3) := by
  have hz := INV_RO (by omega) hI
  rcases rg 1 (by omega) x1 with ⟨g, hg1, rfl⟩ | hb
  · have hg : g < 2 := by omega
    rcases rg 3 (by omega) x2 with ⟨m, hm3, rfl⟩ | hb
    · have hm : m < 4 := by omega
      obtain ⟨h1, h2, tx, tm, h3, h4, h5, h6⟩ := id hI
      obtain ⟨q1, q2, q3, q4, q5, q6, q7⟩ := id h3
      obtain ⟨b1, b2⟩ := id (h5 g hg)
      obtain ⟨d1, d2, d3, d4, d5, d6, d7⟩ := b2 m hm
      by_cases e : r 7 g m = 1
      · have e18 : ¬ r 20 18 (4 * g + m) = 0 := by rw [← d1, e]; decide
        by_cases eg : r 20 17 g = x3
        · subst eg
          have MB := fun (r' : RH) (o : Int64) => beat_L (old := old) (bs := bs) (r := r') (ed := ed) (o := o) (D := D) (sE := sE) (z := z) (m := m) hg
          refine ⟨0, msk (r 20 20) (4 * g) m, up3 r 8 g m (kI tm), ed, (msk (r 20 20) (4 * g) m).toInt64, D, z, up3 (up3 (up3 r 8 g m (kI tm)) 20 0 0 0) 20 19 (4 * g + m) (kI tm), ?_, ?_, by simp [up3], by simp, ?_⟩
          · have e9 : (up3 r 8 g m (kI tm)) 9 g m = msk (r 20 20) (4 * g) m := by rw [up3_o (by omega)]; exact d5
            simp only [f_W_beat, f_B_beat, f_B_groupAt, f_B_groupWith, f_G_isMember, f_G_hear, req1 hg1, req3 hm3, cI_s, cI_x, cR_s, cR_x, cV_s, cV_x, cX_s, cX_x, bn_s, bz_0, bz_1, bz_b, bI_0, bI_1, oK_B, gR_B2, aR_Gs hg, oK_G hg, gR_G1 hg, gR_G2 hg, gR_G3 hg, aI_Me hg hm, e, show ¬ (1 : Int32) = 0 by decide, if_false, gI_G0 hg, b1, if_true, gI_B4, q5, aIs_He hg hm, aI_Ow hg hm, e9, aJs_Ou]
          · have m1 : ¬ (up3 (up3 r 8 g m (kI tm)) 20 0 0 0) 20 18 (4 * g + m) = 0 := by rw [up3_o (by omega), up3_o (by omega)]; exact e18
            have m2 : (up3 (up3 r 8 g m (kI tm)) 20 0 0 0) 20 17 g = r 20 17 g := by rw [up3_o (by omega), up3_o (by omega)]
            have m3 : (up3 (up3 r 8 g m (kI tm)) 20 0 0 0) 20 22 0 = kI tm := by rw [up3_o (by omega), up3_o (by omega)]; exact q6
            have m4 : msk ((up3 (up3 (up3 r 8 g m (kI tm)) 20 0 0 0) 20 19 (4 * g + m) (kI tm)) 20 20) (4 * g) m = msk (r 20 20) (4 * g) m := by rw [up3_fn (by omega), up3_fn (by omega), up3_fn (by omega)]
            simp only [f_M_beat, ou1 hg1, ou3 hm3, cI_s, cI_x, cR_s, cR_x, cV_s, cV_x, cX_s, cX_x, bn_s, bz_0, bz_1, bz_b, bI_0, bI_1, pV_M0, oK_M, gR_M18, gR_M17, gR_M19, gI_M22, kI_4, kI_add, aI_MA18 (show 4 * g + m < 8 by omega), if_true, if_neg m1, aI_MA (show marr 17 = true from rfl) (show g < msz 17 by simp [msz, hg]), m2, m3, aIs_MA (show marr 19 = true from rfl) (show 4 * g + m < msz 19 by simp [msz]; omega)]
            rw [← m4]
            exact MB _ _
          · refine INV_g hT ZR_rfl h1 h2 (IV0_fr ?_ h3) h4 h5 h6 hg ?_ ?_
            · (intro f m i q; simp only [dZ] at q; simp only [pu, up3]; repeat (rw [if_neg (by omega)]))
            · (intro f m i q1 q2 q3; simp only [dG, dZ] at q1 q2; simp only [pu, up3]; repeat (rw [if_neg (by omega)]))
            · refine ⟨by simp [up3]; exact b1, fun i hi => ?_⟩
              obtain ⟨u1, u2, u3, u4, u5, u6, u7⟩ := b2 i hi
              have v20 : ∀ k, k ≠ 0 → k ≠ 19 → (up3 (up3 (up3 r 8 g m (kI tm)) 20 0 0 0) 20 19 (4 * g + m) (kI tm)) 20 k = r 20 k := fun k k1 k2 => by rw [up3_fn (by omega), up3_fn (by omega), up3_fn (by omega)]
              have vf : ∀ f, f ≠ 8 → f ≠ 20 → (up3 (up3 (up3 r 8 g m (kI tm)) 20 0 0 0) 20 19 (4 * g + m) (kI tm)) f g = r f g := fun f k1 k2 => by rw [up3_fn (by omega), up3_fn (by omega), up3_fn (by omega)]
              rw [v20 18 (by omega) (by omega), v20 20 (by omega) (by omega), v20 21 (by omega) (by omega), vf 7 (by omega) (by omega), vf 9 (by omega) (by omega), vf 10 (by omega) (by omega)]
              refine ⟨u1, u2, ?_, ?_, u5, u6, u7⟩
              · by_cases ei : i = m
                · simp [up3, ei]
                · rw [up3_o (by omega), up3_o (by omega), up3_o (by omega), up3_o (by omega), up3_o (by omega), up3_o (by omega)]
                  exact u3
              · by_cases ei : i = m
                · exact ⟨tm, by omega, by simp [up3, ei]⟩
                · rw [up3_o (by omega), up3_o (by omega), up3_o (by omega)]
                  exact u4
        · refine ⟨3, 0, r, ed, o, D, nZ z 6, up3 r 20 0 0 3, ?_, ?_, by simp [up3], by simp, INV_f ZR_6 hI⟩
          · simp [f_W_beat, f_B_beat, f_B_groupAt, f_B_groupWith, f_G_isMember, req1 hg1, req3 hm3, cI_s, cI_x, cR_s, cR_x, cV_s, cV_x, cX_s, cX_x, bn_s, bz_0, bz_1, bz_b, bI_0, bI_1, oK_B, gR_B2, aR_Gs, hg, oK_G, gR_G1, aI_Me, hm, e, gI_G0, b1, eg, tO_r hz]
          · simp [f_M_beat, ou1 hg1, ou3 hm3, cI_s, cI_x, cR_s, cR_x, cV_s, cV_x, cX_s, cX_x, bn_s, bz_0, bz_1, bz_b, bI_0, bI_1, pV_M0, oK_M, gR_M18, gR_M17, kI_4, kI_add, aI_MA18 (show 4 * g + m < 8 by omega), aI_MA, marr, msz, hg, up3_r, e18, show ¬ x3 = r 20 17 g from fun h => eg h.symm, M_fail, up3_s]
      · have e0 : r 7 g m = 0 := d2.resolve_right e
        have e18 : r 20 18 (4 * g + m) = 0 := by rw [← d1]; exact e0
        refine ⟨2, 0, r, ed, o, D, nZ z 6, up3 r 20 0 0 2, ?_, ?_, by simp [up3], by simp, INV_f ZR_6 hI⟩
        · simp [f_W_beat, f_B_beat, f_B_groupAt, f_B_groupWith, f_G_isMember, req1 hg1, req3 hm3, cI_s, cI_x, cR_s, cR_x, cV_s, cV_x, cX_s, cX_x, bn_s, bz_0, bz_1, bz_b, bI_0, bI_1, oK_B, gR_B2, aR_Gs, hg, oK_G, gR_G1, aI_Me, hm, e0, tO_r hz]
        · simp [f_M_beat, ou1 hg1, ou3 hm3, cI_s, cI_x, cR_s, cR_x, cV_s, cV_x, cX_s, cX_x, bn_s, bz_0, bz_1, bz_b, bI_0, bI_1, pV_M0, oK_M, gR_M18, kI_4, kI_add, aI_MA18 (show 4 * g + m < 8 by omega), up3_r, e18, M_fail, up3_s]
    · refine ⟨1, 0, r, ed, o, D, nZ z 6, up3 r 20 0 0 1, ?_, ?_, by simp [up3], by simp, INV_f ZR_6 hI⟩
      · simp [f_W_beat, f_B_beat, req1 hg1, reb3 hz hb, cI_s, cI_x, cR_s, cR_x, cV_s, cV_x, cX_s, cX_x, bn_s, bz_0, bz_1, bz_b, bI_0, bI_1, oK_B]
      · simp [f_M_beat, ou1 hg1, oub3 hb, M_fail, cI_s, cI_x, cR_s, cR_x, cV_s, cV_x, cX_s, cX_x, bn_s, bz_0, bz_1, bz_b, bI_0, bI_1, pV_M0, oK_M, up3_s]
  · refine ⟨1, 0, r, ed, o, D, nZ z 6, up3 r 20 0 0 1, ?_, ?_, by simp [up3], by simp, INV_f ZR_6 hI⟩
    · simp [f_W_beat, f_B_beat, reb1 hz hb, cI_s, cI_x, cR_s, cR_x, cV_s, cV_x, cX_s, cX_x, bn_s, bz_0, bz_1, bz_b, bI_0, bI_1, oK_B]
    · simp [f_M_beat, oub1 hb, M_fail, cI_s, cI_x, cR_s, cR_x, cV_s, cV_x, cX_s, cX_x, bn_s, bz_0, bz_1, bz_b, bI_0, bI_1, pV_M0, oK_M, up3_s]
theorem op_mark (hT : T ≤ 512) (hI : INV bs sE.1 T r ed D z) (x1 x2 x3 x4 x5 : Int32) : OPK bs sE.1 T old r ed o D z (fun h z => f_W_mark bs sE h z (aB bs) x1 x2 x3 x4 x5 (aOu bs)) (fun h z => f_M_mark bs sE h z (aM bs) x1 x2 x3 x4 x5) := by
  have hz := INV_RO (by omega) hI
  rcases rg 1 (by omega) x1 with ⟨g, hg1, rfl⟩ | hb
  · have hg : g < 2 := by omega
    rcases rg 3 (by omega) x2 with ⟨m, hm3, rfl⟩ | hb
    · have hm : m < 4 := by omega
      rcases rg 3 (by omega) x4 with ⟨p, hp3, rfl⟩ | hb
      · have hp : p < 4 := by omega
        rcases rg 600 (by omega) x5 with ⟨k, hk, rfl⟩ | hb
        · obtain ⟨h1, h2, tx, tm, h3, h4, h5, h6⟩ := id hI
          obtain ⟨b1, b2⟩ := id (h5 g hg)
          obtain ⟨d1, d2, d3, d4, d5, d6, d7⟩ := b2 m hm
          have dp := (b2 p hp).2.2.2.2.2.1
          by_cases e : r 7 g m = 1
          · have e18 : ¬ r 20 18 (4 * g + m) = 0 := by rw [← d1, e]; decide
            by_cases eg : r 20 17 g = x3
            · subst eg
              have hB : ∀ (h : HH) (z : Z3), f_B_has bs sE h z (msk (r 20 20) (4 * g) m) (kI p) = some (.inl (some (.int (bI (decide (r 20 20 (4 * g + p) = kI m))))), h, z) := fun h z => by
                rw [B_has]
                have := bit_msk (f := r 20 20) (b := 4 * g) (m := m) hp
                simp only [ne_eq, this, Decidable.not_not]
              by_cases eh : r 20 20 (4 * g + p) = kI m
              · refine ⟨0, r 20 21 (4 * g + p), up3 r 10 g p (kI k), ed, (r 20 21 (4 * g + p)).toInt64, D, z, up3 (up3 (up3 r 10 g p (kI k)) 20 0 0 0) 20 21 (4 * g + p) (kI k), ?_, ?_, by simp [up3], by simp, ?_⟩
                · simp only [f_W_mark, f_B_mark, f_B_groupAt, f_B_groupWith, f_G_isMember, req1 hg1, req3 hm3, req3 hp3, req600 hk, cI_s, cI_x, cR_s, cR_x, cV_s, cV_x, cX_s, cX_x, bn_s, bz_0, bz_1, bz_b, bI_0, bI_1, oK_B, gR_B2, aR_Gs hg, oK_G hg, gR_G1 hg, gR_G3 hg, gR_G4 hg, aI_Me hg hm, e, show ¬ (1 : Int32) = 0 by decide, if_false, gI_G0 hg, b1, if_true, aI_Ow hg hm, d5, hB, eh, decide_true, Bool.true_eq_false, aI_Co hg hp, dp, aIs_Co hg hp, aJs_Ou]
                · have m1 : ¬ (up3 (up3 r 10 g p (kI k)) 20 0 0 0) 20 18 (4 * g + m) = 0 := by rw [up3_o (by omega), up3_o (by omega)]; exact e18
                  have m2 : (up3 (up3 r 10 g p (kI k)) 20 0 0 0) 20 17 g = r 20 17 g := by rw [up3_o (by omega), up3_o (by omega)]
                  have m3 : (up3 (up3 r 10 g p (kI k)) 20 0 0 0) 20 20 (4 * g + p) = kI m := by rw [up3_o (by omega), up3_o (by omega)]; exact eh
                  have m4 : (up3 (up3 r 10 g p (kI k)) 20 0 0 0) 20 21 (4 * g + p) = r 20 21 (4 * g + p) := by rw [up3_o (by omega), up3_o (by omega)]
                  simp only [f_M_mark, ou1 hg1, ou3 hm3, ou3 hp3, ou600 hk, cI_s, cI_x, cR_s, cR_x, cV_s, cV_x, cX_s, cX_x, bn_s, bz_0, bz_1, bz_b, bI_0, bI_1, pV_M0, oK_M, gR_M18, gR_M17, gR_M20, gR_M21, kI_4, kI_add, aI_MA18 (show 4 * g + m < 8 by omega), if_true, if_neg m1, aI_MA (show marr 17 = true from rfl) (show g < msz 17 by simp [msz, hg]), m2, aI_MA (show marr 20 = true from rfl) (show 4 * g + p < msz 20 by simp [msz]; omega), m3, aI_MA (show marr 21 = true from rfl) (show 4 * g + p < msz 21 by simp [msz]; omega), m4, aIs_MA (show marr 21 = true from rfl) (show 4 * g + p < msz 21 by simp [msz]; omega)]
                · refine INV_g hT ZR_rfl h1 h2 (IV0_fr ?_ h3) h4 h5 h6 hg ?_ ?_
                  · (intro f m i q; simp only [dZ] at q; simp only [pu, up3]; repeat (rw [if_neg (by omega)]))
                  · (intro f m i q1 q2 q3; simp only [dG, dZ] at q1 q2; simp only [pu, up3]; repeat (rw [if_neg (by omega)]))
                  · refine ⟨by simp [up3]; exact b1, fun i hi => ?_⟩
                    obtain ⟨u1, u2, u3, u4, u5, u6, u7⟩ := b2 i hi
                    have v20 : ∀ j, j ≠ 0 → j ≠ 21 → (up3 (up3 (up3 r 10 g p (kI k)) 20 0 0 0) 20 21 (4 * g + p) (kI k)) 20 j = r 20 j := fun j k1 k2 => by rw [up3_fn (by omega), up3_fn (by omega), up3_fn (by omega)]
                    have vf : ∀ f, f ≠ 10 → f ≠ 20 → (up3 (up3 (up3 r 10 g p (kI k)) 20 0 0 0) 20 21 (4 * g + p) (kI k)) f g = r f g := fun f k1 k2 => by rw [up3_fn (by omega), up3_fn (by omega), up3_fn (by omega)]
                    rw [v20 18 (by omega) (by omega), v20 19 (by omega) (by omega), v20 20 (by omega) (by omega), vf 7 (by omega) (by omega), vf 8 (by omega) (by omega), vf 9 (by omega) (by omega)]
                    refine ⟨u1, u2, u3, u4, u5, ?_, u7⟩
                    by_cases ei : i = p
                    · simp [up3, ei]
                    · rw [up3_o (by omega), up3_o (by omega), up3_o (by omega), up3_o (by omega), up3_o (by omega), up3_o (by omega)]
                      exact u6
              · refine ⟨4, 0, r, ed, o, D, nZ z 6, up3 r 20 0 0 4, ?_, ?_, by simp [up3], by simp, INV_f ZR_6 hI⟩
                · simp [f_W_mark, f_B_mark, f_B_groupAt, f_B_groupWith, f_G_isMember, req1 hg1, req3 hm3, req3 hp3, req600 hk, cI_s, cI_x, cR_s, cR_x, cV_s, cV_x, cX_s, cX_x, bn_s, bz_0, bz_1, bz_b, bI_0, bI_1, oK_B, gR_B2, aR_Gs, hg, oK_G, gR_G1, gR_G3, aI_Me, hm, e, gI_G0, b1, aI_Ow, d5, hB, eh, tO_r hz]
                · simp [f_M_mark, ou1 hg1, ou3 hm3, ou3 hp3, ou600 hk, cI_s, cI_x, cR_s, cR_x, cV_s, cV_x, cX_s, cX_x, bn_s, bz_0, bz_1, bz_b, bI_0, bI_1, pV_M0, oK_M, gR_M18, gR_M17, gR_M20, kI_4, kI_add, aI_MA18 (show 4 * g + m < 8 by omega), aI_MA, marr, msz, hg, show 4 * g + p < 8 by omega, up3_r, e18, eh, M_fail, up3_s]
            · refine ⟨3, 0, r, ed, o, D, nZ z 6, up3 r 20 0 0 3, ?_, ?_, by simp [up3], by simp, INV_f ZR_6 hI⟩
              · simp [f_W_mark, f_B_mark, f_B_groupAt, f_B_groupWith, f_G_isMember, req1 hg1, req3 hm3, req3 hp3, req600 hk, cI_s, cI_x, cR_s, cR_x, cV_s, cV_x, cX_s, cX_x, bn_s, bz_0, bz_1, bz_b, bI_0, bI_1, oK_B, gR_B2, aR_Gs, hg, oK_G, gR_G1, aI_Me, hm, e, gI_G0, b1, eg, tO_r hz]
              · simp [f_M_mark, ou1 hg1, ou3 hm3, ou3 hp3, ou600 hk, cI_s, cI_x, cR_s, cR_x, cV_s, cV_x, cX_s, cX_x, bn_s, bz_0, bz_1, bz_b, bI_0, bI_1, pV_M0, oK_M, gR_M18, gR_M17, kI_4, kI_add, aI_MA18 (show 4 * g + m < 8 by omega), aI_MA, marr, msz, hg, up3_r, e18, show ¬ x3 = r 20 17 g from fun h => eg h.symm, M_fail, up3_s]
          · have e0 : r 7 g m = 0 := d2.resolve_right e
            have e18 : r 20 18 (4 * g + m) = 0 := by rw [← d1]; exact e0
            refine ⟨2, 0, r, ed, o, D, nZ z 6, up3 r 20 0 0 2, ?_, ?_, by simp [up3], by simp, INV_f ZR_6 hI⟩
            · simp [f_W_mark, f_B_mark, f_B_groupAt, f_B_groupWith, f_G_isMember, req1 hg1, req3 hm3, req3 hp3, req600 hk, cI_s, cI_x, cR_s, cR_x, cV_s, cV_x, cX_s, cX_x, bn_s, bz_0, bz_1, bz_b, bI_0, bI_1, oK_B, gR_B2, aR_Gs, hg, oK_G, gR_G1, aI_Me, hm, e0, tO_r hz]
            · simp [f_M_mark, ou1 hg1, ou3 hm3, ou3 hp3, ou600 hk, cI_s, cI_x, cR_s, cR_x, cV_s, cV_x, cX_s, cX_x, bn_s, bz_0, bz_1, bz_b, bI_0, bI_1, pV_M0, oK_M, gR_M18, kI_4, kI_add, aI_MA18 (show 4 * g + m < 8 by omega), up3_r, e18, M_fail, up3_s]
        · refine ⟨1, 0, r, ed, o, D, nZ z 6, up3 r 20 0 0 1, ?_, ?_, by simp [up3], by simp, INV_f ZR_6 hI⟩
          · simp [f_W_mark, f_B_mark, req1 hg1, req3 hm3, req3 hp3, reb600 hz hb, cI_s, cI_x, cR_s, cR_x, cV_s, cV_x, cX_s, cX_x, bn_s, bz_0, bz_1, bz_b, bI_0, bI_1, oK_B]
          · simp [f_M_mark, ou1 hg1, ou3 hm3, ou3 hp3, oub600 hb, M_fail, cI_s, cI_x, cR_s, cR_x, cV_s, cV_x, cX_s, cX_x, bn_s, bz_0, bz_1, bz_b, bI_0, bI_1, pV_M0, oK_M, up3_s]
      · refine ⟨1, 0, r, ed, o, D, nZ z 6, up3 r 20 0 0 1, ?_, ?_, by simp [up3], by simp, INV_f ZR_6 hI⟩
        · simp [f_W_mark, f_B_mark, req1 hg1, req3 hm3, reb3 hz hb, cI_s, cI_x, cR_s, cR_x, cV_s, cV_x, cX_s, cX_x, bn_s, bz_0, bz_1, bz_b, bI_0, bI_1, oK_B]
        · simp [f_M_mark, ou1 hg1, ou3 hm3, oub3 hb, M_fail, cI_s, cI_x, cR_s, cR_x, cV_s, cV_x, cX_s, cX_x, bn_s, bz_0, bz_1, bz_b, bI_0, bI_1, pV_M0, oK_M, up3_s]
    · refine ⟨1, 0, r, ed, o, D, nZ z 6, up3 r 20 0 0 1, ?_, ?_, by simp [up3], by simp, INV_f ZR_6 hI⟩
      · simp [f_W_mark, f_B_mark, req1 hg1, reb3 hz hb, cI_s, cI_x, cR_s, cR_x, cV_s, cV_x, cX_s, cX_x, bn_s, bz_0, bz_1, bz_b, bI_0, bI_1, oK_B]
      · simp [f_M_mark, ou1 hg1, oub3 hb, M_fail, cI_s, cI_x, cR_s, cR_x, cV_s, cV_x, cX_s, cX_x, bn_s, bz_0, bz_1, bz_b, bI_0, bI_1, pV_M0, oK_M, up3_s]
  · refine ⟨1, 0, r, ed, o, D, nZ z 6, up3 r 20 0 0 1, ?_, ?_, by simp [up3], by simp, INV_f ZR_6 hI⟩
    · simp [f_W_mark, f_B_mark, reb1 hz hb, cI_s, cI_x, cR_s, cR_x, cV_s, cV_x, cX_s, cX_x, bn_s, bz_0, bz_1, bz_b, bI_0, bI_1, oK_B]
    · simp [f_M_mark, oub1 hb, M_fail, cI_s, cI_x, cR_s, cR_x, cV_s, cV_x, cX_s, cX_x, bn_s, bz_0, bz_1, bz_b, bI_0, bI_1, pV_M0, oK_M, up3_s]
end GR2
