theorem q4_ext {a b : Q4} (h : ∀ i, i < 4 → g4 a i = g4 b i) : a = b := by
  obtain ⟨a0, a1, a2, a3⟩ := a
  obtain ⟨b0, b1, b2, b3⟩ := b
  have h0 : a0 = b0 := h 0 (by omega)
  have h1 : a1 = b1 := h 1 (by omega)
  have h2 : a2 = b2 := h 2 (by omega)
  have h3 : a3 = b3 := h 3 (by omega)
  rw [h0, h1, h2, h3]
section TK3
variable {old : HH} {bs : Nat} {r : RH} {ed : Nat → Nat} {o : Int64} {D : HH} {sE : Nat × Nat} {z : Z3} {T : Nat}
theorem op_tick (hT : T ≤ 511) (hI : INV bs sE.1 T r ed D z) (x1 : Int32) : OPK bs sE.1 T old r ed o D z (fun h z => f_W_tick bs sE h z (aB bs) x1 (aOu bs)) (fun h z => f_M_tick bs sE h z (aM bs) x1) := by
  have hz := INV_RO (by omega) hI
  rcases rg 30 (by omega) x1 with ⟨k, hk, rfl⟩ | hb
  · obtain ⟨h1, h2, tx, tm, h3, h4, h5, h6⟩ := id hI
    obtain ⟨q1, q2, q3, q4, q5, q6, q7⟩ := id h3
    generalize ht' : tm + k = t
    have ht : t < 100000 := by omega
    -- producers
    generalize hst : (fun n => r 20 10 n) = st
    generalize hbg : (fun n => (r 20 14 n).toNatClampNeg) = bg
    have p1 : ∀ n, n < 4 → r 4 n 1 = st n ∧ r 4 n 4 = kI (bg n) ∧ r 20 10 n = st n ∧ r 20 14 n = kI (bg n) ∧ bg n ≤ t := by
      intro n hn
      obtain ⟨a1, a2, a3, a4, a5, a6, a7, a8, ⟨u, u1, u2⟩, a10, a11⟩ := h4 n hn
      have : bg n = u := by rw [← hbg]; show (r 20 14 n).toNatClampNeg = u; rw [u2, kI_clamp (by omega)]
      have s : st n = r 20 10 n := by rw [← hst]
      rw [this, s]
      exact ⟨a2, a8.trans u2, rfl, u2, by omega⟩
    -- groups
    obtain ⟨me0, ho0, G0⟩ := GF_of (h5 0 (by omega))
    obtain ⟨me1, ho1, G1⟩ := GF_of (h5 1 (by omega))
    have hh : ∀ g, g < 2 → ∃ hd : Nat → Nat, ∀ i, i < 4 → r 8 g i = kI (hd i) ∧ r 20 19 (4 * g + i) = kI (hd i) ∧ hd i ≤ tm := by
      intro g hg
      refine ⟨fun i => (r 8 g i).toNatClampNeg, fun i hi => ?_⟩
      obtain ⟨d1, d2, d3, ⟨u, u1, u2⟩, d5, d6, d7⟩ := (h5 g hg).2 i hi
      have : (r 8 g i).toNatClampNeg = u := by rw [u2, kI_clamp (by omega)]
      show r 8 g i = kI (r 8 g i).toNatClampNeg ∧ r 20 19 (4 * g + i) = kI (r 8 g i).toNatClampNeg ∧ (r 8 g i).toNatClampNeg ≤ tm
      rw [this, ← d3]
      exact ⟨u2, u2, by omega⟩
    obtain ⟨hd0, H0⟩ := hh 0 (by omega)
    obtain ⟨hd1, H1⟩ := hh 1 (by omega)
    generalize hE : xp st bg t = E
    generalize hS0 : sil me0 hd0 t = S0
    generalize hS1 : sil me1 hd1 t = S1
    generalize hw0 : (mk_ ho0 0, mk_ ho0 1, mk_ ho0 2, mk_ ho0 3) = w0
    generalize hw1 : (mk_ ho1 0, mk_ ho1 1, mk_ ho1 2, mk_ ho1 3) = w1
    have gw0 : ∀ i, i < 4 → g4 w0 i = mk_ ho0 i := fun i hi => by rw [← hw0]; rcases c4 hi with rfl | rfl | rfl | rfl <;> rfl
    have gw1 : ∀ i, i < 4 → g4 w1 i = mk_ ho1 i := fun i hi => by rw [← hw1]; rcases c4 hi with rfl | rfl | rfl | rfl <;> rfl
    -- the class
    generalize hrP : pf (up3 r 0 0 4 (kI t)) E 0 = rP
    have rPo : ∀ f m i, f ≠ 4 → ¬ (f = 0 ∧ m = 0 ∧ i = 4) → rP f m i = r f m i := fun f m i n1 n2 => by
      rw [← hrP, pf_o (by omega), up3_o n2]
    generalize hrA : gD rP 0 (zr S0 4 me0 0) (zr S0 4 w0 0) (cnt S0 4 0) = rA
    have rAo : ∀ f m i, ¬ (6 ≤ f ∧ f ≤ 9 ∧ m = 0) → rA f m i = rP f m i := fun f m i n1 => by rw [← hrA, gD_o n1]
    generalize hrB : gD rA 1 (zr S1 4 me1 0) (zr S1 4 w1 0) (cnt S1 4 0) = rB
    have rBo : ∀ f m i, ¬ (6 ≤ f ∧ f ≤ 9 ∧ m = 1) → rB f m i = rA f m i := fun f m i n1 => by rw [← hrB, gD_o n1]
    have CL : f_W_tick bs sE (HB old bs r ed o D) z (aB bs) (kI k) (aOu bs) = some (.inl (some (.int 0)), HB old bs rB ed (kI (0 + cnt E 4 0 + cnt S0 4 0 + cnt S1 4 0)).toInt64 D, z) := by
      have l1 := B_tick_L (old := old) (bs := bs) (ed := ed) (o := o) (D := D) (sE := sE) (z := z) (st := st) (bg := bg) ht (fun n hn => (p1 n hn).2.2.2.2) 4 FU 0 0 (up3 r 0 0 4 (kI t)) (by omega) (by show _ < 1000; omega) (by simp [up3]) (fun n _ hn => by rw [up3_o (by omega), up3_o (by omega)]; exact ⟨(p1 n hn).1, (p1 n hn).2.1⟩)
      rw [hE, hrP] at l1
      have l1' : f_B_tick_L21 bs sE FU (HB old bs (up3 r 0 0 4 (kI t)) ed o D) z (aB bs) 0 0 = _ := l1
      have g0 := fun REC => B_tick_G (old := old) (bs := bs) (r := rP) (ed := ed) (o := o) (D := D) (sE := sE) (z := z) (g := 0) (t := t) (c := 0 + cnt E 4 0) (me := me0) (w := w0) (hd := hd0) (REC := REC) (by omega) ht (by rw [← hrP, pf_o (by omega)]; simp [up3]) (fun i hi => by rw [rPo 7 0 i (by omega) (by omega)]; exact (G0.1 i hi).1) (fun i hi => by rw [rPo 9 0 i (by omega) (by omega), gw0 i hi]; exact (G0.1 i hi).2.2.2.2) (fun i hi => by rw [rPo 8 0 i (by omega) (by omega)]; exact ⟨(H0 i hi).1, by have := (H0 i hi).2.2; omega⟩)
      rw [hS0, hrA] at g0
      have g1 := fun REC => B_tick_G (old := old) (bs := bs) (r := rA) (ed := ed) (o := o) (D := D) (sE := sE) (z := z) (g := 1) (t := t) (c := 0 + cnt E 4 0 + cnt S0 4 0) (me := me1) (w := w1) (hd := hd1) (REC := REC) (by omega) ht (by rw [rAo 0 0 4 (by omega), ← hrP, pf_o (by omega)]; simp [up3]) (fun i hi => by rw [rAo 7 1 i (by omega), rPo 7 1 i (by omega) (by omega)]; exact (G1.1 i hi).1) (fun i hi => by rw [rAo 9 1 i (by omega), rPo 9 1 i (by omega) (by omega), gw1 i hi]; exact (G1.1 i hi).2.2.2.2) (fun i hi => by rw [rAo 8 1 i (by omega), rPo 8 1 i (by omega) (by omega)]; exact ⟨(H1 i hi).1, by have := (H1 i hi).2.2; omega⟩)
      rw [hS1, hrB] at g1
      obtain ⟨m, hm⟩ := FUn 2 (by omega)
      have e73 : f_B_tick_L73 bs sE FU (HB old bs rP ed o D) z (aB bs) (kI (0 + cnt E 4 0)) (kI 0) = some (.inl (some (.int (kI (0 + cnt E 4 0 + cnt S0 4 0 + cnt S1 4 0)))), HB old bs rB ed o D, z) := by
        rw [hm]
        show fb_B_tick_L73 bs sE (f_B_tick_L73 bs sE (m + 1 + 1)) _ _ _ _ _ = _
        rw [g0]
        show fb_B_tick_L73 bs sE (f_B_tick_L73 bs sE (m + 1)) _ _ _ _ _ = _
        rw [g1]
        show fb_B_tick_L73 bs sE (f_B_tick_L73 bs sE m) _ _ _ _ _ = _
        have c2 : (2 : Int32) ≤ kI (1 + 1) := by decide
        simp only [fb_B_tick_L73, if_pos c2]
      have e73' : f_B_tick_L73 bs sE FU (HB old bs rP ed o D) z (aB bs) (kI (0 + cnt E 4 0)) 0 = _ := e73
      simp only [f_W_tick, f_B_tick, req30 hk, cI_s, cI_x, cR_s, cR_x, cV_s, cV_x, cX_s, cX_x, bn_s, bz_0, bz_1, bz_b, bI_0, bI_1, oK_B, gI_B4, q5, kI_add, ht', pV_B4, l1', e73', aJs_Ou]
    -- the model
    have rB20 : ∀ m i, rB 20 m i = r 20 m i := fun m i => by rw [rBo 20 m i (by omega), rAo 20 m i (by omega), rPo 20 m i (by omega) (by omega)]
    generalize hrM : pfM (up3 (up3 rB 20 0 0 0) 20 22 0 (kI t)) E 0 = rM
    have rMo : ∀ f m i, ¬ (f = 20 ∧ (m = 0 ∨ m = 22) ∧ i = 0) → ¬ (f = 20 ∧ (m = 10 ∨ m = 11)) → rM f m i = rB f m i := fun f m i n1 n2 => by
      rw [← hrM, pfM_o n2, up3_o (by omega), up3_o (by omega)]
    generalize hrX : mD rM 0 (zr S0 4 me0 0) ho0 (cnt S0 4 0) = rX
    have rXo : ∀ f m i, ¬ (f = 20 ∧ ((m = 17 ∧ i = 0) ∨ ((m = 18 ∨ m = 20) ∧ 4 * 0 ≤ i ∧ i < 4 * 0 + 4))) → rX f m i = rM f m i := fun f m i n1 => by rw [← hrX, mD_o n1]
    generalize hrY : mD rX 1 (zr S1 4 me1 0) ho1 (cnt S1 4 0) = rY
    have rYo : ∀ f m i, ¬ (f = 20 ∧ ((m = 17 ∧ i = 1) ∨ ((m = 18 ∨ m = 20) ∧ 4 * 1 ≤ i ∧ i < 4 * 1 + 4))) → rY f m i = rX f m i := fun f m i n1 => by rw [← hrY, mD_o n1]
    have ML : ∀ o : Int64, f_M_tick bs sE (HB old bs rB ed o D) z (aM bs) (kI k) = some (.inl (some (.int (kI (0 + cnt E 4 0 + cnt S0 4 0 + cnt S1 4 0)))), HB old bs rY ed o D, z) := by
      intro o
      have m22 : (up3 (up3 rB 20 0 0 0) 20 22 0 (kI t)) 20 22 0 = kI t := by simp [up3]
      have l1 := M_tick_L (old := old) (bs := bs) (ed := ed) (o := o) (D := D) (sE := sE) (z := z) (st := st) (bg := bg) ht (fun n hn => (p1 n hn).2.2.2.2) 4 FU 0 0 (up3 (up3 rB 20 0 0 0) 20 22 0 (kI t)) (by omega) (by show _ < 1000; omega) m22 (fun n _ hn => by rw [up3_o (by omega), up3_o (by omega), up3_o (by omega), up3_o (by omega), rB20, rB20]; exact ⟨(p1 n hn).2.2.1, (p1 n hn).2.2.2.1⟩)
      rw [hE, hrM] at l1
      have l1' : f_M_tick_L35 bs sE FU (HB old bs (up3 (up3 rB 20 0 0 0) 20 22 0 (kI t)) ed o D) z (aM bs) 0 0 = _ := l1
      have rM22 : rM 20 22 0 = kI t := by rw [← hrM, pfM_o (by omega)]; exact m22
      have g0 := fun REC => M_tick_G (old := old) (bs := bs) (r := rM) (ed := ed) (o := o) (D := D) (sE := sE) (z := z) (g := 0) (t := t) (c := 0 + cnt E 4 0) (me := me0) (ho := ho0) (hd := hd0) (REC := REC) (by omega) ht rM22 G0.2.1 (fun i hi => by rw [rMo 20 18 _ (by omega) (by omega), rB20]; exact (G0.1 i hi).2.1) (fun i hi => by rw [rMo 20 20 _ (by omega) (by omega), rB20]; exact (G0.1 i hi).2.2.2.1) (fun i hi => by rw [rMo 20 19 _ (by omega) (by omega), rB20]; exact ⟨(H0 i hi).2.1, by have := (H0 i hi).2.2; omega⟩)
      rw [hS0, hrX] at g0
      have g1 := fun REC => M_tick_G (old := old) (bs := bs) (r := rX) (ed := ed) (o := o) (D := D) (sE := sE) (z := z) (g := 1) (t := t) (c := 0 + cnt E 4 0 + cnt S0 4 0) (me := me1) (ho := ho1) (hd := hd1) (REC := REC) (by omega) ht (by rw [rXo 20 22 0 (by omega)]; exact rM22) G1.2.1 (fun i hi => by rw [rXo 20 18 _ (by omega), rMo 20 18 _ (by omega) (by omega), rB20]; exact (G1.1 i hi).2.1) (fun i hi => by rw [rXo 20 20 _ (by omega), rMo 20 20 _ (by omega) (by omega), rB20]; exact (G1.1 i hi).2.2.2.1) (fun i hi => by rw [rXo 20 19 _ (by omega), rMo 20 19 _ (by omega) (by omega), rB20]; exact ⟨(H1 i hi).2.1, by have := (H1 i hi).2.2; omega⟩)
      rw [hS1, hrY] at g1
      obtain ⟨m, hm⟩ := FUn 2 (by omega)
      have e82 : f_M_tick_L82 bs sE FU (HB old bs rM ed o D) z (aM bs) (kI (0 + cnt E 4 0)) (kI 0) = some (.inl (some (.int (kI (0 + cnt E 4 0 + cnt S0 4 0 + cnt S1 4 0)))), HB old bs rY ed o D, z) := by
        rw [hm]
        show fb_M_tick_L82 bs sE (f_M_tick_L82 bs sE (m + 1 + 1)) _ _ _ _ _ = _
        rw [g0]
        show fb_M_tick_L82 bs sE (f_M_tick_L82 bs sE (m + 1)) _ _ _ _ _ = _
        rw [g1]
        show fb_M_tick_L82 bs sE (f_M_tick_L82 bs sE m) _ _ _ _ _ = _
        have c2 : (2 : Int32) ≤ kI (1 + 1) := by decide
        simp only [fb_M_tick_L82, if_pos c2]
      have e82' : f_M_tick_L82 bs sE FU (HB old bs rM ed o D) z (aM bs) (kI (0 + cnt E 4 0)) 0 = _ := e82
      have n22 : (up3 rB 20 0 0 0) 20 22 0 = kI tm := by rw [up3_o (by omega), rB20]; exact q6
      simp only [f_M_tick, ou30 hk, cI_s, cI_x, cR_s, cR_x, cV_s, cV_x, cX_s, cX_x, bn_s, bz_0, bz_1, bz_b, bI_0, bI_1, pV_M0, oK_M, gI_M22, pV_M22, n22, kI_add, ht', if_true, l1', e82']
    refine ⟨0, kI (0 + cnt E 4 0 + cnt S0 4 0 + cnt S1 4 0), rB, ed, (kI (0 + cnt E 4 0 + cnt S0 4 0 + cnt S1 4 0)).toInt64, D, z, rY, CL, ML _, ?_, by simp, ?_⟩
    · rw [rYo 20 0 0 (by omega), rXo 20 0 0 (by omega), ← hrM, pfM_o (by omega)]
      simp [up3]
    · have rYc1 : ∀ f m i, f ≠ 20 → rY f m i = rB f m i := fun f m i n1 => by rw [rYo f m i (by omega), rXo f m i (by omega), rMo f m i (by omega) (by omega)]
      have rYc : ∀ f m i, f ≠ 4 → ¬ (f = 0 ∧ m = 0 ∧ i = 4) → ¬ (6 ≤ f ∧ f ≤ 9) → ¬ (f = 20 ∧ (m = 0 ∨ m = 10 ∨ m = 11 ∨ m = 17 ∨ m = 18 ∨ m = 20 ∨ m = 22)) → rY f m i = r f m i := fun f m i n1 n2 n3 n4 => by
        rw [rYo f m i (by omega), rXo f m i (by omega), rMo f m i (by omega) (by omega), rBo f m i (by omega), rAo f m i (by omega), rPo f m i n1 n2]
      have rP4 : ∀ n i, E n = false → rP 4 n i = r 4 n i := fun n i he => by
        rw [← hrP]
        unfold pf
        rw [if_neg (fun q => by rw [he] at q; simp at q), if_neg (fun q => by rw [he] at q; simp at q), up3_o (by omega)]
      have rY4 : ∀ n i, rY 4 n i = rP 4 n i := fun n i => by rw [rYc1 4 n i (by omega), rBo 4 n i (by omega), rAo 4 n i (by omega)]
      have rY1x : ∀ m i, m = 10 ∨ m = 11 → rY 20 m i = rM 20 m i := fun m i hm => by rw [rYo 20 m i (by omega), rXo 20 m i (by omega)]
      have rM1x : ∀ m n, m = 10 ∨ m = 11 → E n = false → rM 20 m n = r 20 m n := fun m n hm he => by
        rw [← hrM]
        unfold pfM
        rw [if_neg (fun q => by rw [he] at q; simp at q), if_neg (fun q => by rw [he] at q; simp at q), up3_o (by omega), up3_o (by omega), rB20]
      have IG0 : (∀ f m i, dG 0 f m i → rY f m i = r f m i) ∨ IG t 0 (rY 6 0) (rY 7 0) (rY 8 0) (rY 9 0) (rY 10 0) (rY 20 17) (rY 20 18) (rY 20 19) (rY 20 20) (rY 20 21) := by
        by_cases c0 : cnt S0 4 0 = 0
        · refine Or.inl fun f m i q => ?_
          simp only [dG] at q
          have hgD : ∀ me w, gD rP 0 me w (cnt S0 4 0) = rP := fun me w => by rw [gD, if_pos c0]
          have hmD : ∀ me w, mD rM 0 me w (cnt S0 4 0) = rM := fun me w => by rw [mD, if_pos c0]
          by_cases f20 : f = 20
          · subst f20
            rw [rYo 20 m i (by omega), ← hrX, hmD, rMo 20 m i (by omega) (by omega), rB20]
          · rw [rYc1 f m i f20, rBo f m i (by omega), ← hrA, hgD, rPo f m i (by omega) (by omega)]
        · refine Or.inr ?_
          have hgD : ∀ me w, gD rP 0 me w (cnt S0 4 0) = ur (up3 (ur (ur rP 7 0 me) 9 0 w) 6 0 0 (rP 6 0 0 + 1)) 9 0 (shC me w) := fun me w => by rw [gD, if_neg c0]
          have hmD : ∀ me w, mD rM 0 me w (cnt S0 4 0) = uw (up3 (uw rM 18 0 me) 20 17 0 (rM 20 17 0 + 1)) 20 0 (shM me w) := fun me w => by rw [mD, if_neg c0]
          have h01 : ∀ i, i < 4 → g4 (zr S0 4 me0 0) i = 0 ∨ g4 (zr S0 4 me0 0) i = 1 := fun i hi => by
            rw [zr_at 4 me0 0 i (by omega) (by omega) hi]
            split
            · exact Or.inl rfl
            · exact (G0.1 i hi).2.2.1
          have hww : zr S0 4 w0 0 = wof (zr S0 4 me0 0) ho0 := q4_ext (fun i hi => by
            rw [g4_wof hi, zr_at 4 w0 0 i (by omega) (by omega) hi, zr_at 4 me0 0 i (by omega) (by omega) hi, gw0 i hi]
            by_cases c : S0 i = true
            · rw [if_pos c, if_pos c, if_pos rfl]
            · rw [if_neg c, if_neg c]
              by_cases e0 : g4 me0 i = 0
              · rw [if_pos e0, G0.2.2 i hi e0]
              · rw [if_neg e0])
          refine IG_sh (me := zr S0 4 me0 0) (ho := ho0) G0.2.1 h01 ?_ (fun i hi => ⟨?_, ?_⟩) (fun i hi => ⟨?_, ?_⟩) (fun i hi => ?_) (fun i hi => ?_) (fun i hi => ?_)
          · rw [rYc1 6 0 0 (by omega), rBo 6 0 0 (by omega), ← hrA, hgD, ur_o (by omega), rYo 20 17 0 (by omega), ← hrX, hmD, uw_o (by omega)]
            have e1 : rP 6 0 0 = r 6 0 0 := by rw [rPo 6 0 0 (by omega) (by omega)]
            have e2 : rM 20 17 0 = r 20 17 0 := by rw [rMo 20 17 0 (by omega) (by omega), rB20]
            rw [e1, e2]
            have b1 : r 6 0 0 = r 20 17 0 := (h5 0 (by omega)).1
            simp [up3, b1]
          · rw [rYc1 7 0 i (by omega), rBo 7 0 i (by omega), ← hrA, hgD, ur_o (by omega), up3_o (by omega), ur_o (by omega), ur_at hi]
          · rw [rYo 20 18 (4 * 0 + i) (by omega), ← hrX, hmD, uw_o (by omega), up3_o (by omega), uw_at hi]
          · rw [rYc1 8 0 i (by omega), rBo 8 0 i (by omega), ← hrA, hgD, ur_o (by omega), up3_o (by omega), ur_o (by omega), ur_o (by omega), rPo 8 0 i (by omega) (by omega), rYo 20 19 (4 * 0 + i) (by omega), ← hrX, hmD, uw_o (by omega), up3_o (by omega), uw_o (by omega), rMo 20 19 (4 * 0 + i) (by omega) (by omega), rB20, (H0 i hi).1, (H0 i hi).2.1]
          · rw [rYc1 8 0 i (by omega), rBo 8 0 i (by omega), ← hrA, hgD, ur_o (by omega), up3_o (by omega), ur_o (by omega), ur_o (by omega), rPo 8 0 i (by omega) (by omega)]
            exact ⟨hd0 i, by have := (H0 i hi).2.2; omega, (H0 i hi).1⟩
          · rw [rYc1 9 0 i (by omega), rBo 9 0 i (by omega), ← hrA, hgD, ur_at hi, hww]
          · have b6 : r 10 0 i = r 20 21 (4 * 0 + i) := ((h5 0 (by omega)).2 i hi).2.2.2.2.2.1
            rw [rYc 10 0 i (by omega) (by omega) (by omega) (by omega), rYc 20 21 _ (by omega) (by omega) (by omega) (by omega)]
            exact b6
          · rw [rYo 20 20 (4 * 0 + i) (by omega), ← hrX, hmD, uw_at hi]
      have IG1 : (∀ f m i, dG 1 f m i → rY f m i = r f m i) ∨ IG t 1 (rY 6 1) (rY 7 1) (rY 8 1) (rY 9 1) (rY 10 1) (rY 20 17) (rY 20 18) (rY 20 19) (rY 20 20) (rY 20 21) := by
        by_cases c0 : cnt S1 4 0 = 0
        · refine Or.inl fun f m i q => ?_
          simp only [dG] at q
          have hgD : ∀ me w, gD rA 1 me w (cnt S1 4 0) = rA := fun me w => by rw [gD, if_pos c0]
          have hmD : ∀ me w, mD rX 1 me w (cnt S1 4 0) = rX := fun me w => by rw [mD, if_pos c0]
          by_cases f20 : f = 20
          · subst f20
            rw [← hrY, hmD, rXo 20 m i (by omega), rMo 20 m i (by omega) (by omega), rB20]
          · rw [rYc1 f m i f20, ← hrB, hgD, rAo f m i (by omega), rPo f m i (by omega) (by omega)]
        · refine Or.inr ?_
          have hgD : ∀ me w, gD rA 1 me w (cnt S1 4 0) = ur (up3 (ur (ur rA 7 1 me) 9 1 w) 6 1 0 (rA 6 1 0 + 1)) 9 1 (shC me w) := fun me w => by rw [gD, if_neg c0]
          have hmD : ∀ me w, mD rX 1 me w (cnt S1 4 0) = uw (up3 (uw rX 18 1 me) 20 17 1 (rX 20 17 1 + 1)) 20 1 (shM me w) := fun me w => by rw [mD, if_neg c0]
          have h01 : ∀ i, i < 4 → g4 (zr S1 4 me1 0) i = 0 ∨ g4 (zr S1 4 me1 0) i = 1 := fun i hi => by
            rw [zr_at 4 me1 0 i (by omega) (by omega) hi]
            split
            · exact Or.inl rfl
            · exact (G1.1 i hi).2.2.1
          have hww : zr S1 4 w1 0 = wof (zr S1 4 me1 0) ho1 := q4_ext (fun i hi => by
            rw [g4_wof hi, zr_at 4 w1 0 i (by omega) (by omega) hi, zr_at 4 me1 0 i (by omega) (by omega) hi, gw1 i hi]
            by_cases c : S1 i = true
            · rw [if_pos c, if_pos c, if_pos rfl]
            · rw [if_neg c, if_neg c]
              by_cases e0 : g4 me1 i = 0
              · rw [if_pos e0, G1.2.2 i hi e0]
              · rw [if_neg e0])
          refine IG_sh (me := zr S1 4 me1 0) (ho := ho1) G1.2.1 h01 ?_ (fun i hi => ⟨?_, ?_⟩) (fun i hi => ⟨?_, ?_⟩) (fun i hi => ?_) (fun i hi => ?_) (fun i hi => ?_)
          · rw [rYc1 6 1 0 (by omega), ← hrB, hgD, ur_o (by omega), ← hrY, hmD, uw_o (by omega)]
            have e1 : rA 6 1 0 = r 6 1 0 := by rw [rAo 6 1 0 (by omega), rPo 6 1 0 (by omega) (by omega)]
            have e2 : rX 20 17 1 = r 20 17 1 := by rw [rXo 20 17 1 (by omega), rMo 20 17 1 (by omega) (by omega), rB20]
            rw [e1, e2]
            have b1 : r 6 1 0 = r 20 17 1 := (h5 1 (by omega)).1
            simp [up3, b1]
          · rw [rYc1 7 1 i (by omega), ← hrB, hgD, ur_o (by omega), up3_o (by omega), ur_o (by omega), ur_at hi]
          · rw [← hrY, hmD, uw_o (by omega), up3_o (by omega), uw_at hi]
          · rw [rYc1 8 1 i (by omega), ← hrB, hgD, ur_o (by omega), up3_o (by omega), ur_o (by omega), ur_o (by omega), rAo 8 1 i (by omega), rPo 8 1 i (by omega) (by omega), ← hrY, hmD, uw_o (by omega), up3_o (by omega), uw_o (by omega), rXo 20 19 (4 * 1 + i) (by omega), rMo 20 19 (4 * 1 + i) (by omega) (by omega), rB20, (H1 i hi).1, (H1 i hi).2.1]
          · rw [rYc1 8 1 i (by omega), ← hrB, hgD, ur_o (by omega), up3_o (by omega), ur_o (by omega), ur_o (by omega), rAo 8 1 i (by omega), rPo 8 1 i (by omega) (by omega)]
            exact ⟨hd1 i, by have := (H1 i hi).2.2; omega, (H1 i hi).1⟩
          · rw [rYc1 9 1 i (by omega), ← hrB, hgD, ur_at hi, hww]
          · have b6 : r 10 1 i = r 20 21 (4 * 1 + i) := ((h5 1 (by omega)).2 i hi).2.2.2.2.2.1
            rw [rYc 10 1 i (by omega) (by omega) (by omega) (by omega), rYc 20 21 _ (by omega) (by omega) (by omega) (by omega)]
            exact b6
          · rw [← hrY, hmD, uw_at hi]
      refine INV_gen (by omega) ZR_rfl h1 h2 (tx := tx) (tm := tm) (tx' := tx) (tm' := t) (Nat.le_refl _) (by omega) ?_ h4 h5 h6 (fun n hn => ?_) (fun g hg => ?_) (fun p hp => Or.inl ⟨fun f m i q => ?_, fun _ _ h => h⟩)
      · refine ⟨q1, by omega, ?_, ?_, ?_, ?_, ?_⟩
        · rw [rYc 0 0 3 (by omega) (by omega) (by omega) (by omega)]; exact q3
        · rw [rYc 20 16 0 (by omega) (by omega) (by omega) (by omega)]; exact q4
        · rw [rYc1 0 0 4 (by omega), rBo 0 0 4 (by omega), rAo 0 0 4 (by omega), ← hrP, pf_o (by omega)]; simp [up3]
        · rw [rYo 20 22 0 (by omega), rXo 20 22 0 (by omega), ← hrM, pfM_o (by omega)]; simp [up3]
        · rw [rYc 0 0 5 (by omega) (by omega) (by omega) (by omega), rYc 20 23 0 (by omega) (by omega) (by omega) (by omega)]; exact q7
      · by_cases hEn : E n = true
        · refine Or.inr ?_
          have hE1 : st n = 1 ∧ ¬ t < bg n + 30 := by rw [← hE] at hEn; exact of_decide_eq_true hEn
          obtain ⟨a1, a2, a3, a4, a5, a6, a7, a8, ⟨u, u1, u2⟩, a10, a11⟩ := h4 n hn
          have s1 : r 20 10 n = 1 := by rw [(p1 n hn).2.2.1]; exact hE1.1
          obtain ⟨v1, v2, v3⟩ := a7 (Or.inl s1)
          have a5 := a5 (by rw [s1]; decide)
          have e41 : rY 4 n 1 = 3 := by rw [rY4, ← hrP]; simp [pf, hn, hEn]
          have e42 : rY 4 n 2 = r 4 n 2 + 1 := by rw [rY4, ← hrP]; simp [pf, hn, hEn, up3]
          have e4 : ∀ i, i ≠ 1 → i ≠ 2 → rY 4 n i = r 4 n i := fun i i1 i2 => by rw [rY4, ← hrP, pf_o (by omega), up3_o (by omega)]
          have e10 : rY 20 10 n = 3 := by rw [rY1x 10 n (by omega), ← hrM]; simp [pfM, hn, hEn]
          have e11 : rY 20 11 n = r 20 11 n + 1 := by rw [rY1x 11 n (by omega), ← hrM]; simp [pfM, hn, hEn, up3, rB20]
          have e20 : ∀ m i, 12 ≤ m → m ≤ 15 → rY 20 m i = r 20 m i := fun m i m1 m2 => rYc 20 m i (by omega) (by omega) (by omega) (by omega)
          have e5 : ∀ i, rY 5 n i = r 5 n i := fun i => rYc 5 n i (by omega) (by omega) (by omega) (by omega)
          refine ⟨by rw [e4 0 (by omega) (by omega)]; exact a1, by rw [e41, e10], by rw [e10]; simp, by rw [e10]; intro h; exact absurd h (by decide), fun _ => by rw [e42, e11, a5], by rw [e10]; intro h; rcases h with h | h <;> exact absurd h (by decide), fun _ => ⟨by rw [e4 3 (by omega) (by omega), e20 12 n (by omega) (by omega)]; exact v1, by rw [e20 12 n (by omega) (by omega)]; exact v2, fun j hj => by rw [e5, e20 15 _ (by omega) (by omega)]; exact v3 j hj⟩, by rw [e4 4 (by omega) (by omega), e20 14 n (by omega) (by omega)]; exact a8, ⟨u, by omega, by rw [e20 14 n (by omega) (by omega)]; exact u2⟩, by rw [e4 5 (by omega) (by omega), e20 13 n (by omega) (by omega)]; exact a10, by rw [e20 13 n (by omega) (by omega)]; exact a11⟩
        · have hEn : E n = false := by simpa using hEn
          refine Or.inl fun f m i q => ?_
          simp only [dP] at q
          rcases q with ⟨rfl, rfl⟩ | ⟨rfl, rfl⟩ | ⟨rfl, q1, q2, rfl⟩ | ⟨rfl, rfl, q1, q2⟩
          · rw [rY4, rP4 _ _ hEn]
          · exact rYc 5 m i (by omega) (by omega) (by omega) (by omega)
          · by_cases hm : m = 10 ∨ m = 11
            · rw [rY1x m i hm, rM1x m i hm hEn]
            · exact rYc 20 m i (by omega) (by omega) (by omega) (by omega)
          · exact rYc 20 15 i (by omega) (by omega) (by omega) (by omega)
      · rcases c2 hg with rfl | rfl
        · exact IG0
        · exact IG1
      · simp only [dL] at q
        exact rYc f m i (by omega) (by omega) (by omega) (by omega)
  · refine ⟨1, 0, r, ed, o, D, nZ z 6, up3 r 20 0 0 1, ?_, ?_, by simp [up3], by simp, INV_f ZR_6 hI⟩
    · simp [f_W_tick, f_B_tick, reb30 hz hb, cI_s, cI_x, cR_s, cR_x, cV_s, cV_x, cX_s, cX_x, bn_s, bz_0, bz_1, bz_b, bI_0, bI_1, oK_B]
    · simp [f_M_tick, oub30 hb, M_fail, cI_s, cI_x, cR_s, cR_x, cV_s, cV_x, cX_s, cX_x, bn_s, bz_0, bz_1, bz_b, bI_0, bI_1, pV_M0, oK_M, up3_s]
end TK3
