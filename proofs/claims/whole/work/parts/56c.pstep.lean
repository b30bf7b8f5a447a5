theorem up3_o {r : RH} {f m i f' m' i' : Nat} {x : Int32} (h : ¬ (f' = f ∧ m' = m ∧ i' = i)) : up3 r f m i x f' m' i' = r f' m' i' := by
  unfold up3
  rw [if_neg h]
theorem fw_o {r : RH} {f m a b f' m' i' : Nat} {x : Int32} (h : ¬ (f' = f ∧ m' = m ∧ a ≤ i' ∧ i' < b)) : fw r f m a b x f' m' i' = r f' m' i' := by
  unfold fw
  rw [if_neg h]
theorem cmM_o {r : RH} {w i f m j : Nat} (h : ¬ (f = 20 ∧ m = 21)) : cmM r w i f m j = r f m j := by
  unfold cmM
  rw [if_neg (fun q => h ⟨q.1, q.2.1⟩)]
theorem cw_o {r : RH} {w g p f m i : Nat} (h : ¬ f = 10) : cw r w g p f m i = r f m i := by
  unfold cw
  rw [if_neg (fun q => h q.1)]
section OPV
variable {old : HH} {bs : Nat} {r : RH} {ed : Nat → Nat} {o : Int64} {D : HH} {sE : Nat × Nat} {z : Z3} {T : Nat}
theorem advIn_2 {w p n hi t : Nat} (hT : T ≤ 513) (hw : w < 4) (hp : p < 4) (ht : t ≤ 40) (hL : LG bs sE.1 T r ed D z.1 p n hi) (h3 : r 4 w 3 = kI t) (hm : mkd r p hi t false = true) : f_B_advanceIn bs sE (HB old bs r ed o D) z (aB bs) (aP bs w) (kI p) = some (.inl (some (.int 2)), HB old bs (up3 r 4 w 5 (r 4 w 5 &&& ((1 <<< (kI p &&& 31)) ^^^ (-1)))) ed o D, z) := by
  simp only [f_B_advanceIn, gR_B0, aR_Ls hp, gI_P3 hw, h3, oK_L hp, oK_P hw, L_hasEnded hp ht, mk_end hT hL ht, hm, cI_s, cI_x, cR_s, cR_x, cV_s, cV_x, cX_s, cX_x, bn_s, bz_0, bz_1, bz_b, bI_0, bI_1, Bool.true_eq_false, if_false, P_untouch hw]
theorem advIn_0 {w p n hi t : Nat} (hT : T ≤ 513) (hw : w < 4) (hp : p < 4) (ht : t ≤ 40) (hL : LG bs sE.1 T r ed D z.1 p n hi) (h3 : r 4 w 3 = kI t) (hm : mkd r p hi t false = false) (hm2 : mkd r p n t false = true) : f_B_advanceIn bs sE (HB old bs r ed o D) z (aB bs) (aP bs w) (kI p) = some (.inl (some (.int 0)), HB old bs r ed o D, z) := by
  simp only [f_B_advanceIn, gR_B0, aR_Ls hp, gI_P3 hw, h3, oK_L hp, oK_P hw, L_hasEnded hp ht, L_hasMarker hp ht, mk_end hT hL ht, mk_all hT hL ht, hm, hm2, cI_s, cI_x, cR_s, cR_x, cV_s, cV_x, cX_s, cX_x, bn_s, bz_0, bz_1, bz_b, bI_0, bI_1, Bool.true_eq_false, if_false, if_true]
theorem advIn_1 {w p n hi t : Nat} (hT : T ≤ 512) (hO : OLD old bs sE.1) (hI : INV bs sE.1 T r ed D z) (hw : w < 4) (hp : p < 4) (ht : t ≤ 40) (hL : LG bs sE.1 T r ed D z.1 p n hi) (h3 : r 4 w 3 = kI t) (hm : mkd r p hi t false = false) (hm2 : mkd r p n t false = false) :
    ∃ ed' D' z', f_B_advanceIn bs sE (HB old bs r ed o D) z (aB bs) (aP bs w) (kI p) = some (.inl (some (.int 1)), HB old bs (up3 (up3 (up3 r 2 p 0 (r 2 p 0 + 1)) 2 p 2 (kI (n + 1))) 3 p t (kI n)) ed' o D', z') ∧ PUT bs sE.1 ed ed' (va_up D z.1 (some (.inl (0, [.inl (if r 4 w 1 = 2 then 1 else 2), .inl (kI t), .inl (-1), .inl (-1), .inl (-1), .inl 0])))) D' (nZ z 6) z' p n (.inl (0, [.inl (if r 4 w 1 = 2 then 1 else 2), .inl (kI t), .inl (-1), .inl (-1), .inl (-1), .inl 0])) := by
  have hz := INV_RO (by omega) hI
  obtain ⟨hz6, hzb⟩ := INV_RO2 hT hI
  obtain ⟨h1, h2, tx, tm, h3', h4, h5, h6⟩ := id hI
  have hL1 := IL_new (x := some (.inl (0, [.inl (if r 4 w 1 = 2 then 1 else 2), .inl (kI t), .inl (-1), .inl (-1), .inl (-1), .inl 0]))) (zz' := (nZ z 6).1) hO.1 hzb (by simp [nZ]) hL
  have hM := IVL_M hO.1 hzb h6
  obtain ⟨ed', D', z', g1, g2⟩ := L_put (o := o) (a := z.1) (fs := [.inl (if r 4 w 1 = 2 then 1 else 2), .inl (kI t), .inl (-1), .inl (-1), .inl (-1), .inl 0]) hp hz6 hO h2 (fun q hq => by have := hM q hq; simp [nZ]; omega) (by have := hL.1; omega) hL.2.2.1 (by simp [nZ]; omega) hL1.2.2.2.2.2.2.2.1 hzb (by simp [nZ]) vau_e
  refine ⟨ed', D', z', ?_, g2⟩
  have e : ∀ x : Int32, (if bI (decide (r 4 w 1 = 2)) = 0 then (2 : Int32) else 1) = (if r 4 w 1 = 2 then 1 else 2) := fun _ => by
    by_cases h : r 4 w 1 = 2 <;> simp [h, bI]
  have E := E_ofMarker (old := old) (bs := bs) (r := r) (ed := ed) (o := o) (D := D) (sE := sE) (x := kI t) (y := bI (decide (r 4 w 1 = 2))) hz hzb
  rw [e 0] at E
  simp only [f_B_advanceIn, f_L_putMarker, gR_B0, aR_Ls hp, gI_P3 hw, h3, oK_L hp, oK_P hw, L_hasEnded hp ht, L_hasMarker hp ht, mk_end (show T ≤ 513 by omega) hL ht, mk_all (show T ≤ 513 by omega) hL ht, hm, hm2, cI_s, cI_x, cR_s, cV_s, bn_s, bI_0, if_true, P_isCommitting hw, gR_L1 hp, E, g1, aIs_MK hp (show t < 41 by omega)]
theorem PP_c {r' : RH} {w : Nat} (h : ∀ m, 1 ≤ m → m ≤ 21 → r' 20 m = r 20 m) : (fun p => bt (nK r w) p && (mkd r' p (nH r p) (nT r w) false || !mkd r' p (nN r p) (nT r w) false)) = PP r w := by
  funext p
  unfold PP
  rw [mkd_c (fun m h1 h2 => h m h1 (by omega)), mkd_c (fun m h1 h2 => h m h1 (by omega))]
theorem op_step (hT : T ≤ 512) (hO : OLD old bs sE.1) (hI : INV bs sE.1 T r ed D z) : OPD bs sE.1 T old r ed o D z (fun h z => f_B_step bs sE h z (aB bs)) (fun h z => f_M_step bs sE h z (aM bs)) := by
  obtain ⟨h1, h2, tx, tm, h3, h4, h5, h6⟩ := id hI
  have htx : tx ≤ 40 := h3.1
  have hP : ∀ p, p < 4 → LG bs sE.1 T r ed D z.1 p (nN r p) (nH r p) := fun p hp => sum_nn (by omega) h6 hp
  have f13 : ∀ w, w < 4 → r 20 13 w = kI (nK r w) ∧ r 4 w 5 = kI (nK r w) ∧ nK r w < 16 := by
    intro w hw
    obtain ⟨a1, a2, a3, a4, a5, a6, a7, a8, a9, a10, ⟨k, k1, k2⟩⟩ := h4 w hw
    have : nK r w = k := by unfold nK; rw [k2, kI_clamp (by omega)]
    rw [this]
    exact ⟨k2, a10.trans k2, k1⟩
  have f12 : ∀ w, w < 4 → (r 20 10 w = 2 ∨ r 20 10 w = 3) → r 4 w 3 = kI (nT r w) ∧ r 20 12 w = kI (nT r w) ∧ 1 ≤ nT r w ∧ nT r w ≤ 40 := by
    intro w hw hs
    obtain ⟨a1, a2, a3, a4, a5, a6, a7, a8, a9, a10, a11⟩ := h4 w hw
    obtain ⟨q1, ⟨t, t1, t2, t3⟩, q3⟩ := a7 (Or.inr hs)
    have : nT r w = t := by unfold nT; rw [t3, kI_clamp (by omega)]
    rw [this]
    exact ⟨q1.trans t3, t3, t1, by omega⟩
  have in0 : ∀ w, w < 4 → (r 20 10 w = 2 ∨ r 20 10 w = 3) → ∀ p, p < 4 → PP r w p = false → bt (nK r w) p = true → f_B_advanceIn bs sE (HB old bs r ed o D) z (aB bs) (aP bs w) (kI p) = some (.inl (some (.int 0)), HB old bs r ed o D, z) := by
    intro w hw hs p hp hPP hb
    obtain ⟨t1, t2, t3, t4⟩ := f12 w hw hs
    have : mkd r p (nH r p) (nT r w) false = false ∧ mkd r p (nN r p) (nT r w) false = true := by
      unfold PP at hPP
      rw [hb] at hPP
      simpa using hPP
    exact advIn_0 (show T ≤ 513 by omega) hw hp t4 (hP p hp) t1 this.1 this.2
  have PPb : ∀ w p, PP r w p = true → bt (nK r w) p = true := fun w p h => by
    unfold PP at h
    simp at h
    exact h.1
  have hLa := fun w (hw : w < 4) hs => B_adv_L (old := old) (o := o) (z := z) (P := PP r w) hw (f13 w hw).2.1 (PPb w) (in0 w hw hs) 4 FU 0 (by omega) (by show _ < 1000; omega)
  have hst : ∀ w, w < 4 → r 4 w 1 = r 20 10 w := fun w hw => (h4 w hw).2.1
  have adv0 : ∀ w, w < 4 → QQ r w = false → f_B_advance bs sE (HB old bs r ed o D) z (aB bs) (aP bs w) = some (.inl (some (.int 0)), HB old bs r ed o D, z) := by
    intro w hw hQ
    by_cases hs : r 20 10 w = 2 ∨ r 20 10 w = 3
    · unfold QQ at hQ
      simp only [hs, decide_true, Bool.true_and, Bool.or_eq_false_iff, decide_eq_false_iff_not] at hQ
      have hn : srch (PP r w) 4 0 = none := by simpa using hQ.2
      have hk : ¬ kI (nK r w) = 0 := by rw [← (f13 w hw).1]; exact hQ.1
      simp only [f_B_advance, oK_P hw, P_isEnding hw, hst w hw, hs, decide_true, cI_s, cI_x, cR_s, cR_x, cV_s, cV_x, cX_s, cX_x, bn_s, bz_0, bz_1, bz_b, bI_0, bI_1, Bool.true_eq_false, if_false, gI_P5 hw, (f13 w hw).2.1, if_neg hk]
      exact (hLa w hw hs).1 hn
    · simp only [f_B_advance, oK_P hw, P_isEnding hw, hst w hw, hs, decide_false, cI_s, cI_x, cR_s, cR_x, cV_s, cV_x, cX_s, cX_x, bn_s, bz_0, bz_1, bz_b, bI_0, bI_1, if_true]
  have hB := B_step_L (Q := QQ r) adv0 4 FU 0 (by omega) (by show _ < 1000; omega)
  have hMs : ∀ (r' : RH) (ed : Nat → Nat) (D : HH) (z : Z3), (∀ m, 1 ≤ m → m ≤ 21 → r' 20 m = r 20 m) → ∀ w, w < 4 → (r 20 10 w = 2 ∨ r 20 10 w = 3) → r 20 13 w ≠ 0 → f_M_stepOf bs sE (HB old bs r' ed o D) z (aM bs) (kI w) = match srch (PP r w) 4 0 with
      | none => some (.inl (some (.int 0)), HB old bs r' ed o D, z)
      | some p => if mkd r' p (nH r p) (nT r w) false = true then some (.inl (some (.int 2)), HB old bs (up3 r' 20 13 w (kI (nK r w) - (1 <<< (kI p &&& 31)))) ed o D, z) else some (.inl (some (.int 1)), HB old bs (pu r' p (nN r p) (r' 20 10 w) 0 (kI w) (r' 20 11 w) (-1) (kI (nT r w))) ed o D, z) := by
    intro r' ed D z hr w hw hs hk
    have m1 : r' 20 12 w = kI (nT r w) := by rw [hr 12 (by omega) (by omega)]; exact (f12 w hw hs).2.1
    have m2 : r' 20 13 w = kI (nK r w) := by rw [hr 13 (by omega) (by omega)]; exact (f13 w hw).1
    have hk' : ¬ kI (nK r w) = 0 := by rw [← (f13 w hw).1]; exact hk
    have := M_adv_L (old := old) (bs := bs) (r := r') (ed := ed) (o := o) (D := D) (sE := sE) (z := z) (T := T) (N := nN r) (H := nH r) (by omega) hw (f13 w hw).2.2 (f12 w hw hs).2.2.2 m1 m2 (fun p hp => MG_c (fun m a b => hr m a (by omega)) (MG_of (hP p hp))) 4 FU 0 (by omega) (by show _ < 1000; omega)
    rw [PP_c hr] at this
    simp only [f_M_stepOf, gR_M13, aI_MA (show marr 13 = true from rfl) (show w < msz 13 by simp [msz, hw]), m2, bn_s, if_neg hk']
    exact this
  have hM : ∀ (r' : RH) (ed : Nat → Nat) (D : HH) (z : Z3), (∀ m, 1 ≤ m → m ≤ 21 → r' 20 m = r 20 m) → _ := fun r' ed D z hr => M_step_L (old := old) (bs := bs) (r := r') (ed := ed) (o := o) (D := D) (sE := sE) (z := z) (R := fun _ => none) (Q := QQ r) (fun w hQ => by
      rw [hr 10 (by omega) (by omega)]
      unfold QQ at hQ
      simp only [Bool.and_eq_true, decide_eq_true_eq] at hQ
      rcases hQ.1 with h | h <;> (rw [h]; decide)) (fun w hw hQ hs => by
      have hs : r 20 10 w = 2 ∨ r 20 10 w = 3 := by
        rw [hr 10 (by omega) (by omega)] at hs
        rcases (h4 w hw).2.2.1 with h | h | h | h | h
        · rw [h] at hs; exact absurd (by decide) hs
        · rw [h] at hs; exact absurd (by decide) hs
        · rw [h] at hs; exact absurd (by decide) hs
        · exact Or.inl h
        · exact Or.inr h
      unfold QQ at hQ
      simp only [hs, decide_true, Bool.true_and, Bool.or_eq_false_iff, decide_eq_false_iff_not] at hQ
      have hn : srch (PP r w) 4 0 = none := by simpa using hQ.2
      have := hMs r' ed D z hr w hw hs hQ.1
      rw [hn] at this
      exact this) 4 FU 0 (by omega) (by show _ < 1000; omega)
  cases hsr : srch (QQ r) 4 0 with
  | none =>
    refine ⟨-1, r, ed, D, z, up3 r 20 0 0 0, ?_, ?_, INV_f ZR_rfl hI⟩
    · exact hB.1 hsr
    · simp only [f_M_step, pV_M0, bn_s]
      exact (hM (up3 r 20 0 0 0) ed D z (fun m _ _ => up3_fn (by omega))).1 hsr
  | some w =>
    obtain ⟨hw0, hw4, hQ⟩ := srch_at hsr
    have hw : w < 4 := by omega
    unfold QQ at hQ
    simp only [Bool.and_eq_true, decide_eq_true_eq, Bool.or_eq_true] at hQ
    obtain ⟨hs, hQ2⟩ := hQ
    obtain ⟨t1, t2, t3, t4⟩ := f12 w hw hs
    obtain ⟨k1, k2, k3⟩ := f13 w hw
    obtain ⟨a1, a2, a3, a4, a5, a6, a7, a8, a9, a10, a11⟩ := h4 w hw
    obtain ⟨q1, q2, q3⟩ := a7 (Or.inr hs)
    have a5 := a5 (by rcases hs with h | h <;> (rw [h]; decide))
    by_cases hk : r 20 13 w = 0
    · have hk0 : kI (nK r w) = 0 := by rw [← k1]; exact hk
      have adv : ∀ v h' z', f_B_advance bs sE (HB old bs r ed o D) z (aB bs) (aP bs w) = some (.inl (some (.int v)), h', z') → v ≠ 0 → f_B_step bs sE (HB old bs r ed o D) z (aB bs) = some (.inl (some (.int (10 * kI w + v))), h', z') := fun v h' z' hv hv0 => hB.2 w v h' z' hsr hv hv0
      have hQ10 : ∀ m i, m ≠ 0 → (up3 (fw (up3 (up3 (if r 4 w 1 = 2 then cw (cw r w 0 0) w 1 0 else r) 4 w 1 0) 4 w 3 0) 5 w 0 8 (-1)) 20 0 0 0) 20 m i = r 20 m i := by
        intro m i hm
        by_cases c : r 4 w 1 = 2
        · simp [c, up3, fw, cw, hm]
        · simp [c, up3, fw, hm]
      refine ⟨10 * kI w + 3, fw (up3 (up3 (if r 4 w 1 = 2 then cw (cw r w 0 0) w 1 0 else r) 4 w 1 0) 4 w 3 0) 5 w 0 8 (-1), ed, D, z, up3 (cmM (up3 (fw (up3 (up3 (if r 4 w 1 = 2 then cw (cw r w 0 0) w 1 0 else r) 4 w 1 0) 4 w 3 0) 5 w 0 8 (-1)) 20 0 0 0) w 0) 20 10 w 0, ?_, ?_, ?_⟩
      · refine adv 3 _ _ ?_ (by decide)
        simp only [f_B_advance, oK_P hw, P_isEnding hw, hst w hw, hs, decide_true, cI_s, cI_x, cR_s, cR_x, cV_s, cV_x, cX_s, cX_x, bn_s, bz_0, bz_1, bz_b, bI_0, bI_1, Bool.true_eq_false, if_false, gI_P5 hw, k2, hk0, if_true, oK_B, B_end hw]
      · have hr : ∀ m, 1 ≤ m → m ≤ 21 → (up3 (fw (up3 (up3 (if r 4 w 1 = 2 then cw (cw r w 0 0) w 1 0 else r) 4 w 1 0) 4 w 3 0) 5 w 0 8 (-1)) 20 0 0 0) 20 m = r 20 m := fun m _ _ => funext fun i => hQ10 m i (by omega)
        simp only [f_M_step, pV_M0, bn_s]
        refine (hM _ ed D z hr).2 w 3 _ _ hsr ?_ (by decide)
        simp only [f_M_stepOf, gR_M13, aI_MA (show marr 13 = true from rfl) (show w < msz 13 by simp [msz, hw]), bn_s, hr 13 (by omega) (by omega), hk, if_true]
        exact M_end_L hw 8 FU 0 _ (by omega) (by show _ < 1000; omega)
      · have key : ∀ g, g < 2 → ∀ m, m < 4 → (up3 (cmM (up3 (fw (up3 (up3 (if r 4 w 1 = 2 then cw (cw r w 0 0) w 1 0 else r) 4 w 1 0) 4 w 3 0) 5 w 0 8 (-1)) 20 0 0 0) w 0) 20 10 w 0) 10 g m = (up3 (cmM (up3 (fw (up3 (up3 (if r 4 w 1 = 2 then cw (cw r w 0 0) w 1 0 else r) 4 w 1 0) 4 w 3 0) 5 w 0 8 (-1)) 20 0 0 0) w 0) 20 10 w 0) 20 21 (4 * g + m) := by
          intro g hg m hm
          have hc : r 10 g m = r 20 21 (4 * g + m) := ((h5 g hg).2 m hm).2.2.2.2.2.1
          obtain ⟨b1, b2⟩ := q3 (4 * g + m) (by omega)
          have e1 : (up3 (cmM (up3 (fw (up3 (up3 (if r 4 w 1 = 2 then cw (cw r w 0 0) w 1 0 else r) 4 w 1 0) 4 w 3 0) 5 w 0 8 (-1)) 20 0 0 0) w 0) 20 10 w 0) 20 21 (4 * g + m) = if r 20 10 w = 2 ∧ ¬ r 20 15 (8 * w + (4 * g + m)) < 0 then r 20 15 (8 * w + (4 * g + m)) else r 20 21 (4 * g + m) := by
            rw [up3_fn (by omega)]
            unfold cmM
            rw [hQ10 10 w (by omega), hQ10 15 _ (by omega), hQ10 21 _ (by omega)]
            by_cases c : r 20 10 w = 2 ∧ ¬ r 20 15 (8 * w + (4 * g + m)) < 0
            · rw [if_pos c, if_pos ⟨rfl, rfl, by omega, by omega, c.1, c.2⟩]
            · rw [if_neg c, if_neg (fun h => c h.2.2.2.2)]
          rw [e1]
          have e2 : (up3 (cmM (up3 (fw (up3 (up3 (if r 4 w 1 = 2 then cw (cw r w 0 0) w 1 0 else r) 4 w 1 0) 4 w 3 0) 5 w 0 8 (-1)) 20 0 0 0) w 0) 20 10 w 0) 10 g m = if r 20 10 w = 2 ∧ r 5 w (4 * g + m) ≠ -1 then r 5 w (4 * g + m) else r 10 g m := by
            rw [hst w hw]
            by_cases c : r 20 10 w = 2
            · rcases c2 hg with rfl | rfl
              · simp [c, up3, fw, cmM, cw, hm]
              · simp [c, up3, fw, cmM, cw, hm]
            · simp [c, up3, fw, cmM]
          rw [e2, ← b1, ← hc]
          rcases b2 with h | ⟨x, hx, h⟩
          · rw [h]
            have h0 : (-1 : Int32) < 0 := by decide
            simp only [ne_eq, not_true_eq_false, and_false, if_false, h0]
          · rw [h]
            simp only [ne_eq, kI_nm1 (show x < 2147483648 by omega), kI_nl0 (show x < 2147483648 by omega)]
        have fr : ∀ f m i, ¬ (f = 4 ∧ m = w) → ¬ (f = 5 ∧ m = w) → ¬ (f = 10) → ¬ (f = 20 ∧ m = 0) → ¬ (f = 20 ∧ m = 21) → ¬ (f = 20 ∧ m = 10 ∧ i = w) → (up3 (cmM (up3 (fw (up3 (up3 (if r 4 w 1 = 2 then cw (cw r w 0 0) w 1 0 else r) 4 w 1 0) 4 w 3 0) 5 w 0 8 (-1)) 20 0 0 0) w 0) 20 10 w 0) f m i = r f m i := by
          intro f m i c1 c2 c3 c4 c5 c6
          rw [up3_o (by omega), cmM_o (by omega), up3_o (by omega), fw_o (by omega), up3_o (by omega), up3_o (by omega)]
          by_cases c : r 4 w 1 = 2
          · rw [if_pos c, cw_o c3, cw_o c3]
          · rw [if_neg c]
        refine INV_gen hT ZR_rfl h1 h2 (tx := tx) (tm := tm) (Nat.le_refl _) (Nat.le_refl _) (IV0_fr ?_ h3) h4 h5 h6 (fun n' hn' => ?_) (fun g hg => Or.inr ?_) (fun q hq => Or.inl ⟨?_, fun _ _ h => h⟩)
        · intro f m i q
          simp only [dZ] at q
          exact fr f m i (by omega) (by omega) (by omega) (by omega) (by omega) (by omega)
        · by_cases en : n' = w
          · subst en
            obtain ⟨u1, u2, u3⟩ := a9
            have w4 : ∀ i, i ≠ 1 → i ≠ 3 → (up3 (cmM (up3 (fw (up3 (up3 (if r 4 n' 1 = 2 then cw (cw r n' 0 0) n' 1 0 else r) 4 n' 1 0) 4 n' 3 0) 5 n' 0 8 (-1)) 20 0 0 0) n' 0) 20 10 n' 0) 4 n' i = r 4 n' i := by
              intro i i1 i3
              unfold up3 cmM fw
              by_cases c : r 4 n' 1 = 2
              · simp [c, cw, i1, i3]
              · simp [c, i1, i3]
            have w20 : ∀ m i, m ≠ 0 → m ≠ 21 → m ≠ 10 → (up3 (cmM (up3 (fw (up3 (up3 (if r 4 n' 1 = 2 then cw (cw r n' 0 0) n' 1 0 else r) 4 n' 1 0) 4 n' 3 0) 5 n' 0 8 (-1)) 20 0 0 0) n' 0) 20 10 n' 0) 20 m i = r 20 m i := fun m i m0 m1 m2 => fr 20 m i (by omega) (by omega) (by omega) (by omega) (by omega) (by omega)
            have w10 : (up3 (cmM (up3 (fw (up3 (up3 (if r 4 n' 1 = 2 then cw (cw r n' 0 0) n' 1 0 else r) 4 n' 1 0) 4 n' 3 0) 5 n' 0 8 (-1)) 20 0 0 0) n' 0) 20 10 n' 0) 20 10 n' = 0 := by simp [up3]
            refine Or.inr ⟨by rw [w4 0 (by omega) (by omega)]; exact a1, by rw [w10]; simp [up3, cmM, fw], by rw [w10]; simp, by rw [w10]; simp, ?_, fun _ => ⟨by simp [up3, cmM, fw], by rw [w20 13 n' (by omega) (by omega) (by omega)]; exact hk, fun j hj => by simp [up3, cmM, fw, hj]⟩, by rw [w10]; simp, by rw [w4 4 (by omega) (by omega), w20 14 n' (by omega) (by omega) (by omega)]; exact a8, ⟨u1, u2, by rw [w20 14 n' (by omega) (by omega) (by omega)]; exact u3⟩, by rw [w4 5 (by omega) (by omega), w20 13 n' (by omega) (by omega) (by omega)]; exact a10, by rw [w20 13 n' (by omega) (by omega) (by omega)]; exact a11⟩
            intro _
            rw [w4 2 (by omega) (by omega), w20 11 n' (by omega) (by omega) (by omega)]
            exact a5
          · refine Or.inl ?_
            intro f m i q
            simp only [dP] at q
            exact fr f m i (by omega) (by omega) (by omega) (by omega) (by omega) (by omega)
        · obtain ⟨b1, b2⟩ := h5 g hg
          have v6 : ∀ f, 6 ≤ f → f ≤ 9 → (up3 (cmM (up3 (fw (up3 (up3 (if r 4 w 1 = 2 then cw (cw r w 0 0) w 1 0 else r) 4 w 1 0) 4 w 3 0) 5 w 0 8 (-1)) 20 0 0 0) w 0) 20 10 w 0) f g = r f g := fun f f1 f2 => funext fun i => fr f g i (by omega) (by omega) (by omega) (by omega) (by omega) (by omega)
          have v20 : ∀ m, 17 ≤ m → m ≤ 20 → (up3 (cmM (up3 (fw (up3 (up3 (if r 4 w 1 = 2 then cw (cw r w 0 0) w 1 0 else r) 4 w 1 0) 4 w 3 0) 5 w 0 8 (-1)) 20 0 0 0) w 0) 20 10 w 0) 20 m = r 20 m := fun m f1 f2 => funext fun i => fr 20 m i (by omega) (by omega) (by omega) (by omega) (by omega) (by omega)
          rw [v6 6 (by omega) (by omega), v6 7 (by omega) (by omega), v6 8 (by omega) (by omega), v6 9 (by omega) (by omega), v20 17 (by omega) (by omega), v20 18 (by omega) (by omega), v20 19 (by omega) (by omega), v20 20 (by omega) (by omega)]
          refine ⟨b1, fun m hm => ?_⟩
          obtain ⟨d1, d2, d3, d4, d5, d6, d7⟩ := b2 m hm
          exact ⟨d1, d2, d3, d4, d5, key g hg m hm, d7⟩
        · intro f m i q
          simp only [dL] at q
          exact fr f m i (by omega) (by omega) (by omega) (by omega) (by omega) (by omega)
    · have hk' : ¬ kI (nK r w) = 0 := by rw [← k1]; exact hk
      have hsome : (srch (PP r w) 4 0).isSome = true := hQ2.resolve_left hk
      obtain ⟨p, hsp⟩ := Option.isSome_iff_exists.mp hsome
      obtain ⟨hp0, hp4, hPP⟩ := srch_at hsp
      have hp : p < 4 := by omega
      have hb := PPb w p hPP
      have hL := hP p hp
      have adv : ∀ v h' z', f_B_advanceIn bs sE (HB old bs r ed o D) z (aB bs) (aP bs w) (kI p) = some (.inl (some (.int v)), h', z') → v ≠ 0 → f_B_step bs sE (HB old bs r ed o D) z (aB bs) = some (.inl (some (.int (10 * kI w + v))), h', z') := by
        intro v h' z' hv hv0
        refine hB.2 w v h' z' hsr ?_ hv0
        simp only [f_B_advance, oK_P hw, P_isEnding hw, hst w hw, hs, decide_true, cI_s, cI_x, cR_s, cR_x, cV_s, cV_x, cX_s, cX_x, bn_s, bz_0, bz_1, bz_b, bI_0, bI_1, Bool.true_eq_false, if_false, gI_P5 hw, k2, if_neg hk']
        exact (hLa w hw hs).2 p v h' z' hsp hv hv0
      by_cases hm : mkd r p (nH r p) (nT r w) false = true
      · obtain ⟨k', e1, e2, e3⟩ := untouch_ok k3 hp hb
        refine ⟨10 * kI w + 2, up3 r 4 w 5 (kI k'), ed, D, z, up3 (up3 (up3 r 4 w 5 (kI k')) 20 0 0 0) 20 13 w (kI k'), ?_, ?_, ?_⟩
        · refine adv 2 _ _ ?_ (by decide)
          rw [advIn_2 (show T ≤ 513 by omega) hw hp t4 hL t1 hm, k2, e2]
        · have hr : ∀ m, 1 ≤ m → m ≤ 21 → (up3 (up3 r 4 w 5 (kI k')) 20 0 0 0) 20 m = r 20 m := fun m _ _ => by rw [up3_fn (by omega), up3_fn (by omega)]
          simp only [f_M_step, pV_M0, bn_s]
          refine (hM _ ed D z hr).2 w 2 _ _ hsr ?_ (by decide)
          rw [hMs _ ed D z hr w hw hs hk, hsp]
          simp only [mkd_c (fun m a b => hr m a (by omega)), hm, if_true, e3]
        · refine INV_p hT ZR_rfl h1 h2 (Nat.le_refl _) (IV0_fr ?_ h3) h4 h5 h6 hw ?_ ?_
          · (intro f m i q; simp only [dZ] at q; simp only [pu, up3]; repeat (rw [if_neg (by omega)]))
          · (intro f m i q1 q2 q3; simp only [dP, dZ] at q1 q2; simp only [pu, up3]; repeat (rw [if_neg (by omega)]))
          · have hs' : r 20 10 w ≠ -1 ∧ r 20 10 w ≠ 0 := by rcases hs with h | h <;> (rw [h]; decide)
            exact ⟨by simp [up3]; exact a1, by simp [up3]; exact a2, by simp [up3]; exact a3, by simp [up3, hs'.1], by simp [up3]; exact fun _ => a5, by simp [up3, hs'.1, hs'.2], fun _ => ⟨by simp [up3]; exact q1, by simp [up3]; exact q2, fun j hj => by simp [up3]; exact q3 j hj⟩, by simp [up3]; exact a8, by simp [up3]; exact a9, by simp [up3], ⟨k', e1, by simp [up3]⟩⟩
      · have hm : mkd r p (nH r p) (nT r w) false = false := by simpa using hm
        have hm2 : mkd r p (nN r p) (nT r w) false = false := by
          unfold PP at hPP
          rw [hb, hm] at hPP
          simpa using hPP
        obtain ⟨hz6, hzb⟩ := INV_RO2 hT hI
        obtain ⟨ed', D', z', g1, g2⟩ := advIn_1 (o := o) hT hO hI hw hp t4 hL t1 hm hm2
        have hL1 := IL_new (x := some (.inl (0, [.inl (if r 4 w 1 = 2 then 1 else 2), .inl (kI (nT r w)), .inl (-1), .inl (-1), .inl (-1), .inl 0]))) (zz' := (nZ z 6).1) hO.1 hzb (by simp [nZ]) hL
        have hm3 : r 3 p (nT r w) = -1 := by
          have := mk_all (show T ≤ 513 by omega) hL t4
          rw [hm2] at this
          simpa using this
        have hnT := hL.1
        generalize hn : nN r p = n at *
        generalize ht : nT r w = t at *
        refine ⟨10 * kI w + 1, up3 (up3 (up3 r 2 p 0 (r 2 p 0 + 1)) 2 p 2 (kI (n + 1))) 3 p t (kI n), ed', D', z', pu (up3 (up3 (up3 (up3 r 2 p 0 (r 2 p 0 + 1)) 2 p 2 (kI (n + 1))) 3 p t (kI n)) 20 0 0 0) p n (r 20 10 w) 0 (kI w) (r 20 11 w) (-1) (kI t), adv 1 _ _ g1 (by decide), ?_, ?_⟩
        · have hr : ∀ m, 1 ≤ m → m ≤ 21 → (up3 (up3 (up3 (up3 r 2 p 0 (r 2 p 0 + 1)) 2 p 2 (kI (n + 1))) 3 p t (kI n)) 20 0 0 0) 20 m = r 20 m := fun m _ _ => by rw [up3_fn (by omega), up3_fn (by omega), up3_fn (by omega), up3_fn (by omega)]
          simp only [f_M_step, pV_M0, bn_s]
          refine (hM _ ed' D' z' hr).2 w 1 _ _ hsr ?_ (by decide)
          rw [hMs _ ed' D' z' hr w hw hs hk, hsp]
          simp only [mkd_c (fun m a b => hr m a (by omega)), ht, hn, hm, hr 10 (by omega) (by omega), hr 11 (by omega) (by omega), Bool.false_eq_true, if_false]
        · refine INV_l hT ⟨?_, ?_, ?_⟩ h1 g2.2.2.2.1 (IV0_fr ?_ h3) h4 h5 h6 hp ?_ ?_ ⟨n + 1, nH r p, IL_put hT hL1 g2 ?_ ?_ ?_ ?_ ?_ ?_ ?_ ?_ ?_ ?_ ?_⟩
          · have := g2.1; simp [nZ] at this; omega
          · have := g2.2.1; simp [nZ] at this; omega
          · have := g2.2.2.1; simp [nZ] at this; omega
          · (intro f m i q; simp only [dZ] at q; simp only [pu, up3]; repeat (rw [if_neg (by omega)]))
          · (intro f m i q1 q2 q3; simp only [dL, dZ] at q1 q2; simp only [pu, up3]; repeat (rw [if_neg (by omega)]))
          · intro q hq hne m c hl
            rw [g2.2.2.2.2.1 q hne]
            exact g2.2.2.2.2.2.1 _ _ _ (fun e => h2 q p hq hp hne e) (LD_new hO.1 hzb (by simp [nZ]) hl)
          · simp [pu, up3]
          · simp [pu, up3]
          · simp [pu, up3]
          · simp [pu, up3]
          · simp [pu, up3]
          · simp [pu, up3]
          · intro m q1 q2 i hi
            simp only [pu, up3]
            repeat (rw [if_neg (by omega)])
          · rcases hs with h | h <;> simp [eC, ec, pu, up3, hst w hw, h]
          · refine ⟨by rcases hs with h | h <;> simp [pu, up3, h], ⟨t, by omega, by simp [pu, up3], ?_⟩, by rcases hs with h | h <;> simp [pu, up3, h]⟩
            have : t ≠ 0 := by omega
            rcases hs with h | h <;> simp [pu, up3, h, this]
          · exact Or.inr ⟨by rcases hs with h | h <;> simp [pu, up3, h], t, t4, by simp [pu, up3], hm3, by simp [pu, up3_r]⟩
          · intro e
            rcases hs with h | h <;> simp [pu, up3, h] at e
theorem op_last (hT : T ≤ 512) (hI : INV bs sE.1 T r ed D z) : OPD bs sE.1 T old r ed o D z (fun h z => f_B_last bs sE h z (aB bs)) (fun h z => f_M_last bs sE h z (aM bs)) := by
  obtain ⟨h1, h2, tx, tm, h3, h4, h5, h6⟩ := id hI
  refine ⟨r 20 23 0, r, ed, D, z, up3 r 20 0 0 0, ?_, ?_, INV_f ZR_rfl hI⟩
  · simp only [f_B_last, gI_B5, h3.2.2.2.2.2.2, bn_s]
  · simp only [f_M_last, pV_M0, gI_M23, bn_s]
    simp [up3]
end OPV
