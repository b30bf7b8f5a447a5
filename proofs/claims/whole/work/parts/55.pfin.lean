def pc (k : Nat) : Nat := k % 2 + k / 2 % 2 + k / 4 % 2 + k / 8 % 2
section OPF
variable {old : HH} {bs : Nat} {r : RH} {ed : Nat → Nat} {o : Int64} {D : HH} {sE : Nat × Nat} {z : Z3} {T : Nat}
theorem bit_c {h : HH} {k : Nat} (hk : k < 16) : f_I_bitCount bs sE h z (kI k) = some (.inl (some (.int (kI (pc k)))), h, z) := by
  rcases (show k = 0 ∨ k = 1 ∨ k = 2 ∨ k = 3 ∨ k = 4 ∨ k = 5 ∨ k = 6 ∨ k = 7 ∨ k = 8 ∨ k = 9 ∨ k = 10 ∨ k = 11 ∨ k = 12 ∨ k = 13 ∨ k = 14 ∨ k = 15 by omega) with rfl | rfl | rfl | rfl | rfl | rfl | rfl | rfl | rfl | rfl | rfl | rfl | rfl | rfl | rfl | rfl <;> rfl
theorem bit_m {h : HH} {a k : Nat} (hk : k < 16) : f_M_ones bs sE h z a (kI k) = some (.inl (some (.int (kI (pc k)))), h, z) := by
  rcases (show k = 0 ∨ k = 1 ∨ k = 2 ∨ k = 3 ∨ k = 4 ∨ k = 5 ∨ k = 6 ∨ k = 7 ∨ k = 8 ∨ k = 9 ∨ k = 10 ∨ k = 11 ∨ k = 12 ∨ k = 13 ∨ k = 14 ∨ k = 15 by omega) with rfl | rfl | rfl | rfl | rfl | rfl | rfl | rfl | rfl | rfl | rfl | rfl | rfl | rfl | rfl | rfl <;> rfl
theorem B_hasUnc_L {q : Nat} {U : Nat → Bool} (hU : ∀ p, p < 4 → ∀ z, f_L_hasUncopied bs sE (HB old bs r ed o D) z (aL bs p) (kI q) = some (.inl (some (.int (bI (U p)))), HB old bs r ed o D, z)) : ∀ (d fuel p : Nat), p + d = 4 → d < fuel → f_B_hasUncopied_L2 bs sE fuel (HB old bs r ed o D) z (aB bs) (kI q) (kI p) = some (.inl (some (.int (bI (exi U d p)))), HB old bs r ed o D, z) := by
  intro d
  induction d with
  | zero =>
    intro fuel p hp hf
    obtain ⟨f, rfl⟩ : ∃ f, fuel = f + 1 := ⟨fuel - 1, by omega⟩
    have c : (4 : Int32) ≤ kI p := (kI_le (a := 4) (by omega) (by omega)).mpr (by omega)
    simp only [f_B_hasUncopied_L2, fb_B_hasUncopied_L2, if_pos c, cI_s, cI_x, cR_s, cR_x, cV_s, cV_x, cX_s, cX_x, bn_s, bz_0, bz_1, bz_b, bI_0, bI_1, exi, bI_f]
  | succ d ih =>
    intro fuel p hp hf
    obtain ⟨f, rfl⟩ : ∃ f, fuel = f + 1 := ⟨fuel - 1, by omega⟩
    have c : ¬ (4 : Int32) ≤ kI p := fun h => by have := (kI_le (a := 4) (by omega) (by omega)).mp h; omega
    have ih' := ih f (p + 1) (by omega) (by omega)
    simp only [f_B_hasUncopied_L2, fb_B_hasUncopied_L2, if_neg c, cI_s, cI_x, cR_s, cR_x, cV_s, cV_x, cX_s, cX_x, bn_s, bz_0, bz_1, bz_b, bI_0, bI_1, exi, gR_B0, aR_Ls (show p < 4 by omega), oK_L (show p < 4 by omega), hU p (by omega), kI_add1, ih']
    cases hu : U p <;> simp [bI_t]
def FIN (old : HH) (bs : Nat) (r : RH) (ed : Nat → Nat) (o : Int64) (D : HH) (z : Z3) (w k : Nat) (x3 : Int32) : Option RS := some (.inl (some (.int (kI (pc k)))), HB old bs (up3 r 20 10 w (if x3 = 0 then 3 else 2)) ed o D, z)
theorem M_fin_L {w k : Nat} {x3 : Int32} {U : Nat → Bool} (hw : w < 4) (hk : k < 16) (hk2 : r 20 13 w = kI k) (hv : ∀ p, p < 4 → ∃ v, r 20 9 p = v ∧ ∀ K117 K105 z, x3 ≠ 0 → f_M_finish_L51 bs sE K117 K105 FU (HB old bs r ed o D) z (aM bs) (kI w) x3 (kI p) v = if U p = true then K105 (HB old bs r ed o D) z (aM bs) else K117 (HB old bs r ed o D) z (aM bs) (kI w) x3 (kI p)) : ∀ (d fuel p : Nat), p + d = 4 → d < fuel → f_M_finish_L36 bs sE fuel (HB old bs r ed o D) z (aM bs) (kI w) x3 (kI p) = if (decide (x3 ≠ 0) && exi U d p) = true then some (.inl (some (.int 0)), HB old bs (up3 r 20 0 0 4) ed o D, z) else FIN old bs r ed o D z w k x3 := by
  intro d
  induction d with
  | zero =>
    intro fuel p hp hf
    obtain ⟨f, rfl⟩ : ∃ f, fuel = f + 1 := ⟨fuel - 1, by omega⟩
    have c : (4 : Int32) ≤ kI p := (kI_le (a := 4) (by omega) (by omega)).mpr (by omega)
    have e3 : ∀ x, up3 r 20 10 w x 20 13 w = kI k := fun x => by simp [up3, hk2]
    by_cases hx : x3 = 0 <;> simp [f_M_finish_L36, fb_M_finish_L36, c, cI_s, cI_x, cR_s, cR_x, cV_s, cV_x, cX_s, cX_x, bn_s, bz_0, bz_1, bz_b, bI_0, bI_1, exi, gR_M10, gR_M13, oK_M, aI_MA, aIs_MA, marr, msz, hw, hx, e3, bit_m hk, FIN]
  | succ d ih =>
    intro fuel p hp hf
    obtain ⟨f, rfl⟩ : ∃ f, fuel = f + 1 := ⟨fuel - 1, by omega⟩
    have c : ¬ (4 : Int32) ≤ kI p := fun h => by have := (kI_le (a := 4) (by omega) (by omega)).mp h; omega
    have ih' := ih f (p + 1) (by omega) (by omega)
    obtain ⟨v, v1, v2⟩ := hv p (by omega)
    simp only [f_M_finish_L36, fb_M_finish_L36, if_neg c, cI_s, cI_x, cR_s, cR_x, cV_s, cV_x, cX_s, cX_x, bn_s, bz_0, bz_1, bz_b, bI_0, bI_1, exi, gR_M9, aI_MA (show marr 9 = true from rfl) (show p < msz 9 by simp [msz]; omega), v1]
    by_cases hx : x3 = 0
    · obtain ⟨g, hg⟩ := FUn 0 (by omega)
      rw [hg]
      simp only [f_M_finish_L51, fb_M_finish_L51, if_pos hx, kI_add1, ih']
      simp [hx]
    · rw [v2 _ _ _ hx]
      simp only [kI_add1, ih', oK_M, M_fail, cI_s, cI_x, cR_s, cR_x, cV_s, cV_x, cX_s, cX_x, bn_s, bz_0, bz_1, bz_b, bI_0, bI_1]
      by_cases hu : U p = true
      · simp [hx, hu]
      · have hu : U p = false := by simpa using hu
        simp [hx, hu]
theorem op_finish (hT : T ≤ 512) (hI : INV bs sE.1 T r ed D z) (x1 x2 x3 : Int32) : OPK bs sE.1 T old r ed o D z (fun h z => f_W_finish bs sE h z (aB bs) x1 x2 x3 (aOu bs)) (fun h z => f_M_finish bs sE h z (aM bs) x1 x2 x3) := by
  have hz := INV_RO (by omega) hI
  rcases rg 3 (by omega) x1 with ⟨w, hw, rfl⟩ | hb
  · have hw4 : w < 4 := by omega
    obtain ⟨h1, h2, tx, tm, h3, h4, h5, h6⟩ := id hI
    by_cases e : opn r w x2 = 0
    · obtain ⟨e1, e2⟩ := opn_0 e
      obtain ⟨a1, a2, a3, a4, a5, a6, a7, a8, a9, a10, a11⟩ := h4 w hw4
      obtain ⟨q1, ⟨t, t1, t2, t3⟩, q3⟩ := a7 (Or.inl e1)
      have a5 := a5 (by rw [e1]; decide)
      have htx : tx ≤ 40 := h3.1
      obtain ⟨k0, k1, k2⟩ := a11
      have hP : ∀ p, p < 4 → LG bs sE.1 T r ed D z.1 p (r 20 7 p).toNatClampNeg (r 20 9 p).toNatClampNeg := by
        intro p hp
        obtain ⟨n, hi, hL⟩ := h6 p hp
        have c4 := hL.2.2.2.1
        have c6 := hL.2.2.2.2.2.1
        have := hL.1
        have := hL.2.1
        rw [c4, c6, kI_clamp (by omega), kI_clamp (by omega)]
        exact hL
      have hU : ∀ p, p < 4 → ∀ z, f_L_hasUncopied bs sE (HB old bs r ed o D) z (aL bs p) (kI t) = some (.inl (some (.int (bI (exi (uncP r p t) ((r 20 7 p).toNatClampNeg - (r 20 9 p).toNatClampNeg) (r 20 9 p).toNatClampNeg)))), HB old bs r ed o D, z) := fun p hp z' => L_hasUncopied hp (show T ≤ 513 by omega) (hP p hp) t1 (by omega)
      have LU := B_hasUnc_L (old := old) (z := z) (U := fun p => exi (uncP r p t) ((r 20 7 p).toNatClampNeg - (r 20 9 p).toNatClampNeg) (r 20 9 p).toNatClampNeg) hU 4 FU 0 (by omega) (by show _ < 1000; omega)
      have MU : ∀ (r' : RH) (o : Int64) (z : Z3), (∀ m, 1 ≤ m → m ≤ 13 → r' 20 m = r 20 m) → f_M_finish_L36 bs sE FU (HB old bs r' ed o D) z (aM bs) (kI w) x3 (kI 0) = if (decide (x3 ≠ 0) && exi (fun p => exi (uncP r p t) ((r 20 7 p).toNatClampNeg - (r 20 9 p).toNatClampNeg) (r 20 9 p).toNatClampNeg) 4 0) = true then some (.inl (some (.int 0)), HB old bs (up3 r' 20 0 0 4) ed o D, z) else FIN old bs r' ed o D z w k0 x3 := by
        intro r' o z hr
        refine M_fin_L (U := fun p => exi (uncP r p t) ((r 20 7 p).toNatClampNeg - (r 20 9 p).toNatClampNeg) (r 20 9 p).toNatClampNeg) hw4 k1 (by rw [hr 13 (by omega) (by omega)]; exact k2) (fun p hp => ⟨kI (r 20 9 p).toNatClampNeg, ?_, fun K117 K105 z hx => ?_⟩) 4 FU 0 (by omega) (by show _ < 1000; omega)
        · rw [hr 9 (by omega) (by omega)]
          exact (hP p hp).2.2.2.2.2.1
        · have hG := MG_c (r' := r') (fun m h1 h2 => hr m h1 (by omega)) (MG_of (hP p hp))
          have b1 := (hP p hp).1
          have b2 := (hP p hp).2.1
          have := M_finish_L (old := old) (bs := bs) (ed := ed) (o := o) (D := D) (sE := sE) (z := z) (K117 := K117) (K105 := K105) (q := t) (x3 := x3) hp (show T ≤ 513 by omega) hG hw4 (by rw [hr 12 (by omega) (by omega)]; exact t3) hx ((r 20 7 p).toNatClampNeg - (r 20 9 p).toNatClampNeg) FU (r 20 9 p).toNatClampNeg (by omega) (by show _ < 1000; omega)
          rw [uncP_c (fun m h1 h2 => hr m h1 (by omega))] at this
          exact this
      have MC := fun (r' : RH) (o : Int64) (z : Z3) => opn_m (old := old) (bs := bs) (r' := r') (ed := ed) (o := o) (D := D) (sE := sE) (z := z) (x := x2) h4 hw4
      generalize exi (fun p => exi (uncP r p t) ((r 20 7 p).toNatClampNeg - (r 20 9 p).toNatClampNeg) (r 20 9 p).toNatClampNeg) 4 0 = V at LU MU
      by_cases hV : (decide (x3 ≠ 0) && V) = true
      · obtain ⟨hx, hV⟩ : x3 ≠ 0 ∧ V = true := by simpa using hV
        subst hV
        have MU := MU (up3 r 20 0 0 (kI 0)) o (nZ z 6) (fun m _ _ => up3_fn (by omega))
        refine ⟨4, 0, r, ed, o, D, nZ z 6, up3 r 20 0 0 4, ?_, ?_, by simp [up3], by simp, INV_f ZR_6 hI⟩
        · simp only [f_W_finish, f_B_finish, req3 hw, cI_s, cI_x, cR_s, cR_x, cV_s, cV_x, cX_s, cX_x, bn_s, bz_0, bz_1, bz_b, bI_0, bI_1, oK_B, opn_c h4 hw4 hz, e, if_true, if_neg hx, gI_P3 hw4, q1, t3, f_B_hasUncopied]
          rw [show f_B_hasUncopied_L2 bs sE FU (HB old bs r ed o D) z (aB bs) (kI t) 0 = _ from LU]
          simp [cI_s, cI_x, cR_s, cR_x, cV_s, cV_x, cX_s, cX_x, bn_s, bz_0, bz_1, bz_b, bI_0, bI_1, tO_r hz]
        · simp only [f_M_finish, ou3 hw, cI_s, cI_x, cR_s, cR_x, cV_s, cV_x, cX_s, cX_x, bn_s, bz_0, bz_1, bz_b, bI_0, bI_1, oK_M, MC r o _ rfl rfl, e, f_M_finish_B21, pV_M0, gI_M0, show (up3 r 20 0 0 (kI 0)) 20 0 0 ≤ 0 from by simp [up3, kI_0], if_true]
          refine MU.trans ?_
          simp [hx, up3_s]
      · have hS : x3 = 0 ∨ V = false := by
          by_cases hx : x3 = 0
          · exact Or.inl hx
          · refine Or.inr ?_
            cases V
            · rfl
            · exact absurd (by simp [hx]) hV
        have MU := MU (up3 (up3 r 4 w 1 (if x3 = 0 then 3 else 2)) 20 0 0 (kI 0)) (kI (pc k0)).toInt64 z (fun m _ _ => by rw [up3_fn (by omega), up3_fn (by omega)])
        rw [if_neg hV] at MU
        have q5 : (up3 r 4 w 1 (if x3 = 0 then 3 else 2)) 4 w 5 = kI k0 := by simp [up3]; rw [a10]; exact k2
        refine ⟨0, kI (pc k0), up3 r 4 w 1 (if x3 = 0 then 3 else 2), ed, (kI (pc k0)).toInt64, D, z, up3 (up3 (up3 r 4 w 1 (if x3 = 0 then 3 else 2)) 20 0 0 0) 20 10 w (if x3 = 0 then 3 else 2), ?_, ?_, by simp [up3], by simp, ?_⟩
        · by_cases hx : x3 = 0
          · simp only [f_W_finish, f_B_finish, req3 hw, cI_s, cI_x, cR_s, cR_x, cV_s, cV_x, cX_s, cX_x, bn_s, bz_0, bz_1, bz_b, bI_0, bI_1, oK_B, opn_c h4 hw4 hz, e, if_true, if_pos hx, oK_P hw4, P_startEnding hw4]
            rw [if_pos hx] at q5
            simp only [gI_P5 hw4, q5, cI_s, cI_x, cR_s, cR_x, cV_s, cV_x, cX_s, cX_x, bn_s, bz_0, bz_1, bz_b, bI_0, bI_1, bit_c k1, aJs_Ou]
          · have hV : V = false := hS.resolve_left hx
            subst hV
            simp only [f_W_finish, f_B_finish, req3 hw, cI_s, cI_x, cR_s, cR_x, cV_s, cV_x, cX_s, cX_x, bn_s, bz_0, bz_1, bz_b, bI_0, bI_1, oK_B, opn_c h4 hw4 hz, e, if_true, if_neg hx, gI_P3 hw4, q1, t3, f_B_hasUncopied]
            rw [show f_B_hasUncopied_L2 bs sE FU (HB old bs r ed o D) z (aB bs) (kI t) 0 = _ from LU]
            rw [if_neg hx] at q5
            simp only [cI_s, cI_x, cR_s, cR_x, cV_s, cV_x, cX_s, cX_x, bn_s, bz_0, bz_1, bz_b, bI_0, bI_1, if_true, oK_P hw4, P_startEnding hw4, if_neg hx, gI_P5 hw4, q5, bit_c k1, aJs_Ou]
        · simp only [f_M_finish, ou3 hw, cI_s, cI_x, cR_s, cR_x, cV_s, cV_x, cX_s, cX_x, bn_s, bz_0, bz_1, bz_b, bI_0, bI_1, oK_M, MC (up3 r 4 w 1 (if x3 = 0 then 3 else 2)) _ z (by simp [up3]) (by simp [up3]), e, f_M_finish_B21, pV_M0, gI_M0, show (up3 (up3 r 4 w 1 (if x3 = 0 then 3 else 2)) 20 0 0 (kI 0)) 20 0 0 ≤ 0 from by simp [up3, kI_0], if_true]
          exact MU
        · refine INV_p hT ZR_rfl h1 h2 (Nat.le_refl _) (IV0_fr ?_ h3) h4 h5 h6 hw4 ?_ ?_
          · (intro f m i q; simp only [dZ] at q; simp only [pu, up3]; repeat (rw [if_neg (by omega)]))
          · (intro f m i q1 q2 q3; simp only [dP, dZ] at q1 q2; simp only [pu, up3]; repeat (rw [if_neg (by omega)]))
          · have hx : (if x3 = 0 then (3 : Int32) else 2) = 3 ∨ (if x3 = 0 then (3 : Int32) else 2) = 2 := by
              by_cases h : x3 = 0 <;> simp [h]
            generalize (if x3 = 0 then (3 : Int32) else 2) = y at hx
            have s1 : (up3 (up3 (up3 r 4 w 1 y) 20 0 0 0) 20 10 w y) 20 10 w = y := by simp [up3]
            refine ⟨by simp [up3]; exact a1, by simp [up3], by rw [s1]; rcases hx with h | h <;> simp [h], by rw [s1]; rcases hx with h | h <;> simp [h], by simp [up3]; exact fun _ => a5, by rw [s1]; rcases hx with h | h <;> simp [h], fun _ => ⟨by simp [up3]; exact q1, ⟨t, t1, t2, by simp [up3]; exact t3⟩, fun j hj => by simp [up3]; exact q3 j hj⟩, by simp [up3]; exact a8, by simp [up3]; exact a9, by simp [up3]; exact a10, ⟨k0, k1, by simp [up3]; exact k2⟩⟩
    · refine ⟨kI (opn r w x2), 0, r, ed, o, D, nZ z 6, up3 r 20 0 0 (kI (opn r w x2)), ?_, ?_, by simp [up3], ?_, INV_f ZR_6 hI⟩
      · rcases opn_3 e with q | q <;> simp [f_W_finish, f_B_finish, req3 hw, cI_s, cI_x, cR_s, cR_x, cV_s, cV_x, cX_s, cX_x, bn_s, bz_0, bz_1, bz_b, bI_0, bI_1, oK_B, opn_c h4 hw4 hz, q] <;> rfl
      · rcases opn_3 e with q | q <;> simp [f_M_finish, f_M_finish_B21, ou3 hw, cI_s, cI_x, cR_s, cR_x, cV_s, cV_x, cX_s, cX_x, bn_s, bz_0, bz_1, bz_b, bI_0, bI_1, oK_M, opn_m (r' := r) h4 hw4 rfl rfl, q, pV_M0, gI_M0, up3, show ¬ kI 2 ≤ 0 by decide, show ¬ kI 3 ≤ 0 by decide]
      · rcases opn_3 e with q | q <;> (rw [q]; intro h; exact absurd h (by decide))
  · refine ⟨1, 0, r, ed, o, D, nZ z 6, up3 r 20 0 0 1, ?_, ?_, by simp [up3], by simp, INV_f ZR_6 hI⟩
    · simp [f_W_finish, f_B_finish, reb3 hz hb, cI_s, cI_x, cR_s, cR_x, cV_s, cV_x, cX_s, cX_x, bn_s, bz_0, bz_1, bz_b, bI_0, bI_1, oK_B]
    · simp [f_M_finish, f_M_finish_B21, oub3 hb, M_fail, cI_s, cI_x, cR_s, cR_x, cV_s, cV_x, cX_s, cX_x, bn_s, bz_0, bz_1, bz_b, bI_0, bI_1, pV_M0, gI_M0, oK_M, up3_s, up3]
end OPF
