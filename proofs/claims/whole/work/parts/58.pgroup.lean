/-! groups: join, leave, beat, mark -/
theorem g4_wof {me ho : Q4} {i : Nat} (hi : i < 4) : g4 (wof me ho) i = if g4 me i = 0 then 0 else mk_ ho i := by
  rcases c4 hi with rfl | rfl | rfl | rfl <;> rfl
theorem all5 {P : Nat → Bool} (h : (List.range 5).all P = true) {x : Nat} (hx : x < 5) : P x = true := List.all_eq_true.mp h x (List.mem_range.mpr hx)
theorem f5_of {x : Int32} (h : x = -1 ∨ ∃ q, q < 4 ∧ x = kI q) : ∃ k, k < 5 ∧ x = f5 k := by
  rcases h with rfl | ⟨q, hq, rfl⟩
  · exact ⟨4, by omega, rfl⟩
  · refine ⟨q, by omega, ?_⟩
    unfold f5
    rw [if_neg (by omega)]
theorem f2_of {x : Int32} (h : x = 0 ∨ x = 1) : ∃ k, k < 2 ∧ x = f2 k := by
  rcases h with rfl | rfl
  · exact ⟨0, by omega, rfl⟩
  · exact ⟨1, by omega, rfl⟩
theorem okh_of {me : Q4} {x : Int32} (h : okh me x = true) : x = -1 ∨ ∃ q, q < 4 ∧ x = kI q ∧ g4 me q = 1 := by
  unfold okh at h
  simp only [Bool.or_eq_true, Bool.and_eq_true, decide_eq_true_eq] at h
  rcases h with (((h | h) | h) | h) | h
  · exact Or.inl h
  · exact Or.inr ⟨0, by omega, h.1, h.2⟩
  · exact Or.inr ⟨1, by omega, h.1, h.2⟩
  · exact Or.inr ⟨2, by omega, h.1, h.2⟩
  · exact Or.inr ⟨3, by omega, h.1, h.2⟩
theorem okh_to {me : Q4} {k : Nat} (hk : k < 5) : ∃ q, q < 5 ∧ f5 k = f5 q := ⟨k, hk, rfl⟩
theorem share_ok {me ho : Q4} (h1 : ∀ i, i < 4 → g4 me i = 0 ∨ g4 me i = 1) (h2 : hoK ho) : (∀ i, i < 4 → g4 (shC me (wof me ho)) i = mk_ (shM me ho) i) ∧ ∀ i, i < 4 → g4 (shM me ho) i = -1 ∨ ∃ q, q < 4 ∧ g4 (shM me ho) i = kI q ∧ g4 me q = 1 := by
  obtain ⟨m0, m1, m2, m3⟩ := me
  obtain ⟨o0, o1, o2, o3⟩ := ho
  obtain ⟨a, ha, rfl⟩ : ∃ k, k < 2 ∧ m0 = f2 k := f2_of (h1 0 (by omega))
  obtain ⟨b, hb, rfl⟩ : ∃ k, k < 2 ∧ m1 = f2 k := f2_of (h1 1 (by omega))
  obtain ⟨c, hc, rfl⟩ : ∃ k, k < 2 ∧ m2 = f2 k := f2_of (h1 2 (by omega))
  obtain ⟨d, hd, rfl⟩ : ∃ k, k < 2 ∧ m3 = f2 k := f2_of (h1 3 (by omega))
  obtain ⟨x, hx, rfl⟩ : ∃ k, k < 5 ∧ o0 = f5 k := f5_of (h2 0 (by omega))
  obtain ⟨y, hy, rfl⟩ : ∃ k, k < 5 ∧ o1 = f5 k := f5_of (h2 1 (by omega))
  obtain ⟨u, hu, rfl⟩ : ∃ k, k < 5 ∧ o2 = f5 k := f5_of (h2 2 (by omega))
  obtain ⟨v, hv, rfl⟩ : ∃ k, k < 5 ∧ o3 = f5 k := f5_of (h2 3 (by omega))
  have hB := all5 (all5 (all5 (chk_b a ha b hb c hc d hd x hx) hy) hu) hv
  simp only [Bool.and_eq_true, decide_eq_true_eq] at hB
  obtain ⟨⟨hB1, hB2⟩, hB3⟩ := hB
  have hA := chk_a a ha b hb c hc d hd
  show (∀ i, i < 4 → g4 (shC (mk4 a b c d f2) (wof (mk4 a b c d f2) (mk4 x y u v f5))) i = mk_ (shM (mk4 a b c d f2) (mk4 x y u v f5)) i) ∧ ∀ i, i < 4 → g4 (shM (mk4 a b c d f2) (mk4 x y u v f5)) i = -1 ∨ ∃ q, q < 4 ∧ g4 (shM (mk4 a b c d f2) (mk4 x y u v f5)) i = kI q ∧ g4 (mk4 a b c d f2) q = 1
  have hM : shM (mk4 a b c d f2) (mk4 x y u v f5) = shM (mk4 a b c d f2) (drp (mk4 a b c d f2) 4 (mk4 x y u v f5) 0) := by
    unfold shM shN
    rw [hB2]
  rw [hM, ← hB3]
  have hV := hB1
  generalize hw : drp (mk4 a b c d f2) 4 (mk4 x y u v f5) 0 = w at *
  obtain ⟨w0, w1, w2, w3⟩ := w
  unfold vld at hV
  simp only [Bool.and_eq_true] at hV
  obtain ⟨⟨⟨v0, v1⟩, v2⟩, v3⟩ := hV
  have toF : ∀ {x : Int32}, okh (mk4 a b c d f2) x = true → ∃ k, k < 5 ∧ x = f5 k := fun h => f5_of (by
    rcases okh_of h with h | ⟨q, h1, h2, _⟩
    · exact Or.inl h
    · exact Or.inr ⟨q, h1, h2⟩)
  obtain ⟨x', hx', rfl⟩ : ∃ k, k < 5 ∧ w0 = f5 k := toF v0
  obtain ⟨y', hy', rfl⟩ : ∃ k, k < 5 ∧ w1 = f5 k := toF v1
  obtain ⟨u', hu', rfl⟩ : ∃ k, k < 5 ∧ w2 = f5 k := toF v2
  obtain ⟨z', hz', rfl⟩ : ∃ k, k < 5 ∧ w3 = f5 k := toF v3
  have hC := all5 (all5 (all5 (hA x' hx') hy') hu') hz'
  have hV2 : vld (mk4 a b c d f2) (mk4 x' y' u' z' f5) = true := hB1
  rw [hV2] at hC
  simp only [Bool.not_true, Bool.false_or] at hC
  unfold chk at hC
  simp only [Bool.and_eq_true, decide_eq_true_eq] at hC
  obtain ⟨⟨⟨⟨c0, c1⟩, c2'⟩, c3⟩, c4'⟩ := hC
  refine ⟨fun i hi => ?_, fun i hi => ?_⟩
  · show g4 (shC (mk4 a b c d f2) (wof (mk4 a b c d f2) (mk4 x' y' u' z' f5))) i = mk_ (shM (mk4 a b c d f2) (mk4 x' y' u' z' f5)) i
    rw [c0]
    rcases c4 hi with rfl | rfl | rfl | rfl <;> rfl
  · show g4 (shM (mk4 a b c d f2) (mk4 x' y' u' z' f5)) i = -1 ∨ ∃ q, q < 4 ∧ g4 (shM (mk4 a b c d f2) (mk4 x' y' u' z' f5)) i = kI q ∧ g4 (mk4 a b c d f2) q = 1
    rcases c4 hi with rfl | rfl | rfl | rfl
    · exact okh_of c1
    · exact okh_of c2'
    · exact okh_of c3
    · exact okh_of c4'
section GR1
variable {old : HH} {bs : Nat} {r : RH} {ed : Nat → Nat} {o : Int64} {D : HH} {sE : Nat × Nat} {z : Z3} {T : Nat}
/-- a group's members and holders -/
def GF (r : RH) (g : Nat) (me ho : Q4) : Prop := (∀ i, i < 4 → r 7 g i = g4 me i ∧ r 20 18 (4 * g + i) = g4 me i ∧ (g4 me i = 0 ∨ g4 me i = 1) ∧ r 20 20 (4 * g + i) = g4 ho i ∧ r 9 g i = mk_ ho i) ∧ hoK ho ∧ ∀ i, i < 4 → g4 me i = 0 → mk_ ho i = 0
theorem GF_of {tm g : Nat} (h : IG tm g (r 6 g) (r 7 g) (r 8 g) (r 9 g) (r 10 g) (r 20 17) (r 20 18) (r 20 19) (r 20 20) (r 20 21)) : ∃ me ho, GF r g me ho := by
  obtain ⟨b1, b2⟩ := h
  refine ⟨(r 7 g 0, r 7 g 1, r 7 g 2, r 7 g 3), (r 20 20 (4 * g + 0), r 20 20 (4 * g + 1), r 20 20 (4 * g + 2), r 20 20 (4 * g + 3)), ?_, ?_, ?_⟩
  · intro i hi
    obtain ⟨d1, d2, d3, d4, d5, d6, d7⟩ := b2 i hi
    refine ⟨?_, ?_, ?_, ?_, d5⟩
    · rcases c4 hi with rfl | rfl | rfl | rfl <;> rfl
    · rw [← d1]
      rcases c4 hi with rfl | rfl | rfl | rfl <;> rfl
    · rcases c4 hi with rfl | rfl | rfl | rfl <;> exact d2
    · rcases c4 hi with rfl | rfl | rfl | rfl <;> rfl
  · intro i hi
    obtain ⟨d1, d2, d3, d4, d5, d6, d7⟩ := b2 i hi
    have : g4 (r 20 20 (4 * g + 0), r 20 20 (4 * g + 1), r 20 20 (4 * g + 2), r 20 20 (4 * g + 3)) i = r 20 20 (4 * g + i) := by
      rcases c4 hi with rfl | rfl | rfl | rfl <;> rfl
    rw [this]
    rcases d7 with h | ⟨q, q1, q2, _⟩
    · exact Or.inl h
    · exact Or.inr ⟨q, q1, q2⟩
  · intro i hi h0
    have e0 : r 7 g i = 0 := by
      rw [← h0]
      rcases c4 hi with rfl | rfl | rfl | rfl <;> rfl
    have hne : ∀ j, j < 4 → r 20 20 (4 * g + j) ≠ kI i := by
      intro j hj h
      rcases (b2 j hj).2.2.2.2.2.2 with h' | ⟨q, q1, q2, q3⟩
      · rw [h'] at h
        have := kI_nm1 (show i < 2147483648 by omega)
        rw [← h] at this
        simp at this
      · have : q = i := (kI_eq (by omega) (by omega)).mp (q2.symm.trans h)
        subst this
        rw [e0] at q3
        exact absurd q3 (by decide)
    have k0 := hne 0 (by omega)
    have k1 := hne 1 (by omega)
    have k2 := hne 2 (by omega)
    have k3 := hne 3 (by omega)
    simp only [mk_, g4]
    simp at k0
    simp [k0, k1, k2, k3]
theorem IG_sh {tm g : Nat} {r2 : RH} {me ho : Q4} (hk : hoK ho) (h01 : ∀ i, i < 4 → g4 me i = 0 ∨ g4 me i = 1) (h6 : r2 6 g 0 = r2 20 17 g) (h7 : ∀ m, m < 4 → r2 7 g m = g4 me m ∧ r2 20 18 (4 * g + m) = g4 me m) (h8 : ∀ m, m < 4 → r2 8 g m = r2 20 19 (4 * g + m) ∧ ∃ q, q ≤ tm ∧ r2 8 g m = kI q) (h9 : ∀ m, m < 4 → r2 9 g m = g4 (shC me (wof me ho)) m) (h10 : ∀ m, m < 4 → r2 10 g m = r2 20 21 (4 * g + m)) (h20 : ∀ m, m < 4 → r2 20 20 (4 * g + m) = g4 (shM me ho) m) : IG tm g (r2 6 g) (r2 7 g) (r2 8 g) (r2 9 g) (r2 10 g) (r2 20 17) (r2 20 18) (r2 20 19) (r2 20 20) (r2 20 21) := by
  obtain ⟨s1, s2⟩ := share_ok h01 hk
  refine ⟨h6, fun m hm => ⟨?_, ?_, (h8 m hm).1, (h8 m hm).2, ?_, h10 m hm, ?_⟩⟩
  · rw [(h7 m hm).1, (h7 m hm).2]
  · rw [(h7 m hm).1]
    exact h01 m hm
  · rw [h9 m hm, s1 m hm]
    unfold msk mk_
    rw [h20 0 (by omega), h20 1 (by omega), h20 2 (by omega), h20 3 (by omega)]
  · rw [h20 m hm]
    rcases s2 m hm with h | ⟨q, q1, q2, q3⟩
    · exact Or.inl h
    · exact Or.inr ⟨q, q1, q2, by rw [(h7 q q1).1]; exact q3⟩
theorem nar1 : vp_nar .boolean 1 = 1 := rfl
theorem nar0 : vp_nar .boolean 0 = 0 := rfl
theorem bz_01 {x : Int32} (h : x = 0 ∨ x = 1) : bz x = some () := by
  rcases h with rfl | rfl <;> rfl
theorem g4_me1 {me : Q4} {m : Nat} {x : Int32} (hm : m < 4) (hx : x = 0 ∨ x = 1) (h : ∀ i, i < 4 → g4 me i = 0 ∨ g4 me i = 1) : ∀ i, i < 4 → g4 (s4 me m x) i = 0 ∨ g4 (s4 me m x) i = 1 := by
  intro i hi
  rw [g4_s4 hm hi]
  by_cases e : i = m
  · rw [if_pos e]; exact hx
  · rw [if_neg e]; exact h i hi
theorem op_join (hT : T ≤ 512) (hI : INV bs sE.1 T r ed D z) (x1 x2 : Int32) : OPK bs sE.1 T old r ed o D z (fun h z => f_W_join bs sE h z (aB bs) x1 x2 (aOu bs)) (fun h z => f_M_join bs sE h z (aM bs) x1 x2) := by
  have hz := INV_RO (by omega) hI
  rcases rg 1 (by omega) x1 with ⟨g, hg1, rfl⟩ | hb
  · have hg : g < 2 := by omega
    rcases rg 3 (by omega) x2 with ⟨m, hm3, rfl⟩ | hb
    · have hm : m < 4 := by omega
      obtain ⟨h1, h2, tx, tm, h3, h4, h5, h6⟩ := id hI
      obtain ⟨q1, q2, q3, q4, q5, q6, q7⟩ := id h3
      obtain ⟨b1, b2⟩ := id (h5 g hg)
      obtain ⟨me, ho, G1, G2, G3⟩ := GF_of (h5 g hg)
      have d1 := b2 m hm
      by_cases e : r 7 g m = 0
      · have e18 : r 20 18 (4 * g + m) = 0 := by rw [← d1.1]; exact e
        have h01 := g4_me1 (x := 1) hm (Or.inr rfl) (fun i hi => (G1 i hi).2.2.1)
        have c7 : ∀ i, i < 4 → (up3 (up3 r 7 g m 1) 8 g m (kI tm)) 7 g i = g4 (s4 me m 1) i := by
          intro i hi
          rw [g4_s4 hm hi]
          by_cases ei : i = m
          · simp [up3, ei]
          · simp [up3, ei]
            exact (G1 i hi).1
        have c9 : ∀ i, i < 4 → (up3 (up3 r 7 g m 1) 8 g m (kI tm)) 9 g i = g4 (wof (s4 me m 1) ho) i := by
          intro i hi
          rw [g4_wof hi, g4_s4 hm hi]
          have : (up3 (up3 r 7 g m 1) 8 g m (kI tm)) 9 g i = mk_ ho i := by simp [up3]; exact (G1 i hi).2.2.2.2
          rw [this]
          by_cases ei : i = m
          · simp [ei]
          · simp only [if_neg ei]
            by_cases e0 : g4 me i = 0
            · rw [if_pos e0, G3 i hi e0]
            · rw [if_neg e0]
        have CS := G_share (old := old) (bs := bs) (ed := ed) (o := o) (D := D) (sE := sE) (z := z) hg c7 c9
        have MS : ∀ (r' : RH) (o : Int64), (∀ i, i < 4 → r' 20 18 (4 * g + i) = g4 (s4 me m 1) i) → (∀ i, i < 4 → r' 20 20 (4 * g + i) = g4 ho i) → _ := fun r' o a b => M_share (old := old) (bs := bs) (r := r') (ed := ed) (o := o) (D := D) (sE := sE) (z := z) hg G2 a b
        generalize hC : shC (s4 me m 1) (wof (s4 me m 1) ho) = C at CS
        generalize hA : (up3 (up3 r 7 g m 1) 8 g m (kI tm)) = rA at CS c7 c9
        have hAo : ∀ f m' i, ¬ (f = 7 ∧ m' = g) → ¬ (f = 8 ∧ m' = g) → rA f m' i = r f m' i := fun f m' i n1 n2 => by
          rw [← hA, up3_o (by omega), up3_o (by omega)]
        have hA6 : rA 6 g 0 = r 20 17 g := by rw [hAo 6 g 0 (by omega) (by omega)]; exact b1
        generalize hB : ur (up3 rA 6 g 0 (rA 6 g 0 + 1)) 9 g C = rB at CS
        have hBo : ∀ f m' i, ¬ (6 ≤ f ∧ f ≤ 9 ∧ m' = g) → rB f m' i = r f m' i := fun f m' i n1 => by
          rw [← hB, ur_o (by omega), up3_o (by omega), hAo f m' i (by omega) (by omega)]
        generalize hD : up3 (up3 (up3 rB 20 0 0 0) 20 18 (4 * g + m) 1) 20 19 (4 * g + m) (kI tm) = rD
        have hDo : ∀ f m' i, ¬ (f = 20 ∧ (m' = 0 ∨ m' = 18 ∨ m' = 19)) → rD f m' i = rB f m' i := fun f m' i n1 => by
          rw [← hD, up3_o (by omega), up3_o (by omega), up3_o (by omega)]
        have hD18 : ∀ i, i < 4 → rD 20 18 (4 * g + i) = g4 (s4 me m 1) i := by
          intro i hi
          rw [← hD, g4_s4 hm hi, up3_o (by omega)]
          by_cases ei : i = m
          · simp [up3, ei]
          · rw [up3_o (by omega), up3_o (by omega), hBo 20 18 _ (by omega), if_neg ei]
            exact (G1 i hi).2.1
        have hD20 : ∀ i, i < 4 → rD 20 20 (4 * g + i) = g4 ho i := by
          intro i hi
          rw [hDo 20 20 _ (by omega), hBo 20 20 _ (by omega)]
          exact (G1 i hi).2.2.2.1
        have hD17 : rD 20 17 g = r 20 17 g := by rw [hDo 20 17 g (by omega), hBo 20 17 g (by omega)]
        have MS := MS rD (r 20 17 g + 1).toInt64 hD18 hD20
        rw [hD17] at MS
        have hB6 : rB 6 g 0 = r 20 17 g + 1 := by rw [← hB, ur_o (by omega)]; simp [up3]; exact hA6
        refine ⟨0, r 20 17 g + 1, rB, ed, (r 20 17 g + 1).toInt64, D, z, uw (up3 rD 20 17 g (r 20 17 g + 1)) 20 g (shM (s4 me m 1) ho), ?_, ?_, ?_, by simp, ?_⟩
        · simp only [f_W_join, f_B_join, f_G_isMember, f_G_addMember, f_G_hear, req1 hg1, req3 hm3, cI_s, cI_x, cR_s, cR_x, cV_s, cV_x, cX_s, cX_x, bn_s, bz_0, bz_1, bz_b, bI_0, bI_1, oK_B, gR_B2, aR_Gs hg, oK_G hg, gR_G1 hg, gR_G2 hg, aI_Me hg hm, e, if_true, gI_B4, q5, nar1, aIs_Me hg hm, aIs_He hg hm, hA, CS, gI_G0 hg, hB6, aJs_Ou]
        · have m1 : (up3 rB 20 0 0 0) 20 18 (4 * g + m) = 0 := by rw [up3_o (by omega), hBo 20 18 _ (by omega)]; exact e18
          have m2 : (up3 (up3 rB 20 0 0 0) 20 18 (4 * g + m) 1) 20 22 0 = kI tm := by rw [up3_o (by omega), up3_o (by omega), hBo 20 22 0 (by omega)]; exact q6
          have m3 : (uw (up3 rD 20 17 g (r 20 17 g + 1)) 20 g (shM (s4 me m 1) ho)) 20 17 g = r 20 17 g + 1 := by rw [uw_o (by omega)]; simp [up3]
          simp only [f_M_join, ou1 hg1, ou3 hm3, cI_s, cI_x, cR_s, cR_x, cV_s, cV_x, cX_s, cX_x, bn_s, bz_0, bz_1, bz_b, bI_0, bI_1, pV_M0, oK_M, gR_M18, gR_M19, gR_M17, gI_M22, kI_4, kI_add, aI_MA18 (show 4 * g + m < 8 by omega), aIs_MA18 (show 4 * g + m < 8 by omega), aIs_MA (show marr 19 = true from rfl) (show 4 * g + m < msz 19 by simp [msz]; omega), m1, m2, if_true, nar1, hD, MS, aI_MA (show marr 17 = true from rfl) (show g < msz 17 by simp [msz, hg]), m3]
        · rw [uw_o (by omega), up3_o (by omega), ← hD]
          simp [up3]
        · have fr : ∀ f m' i, ¬ dG g f m' i → ¬ (f = 20 ∧ m' = 0) → (uw (up3 rD 20 17 g (r 20 17 g + 1)) 20 g (shM (s4 me m 1) ho)) f m' i = r f m' i := by
            intro f m' i n1 n2
            simp only [dG] at n1
            unfold uw
            rw [if_neg (by omega), up3_o (by omega), ← hD, up3_o (by omega), up3_o (by omega), up3_o (by omega), hBo f m' i (by omega)]
          refine INV_g hT ZR_rfl h1 h2 (IV0_fr (fun f m' i q => fr f m' i (by simp only [dZ] at q; simp only [dG]; omega) (by simp only [dZ] at q; omega)) h3) h4 h5 h6 hg (fun f m' i n1 _ n3 => fr f m' i n1 n3) ?_
          refine IG_sh (me := s4 me m 1) (ho := ho) G2 h01 ?_ (fun i hi => ⟨?_, ?_⟩) (fun i hi => ⟨?_, ?_⟩) (fun i hi => ?_) (fun i hi => ?_) (fun i hi => ?_)
          · rw [uw_o (by omega), uw_o (by omega), up3_o (by omega), hDo 6 g 0 (by omega), hB6]
            simp [up3]
          · rw [uw_o (by omega), up3_o (by omega), hDo 7 g i (by omega), ← hB, ur_o (by omega), up3_o (by omega)]
            exact c7 i hi
          · rw [uw_o (by omega), up3_o (by omega)]
            exact hD18 i hi
          · rw [uw_o (by omega), uw_o (by omega), up3_o (by omega), up3_o (by omega), hDo 8 g i (by omega), ← hB, ur_o (by omega), up3_o (by omega), ← hA, ← hD]
            by_cases ei : i = m
            · simp [up3, ei]
            · rw [up3_o (by omega), up3_o (by omega), up3_o (by omega), up3_o (by omega), up3_o (by omega), hBo 20 19 _ (by omega)]
              exact (b2 i hi).2.2.1
          · rw [uw_o (by omega), up3_o (by omega), hDo 8 g i (by omega), ← hB, ur_o (by omega), up3_o (by omega), ← hA]
            by_cases ei : i = m
            · exact ⟨tm, by omega, by simp [up3, ei]⟩
            · rw [up3_o (by omega), up3_o (by omega)]
              exact (b2 i hi).2.2.2.1
          · rw [uw_o (by omega), up3_o (by omega), hDo 9 g i (by omega), ← hB, ur_at hi, hC]
          · rw [uw_o (by omega), uw_o (by omega), up3_o (by omega), up3_o (by omega), hDo 10 g i (by omega), hDo 20 21 _ (by omega), hBo 10 g i (by omega), hBo 20 21 _ (by omega)]
            exact (b2 i hi).2.2.2.2.2.1
          · exact uw_at hi
      · have e18 : ¬ r 20 18 (4 * g + m) = 0 := by rw [← d1.1]; exact e
        have e1 : r 7 g m = 1 := d1.2.1.resolve_left e
        refine ⟨2, 0, r, ed, o, D, nZ z 6, up3 r 20 0 0 2, ?_, ?_, by simp [up3], by simp, INV_f ZR_6 hI⟩
        · simp [f_W_join, f_B_join, f_G_isMember, req1 hg1, req3 hm3, cI_s, cI_x, cR_s, cR_x, cV_s, cV_x, cX_s, cX_x, bn_s, bz_0, bz_1, bz_b, bI_0, bI_1, oK_B, gR_B2, aR_Gs, hg, oK_G, gR_G1, aI_Me, hm, e1, tO_r hz]
        · simp [f_M_join, ou1 hg1, ou3 hm3, cI_s, cI_x, cR_s, cR_x, cV_s, cV_x, cX_s, cX_x, bn_s, bz_0, bz_1, bz_b, bI_0, bI_1, pV_M0, oK_M, gR_M18, kI_4, kI_add, aI_MA18 (show 4 * g + m < 8 by omega), up3_r, e18, M_fail, up3_s]
    · refine ⟨1, 0, r, ed, o, D, nZ z 6, up3 r 20 0 0 1, ?_, ?_, by simp [up3], by simp, INV_f ZR_6 hI⟩
      · simp [f_W_join, f_B_join, req1 hg1, reb3 hz hb, cI_s, cI_x, cR_s, cR_x, cV_s, cV_x, cX_s, cX_x, bn_s, bz_0, bz_1, bz_b, bI_0, bI_1, oK_B]
      · simp [f_M_join, ou1 hg1, oub3 hb, M_fail, cI_s, cI_x, cR_s, cR_x, cV_s, cV_x, cX_s, cX_x, bn_s, bz_0, bz_1, bz_b, bI_0, bI_1, pV_M0, oK_M, up3_s]
  · refine ⟨1, 0, r, ed, o, D, nZ z 6, up3 r 20 0 0 1, ?_, ?_, by simp [up3], by simp, INV_f ZR_6 hI⟩
    · simp [f_W_join, f_B_join, reb1 hz hb, cI_s, cI_x, cR_s, cR_x, cV_s, cV_x, cX_s, cX_x, bn_s, bz_0, bz_1, bz_b, bI_0, bI_1, oK_B]
    · simp [f_M_join, oub1 hb, M_fail, cI_s, cI_x, cR_s, cR_x, cV_s, cV_x, cX_s, cX_x, bn_s, bz_0, bz_1, bz_b, bI_0, bI_1, pV_M0, oK_M, up3_s]
end GR1
