/-! step -/
def OPD (bs s1 T : Nat) (old : HH) (r : RH) (ed : Nat → Nat) (o : Int64) (D : HH) (z : Z3) (W M : HH → Z3 → Option RS) : Prop :=
  ∃ (v : Int32) (r1 : RH) (ed1 : Nat → Nat) (D1 : HH) (z1 : Z3) (r2 : RH), W (HB old bs r ed o D) z = some (.inl (some (.int v)), HB old bs r1 ed1 o D1, z1) ∧ M (HB old bs r1 ed1 o D1) z1 = some (.inl (some (.int v)), HB old bs r2 ed1 o D1, z1) ∧ INV bs s1 (T + 1) r2 ed1 D1 z1
def bt (k p : Nat) : Bool := decide (((kI k >>> (kI p &&& 31)) &&& 1) ≠ 0)
theorem untouch_ok {k p : Nat} (hk : k < 16) (hp : p < 4) (hb : bt k p = true) : ∃ k', k' < 16 ∧ (kI k &&& ((1 <<< (kI p &&& 31)) ^^^ (-1))) = kI k' ∧ kI k - (1 <<< (kI p &&& 31)) = kI k' := by
  have : ∀ k, k < 16 → ∀ p, p < 4 → bt k p = true → ∃ k', k' < 16 ∧ (kI k &&& ((1 <<< (kI p &&& 31)) ^^^ (-1))) = kI k' ∧ kI k - (1 <<< (kI p &&& 31)) = kI k' := by decide +kernel
  exact this k hk p hp hb
/-- pending offsets become committed ones -/
def cw (r : RH) (w g p : Nat) : RH := fun f m i => if f = 10 ∧ m = g ∧ p ≤ i ∧ i < 4 ∧ r 5 w (g * 4 + i) ≠ -1 then r 5 w (g * 4 + i) else r f m i
def cmM (r : RH) (w i : Nat) : RH := fun f m j => if f = 20 ∧ m = 21 ∧ i ≤ j ∧ j < 8 ∧ r 20 10 w = 2 ∧ ¬ r 20 15 (8 * w + j) < 0 then r 20 15 (8 * w + j) else r f m j
section OPT
variable {old : HH} {bs : Nat} {r : RH} {ed : Nat → Nat} {o : Int64} {D : HH} {sE : Nat × Nat} {z : Z3} {T : Nat}
theorem B_has {h : HH} {x y : Int32} : f_B_has bs sE h z x y = some (.inl (some (.int (bI (decide (((x >>> (y &&& 31)) &&& 1) ≠ 0))))), h, z) := by
  unfold f_B_has
  by_cases c : ((x >>> (y &&& 31)) &&& 1) = 0 <;> simp [c, cI_s, cI_x, cR_s, cR_x, cV_s, cV_x, cX_s, cX_x, bn_s, bz_0, bz_1, bz_b, bI_0, bI_1, bI]
theorem cP_L {w g : Nat} (hw : w < 4) (hg : g < 2) : ∀ (d fuel p : Nat) (r : RH), p + d = 4 → d < fuel → f_P_commitPending_L2 bs sE fuel (HB old bs r ed o D) z (aP bs w) (kI g) (aCo bs g) (kI p) = some (.inl none, HB old bs (cw r w g p) ed o D, z) := by
  intro d
  induction d with
  | zero =>
    intro fuel p r hp hf
    obtain ⟨f, rfl⟩ : ∃ f, fuel = f + 1 := ⟨fuel - 1, by omega⟩
    have c : (4 : Int32) ≤ kI p := (kI_le (a := 4) (by omega) (by omega)).mpr (by omega)
    have e : cw r w g p = r := by
      funext f m i
      unfold cw
      rw [if_neg (by omega)]
    simp only [f_P_commitPending_L2, fb_P_commitPending_L2, if_pos c, e]
  | succ d ih =>
    intro fuel p r hp hf
    obtain ⟨f, rfl⟩ : ∃ f, fuel = f + 1 := ⟨fuel - 1, by omega⟩
    have c : ¬ (4 : Int32) ≤ kI p := fun h => by have := (kI_le (a := 4) (by omega) (by omega)).mp h; omega
    simp only [f_P_commitPending_L2, fb_P_commitPending_L2, if_neg c, gR_P6 hw, kI_m4, kI_add, aI_Pe hw (show g * 4 + p < 8 by omega), bn_s, kI_add1]
    by_cases e : r 5 w (g * 4 + p) = -1
    · rw [if_pos e, ih f (p + 1) r (by omega) (by omega)]
      congr 3
      congr 1
      funext f m i
      unfold cw
      by_cases c1 : f = 10 ∧ m = g ∧ p + 1 ≤ i ∧ i < 4 ∧ r 5 w (g * 4 + i) ≠ -1
      · rw [if_pos c1, if_pos ⟨c1.1, c1.2.1, by omega, c1.2.2.2⟩]
      · rw [if_neg c1, if_neg]
        rintro ⟨d1, d2, d3, d4, d5⟩
        by_cases ei : i = p
        · subst ei; exact d5 e
        · exact c1 ⟨d1, d2, by omega, d4, d5⟩
    · rw [if_neg e]
      simp only [aIs_Co hg (show p < 4 by omega), bn_s]
      rw [ih f (p + 1) _ (by omega) (by omega)]
      congr 3
      congr 1
      funext f m i
      unfold cw
      have q : ∀ j, up3 r 10 g p (r 5 w (g * 4 + p)) 5 w j = r 5 w j := fun j => by simp [up3]
      simp only [q]
      by_cases c1 : f = 10 ∧ m = g ∧ p + 1 ≤ i ∧ i < 4 ∧ r 5 w (g * 4 + i) ≠ -1
      · rw [if_pos c1, if_pos ⟨c1.1, c1.2.1, by omega, c1.2.2.2⟩]
      · rw [if_neg c1]
        by_cases c2 : f = 10 ∧ m = g ∧ i = p
        · obtain ⟨rfl, rfl, rfl⟩ := c2
          rw [if_pos ⟨rfl, rfl, by omega, by omega, e⟩]
          simp [up3]
        · rw [if_neg]
          · unfold up3
            rw [if_neg c2]
          · rintro ⟨d1, d2, d3, d4, d5⟩
            by_cases ei : i = p
            · exact c2 ⟨d1, d2, ei⟩
            · exact c1 ⟨d1, d2, by omega, d4, d5⟩
theorem B_end {w : Nat} (hw : w < 4) : f_B_endTransaction bs sE (HB old bs r ed o D) z (aB bs) (aP bs w) = some (.inl none, HB old bs (fw (up3 (up3 (if r 4 w 1 = 2 then cw (cw r w 0 0) w 1 0 else r) 4 w 1 0) 4 w 3 0) 5 w 0 8 (-1)) ed o D, z) := by
  simp only [f_B_endTransaction, oK_P hw, cI_s, cI_x, cR_s, cR_x, cV_s, cV_x, cX_s, cX_x, bn_s, bz_0, bz_1, bz_b, bI_0, bI_1, P_isCommitting hw]
  by_cases e : r 4 w 1 = 2
  · obtain ⟨m, hm⟩ := FUn 2 (by omega)
    have k := fun (g : Nat) (hg : g < 2) (r : RH) => cP_L (old := old) (bs := bs) (ed := ed) (o := o) (D := D) (sE := sE) (z := z) hw hg 4 FU 0 r (by omega) (by show _ < 1000; omega)
    have k0 := k 0 (by omega) r
    have k1 := k 1 (by omega) (cw r w 0 0)
    have a0 := fun (r : RH) => aR_Gs (old := old) (bs := bs) (r := r) (ed := ed) (o := o) (D := D) (i := 0) (by omega)
    have a1 := fun (r : RH) => aR_Gs (old := old) (bs := bs) (r := r) (ed := ed) (o := o) (D := D) (i := 1) (by omega)
    rw [show kI 0 = 0 from rfl] at k0 k1 a0
    rw [show kI 1 = 1 from rfl] at k1 a1
    rw [show f_B_endTransaction_L9 bs sE FU = f_B_endTransaction_L9 bs sE (m + 2 + 1) by rw [← hm]]
    simp [f_B_endTransaction_L9, fb_B_endTransaction_L9, f_P_commitPending, e, gR_B2, a0, a1, gR_G4, k0, k1, oK_P hw, cI_s, cI_x, cR_s, cR_x, cV_s, cV_x, cX_s, cX_x, bn_s, bz_0, bz_1, bz_b, bI_0, bI_1, P_becomeIdle hw, show ¬ (2 : Int32) ≤ 0 by decide, show ¬ (2 : Int32) ≤ 1 by decide]
  · simp only [decide_eq_false e, if_true, if_neg e, P_becomeIdle hw, cV_s]
theorem M_end_L {w : Nat} (hw : w < 4) : ∀ (d fuel i : Nat) (r : RH), i + d = 8 → d < fuel → f_M_stepOf_L11 bs sE fuel (HB old bs r ed o D) z (aM bs) (kI w) (kI i) = some (.inl (some (.int 3)), HB old bs (up3 (cmM r w i) 20 10 w 0) ed o D, z) := by
  intro d
  induction d with
  | zero =>
    intro fuel i r hi hf
    obtain ⟨f, rfl⟩ : ∃ f, fuel = f + 1 := ⟨fuel - 1, by omega⟩
    have c : (8 : Int32) ≤ kI i := (kI_le (a := 8) (by omega) (by omega)).mpr (by omega)
    have e : cmM r w i = r := by
      funext f m i
      unfold cmM
      rw [if_neg (by omega)]
    simp only [f_M_stepOf_L11, fb_M_stepOf_L11, if_pos c, e, gR_M10, aIs_MA (show marr 10 = true from rfl) (show w < msz 10 by simp [msz, hw]), bn_s]
  | succ d ih =>
    intro fuel i r hi hf
    obtain ⟨f, rfl⟩ : ∃ f, fuel = f + 1 := ⟨fuel - 1, by omega⟩
    have c : ¬ (8 : Int32) ≤ kI i := fun h => by have := (kI_le (a := 8) (by omega) (by omega)).mp h; omega
    simp only [f_M_stepOf_L11, fb_M_stepOf_L11, if_neg c, gR_M10, gR_M15, gR_M21, aI_MA (show marr 10 = true from rfl) (show w < msz 10 by simp [msz, hw]), kI_8, kI_add, aI_MA (show marr 15 = true from rfl) (show 8 * w + i < msz 15 by simp [msz]; omega), aIs_MA (show marr 21 = true from rfl) (show i < msz 21 by simp [msz]; omega), bn_s, kI_add1]
    have skip : ¬ (r 20 10 w = 2 ∧ ¬ r 20 15 (8 * w + i) < 0) → cmM r w (i + 1) = cmM r w i := by
      intro hn
      funext f m j
      unfold cmM
      by_cases c1 : f = 20 ∧ m = 21 ∧ i + 1 ≤ j ∧ j < 8 ∧ r 20 10 w = 2 ∧ ¬ r 20 15 (8 * w + j) < 0
      · rw [if_pos c1, if_pos ⟨c1.1, c1.2.1, by omega, c1.2.2.2⟩]
      · rw [if_neg c1, if_neg]
        rintro ⟨d1, d2, d3, d4, d5⟩
        by_cases ei : j = i
        · subst ei; exact hn d5
        · exact c1 ⟨d1, d2, by omega, d4, d5⟩
    by_cases e : r 20 10 w = 2
    · rw [if_pos e]
      by_cases e2 : r 20 15 (8 * w + i) < 0
      · rw [if_pos e2, ih f (i + 1) r (by omega) (by omega), skip (fun h => h.2 e2)]
      · rw [if_neg e2, ih f (i + 1) _ (by omega) (by omega)]
        congr 3
        congr 1
        congr 1
        funext f m j
        unfold cmM
        have q15 : ∀ j, up3 r 20 21 i (r 20 15 (8 * w + i)) 20 15 j = r 20 15 j := fun j => by simp [up3]
        have q10 : up3 r 20 21 i (r 20 15 (8 * w + i)) 20 10 w = r 20 10 w := by simp [up3]
        simp only [q15, q10]
        by_cases c1 : f = 20 ∧ m = 21 ∧ i + 1 ≤ j ∧ j < 8 ∧ r 20 10 w = 2 ∧ ¬ r 20 15 (8 * w + j) < 0
        · rw [if_pos c1, if_pos ⟨c1.1, c1.2.1, by omega, c1.2.2.2⟩]
        · rw [if_neg c1]
          by_cases c2 : f = 20 ∧ m = 21 ∧ j = i
          · obtain ⟨rfl, rfl, rfl⟩ := c2
            rw [if_pos ⟨rfl, rfl, by omega, by omega, e, e2⟩]
            simp [up3]
          · rw [if_neg]
            · unfold up3
              rw [if_neg c2]
            · rintro ⟨d1, d2, d3, d4, d5⟩
              by_cases ei : j = i
              · exact c2 ⟨d1, d2, ei⟩
              · exact c1 ⟨d1, d2, by omega, d4, d5⟩
    · rw [if_neg e, ih f (i + 1) r (by omega) (by omega), skip (fun h => e h.1)]
end OPT
