/-! tick -/
def zr (S : Nat → Bool) : Nat → Q4 → Nat → Q4
  | 0, me, _ => me
  | d + 1, me, i => zr S d (if S i = true then s4 me i 0 else me) (i + 1)
theorem zr_lt {S : Nat → Bool} : ∀ d me i j, i + d = 4 → j < i → g4 (zr S d me i) j = g4 me j
  | 0, me, i, j => fun _ _ => rfl
  | d + 1, me, i, j => fun h1 h2 => by
    unfold zr
    rw [zr_lt d _ (i + 1) j (by omega) (by omega)]
    split
    · rw [g4_s4 (by omega) (by omega), if_neg (by omega)]
    · rfl
theorem zr_at {S : Nat → Bool} : ∀ d me i j, i + d = 4 → i ≤ j → j < 4 → g4 (zr S d me i) j = if S j = true then 0 else g4 me j
  | 0, me, i, j => fun h1 h2 h3 => by omega
  | d + 1, me, i, j => fun h1 h2 h3 => by
    unfold zr
    by_cases e : j = i
    · subst e
      rw [zr_lt d _ (j + 1) j (by omega) (by omega)]
      by_cases h : S j = true
      · rw [if_pos h, if_pos h, g4_s4 h3 h3, if_pos rfl]
      · rw [if_neg h, if_neg h]
    · rw [zr_at d _ (i + 1) j (by omega) (by omega) h3]
      by_cases h : S i = true
      · rw [if_pos h, g4_s4 (by omega) h3, if_neg e]
      · rw [if_neg h]
theorem cnt_le {P : Nat → Bool} : ∀ d i, cnt P d i ≤ d
  | 0, i => by unfold cnt; omega
  | d + 1, i => by
    unfold cnt
    have := cnt_le (P := P) d (i + 1)
    split <;> omega
theorem cnt_0 {P : Nat → Bool} : ∀ d i, cnt P d i = 0 → ∀ j, i ≤ j → j < i + d → P j = false
  | 0, i => fun _ j h1 h2 => by omega
  | d + 1, i => fun h j h1 h2 => by
    unfold cnt at h
    by_cases e : j = i
    · subst e
      by_cases hp : P j = true
      · rw [if_pos hp] at h; omega
      · simpa using hp
    · exact cnt_0 d (i + 1) (by omega) j (by omega) (by omega)
theorem ur_c7 {r : RH} {g i : Nat} {w : Q4} {x : Int32} : up3 (ur r 9 g w) 7 g i x = ur (up3 r 7 g i x) 9 g w := by
  funext f m j
  simp only [up3, ur]
  by_cases h1 : f = 7 ∧ m = g ∧ j = i
  · rw [if_pos h1, if_neg (by omega), if_pos h1]
  · rw [if_neg h1, if_neg h1]
theorem ur_eq {r : RH} {f m : Nat} {w : Q4} (h : ∀ i, i < 4 → r f m i = g4 w i) : ur r f m w = r := by
  funext f' m' i
  unfold ur
  by_cases c : f' = f ∧ m' = m ∧ i < 4
  · rw [if_pos c, c.1, c.2.1, h i c.2.2]
  · rw [if_neg c]
theorem uw_eq {r : RH} {k g : Nat} {w : Q4} (h : ∀ i, i < 4 → r 20 k (4 * g + i) = g4 w i) : uw r k g w = r := by
  funext f' m' j
  unfold uw
  by_cases c : f' = 20 ∧ m' = k ∧ 4 * g ≤ j ∧ j < 4 * g + 4
  · rw [if_pos c]
    obtain ⟨rfl, rfl, h1, h2⟩ := c
    obtain ⟨i, hi, rfl⟩ : ∃ i, i < 4 ∧ j = 4 * g + i := ⟨j - 4 * g, by omega, by omega⟩
    rw [show 4 * g + i - 4 * g = i by omega, h i hi]
  · rw [if_neg c]
/-- a group after the silent members have gone -/
def gD (r : RH) (g : Nat) (me w : Q4) (c : Nat) : RH := if c = 0 then r else ur (up3 (ur (ur r 7 g me) 9 g w) 6 g 0 (r 6 g 0 + 1)) 9 g (shC me w)
def mD (r : RH) (g : Nat) (me ho : Q4) (c : Nat) : RH := if c = 0 then r else uw (up3 (uw r 18 g me) 20 17 g (r 20 17 g + 1)) 20 g (shM me ho)
def gE (r : RH) (g : Nat) (me w : Q4) (c : Nat) : RH := if c = 0 then ur (ur r 7 g me) 9 g w else ur (up3 (ur (ur r 7 g me) 9 g w) 6 g 0 (r 6 g 0 + 1)) 9 g (shC me w)
def sil (me : Q4) (hd : Nat → Nat) (t i : Nat) : Bool := decide (g4 me i ≠ 0 ∧ ¬ t < hd i + 20)
section TK1
variable {old : HH} {bs : Nat} {r : RH} {ed : Nat → Nat} {o : Int64} {D : HH} {sE : Nat × Nat} {z : Z3} {T : Nat}
theorem G_drop_L {g t : Nat} {me0 : Q4} {hd : Nat → Nat} (hg : g < 2) (ht : t < 100000) (h8 : ∀ i, i < 4 → r 8 g i = kI (hd i) ∧ hd i ≤ t) : ∀ (d fuel i c : Nat) (me w : Q4), i + d = 4 → d < fuel → c ≤ i → (∀ j, i ≤ j → j < 4 → g4 me j = g4 me0 j) → f_G_dropSilent_L4 bs sE fuel (HB old bs (ur (ur r 7 g me) 9 g w) ed o D) z (aG bs g) (kI t) (kI c) (kI i) = some (.inl (some (.int (kI (c + cnt (sil me0 hd t) d i)))), HB old bs (gE r g (zr (sil me0 hd t) d me i) (zr (sil me0 hd t) d w i) (c + cnt (sil me0 hd t) d i)) ed o D, z) := by
  intro d
  induction d with
  | zero =>
    intro fuel i c me w hi hf hc hme
    obtain ⟨f, rfl⟩ : ∃ f, fuel = f + 1 := ⟨fuel - 1, by omega⟩
    simp only [f_G_dropSilent_L4, fb_G_dropSilent_L4, if_pos (k4l (show 4 ≤ i by omega) (by omega)), cnt, zr, Nat.add_zero]
    by_cases e : c = 0
    · subst e
      rw [if_pos (show kI 0 ≤ 0 by decide), gE, if_pos rfl]
    · have e1 : ¬ kI c ≤ 0 := fun q => by have := (kI_le (b := 0) (by omega) (by omega)).mp q; omega
      rw [if_neg e1, gE, if_neg e]
      have hsh := G_share (old := old) (bs := bs) (r := ur (ur r 7 g me) 9 g w) (ed := ed) (o := o) (D := D) (sE := sE) (z := z) (me := me) (w := w) hg (fun i hi => by rw [ur_o (by omega), ur_at hi]) (fun i hi => ur_at hi)
      rw [ur_o (show ¬ (6 = 9 ∧ g = g) by omega), ur_o (show ¬ (6 = 7 ∧ g = g) by omega)] at hsh
      simp only [oK_G hg, bn_s, hsh, cV_s]
  | succ d ih =>
    intro fuel i c me w hi hf hc hme
    obtain ⟨f, rfl⟩ : ∃ f, fuel = f + 1 := ⟨fuel - 1, by omega⟩
    have hi4 : i < 4 := by omega
    obtain ⟨h81, h82⟩ := h8 i hi4
    have e7 : (ur (ur r 7 g me) 9 g w) 7 g i = g4 me0 i := by rw [ur_o (by omega), ur_at hi4]; exact hme i (by omega) hi4
    have e8 : (ur (ur r 7 g me) 9 g w) 8 g i = kI (hd i) := by rw [ur_o (by omega), ur_o (by omega)]; exact h81
    have i1 := ih f (i + 1) c me w (by omega) (by omega) (by omega) (fun j h1 h2 => hme j (by omega) h2)
    have i2 := ih f (i + 1) (c + 1) (s4 me i 0) (s4 w i 0) (by omega) (by omega) (by omega) (fun j h1 h2 => by rw [g4_s4 hi4 h2, if_neg (by omega)]; exact hme j (by omega) h2)
    have lt20 : (kI t - kI (hd i) < 20) ↔ t < hd i + 20 := by
      rw [kI_sub h82]
      rw [show (20 : Int32) = kI 20 from rfl, kI_lt (by omega) (by omega)]
      omega
    simp only [f_G_dropSilent_L4, fb_G_dropSilent_L4, if_neg (k4n hi4), gR_G1 hg, gR_G2 hg, gR_G3 hg, aI_Me hg hi4, aI_He hg hi4, e7, e8, bn_s, lt20, oK_G hg, f_G_removeMember, nar0, aIs_Me hg hi4, ur_c7, ur_up hi4, aIs_Ow hg hi4, cV_s, kI_add1, i1, i2, cnt, zr]
    by_cases s0 : g4 me0 i = 0
    · have hs : sil me0 hd t i = false := by simp [sil, s0]
      simp [s0, hs]
    · by_cases s1 : t < hd i + 20
      · have hs : sil me0 hd t i = false := by simp [sil, s1]
        simp [s0, s1, hs]
      · have hs : sil me0 hd t i = true := by simp [sil, s0, s1]
        have e : ∀ k, c + (1 + k) = c + 1 + k := fun k => by omega
        simp only [if_neg s0, if_neg s1, hs, if_true, e]
theorem G_drop {g t : Nat} {me w : Q4} {hd : Nat → Nat} (hg : g < 2) (ht : t < 100000) (hm : ∀ i, i < 4 → r 7 g i = g4 me i) (hw : ∀ i, i < 4 → r 9 g i = g4 w i) (h8 : ∀ i, i < 4 → r 8 g i = kI (hd i) ∧ hd i ≤ t) : f_G_dropSilent bs sE (HB old bs r ed o D) z (aG bs g) (kI t) = some (.inl (some (.int (kI (cnt (sil me hd t) 4 0)))), HB old bs (gD r g (zr (sil me hd t) 4 me 0) (zr (sil me hd t) 4 w 0) (cnt (sil me hd t) 4 0)) ed o D, z) := by
  have hu : ur (ur r 7 g me) 9 g w = r := by
    rw [ur_eq (r := r) hm]
    exact ur_eq hw
  have := G_drop_L (old := old) (bs := bs) (ed := ed) (o := o) (D := D) (sE := sE) (z := z) (me0 := me) (hd := hd) hg ht h8 4 FU 0 0 me w (by omega) (by show _ < 1000; omega) (by omega) (fun _ _ _ => rfl)
  rw [hu] at this
  rw [Nat.zero_add] at this
  refine Eq.trans this ?_
  unfold gD gE
  by_cases c : cnt (sil me hd t) 4 0 = 0
  · rw [if_pos c, if_pos c]
    have h0 : ∀ j, j < 4 → sil me hd t j = false := fun j hj => cnt_0 4 0 c j (by omega) (by omega)
    rw [ur_eq (r := r) (f := 7) (m := g) (fun i hi => by rw [zr_at 4 me 0 i (by omega) (by omega) hi, h0 i hi]; exact hm i hi), ur_eq (fun i hi => by rw [zr_at 4 w 0 i (by omega) (by omega) hi, h0 i hi]; exact hw i hi)]
  · rw [if_neg c, if_neg c]
theorem M_drop_L {g t : Nat} {me0 : Q4} {hd : Nat → Nat} {x2 : Int32} {K : HH → Z3 → Nat → Int32 → Int32 → Int32 → Option RS} (hg : g < 2) (ht : t < 100000) (h22 : r 20 22 0 = kI t) (h19 : ∀ i, i < 4 → r 20 19 (4 * g + i) = kI (hd i) ∧ hd i ≤ t) : ∀ (d fuel i c : Nat) (me : Q4), i + d = 4 → d < fuel → (∀ j, i ≤ j → j < 4 → g4 me j = g4 me0 j) → f_M_tick_L95 bs sE K fuel (HB old bs (uw r 18 g me) ed o D) z (aM bs) x2 (kI g) (kI c) (kI (4 * g + i)) = K (HB old bs (uw r 18 g (zr (sil me0 hd t) d me i)) ed o D) z (aM bs) x2 (kI g) (kI (c + cnt (sil me0 hd t) d i)) := by
  intro d
  induction d with
  | zero =>
    intro fuel i c me hi hf hme
    obtain ⟨f, rfl⟩ : ∃ f, fuel = f + 1 := ⟨fuel - 1, by omega⟩
    have c1 : kI (4 * g + 4) ≤ kI (4 * g + i) := (kI_le (by omega) (by omega)).mpr (by omega)
    simp only [f_M_tick_L95, fb_M_tick_L95, kI_4, kI_add4, if_pos c1, cnt, zr, Nat.add_zero]
  | succ d ih =>
    intro fuel i c me hi hf hme
    obtain ⟨f, rfl⟩ : ∃ f, fuel = f + 1 := ⟨fuel - 1, by omega⟩
    have hi4 : i < 4 := by omega
    obtain ⟨h81, h82⟩ := h19 i hi4
    have c1 : ¬ kI (4 * g + 4) ≤ kI (4 * g + i) := by rw [kI_le (by omega) (by omega)]; omega
    have e7 : (uw r 18 g me) 20 18 (4 * g + i) = g4 me0 i := by rw [uw_at hi4]; exact hme i (by omega) hi4
    have e8 : (uw r 18 g me) 20 19 (4 * g + i) = kI (hd i) := by rw [uw_o (by omega)]; exact h81
    have e22 : (uw r 18 g me) 20 22 0 = kI t := by rw [uw_o (by omega)]; exact h22
    have i1 := ih f (i + 1) c me (by omega) (by omega) (fun j h1 h2 => hme j (by omega) h2)
    have i2 := ih f (i + 1) (c + 1) (s4 me i 0) (by omega) (by omega) (fun j h1 h2 => by rw [g4_s4 hi4 h2, if_neg (by omega)]; exact hme j (by omega) h2)
    have lt20 : (kI t < kI (hd i) + 20) ↔ t < hd i + 20 := by
      rw [show (20 : Int32) = kI 20 from rfl, kI_add, kI_lt (by omega) (by omega)]
    rw [show 4 * g + (i + 1) = 4 * g + i + 1 by omega] at i1 i2
    simp only [f_M_tick_L95, fb_M_tick_L95, kI_4, kI_add4, if_neg c1, gR_M18, gR_M19, gI_M22, aI_MA18 (show 4 * g + i < 8 by omega), aI_MA (show marr 19 = true from rfl) (show 4 * g + i < msz 19 by simp [msz]; omega), aIs_MA18 (show 4 * g + i < 8 by omega), e7, e8, e22, bn_s, lt20, nar0, uw_up hi4, kI_add1, i1, i2, cnt, zr]
    by_cases s0 : g4 me0 i = 0
    · have hs : sil me0 hd t i = false := by simp [sil, s0]
      simp [s0, hs]
    · by_cases s1 : t < hd i + 20
      · have hs : sil me0 hd t i = false := by simp [sil, s1]
        simp [s0, s1, hs]
      · have hs : sil me0 hd t i = true := by simp [sil, s0, s1]
        have e : ∀ k, c + (1 + k) = c + 1 + k := fun k => by omega
        simp only [if_neg s0, if_neg s1, hs, if_true, e]
end TK1
