def pf (r : RH) (E : Nat → Bool) (i : Nat) : RH := fun f m j => if f = 4 ∧ i ≤ m ∧ m < 4 ∧ E m = true ∧ j = 2 then r 4 m 2 + 1 else if f = 4 ∧ i ≤ m ∧ m < 4 ∧ E m = true ∧ j = 1 then 3 else r f m j
def pfM (r : RH) (E : Nat → Bool) (i : Nat) : RH := fun f m j => if f = 20 ∧ m = 11 ∧ i ≤ j ∧ j < 4 ∧ E j = true then r 20 11 j + 1 else if f = 20 ∧ m = 10 ∧ i ≤ j ∧ j < 4 ∧ E j = true then 3 else r f m j
theorem pf_4 {r : RH} {E : Nat → Bool} : pf r E 4 = r := by
  funext f m j
  unfold pf
  rw [if_neg (by omega), if_neg (by omega)]
theorem pfM_4 {r : RH} {E : Nat → Bool} : pfM r E 4 = r := by
  funext f m j
  unfold pfM
  rw [if_neg (by omega), if_neg (by omega)]
theorem pf_n {r : RH} {E : Nat → Bool} {i : Nat} (h : E i = false) : pf r E (i + 1) = pf r E i := by
  funext f m j
  unfold pf
  have k : ∀ x, (f = 4 ∧ i + 1 ≤ m ∧ m < 4 ∧ E m = true ∧ j = x) ↔ (f = 4 ∧ i ≤ m ∧ m < 4 ∧ E m = true ∧ j = x) := fun x => by
    constructor
    · rintro ⟨a, b, c, d, e⟩; exact ⟨a, by omega, c, d, e⟩
    · rintro ⟨a, b, c, d, e⟩
      by_cases q : m = i
      · subst q; rw [h] at d; cases d
      · exact ⟨a, by omega, c, d, e⟩
  simp only [k]
theorem pf_y {r : RH} {E : Nat → Bool} {i : Nat} (hi : i < 4) (h : E i = true) : pf (up3 (up3 r 4 i 2 (r 4 i 2 + 1)) 4 i 1 3) E (i + 1) = pf r E i := by
  funext f m j
  simp only [pf, up3]
  by_cases q : f = 4 ∧ m = i
  · obtain ⟨rfl, rfl⟩ := q
    rw [if_neg (by omega), if_neg (by omega)]
    by_cases j2 : j = 2
    · subst j2
      simp [hi, h]
    · by_cases j1 : j = 1
      · subst j1
        simp [hi, h]
      · simp [j1, j2]
  · have k : ∀ x, (f = 4 ∧ i + 1 ≤ m ∧ m < 4 ∧ E m = true ∧ j = x) ↔ (f = 4 ∧ i ≤ m ∧ m < 4 ∧ E m = true ∧ j = x) := fun x => by
      constructor
      · rintro ⟨a, b, c, d, e⟩; exact ⟨a, by omega, c, d, e⟩
      · rintro ⟨a, b, c, d, e⟩
        exact ⟨a, by omega, c, d, e⟩
    simp only [k]
    by_cases c1 : f = 4 ∧ i ≤ m ∧ m < 4 ∧ E m = true ∧ j = 2
    · rw [if_pos c1, if_pos c1, if_neg (by omega), if_neg (by omega)]
    · rw [if_neg c1, if_neg c1]
      by_cases c2 : f = 4 ∧ i ≤ m ∧ m < 4 ∧ E m = true ∧ j = 1
      · rw [if_pos c2, if_pos c2]
      · rw [if_neg c2, if_neg c2, if_neg (by omega), if_neg (by omega)]
theorem pfM_n {r : RH} {E : Nat → Bool} {i : Nat} (h : E i = false) : pfM r E (i + 1) = pfM r E i := by
  funext f m j
  unfold pfM
  have k : ∀ x, (f = 20 ∧ m = x ∧ i + 1 ≤ j ∧ j < 4 ∧ E j = true) ↔ (f = 20 ∧ m = x ∧ i ≤ j ∧ j < 4 ∧ E j = true) := fun x => by
    constructor
    · rintro ⟨a, b, c, d, e⟩; exact ⟨a, b, by omega, d, e⟩
    · rintro ⟨a, b, c, d, e⟩
      by_cases q : j = i
      · subst q; rw [h] at e; cases e
      · exact ⟨a, b, by omega, d, e⟩
  simp only [k]
theorem pfM_y {r : RH} {E : Nat → Bool} {i : Nat} (hi : i < 4) (h : E i = true) : pfM (up3 (up3 r 20 11 i (r 20 11 i + 1)) 20 10 i 3) E (i + 1) = pfM r E i := by
  funext f m j
  simp only [pfM, up3]
  by_cases q : f = 20 ∧ (m = 10 ∨ m = 11) ∧ j = i
  · obtain ⟨rfl, q1, rfl⟩ := q
    rw [if_neg (by omega), if_neg (by omega)]
    rcases q1 with rfl | rfl
    · simp [hi, h]
    · simp [hi, h]
  · by_cases c1 : f = 20 ∧ m = 11 ∧ i ≤ j ∧ j < 4 ∧ E j = true
    · rw [if_pos c1, if_pos ⟨c1.1, c1.2.1, by omega, c1.2.2.2⟩, if_neg (by omega), if_neg (by omega)]
    · rw [if_neg c1, if_neg (fun k => c1 ⟨k.1, k.2.1, by omega, k.2.2.2⟩)]
      by_cases c2 : f = 20 ∧ m = 10 ∧ i ≤ j ∧ j < 4 ∧ E j = true
      · rw [if_pos c2, if_pos ⟨c2.1, c2.2.1, by omega, c2.2.2.2⟩]
      · rw [if_neg c2, if_neg (fun k => c2 ⟨k.1, k.2.1, by omega, k.2.2.2⟩), if_neg (by omega), if_neg (by omega)]
theorem pf_o {r : RH} {E : Nat → Bool} {i f m j : Nat} (h : ¬ (f = 4 ∧ m < 4 ∧ (j = 1 ∨ j = 2))) : pf r E i f m j = r f m j := by
  unfold pf
  rw [if_neg (fun q => h ⟨q.1, q.2.2.1, Or.inr q.2.2.2.2⟩), if_neg (fun q => h ⟨q.1, q.2.2.1, Or.inl q.2.2.2.2⟩)]
theorem pfM_o {r : RH} {E : Nat → Bool} {i f m j : Nat} (h : ¬ (f = 20 ∧ (m = 10 ∨ m = 11))) : pfM r E i f m j = r f m j := by
  unfold pfM
  rw [if_neg (fun q => h ⟨q.1, Or.inr q.2.1⟩), if_neg (fun q => h ⟨q.1, Or.inl q.2.1⟩)]
theorem gD_o {r : RH} {g c f m i : Nat} {me w : Q4} (h : ¬ (6 ≤ f ∧ f ≤ 9 ∧ m = g)) : gD r g me w c f m i = r f m i := by
  unfold gD
  split
  · rfl
  · rw [ur_o (by omega), up3_o (by omega), ur_o (by omega), ur_o (by omega)]
theorem mD_o {r : RH} {g c f m i : Nat} {me w : Q4} (h : ¬ (f = 20 ∧ ((m = 17 ∧ i = g) ∨ ((m = 18 ∨ m = 20) ∧ 4 * g ≤ i ∧ i < 4 * g + 4)))) : mD r g me w c f m i = r f m i := by
  unfold mD
  split
  · rfl
  · unfold uw
    rw [if_neg (by omega), up3_o (by omega), if_neg (by omega)]
def xp (st : Nat → Int32) (bg : Nat → Nat) (t n : Nat) : Bool := decide (st n = 1 ∧ ¬ t < bg n + 30)
section TK2
variable {old : HH} {bs : Nat} {r : RH} {ed : Nat → Nat} {o : Int64} {D : HH} {sE : Nat × Nat} {z : Z3} {T : Nat}
theorem B_tick_L {t : Nat} {st : Nat → Int32} {bg : Nat → Nat} (ht : t < 100000) (hb : ∀ n, n < 4 → bg n ≤ t) : ∀ (d fuel i c : Nat) (r : RH), i + d = 4 → d < fuel → r 0 0 4 = kI t → (∀ n, i ≤ n → n < 4 → r 4 n 1 = st n ∧ r 4 n 4 = kI (bg n)) → f_B_tick_L21 bs sE fuel (HB old bs r ed o D) z (aB bs) (kI c) (kI i) = f_B_tick_L73 bs sE FU (HB old bs (pf r (xp st bg t) i) ed o D) z (aB bs) (kI (c + cnt (xp st bg t) d i)) 0 := by
  intro d
  induction d with
  | zero =>
    intro fuel i c r hi hf h04 hr
    obtain ⟨f, rfl⟩ : ∃ f, fuel = f + 1 := ⟨fuel - 1, by omega⟩
    obtain rfl : i = 4 := by omega
    simp only [f_B_tick_L21, fb_B_tick_L21, if_pos (k4l (show 4 ≤ 4 by omega) (by omega)), pf_4, cnt, Nat.add_zero]
  | succ d ih =>
    intro fuel i c r hi hf h04 hr
    obtain ⟨f, rfl⟩ : ∃ f, fuel = f + 1 := ⟨fuel - 1, by omega⟩
    have hi4 : i < 4 := by omega
    obtain ⟨e1, e4⟩ := hr i (by omega) hi4
    have i1 := ih f (i + 1) c r (by omega) (by omega) h04 (fun n h1 h2 => hr n (by omega) h2)
    have i2 := ih f (i + 1) (c + 1) (up3 (up3 r 4 i 2 (r 4 i 2 + 1)) 4 i 1 3) (by omega) (by omega) (by simp [up3]; exact h04) (fun n h1 h2 => by
      have := hr n (by omega) h2
      rw [up3_o (by omega), up3_o (by omega), up3_o (by omega), up3_o (by omega)]
      exact this)
    have lt30 : (kI t - kI (bg i) < 30) ↔ t < bg i + 30 := by
      have := hb i hi4
      rw [kI_sub (hb i hi4), show (30 : Int32) = kI 30 from rfl, kI_lt (by omega) (by omega)]
      omega
    simp only [f_B_tick_L21, fb_B_tick_L21, if_neg (k4n hi4), gR_B1, aR_Ps hi4, oK_P hi4, P_isOpen hi4, e1, cI_s, cI_x, cR_s, cR_x, cV_s, cV_x, cX_s, cX_x, bn_s, bz_0, bz_1, bz_b, bI_0, bI_1, gI_B4, h04, gI_P4 hi4, e4, lt30, P_fence hi4, kI_add1, i1, i2, cnt]
    by_cases s0 : st i = 1
    · by_cases s1 : t < bg i + 30
      · have hs : xp st bg t i = false := by simp [xp, s1]
        simp [s0, s1, hs, pf_n hs]
      · have hs : xp st bg t i = true := by simp [xp, s0, s1]
        have e : ∀ k, c + (1 + k) = c + 1 + k := fun k => by omega
        simp only [s0, decide_true, Bool.true_eq_false, if_false, if_neg s1, hs, if_true, e, pf_y hi4 hs]
    · have hs : xp st bg t i = false := by simp [xp, s0]
      simp [s0, hs, pf_n hs]
theorem M_tick_L {t : Nat} {st : Nat → Int32} {bg : Nat → Nat} (ht : t < 100000) (hb : ∀ n, n < 4 → bg n ≤ t) : ∀ (d fuel i c : Nat) (r : RH), i + d = 4 → d < fuel → r 20 22 0 = kI t → (∀ n, i ≤ n → n < 4 → r 20 10 n = st n ∧ r 20 14 n = kI (bg n)) → f_M_tick_L35 bs sE fuel (HB old bs r ed o D) z (aM bs) (kI c) (kI i) = f_M_tick_L82 bs sE FU (HB old bs (pfM r (xp st bg t) i) ed o D) z (aM bs) (kI (c + cnt (xp st bg t) d i)) 0 := by
  intro d
  induction d with
  | zero =>
    intro fuel i c r hi hf h04 hr
    obtain ⟨f, rfl⟩ : ∃ f, fuel = f + 1 := ⟨fuel - 1, by omega⟩
    obtain rfl : i = 4 := by omega
    simp only [f_M_tick_L35, fb_M_tick_L35, if_pos (k4l (show 4 ≤ 4 by omega) (by omega)), pfM_4, cnt, Nat.add_zero]
  | succ d ih =>
    intro fuel i c r hi hf h04 hr
    obtain ⟨f, rfl⟩ : ∃ f, fuel = f + 1 := ⟨fuel - 1, by omega⟩
    have hi4 : i < 4 := by omega
    obtain ⟨e1, e4⟩ := hr i (by omega) hi4
    have i1 := ih f (i + 1) c r (by omega) (by omega) h04 (fun n h1 h2 => hr n (by omega) h2)
    have i2 := ih f (i + 1) (c + 1) (up3 (up3 r 20 11 i (r 20 11 i + 1)) 20 10 i 3) (by omega) (by omega) (by simp [up3]; exact h04) (fun n h1 h2 => by
      have := hr n (by omega) h2
      rw [up3_o (by omega), up3_o (by omega), up3_o (by omega), up3_o (by omega)]
      exact this)
    have lt30 : (kI t < kI (bg i) + 30) ↔ t < bg i + 30 := by
      have := hb i hi4
      rw [show (30 : Int32) = kI 30 from rfl, kI_add, kI_lt (by omega) (by omega)]
    simp only [f_M_tick_L35, fb_M_tick_L35, if_neg (k4n hi4), gR_M10, gR_M14, gI_M22, oK_M, aI_MA (show marr 10 = true from rfl) (show i < msz 10 by simp [msz, hi4]), aI_MA (show marr 14 = true from rfl) (show i < msz 14 by simp [msz, hi4]), e1, e4, h04, cI_s, cI_x, cR_s, cR_x, cV_s, cV_x, cX_s, cX_x, bn_s, bz_0, bz_1, bz_b, bI_0, bI_1, lt30, M_abort hi4, kI_add1, i1, i2, cnt]
    by_cases s0 : st i = 1
    · by_cases s1 : t < bg i + 30
      · have hs : xp st bg t i = false := by simp [xp, s1]
        simp [s0, s1, hs, pfM_n hs]
      · have hs : xp st bg t i = true := by simp [xp, s0, s1]
        have e : ∀ k, c + (1 + k) = c + 1 + k := fun k => by omega
        simp only [s0, if_true, if_neg s1, hs, e, pfM_y hi4 hs]
    · have hs : xp st bg t i = false := by simp [xp, s0]
      simp [s0, hs, pfM_n hs]
theorem B_tick_G {g t c : Nat} {me w : Q4} {hd : Nat → Nat} {REC : HH → Z3 → Nat → Int32 → Int32 → Option RS} (hg : g < 2) (ht : t < 100000) (h04 : r 0 0 4 = kI t) (hm : ∀ i, i < 4 → r 7 g i = g4 me i) (hw : ∀ i, i < 4 → r 9 g i = g4 w i) (h8 : ∀ i, i < 4 → r 8 g i = kI (hd i) ∧ hd i ≤ t) : fb_B_tick_L73 bs sE REC (HB old bs r ed o D) z (aB bs) (kI c) (kI g) = REC (HB old bs (gD r g (zr (sil me hd t) 4 me 0) (zr (sil me hd t) 4 w 0) (cnt (sil me hd t) 4 0)) ed o D) z (aB bs) (kI (c + cnt (sil me hd t) 4 0)) (kI (g + 1)) := by
  have c1 : ¬ (2 : Int32) ≤ kI g := fun q => by have := (kI_le (a := 2) (by omega) (by omega)).mp q; omega
  simp only [fb_B_tick_L73, if_neg c1, gR_B2, aR_Gs hg, gI_B4, h04, oK_G hg, bn_s, G_drop hg ht hm hw h8, cI_s, kI_add, kI_add1]
theorem M_tick_G {g t c : Nat} {me ho : Q4} {hd : Nat → Nat} {REC : HH → Z3 → Nat → Int32 → Int32 → Option RS} (hg : g < 2) (ht : t < 100000) (h22 : r 20 22 0 = kI t) (hk : hoK ho) (hm : ∀ i, i < 4 → r 20 18 (4 * g + i) = g4 me i) (hh : ∀ i, i < 4 → r 20 20 (4 * g + i) = g4 ho i) (h19 : ∀ i, i < 4 → r 20 19 (4 * g + i) = kI (hd i) ∧ hd i ≤ t) : fb_M_tick_L82 bs sE REC (HB old bs r ed o D) z (aM bs) (kI c) (kI g) = REC (HB old bs (mD r g (zr (sil me hd t) 4 me 0) ho (cnt (sil me hd t) 4 0)) ed o D) z (aM bs) (kI (c + cnt (sil me hd t) 4 0)) (kI (g + 1)) := by
  have c1 : ¬ (2 : Int32) ≤ kI g := fun q => by have := (kI_le (a := 2) (by omega) (by omega)).mp q; omega
  have L := fun K => M_drop_L (old := old) (bs := bs) (ed := ed) (o := o) (D := D) (sE := sE) (z := z) (me0 := me) (hd := hd) (x2 := kI c) (K := K) hg ht h22 h19 4 FU 0 0 me (by omega) (by show _ < 1000; omega) (fun _ _ _ => rfl)
  rw [uw_eq hm] at L
  simp only [fb_M_tick_L82, if_neg c1, kI_4]
  refine (L _).trans ?_
  have hle := cnt_le (P := sil me hd t) 4 0
  have h0 : cnt (sil me hd t) 4 0 = 0 → uw r 18 g (zr (sil me hd t) 4 me 0) = r := fun e => uw_eq (fun i hi => by
    rw [zr_at 4 me 0 i (by omega) (by omega) hi, cnt_0 4 0 e i (by omega) (by omega)]
    exact hm i hi)
  rw [Nat.zero_add]
  generalize cnt (sil me hd t) 4 0 = n at *
  unfold mD
  by_cases e : n = 0
  · subst e
    rw [if_pos (show kI 0 ≤ 0 by decide), if_pos rfl, h0 rfl]
    simp only [kI_add, kI_add1]
  · have e1 : ¬ kI n ≤ 0 := fun q => by have := (kI_le (b := 0) (by omega) (by omega)).mp q; omega
    have S := M_share (old := old) (bs := bs) (r := uw r 18 g (zr (sil me hd t) 4 me 0)) (ed := ed) (o := o) (D := D) (sE := sE) (z := z) (me := zr (sil me hd t) 4 me 0) (ho := ho) hg hk (fun i hi => uw_at hi) (fun i hi => by rw [uw_o (by omega)]; exact hh i hi)
    rw [uw_o (show ¬ (20 = 20 ∧ 17 = 18) by omega)] at S
    rw [if_neg e1, if_neg e]
    simp only [oK_M, bn_s, S, cV_s, kI_add, kI_add1]
end TK2
