/-! sharing out: the model's side -/
def hs (ho : Q4) (x : Int32) : Nat → Nat → Nat → Nat
  | 0, c, _ => c
  | d + 1, c, i => if g4 ho i = x then hs ho x d (c + 1) (i + 1) else hs ho x d c (i + 1)
def fe (me ho : Q4) : Nat → Nat → Nat → Nat
  | 0, b, _ => b
  | d + 1, b, i => if g4 me i = 0 then fe me ho d b (i + 1) else if b = 0 then fe me ho d (i + 1) (i + 1) else if hs ho (dm b) 4 0 0 ≤ hs ho (kI i) 4 0 0 then fe me ho d b (i + 1) else fe me ho d (i + 1) (i + 1)
def asg (me : Q4) : Nat → Q4 → Nat → Q4
  | 0, ho, _ => ho
  | d + 1, ho, i => if 0 ≤ g4 ho i then asg me d ho (i + 1) else asg me d (s4 ho i (dm (fe me ho 4 0 0))) (i + 1)
def trm (x5 x6 : Int32) : Nat → Q4 → Nat → Nat → Q4
  | 0, ho, _, _ => ho
  | d + 1, ho, c, i => if g4 ho i = x5 then (if kI (c + 1) ≤ x6 then trm x5 x6 d ho (c + 1) (i + 1) else trm x5 x6 d (s4 ho i (-1)) (c + 1) (i + 1)) else trm x5 x6 d ho c (i + 1)
def trs (x3 : Int32) : Nat → Q4 → Int32 → Nat → Q4
  | 0, ho, _, _ => ho
  | d + 1, ho, x4, m => if kI (hs ho (kI m) 4 0 0) ≤ x3 then trs x3 d (trm (kI m) x3 4 ho 0 0) x4 (m + 1) else if x4 ≤ 0 then trs x3 d (trm (kI m) x3 4 ho 0 0) x4 (m + 1) else trs x3 d (trm (kI m) (x3 + 1) 4 ho 0 0) (x4 + (-1)) (m + 1)
def drp (me : Q4) : Nat → Q4 → Nat → Q4
  | 0, ho, _ => ho
  | d + 1, ho, i => if g4 ho i < 0 then drp me d ho (i + 1) else if g4 me (g4 ho i).toNatClampNeg = 0 then drp me d (s4 ho i (-1)) (i + 1) else drp me d ho (i + 1)
def shN (me ho : Q4) (c : Nat) : Q4 := if c = 0 then drp me 4 ho 0 else asg me 4 (trs (4 / kI c) 4 (drp me 4 ho 0) (4 - 4 / kI c * kI c) 0) 0
def shM (me ho : Q4) : Q4 := shN me ho (cm me 4 0 0)
theorem fe_le {me ho : Q4} : ∀ d b i, i + d = 4 → b ≤ i → fe me ho d b i ≤ 4
  | 0, b, i => fun h1 h2 => by unfold fe; omega
  | d + 1, b, i => fun h1 h2 => by
    unfold fe
    split
    · exact fe_le d b (i + 1) (by omega) (by omega)
    · split
      · exact fe_le d (i + 1) (i + 1) (by omega) (by omega)
      · split
        · exact fe_le d b (i + 1) (by omega) (by omega)
        · exact fe_le d (i + 1) (i + 1) (by omega) (by omega)
theorem hs_le {ho : Q4} {x : Int32} : ∀ d c i, hs ho x d c i ≤ c + d
  | 0, c, i => by unfold hs; omega
  | d + 1, c, i => by
    unfold hs
    split
    · have := hs_le (ho := ho) (x := x) d (c + 1) (i + 1); omega
    · have := hs_le (ho := ho) (x := x) d c (i + 1); omega
section SH2
variable {old : HH} {bs : Nat} {r : RH} {ed : Nat → Nat} {o : Int64} {D : HH} {sE : Nat × Nat} {z : Z3} {T : Nat}
theorem aI20 {g i : Nat} {w : Q4} (hg : g < 2) (hi : i < 4) : aI (HB old bs (uw r 20 g w) ed o D) (aMA bs 20) 0 (kI (4 * g + i)) = some (g4 w i) := by
  rw [aI_MA (show marr 20 = true from rfl) (show 4 * g + i < msz 20 by simp [msz]; omega), uw_at hi]
theorem aIs20 {g i : Nat} {w : Q4} {x : Int32} (hg : g < 2) (hi : i < 4) : aIs bs (HB old bs (uw r 20 g w) ed o D) (aMA bs 20) 0 (kI (4 * g + i)) x = some (HB old bs (uw r 20 g (s4 w i x)) ed o D) := by
  rw [aIs_MA (show marr 20 = true from rfl) (show 4 * g + i < msz 20 by simp [msz]; omega), uw_up hi]
theorem hs_L {g : Nat} {w : Q4} {x : Int32} (hg : g < 2) : ∀ (d fuel i c : Nat), i + d = 4 → d < fuel → f_M_has_L5 bs sE fuel (HB old bs (uw r 20 g w) ed o D) z (aM bs) (kI g) x (kI c) (kI i) = some (.inl (some (.int (kI (hs w x d c i)))), HB old bs (uw r 20 g w) ed o D, z) := by
  intro d
  induction d with
  | zero =>
    intro fuel i c hi hf
    obtain ⟨f, rfl⟩ : ∃ f, fuel = f + 1 := ⟨fuel - 1, by omega⟩
    simp only [f_M_has_L5, fb_M_has_L5, if_pos (k4l (show 4 ≤ i by omega) (by omega)), hs]
  | succ d ih =>
    intro fuel i c hi hf
    obtain ⟨f, rfl⟩ : ∃ f, fuel = f + 1 := ⟨fuel - 1, by omega⟩
    have i1 := fun c => ih f (i + 1) c (by omega) (by omega)
    simp only [f_M_has_L5, fb_M_has_L5, if_neg (k4n (show i < 4 by omega)), gR_M20, kI_4, kI_add, aI20 hg (show i < 4 by omega), bn_s, kI_add1, Int32.add_zero, i1, hs]
    by_cases e1 : g4 w i = x <;> simp [e1]
theorem hs_c {g : Nat} {w : Q4} {x : Int32} (hg : g < 2) : f_M_has bs sE (HB old bs (uw r 20 g w) ed o D) z (aM bs) (kI g) x = some (.inl (some (.int (kI (hs w x 4 0 0)))), HB old bs (uw r 20 g w) ed o D, z) := hs_L hg 4 FU 0 0 (by omega) (by show _ < 1000; omega)
theorem fe_L {g : Nat} {me w : Q4} (hg : g < 2) (hm : ∀ i, i < 4 → r 20 18 (4 * g + i) = g4 me i) : ∀ (d fuel i b : Nat), i + d = 4 → b ≤ i → d < fuel → f_M_fewest_L4 bs sE fuel (HB old bs (uw r 20 g w) ed o D) z (aM bs) (kI g) (dm b) (kI i) = some (.inl (some (.int (dm (fe me w d b i)))), HB old bs (uw r 20 g w) ed o D, z) := by
  intro d
  induction d with
  | zero =>
    intro fuel i b hi hb hf
    obtain ⟨f, rfl⟩ : ∃ f, fuel = f + 1 := ⟨fuel - 1, by omega⟩
    simp only [f_M_fewest_L4, fb_M_fewest_L4, if_pos (k4l (show 4 ≤ i by omega) (by omega)), fe]
  | succ d ih =>
    intro fuel i b hi hb hf
    obtain ⟨f, rfl⟩ : ∃ f, fuel = f + 1 := ⟨fuel - 1, by omega⟩
    have i1 := ih f (i + 1) b (by omega) (by omega) (by omega)
    have i2 := ih f (i + 1) (i + 1) (by omega) (by omega) (by omega)
    have hdm : dm (i + 1) = kI i := by simp [dm]
    rw [hdm] at i2
    have e7 : uw r 20 g w 20 18 (4 * g + i) = g4 me i := by rw [uw_o (by omega)]; exact hm i (by omega)
    have e8 : dm b < 0 ↔ b = 0 := by
      by_cases h : b = 0
      · subst h; simp [dm]
      · have : dm b = kI (b - 1) := by simp [dm, h]
        rw [this, kI_nl0 (by omega)]
        simp [h]
    have l1 := hs_le (ho := w) (x := dm b) 4 0 0
    have l2 := hs_le (ho := w) (x := kI i) 4 0 0
    have e9 : kI (hs w (dm b) 4 0 0) ≤ kI (hs w (kI i) 4 0 0) ↔ hs w (dm b) 4 0 0 ≤ hs w (kI i) 4 0 0 := kI_le (by omega) (by omega)
    simp only [f_M_fewest_L4, fb_M_fewest_L4, if_neg (k4n (show i < 4 by omega)), gR_M18, kI_4, kI_add, aI_MA18 (show 4 * g + i < 8 by omega), e7, bn_s, oK_M, hs_c hg, cI_s, kI_add1, i1, i2, e8, e9, fe]
    by_cases e1 : g4 me i = 0
    · simp [e1]
    · by_cases e2 : b = 0
      · simp [e1, e2]
      · by_cases e3 : hs w (dm b) 4 0 0 ≤ hs w (kI i) 4 0 0 <;> simp [e1, e2, e3]
theorem fe_c {g : Nat} {me w : Q4} (hg : g < 2) (hm : ∀ i, i < 4 → r 20 18 (4 * g + i) = g4 me i) : f_M_fewest bs sE (HB old bs (uw r 20 g w) ed o D) z (aM bs) (kI g) = some (.inl (some (.int (dm (fe me w 4 0 0)))), HB old bs (uw r 20 g w) ed o D, z) := fe_L hg hm 4 FU 0 0 (by omega) (by omega) (by show _ < 1000; omega)
theorem asg_L {g : Nat} {me : Q4} (hg : g < 2) (hm : ∀ i, i < 4 → r 20 18 (4 * g + i) = g4 me i) : ∀ (d fuel i : Nat) (w : Q4), i + d = 4 → d < fuel → f_M_share_L221 bs sE fuel (HB old bs (uw r 20 g w) ed o D) z (aM bs) (kI g) (kI i) = some (.inl none, HB old bs (uw r 20 g (asg me d w i)) ed o D, z) := by
  intro d
  induction d with
  | zero =>
    intro fuel i w hi hf
    obtain ⟨f, rfl⟩ : ∃ f, fuel = f + 1 := ⟨fuel - 1, by omega⟩
    simp only [f_M_share_L221, fb_M_share_L221, if_pos (k4l (show 4 ≤ i by omega) (by omega)), asg]
  | succ d ih =>
    intro fuel i w hi hf
    obtain ⟨f, rfl⟩ : ∃ f, fuel = f + 1 := ⟨fuel - 1, by omega⟩
    have i1 := fun w => ih f (i + 1) w (by omega) (by omega)
    simp only [f_M_share_L221, fb_M_share_L221, if_neg (k4n (show i < 4 by omega)), gR_M20, kI_4, kI_add, aI20 hg (show i < 4 by omega), aIs20 hg (show i < 4 by omega), bn_s, oK_M, fe_c hg hm, cI_s, kI_add1, i1, asg]
    by_cases e1 : 0 ≤ g4 w i <;> simp [e1]
theorem trm_L {g : Nat} {x3 x4 x5 x6 : Int32} {K : HH → Z3 → Nat → Int32 → Int32 → Int32 → Int32 → Option RS} (hg : g < 2) : ∀ (d fuel i c : Nat) (w : Q4), i + d = 4 → d < fuel → f_M_share_L159 bs sE K fuel (HB old bs (uw r 20 g w) ed o D) z (aM bs) (kI g) x3 x4 x5 x6 (kI c) (kI i) = K (HB old bs (uw r 20 g (trm x5 x6 d w c i)) ed o D) z (aM bs) (kI g) x3 x4 x5 := by
  intro d
  induction d with
  | zero =>
    intro fuel i c w hi hf
    obtain ⟨f, rfl⟩ : ∃ f, fuel = f + 1 := ⟨fuel - 1, by omega⟩
    simp only [f_M_share_L159, fb_M_share_L159, if_pos (k4l (show 4 ≤ i by omega) (by omega)), trm]
  | succ d ih =>
    intro fuel i c w hi hf
    obtain ⟨f, rfl⟩ : ∃ f, fuel = f + 1 := ⟨fuel - 1, by omega⟩
    have i1 := fun c w => ih f (i + 1) c w (by omega) (by omega)
    simp only [f_M_share_L159, fb_M_share_L159, if_neg (k4n (show i < 4 by omega)), gR_M20, kI_4, kI_add, aI20 hg (show i < 4 by omega), aIs20 hg (show i < 4 by omega), bn_s, kI_add1, i1, trm]
    by_cases e1 : g4 w i = x5
    · by_cases e2 : kI (c + 1) ≤ x6 <;> simp [e1, e2]
    · simp [e1]
theorem trs_L {g : Nat} {x3 : Int32} {me : Q4} (hg : g < 2) (hm : ∀ i, i < 4 → r 20 18 (4 * g + i) = g4 me i) : ∀ (d fuel m : Nat) (w : Q4) (x4 : Int32), m + d = 4 → d < fuel → f_M_share_L122 bs sE fuel (HB old bs (uw r 20 g w) ed o D) z (aM bs) (kI g) x3 x4 (kI m) = some (.inl none, HB old bs (uw r 20 g (asg me 4 (trs x3 d w x4 m) 0)) ed o D, z) := by
  intro d
  induction d with
  | zero =>
    intro fuel m w x4 hi hf
    obtain ⟨f, rfl⟩ : ∃ f, fuel = f + 1 := ⟨fuel - 1, by omega⟩
    simp only [f_M_share_L122, fb_M_share_L122, if_pos (k4l (show 4 ≤ m by omega) (by omega)), trs]
    exact asg_L hg hm 4 FU 0 w (by omega) (by show _ < 1000; omega)
  | succ d ih =>
    intro fuel m w x4 hi hf
    obtain ⟨f, rfl⟩ : ∃ f, fuel = f + 1 := ⟨fuel - 1, by omega⟩
    have i1 := fun w x4 => ih f (m + 1) w x4 (by omega) (by omega)
    have t1 := fun K x3 x4 x6 => trm_L (old := old) (bs := bs) (r := r) (ed := ed) (o := o) (D := D) (sE := sE) (z := z) (x3 := x3) (x4 := x4) (x5 := kI m) (x6 := x6) (K := K) hg 4 FU 0 0 w (by omega) (by show _ < 1000; omega)
    have t1' : ∀ K x3 x4 x6, f_M_share_L159 bs sE K FU (HB old bs (uw r 20 g w) ed o D) z (aM bs) (kI g) x3 x4 (kI m) x6 0 0 = _ := t1
    simp only [f_M_share_L122, fb_M_share_L122, if_neg (k4n (show m < 4 by omega)), bn_s, oK_M, hs_c hg, cI_s, t1', kI_add1, i1, trs]
    by_cases e1 : kI (hs w (kI m) 4 0 0) ≤ x3
    · simp [e1]
    · by_cases e2 : x4 ≤ 0 <;> simp [e1, e2]
/-- holders are -1 or members' numbers -/
def hoK (ho : Q4) : Prop := ∀ i, i < 4 → g4 ho i = -1 ∨ ∃ q, q < 4 ∧ g4 ho i = kI q
theorem hoK_s {ho : Q4} {i : Nat} (hi : i < 4) (h : hoK ho) : hoK (s4 ho i (-1)) := by
  intro j hj
  rw [g4_s4 hi hj]
  by_cases e : j = i
  · rw [if_pos e]; exact Or.inl rfl
  · rw [if_neg e]; exact h j hj
theorem drp_L {g c : Nat} {me : Q4} (hg : g < 2) (hc : c ≤ 4) (hm : ∀ i, i < 4 → r 20 18 (4 * g + i) = g4 me i) : ∀ (d fuel i : Nat) (w : Q4), hoK w → i + d = 4 → d < fuel → f_M_share_L48 bs sE fuel (HB old bs (uw r 20 g w) ed o D) z (aM bs) (kI g) (kI c) (kI i) = some (.inl none, HB old bs (uw r 20 g (if c = 0 then drp me d w i else asg me 4 (trs (4 / kI c) 4 (drp me d w i) (4 - 4 / kI c * kI c) 0) 0)) ed o D, z) := by
  intro d
  induction d with
  | zero =>
    intro fuel i w hk hi hf
    obtain ⟨f, rfl⟩ : ∃ f, fuel = f + 1 := ⟨fuel - 1, by omega⟩
    simp only [f_M_share_L48, fb_M_share_L48, if_pos (k4l (show 4 ≤ i by omega) (by omega)), drp]
    by_cases e : c = 0
    · subst e
      rw [if_pos (show kI 0 = 0 from rfl), if_pos rfl]
    · have e2 : ¬ kI c = 0 := fun q => by have := (kI_eq (b := 0) (by omega) (by omega)).mp q; omega
      rw [if_neg e2, if_neg e2, if_neg e2, if_neg e]
      exact trs_L hg hm 4 FU 0 w (4 - 4 / kI c * kI c) (by omega) (by show _ < 1000; omega)
  | succ d ih =>
    intro fuel i w hk hi hf
    obtain ⟨f, rfl⟩ : ∃ f, fuel = f + 1 := ⟨fuel - 1, by omega⟩
    have i1 := ih f (i + 1) w hk (by omega) (by omega)
    have i2 := ih f (i + 1) (s4 w i (-1)) (hoK_s (by omega) hk) (by omega) (by omega)
    have hi4 : i < 4 := by omega
    simp only [f_M_share_L48, fb_M_share_L48, if_neg (k4n hi4), gR_M20, gR_M18, kI_4, kI_add, aI20 hg hi4, aIs20 hg hi4, bn_s, kI_add1, i1, i2, drp]
    rcases hk i hi4 with e | ⟨q, q1, e⟩
    · have : (-1 : Int32) < 0 := by decide
      simp only [e, this, if_true]
    · have hn : ¬ kI q < 0 := by rw [kI_nl0 (by omega)]; exact id
      have e7 : uw r 20 g w 20 18 (4 * g + q) = g4 me q := by rw [uw_o (by omega)]; exact hm q q1
      simp only [e, if_neg hn, kI_add, aI_MA18 (show 4 * g + q < 8 by omega), e7, bn_s, kI_clamp (show q < 2147483648 by omega)]
      by_cases e3 : g4 me q = 0 <;> simp [e3]
theorem cmM_L {g : Nat} {me w : Q4} (hg : g < 2) (hk : hoK w) (hm : ∀ i, i < 4 → r 20 18 (4 * g + i) = g4 me i) : ∀ (d fuel i c : Nat), i + d = 4 → c ≤ i → d < fuel → f_M_share_L14 bs sE fuel (HB old bs (uw r 20 g w) ed o D) z (aM bs) (kI g) (kI c) (kI i) = some (.inl none, HB old bs (uw r 20 g (shN me w (cm me d c i))) ed o D, z) := by
  intro d
  induction d with
  | zero =>
    intro fuel i c hi hc hf
    obtain ⟨f, rfl⟩ : ∃ f, fuel = f + 1 := ⟨fuel - 1, by omega⟩
    simp only [f_M_share_L14, fb_M_share_L14, if_pos (k4l (show 4 ≤ i by omega) (by omega)), cm]
    exact drp_L hg (by omega) hm 4 FU 0 w hk (by omega) (by show _ < 1000; omega)
  | succ d ih =>
    intro fuel i c hi hc hf
    obtain ⟨f, rfl⟩ : ∃ f, fuel = f + 1 := ⟨fuel - 1, by omega⟩
    have i1 := ih f (i + 1) c (by omega) (by omega) (by omega)
    have i2 := ih f (i + 1) (c + 1) (by omega) (by omega) (by omega)
    have e7 : uw r 20 g w 20 18 (4 * g + i) = g4 me i := by rw [uw_o (by omega)]; exact hm i (by omega)
    simp only [f_M_share_L14, fb_M_share_L14, if_neg (k4n (show i < 4 by omega)), gR_M18, kI_4, kI_add, aI_MA18 (show 4 * g + i < 8 by omega), e7, bn_s, kI_add1, Int32.add_zero, i1, i2, cm]
    by_cases e1 : g4 me i = 0
    · rw [if_pos e1, if_pos e1]
    · rw [if_neg e1, if_neg e1]
theorem M_share {g : Nat} {me ho : Q4} (hg : g < 2) (hk : hoK ho) (hm : ∀ i, i < 4 → r 20 18 (4 * g + i) = g4 me i) (hh : ∀ i, i < 4 → r 20 20 (4 * g + i) = g4 ho i) : f_M_share bs sE (HB old bs r ed o D) z (aM bs) (kI g) = some (.inl none, HB old bs (uw (up3 r 20 17 g (r 20 17 g + 1)) 20 g (shM me ho)) ed o D, z) := by
  have hm' : ∀ i, i < 4 → (up3 r 20 17 g (r 20 17 g + 1)) 20 18 (4 * g + i) = g4 me i := fun i hi => by rw [← hm i hi]; simp [up3]
  have hu : uw (up3 r 20 17 g (r 20 17 g + 1)) 20 g ho = up3 r 20 17 g (r 20 17 g + 1) := by
    funext f m j
    unfold uw
    by_cases h : f = 20 ∧ m = 20 ∧ 4 * g ≤ j ∧ j < 4 * g + 4
    · rw [if_pos h]
      obtain ⟨rfl, rfl, h1, h2⟩ := h
      obtain ⟨i, hi, rfl⟩ : ∃ i, i < 4 ∧ j = 4 * g + i := ⟨j - 4 * g, by omega, by omega⟩
      rw [show 4 * g + i - 4 * g = i by omega, ← hh i hi]
      simp [up3]
    · rw [if_neg h]
  simp only [f_M_share, gR_M17, aI_MA (show marr 17 = true from rfl) (show g < msz 17 by simp [msz, hg]), aIs_MA (show marr 17 = true from rfl) (show g < msz 17 by simp [msz, hg]), bn_s]
  have := cmM_L (old := old) (bs := bs) (ed := ed) (o := o) (D := D) (sE := sE) (z := z) (w := ho) hg hk hm' 4 FU 0 0 (by omega) (by omega) (by show _ < 1000; omega)
  rw [hu] at this
  exact this
end SH2
