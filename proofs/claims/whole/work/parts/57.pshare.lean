/-! sharing out: both sides over four values -/
abbrev Q4 : Type := Int32 × Int32 × Int32 × Int32
def g4 (w : Q4) (i : Nat) : Int32 := if i = 0 then w.1 else if i = 1 then w.2.1 else if i = 2 then w.2.2.1 else w.2.2.2
def s4 (w : Q4) (i : Nat) (x : Int32) : Q4 := (if i = 0 then x else w.1, if i = 1 then x else w.2.1, if i = 2 then x else w.2.2.1, if i = 3 then x else w.2.2.2)
theorem g4_s4 {w : Q4} {i j : Nat} {x : Int32} (hi : i < 4) (hj : j < 4) : g4 (s4 w i x) j = if j = i then x else g4 w j := by
  rcases c4 hi with rfl | rfl | rfl | rfl <;> rcases c4 hj with rfl | rfl | rfl | rfl <;> rfl
def ur (r : RH) (f m : Nat) (w : Q4) : RH := fun f' m' i => if f' = f ∧ m' = m ∧ i < 4 then g4 w i else r f' m' i
theorem ur_up {r : RH} {f m i : Nat} {w : Q4} {x : Int32} (hi : i < 4) : up3 (ur r f m w) f m i x = ur r f m (s4 w i x) := by
  funext f' m' j
  unfold up3 ur
  by_cases h1 : f' = f ∧ m' = m ∧ j = i
  · rw [if_pos h1, if_pos ⟨h1.1, h1.2.1, by omega⟩, g4_s4 hi (by omega), if_pos h1.2.2]
  · rw [if_neg h1]
    by_cases h2 : f' = f ∧ m' = m ∧ j < 4
    · rw [if_pos h2, if_pos h2, g4_s4 hi h2.2.2, if_neg (fun h => h1 ⟨h2.1, h2.2.1, h⟩)]
    · rw [if_neg h2, if_neg h2]
theorem ur_at {r : RH} {f m i : Nat} {w : Q4} (hi : i < 4) : ur r f m w f m i = g4 w i := by simp [ur, hi]
theorem ur_o {r : RH} {f m f' m' i : Nat} {w : Q4} (h : ¬ (f' = f ∧ m' = m)) : ur r f m w f' m' i = r f' m' i := by
  unfold ur
  rw [if_neg (fun q => h ⟨q.1, q.2.1⟩)]
theorem ur_self {r : RH} {f m : Nat} : ur r f m (r f m 0, r f m 1, r f m 2, r f m 3) = r := by
  funext f' m' i
  unfold ur
  by_cases h : f' = f ∧ m' = m ∧ i < 4
  · rw [if_pos h]
    obtain ⟨rfl, rfl, h⟩ := h
    rcases c4 h with rfl | rfl | rfl | rfl <;> rfl
  · rw [if_neg h]
def uw (r : RH) (k g : Nat) (w : Q4) : RH := fun f' m' j => if f' = 20 ∧ m' = k ∧ 4 * g ≤ j ∧ j < 4 * g + 4 then g4 w (j - 4 * g) else r f' m' j
theorem uw_up {r : RH} {k g i : Nat} {w : Q4} {x : Int32} (hi : i < 4) : up3 (uw r k g w) 20 k (4 * g + i) x = uw r k g (s4 w i x) := by
  funext f' m' j
  unfold up3 uw
  by_cases h1 : f' = 20 ∧ m' = k ∧ j = 4 * g + i
  · rw [if_pos h1, if_pos ⟨h1.1, h1.2.1, by omega, by omega⟩, g4_s4 hi (by omega), if_pos (by omega)]
  · rw [if_neg h1]
    by_cases h2 : f' = 20 ∧ m' = k ∧ 4 * g ≤ j ∧ j < 4 * g + 4
    · rw [if_pos h2, if_pos h2, g4_s4 hi (by omega), if_neg (fun h => h1 ⟨h2.1, h2.2.1, by omega⟩)]
    · rw [if_neg h2, if_neg h2]
theorem uw_at {r : RH} {k g i : Nat} {w : Q4} (hi : i < 4) : uw r k g w 20 k (4 * g + i) = g4 w i := by
  unfold uw
  rw [if_pos (by omega), show 4 * g + i - 4 * g = i by omega]
theorem uw_o {r : RH} {k g f' m' i : Nat} {w : Q4} (h : ¬ (f' = 20 ∧ m' = k)) : uw r k g w f' m' i = r f' m' i := by
  unfold uw
  rw [if_neg (fun q => h ⟨q.1, q.2.1⟩)]
theorem uw_self {r : RH} {k g : Nat} : uw r k g (r 20 k (4 * g + 0), r 20 k (4 * g + 1), r 20 k (4 * g + 2), r 20 k (4 * g + 3)) = r := by
  funext f' m' j
  unfold uw
  by_cases h : f' = 20 ∧ m' = k ∧ 4 * g ≤ j ∧ j < 4 * g + 4
  · rw [if_pos h]
    obtain ⟨rfl, rfl, h1, h2⟩ := h
    obtain ⟨i, hi, rfl⟩ : ∃ i, i < 4 ∧ j = 4 * g + i := ⟨j - 4 * g, by omega, by omega⟩
    rw [show 4 * g + i - 4 * g = i by omega]
    rcases c4 hi with rfl | rfl | rfl | rfl <;> rfl
  · rw [if_neg h]
/-! the class's side -/
def bc (x : Int32) : Int32 := if x.toNatClampNeg < 16 ∧ x = kI x.toNatClampNeg then kI (pc x.toNatClampNeg) else match f_I_bitCount 0 (0, 0) (fun _ => none) (0, 0, 0) x with
  | some (.inl (some (.int v)), _, _) => v
  | _ => 0
def lo (x0 x1 : Int32) : Nat → Int32 → Nat → Int32
  | 0, a, _ => a
  | d + 1, a, i => if ((x0 >>> (kI i &&& 31)) &&& 1) = 0 then lo x0 x1 d a (i + 1) else if x1 ≤ bc a then lo x0 x1 d a (i + 1) else lo x0 x1 d (a ||| (1 <<< (kI i &&& 31))) (i + 1)
def ts (x1 : Int32) : Nat → Q4 → Int32 → Nat → Q4
  | 0, w, _, _ => w
  | d + 1, w, x3, i => if x3 ≤ 0 then ts x1 d (s4 w i (lo (g4 w i) x1 4 0 0)) x3 (i + 1) else if bc (g4 w i) ≤ x1 then ts x1 d (s4 w i (lo (g4 w i) x1 4 0 0)) x3 (i + 1) else ts x1 d (s4 w i (lo (g4 w i) (x1 + 1) 4 0 0)) (x3 + (-1)) (i + 1)
/-- the poorest member: 0 for none, else its number and one -/
def pm (me w : Q4) : Nat → Nat → Int32 → Nat → Nat
  | 0, b, _, _ => b
  | d + 1, b, c, i => if g4 me i = 0 then pm me w d b c (i + 1) else if c ≤ bc (g4 w i) then pm me w d b c (i + 1) else pm me w d (i + 1) (bc (g4 w i)) (i + 1)
def ow (w : Q4) (x : Int32) : Nat → Nat → Bool
  | 0, _ => false
  | d + 1, i => if (((g4 w i) >>> (x &&& 31)) &&& 1) = 0 then ow w x d (i + 1) else true
def gu (me : Q4) : Nat → Q4 → Nat → Q4
  | 0, w, _ => w
  | d + 1, w, i => if ow w (kI i) 4 0 = true then gu me d w (i + 1) else if pm me w 4 0 5 0 = 0 then gu me d w (i + 1) else gu me d (s4 w (pm me w 4 0 5 0 - 1) (g4 w (pm me w 4 0 5 0 - 1) ||| (1 <<< (kI i &&& 31)))) (i + 1)
def cm (me : Q4) : Nat → Nat → Nat → Nat
  | 0, c, _ => c
  | d + 1, c, i => if g4 me i = 0 then cm me d c (i + 1) else cm me d (c + 1) (i + 1)
def shC (me w : Q4) : Q4 := if cm me 4 0 0 = 0 then w else gu me 4 (ts (4 / kI (cm me 4 0 0)) 4 w (4 - 4 / kI (cm me 4 0 0) * kI (cm me 4 0 0)) 0) 0
theorem pm_le {me w : Q4} : ∀ d b c i, i + d = 4 → b ≤ i → pm me w d b c i ≤ 4
  | 0, b, c, i => fun h1 h2 => by unfold pm; omega
  | d + 1, b, c, i => fun h1 h2 => by
    unfold pm
    split
    · exact pm_le d b c (i + 1) (by omega) (by omega)
    · split
      · exact pm_le d b c (i + 1) (by omega) (by omega)
      · exact pm_le d (i + 1) _ (i + 1) (by omega) (by omega)
theorem cm_le {me : Q4} : ∀ d c i, cm me d c i ≤ c + d
  | 0, c, i => by unfold cm; omega
  | d + 1, c, i => by
    unfold cm
    split
    · have := cm_le (me := me) d c (i + 1); omega
    · have := cm_le (me := me) d (c + 1) (i + 1); omega
section SH1
variable {old : HH} {bs : Nat} {r : RH} {ed : Nat → Nat} {o : Int64} {D : HH} {sE : Nat × Nat} {z : Z3} {T : Nat}
theorem k4l {i : Nat} (h : 4 ≤ i) (h2 : i < 100) : (4 : Int32) ≤ kI i := (kI_le (a := 4) (by omega) (by omega)).mpr h
theorem k4n {i : Nat} (h : i < 4) : ¬ (4 : Int32) ≤ kI i := fun q => by have := (kI_le (a := 4) (by omega) (by omega)).mp q; omega
theorem bc_c {h : HH} {x : Int32} : f_I_bitCount bs sE h z x = some (.inl (some (.int (bc x))), h, z) := by
  unfold bc
  by_cases c : x.toNatClampNeg < 16 ∧ x = kI x.toNatClampNeg
  · rw [if_pos c]
    have := bit_c (bs := bs) (sE := sE) (h := h) (z := z) c.1
    rw [← c.2] at this
    exact this
  · rw [if_neg c]
    rfl
theorem lo_L {h : HH} {x0 x1 : Int32} : ∀ (d fuel i : Nat) (a : Int32), i + d = 4 → d < fuel → f_G_leastOf_L4 bs sE fuel h z x0 x1 a (kI i) = some (.inl (some (.int (lo x0 x1 d a i))), h, z) := by
  intro d
  induction d with
  | zero =>
    intro fuel i a hi hf
    obtain ⟨f, rfl⟩ : ∃ f, fuel = f + 1 := ⟨fuel - 1, by omega⟩
    simp only [f_G_leastOf_L4, fb_G_leastOf_L4, if_pos (k4l (show 4 ≤ i by omega) (by omega)), lo]
  | succ d ih =>
    intro fuel i a hi hf
    obtain ⟨f, rfl⟩ : ∃ f, fuel = f + 1 := ⟨fuel - 1, by omega⟩
    have i1 := fun a => ih f (i + 1) a (by omega) (by omega)
    simp only [f_G_leastOf_L4, fb_G_leastOf_L4, if_neg (k4n (show i < 4 by omega)), B_has, cI_s, bI_0, decide_eq_false_iff_not, ne_eq, Decidable.not_not, bc_c, kI_add1, i1, lo]
    by_cases e1 : ((x0 >>> (kI i &&& 31)) &&& 1) = 0
    · simp [e1]
    · by_cases e2 : x1 ≤ bc a <;> simp [e1, e2]
theorem lo_c {h : HH} {x0 x1 : Int32} : f_G_leastOf bs sE h z x0 x1 = some (.inl (some (.int (lo x0 x1 4 0 0))), h, z) := lo_L 4 FU 0 0 (by omega) (by show _ < 1000; omega)
theorem ts_L {g : Nat} {x1 : Int32} (hg : g < 2) : ∀ (d fuel i : Nat) (w : Q4) (x3 : Int32), i + d = 4 → d < fuel → f_G_takeSurplus_L5 bs sE fuel (HB old bs (ur r 9 g w) ed o D) z (aG bs g) x1 x3 (kI i) = some (.inl none, HB old bs (ur r 9 g (ts x1 d w x3 i)) ed o D, z) := by
  intro d
  induction d with
  | zero =>
    intro fuel i w x3 hi hf
    obtain ⟨f, rfl⟩ : ∃ f, fuel = f + 1 := ⟨fuel - 1, by omega⟩
    simp only [f_G_takeSurplus_L5, fb_G_takeSurplus_L5, if_pos (k4l (show 4 ≤ i by omega) (by omega)), ts]
  | succ d ih =>
    intro fuel i w x3 hi hf
    obtain ⟨f, rfl⟩ : ∃ f, fuel = f + 1 := ⟨fuel - 1, by omega⟩
    have i1 := fun w x3 => ih f (i + 1) w x3 (by omega) (by omega)
    simp only [f_G_takeSurplus_L5, fb_G_takeSurplus_L5, if_neg (k4n (show i < 4 by omega)), gR_G3 hg, aI_Ow hg (show i < 4 by omega), ur_at (show i < 4 by omega), bn_s, lo_c, cI_s, aIs_Ow hg (show i < 4 by omega), ur_up (show i < 4 by omega), kI_add1, i1, bc_c, ts]
    by_cases e1 : x3 ≤ 0
    · simp [e1]
    · by_cases e2 : bc (g4 w i) ≤ x1 <;> simp [e1, e2]
def dm (b : Nat) : Int32 := if b = 0 then -1 else kI (b - 1)
theorem pm_L {g : Nat} {me w : Q4} (hg : g < 2) (hm : ∀ i, i < 4 → r 7 g i = g4 me i) : ∀ (d fuel i b : Nat) (c : Int32), i + d = 4 → d < fuel → f_G_poorestMember_L6 bs sE fuel (HB old bs (ur r 9 g w) ed o D) z (aG bs g) (dm b) c (kI i) = some (.inl (some (.int (dm (pm me w d b c i)))), HB old bs (ur r 9 g w) ed o D, z) := by
  intro d
  induction d with
  | zero =>
    intro fuel i b c hi hf
    obtain ⟨f, rfl⟩ : ∃ f, fuel = f + 1 := ⟨fuel - 1, by omega⟩
    simp only [f_G_poorestMember_L6, fb_G_poorestMember_L6, if_pos (k4l (show 4 ≤ i by omega) (by omega)), pm]
  | succ d ih =>
    intro fuel i b c hi hf
    obtain ⟨f, rfl⟩ : ∃ f, fuel = f + 1 := ⟨fuel - 1, by omega⟩
    have i1 := fun b c => ih f (i + 1) b c (by omega) (by omega)
    have i2 := i1 (i + 1)
    have hdm : dm (i + 1) = kI i := by simp [dm]
    rw [hdm] at i2
    have e7 : ur r 9 g w 7 g i = g4 me i := by rw [ur_o (by omega)]; exact hm i (by omega)
    simp only [f_G_poorestMember_L6, fb_G_poorestMember_L6, if_neg (k4n (show i < 4 by omega)), gR_G3 hg, gR_G1 hg, aI_Ow hg (show i < 4 by omega), aI_Me hg (show i < 4 by omega), ur_at (show i < 4 by omega), e7, bn_s, bc_c, cI_s, kI_add1, i1, i2, pm]
    by_cases e1 : g4 me i = 0
    · simp [e1]
    · by_cases e2 : c ≤ bc (g4 w i) <;> simp [e1, e2]
theorem ow_L {g : Nat} {w : Q4} {x : Int32} (hg : g < 2) : ∀ (d fuel i : Nat), i + d = 4 → d < fuel → f_G_isOwned_L11 bs sE fuel (HB old bs (ur r 9 g w) ed o D) z x (aOw bs g) 4 (kI i) = some (.inl (some (.int (bI (ow w x d i)))), HB old bs (ur r 9 g w) ed o D, z) := by
  intro d
  induction d with
  | zero =>
    intro fuel i hi hf
    obtain ⟨f, rfl⟩ : ∃ f, fuel = f + 1 := ⟨fuel - 1, by omega⟩
    simp only [f_G_isOwned_L11, fb_G_isOwned_L11, if_pos (k4l (show 4 ≤ i by omega) (by omega)), ow, bz_0, bn_s, bI_f]
  | succ d ih =>
    intro fuel i hi hf
    obtain ⟨f, rfl⟩ : ∃ f, fuel = f + 1 := ⟨fuel - 1, by omega⟩
    have i1 := ih f (i + 1) (by omega) (by omega)
    simp only [f_G_isOwned_L11, fb_G_isOwned_L11, if_neg (k4n (show i < 4 by omega)), aI_Ow hg (show i < 4 by omega), ur_at (show i < 4 by omega), bn_s, B_has, cI_s, bI_0, decide_eq_false_iff_not, ne_eq, Decidable.not_not, kI_add1, i1, ow, bz_1]
    by_cases e1 : (((g4 w i) >>> (x &&& 31)) &&& 1) = 0 <;> simp [e1, bI_t]
theorem gu_L {g : Nat} {me : Q4} (hg : g < 2) (hm : ∀ i, i < 4 → r 7 g i = g4 me i) : ∀ (d fuel i : Nat) (w : Q4), i + d = 4 → d < fuel → f_G_giveUnowned_L2 bs sE fuel (HB old bs (ur r 9 g w) ed o D) z (aG bs g) (kI i) = some (.inl none, HB old bs (ur r 9 g (gu me d w i)) ed o D, z) := by
  intro d
  induction d with
  | zero =>
    intro fuel i w hi hf
    obtain ⟨f, rfl⟩ : ∃ f, fuel = f + 1 := ⟨fuel - 1, by omega⟩
    simp only [f_G_giveUnowned_L2, fb_G_giveUnowned_L2, if_pos (k4l (show 4 ≤ i by omega) (by omega)), gu]
  | succ d ih =>
    intro fuel i w hi hf
    obtain ⟨f, rfl⟩ : ∃ f, fuel = f + 1 := ⟨fuel - 1, by omega⟩
    have i1 := fun w => ih f (i + 1) w (by omega) (by omega)
    have p1 := pm_L (old := old) (bs := bs) (ed := ed) (o := o) (D := D) (sE := sE) (z := z) (w := w) hg hm 4 FU 0 0 5 (by omega) (by show _ < 1000; omega)
    have o1 := ow_L (old := old) (bs := bs) (r := r) (ed := ed) (o := o) (D := D) (sE := sE) (z := z) (w := w) (x := kI i) hg 4 FU 0 (by omega) (by show _ < 1000; omega)
    have p1' : f_G_poorestMember bs sE (HB old bs (ur r 9 g w) ed o D) z (aG bs g) = _ := p1
    have o1' : f_G_isOwned_L11 bs sE FU (HB old bs (ur r 9 g w) ed o D) z (kI i) (aOw bs g) 4 0 = _ := o1
    have hle := pm_le (me := me) (w := w) 4 0 5 0 (by omega) (by omega)
    simp only [f_G_giveUnowned_L2, fb_G_giveUnowned_L2, if_neg (k4n (show i < 4 by omega)), f_G_isOwned, oK_G hg, gR_G3 hg, aN_Ow hg, bn_s, p1', o1', cI_s, bI_0, kI_add1, i1, gu]
    generalize pm me w 4 0 5 0 = q at hle
    by_cases e1 : ow w (kI i) 4 0 = true
    · simp [e1]
    · have e1 : ow w (kI i) 4 0 = false := by simpa using e1
      by_cases e2 : q = 0
      · subst e2
        simp [e1, dm]
      · have e3 : dm q = kI (q - 1) := by simp [dm, e2]
        have e4 : ¬ kI (q - 1) = -1 := by rw [kI_nm1 (by omega)]; exact id
        rw [e3]
        simp only [e1, if_true, if_neg e4, aI_Ow hg (show q - 1 < 4 by omega), aIs_Ow hg (show q - 1 < 4 by omega), ur_at (show q - 1 < 4 by omega), ur_up (show q - 1 < 4 by omega), bn_s, i1, Bool.false_eq_true, if_false, if_neg e2]
theorem cm_L {g : Nat} {me : Q4} (hg : g < 2) (hm : ∀ i, i < 4 → r 7 g i = g4 me i) : ∀ (d fuel i c : Nat), i + d = 4 → d < fuel → f_G_countMembers_L13 bs sE fuel (HB old bs r ed o D) z (kI c) (aMe bs g) 4 (kI i) = some (.inl (some (.int (kI (cm me d c i)))), HB old bs r ed o D, z) := by
  intro d
  induction d with
  | zero =>
    intro fuel i c hi hf
    obtain ⟨f, rfl⟩ : ∃ f, fuel = f + 1 := ⟨fuel - 1, by omega⟩
    simp only [f_G_countMembers_L13, fb_G_countMembers_L13, if_pos (k4l (show 4 ≤ i by omega) (by omega)), cm]
  | succ d ih =>
    intro fuel i c hi hf
    obtain ⟨f, rfl⟩ : ∃ f, fuel = f + 1 := ⟨fuel - 1, by omega⟩
    have i1 := fun c => ih f (i + 1) c (by omega) (by omega)
    simp only [f_G_countMembers_L13, fb_G_countMembers_L13, if_neg (k4n (show i < 4 by omega)), aI_Me hg (show i < 4 by omega), hm i (by omega), bn_s, kI_add1, i1, cm]
    by_cases e1 : g4 me i = 0 <;> simp [e1]
theorem G_share {g : Nat} {me w : Q4} (hg : g < 2) (hm : ∀ i, i < 4 → r 7 g i = g4 me i) (hw : ∀ i, i < 4 → r 9 g i = g4 w i) : f_G_share bs sE (HB old bs r ed o D) z (aG bs g) = some (.inl none, HB old bs (ur (up3 r 6 g 0 (r 6 g 0 + 1)) 9 g (shC me w)) ed o D, z) := by
  have hm' : ∀ i, i < 4 → (up3 r 6 g 0 (r 6 g 0 + 1)) 7 g i = g4 me i := fun i hi => by rw [← hm i hi]; simp [up3]
  have c1 := cm_L (old := old) (bs := bs) (ed := ed) (o := o) (D := D) (sE := sE) (z := z) hg hm' 4 FU 0 0 (by omega) (by show _ < 1000; omega)
  have c1' : f_G_countMembers_L13 bs sE FU (HB old bs (up3 r 6 g 0 (r 6 g 0 + 1)) ed o D) z 0 (aMe bs g) 4 0 = _ := c1
  have hu : ur (up3 r 6 g 0 (r 6 g 0 + 1)) 9 g w = up3 r 6 g 0 (r 6 g 0 + 1) := by
    funext f m i
    unfold ur
    by_cases h : f = 9 ∧ m = g ∧ i < 4
    · rw [if_pos h, ← hw i h.2.2, h.1, h.2.1]
      simp [up3]
    · rw [if_neg h]
  have hle := cm_le (me := me) 4 0 0
  simp only [f_G_share, gI_G0 hg, pV_G0 hg, oK_G hg, bn_s, f_G_countMembers, gR_G1 hg, aN_Me hg, c1', cI_s, shC]
  generalize cm me 4 0 0 = c at hle
  by_cases e : c = 0
  · subst e
    have : kI 0 ≤ 0 := by decide
    rw [if_pos this, if_pos rfl, hu]
  · have e1 : ¬ kI c ≤ 0 := fun q => by have := (kI_le (b := 0) (by omega) (by omega)).mp q; omega
    have e2 : ¬ kI c = 0 := fun q => by have := (kI_eq (b := 0) (by omega) (by omega)).mp q; omega
    rw [if_neg e1, if_neg e2, if_neg e2, if_neg e, ← hu]
    have t1 := ts_L (old := old) (bs := bs) (r := up3 r 6 g 0 (r 6 g 0 + 1)) (ed := ed) (o := o) (D := D) (sE := sE) (z := z) (x1 := 4 / kI c) hg 4 FU 0 w (4 - 4 / kI c * kI c) (by omega) (by show _ < 1000; omega)
    have g1 := fun w => gu_L (old := old) (bs := bs) (ed := ed) (o := o) (D := D) (sE := sE) (z := z) hg hm' 4 FU 0 w (by omega) (by show _ < 1000; omega)
    have t1' : f_G_takeSurplus bs sE (HB old bs (ur (up3 r 6 g 0 (r 6 g 0 + 1)) 9 g w) ed o D) z (aG bs g) (4 / kI c) (4 - 4 / kI c * kI c) = _ := t1
    have g1' : ∀ w, f_G_giveUnowned bs sE (HB old bs (ur (up3 r 6 g 0 (r 6 g 0 + 1)) 9 g w) ed o D) z (aG bs g) = _ := g1
    simp only [oK_G hg, bn_s, t1', cV_s, g1']
    rw [hu]
end SH1
