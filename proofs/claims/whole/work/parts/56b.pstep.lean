/-! step: the searches -/
def nN (r : RH) (p : Nat) : Nat := (r 20 7 p).toNatClampNeg
def nH (r : RH) (p : Nat) : Nat := (r 20 9 p).toNatClampNeg
def nT (r : RH) (w : Nat) : Nat := (r 20 12 w).toNatClampNeg
def nK (r : RH) (w : Nat) : Nat := (r 20 13 w).toNatClampNeg
def PP (r : RH) (w p : Nat) : Bool := bt (nK r w) p && (mkd r p (nH r p) (nT r w) false || !mkd r p (nN r p) (nT r w) false)
def QQ (r : RH) (w : Nat) : Bool := decide (r 20 10 w = 2 ∨ r 20 10 w = 3) && (decide (r 20 13 w = 0) || (srch (PP r w) 4 0).isSome)
section OPU
variable {old : HH} {bs : Nat} {r : RH} {ed : Nat → Nat} {o : Int64} {D : HH} {sE : Nat × Nat} {z : Z3} {T : Nat}
theorem sum_nn {zz p : Nat} (hT : T ≤ 513) (h6 : IVL bs sE.1 T D zz ed r) (hp : p < 4) : LG bs sE.1 T r ed D zz p (nN r p) (nH r p) := by
  obtain ⟨n, hi, hL⟩ := h6 p hp
  have c4 := hL.2.2.2.1
  have c6 := hL.2.2.2.2.2.1
  have := hL.1
  have := hL.2.1
  unfold nN nH
  rw [c4, c6, kI_clamp (by omega), kI_clamp (by omega)]
  exact hL
theorem B_adv_L {w k : Nat} {P : Nat → Bool} (hw : w < 4) (h5 : r 4 w 5 = kI k) (hP : ∀ p, P p = true → bt k p = true) (h0 : ∀ p, p < 4 → P p = false → bt k p = true → f_B_advanceIn bs sE (HB old bs r ed o D) z (aB bs) (aP bs w) (kI p) = some (.inl (some (.int 0)), HB old bs r ed o D, z)) : ∀ (d fuel i : Nat), i + d = 4 → d < fuel → (srch P d i = none → f_B_advance_L25 bs sE fuel (HB old bs r ed o D) z (aB bs) (aP bs w) (kI i) = some (.inl (some (.int 0)), HB old bs r ed o D, z)) ∧ ∀ p v h' z', srch P d i = some p → f_B_advanceIn bs sE (HB old bs r ed o D) z (aB bs) (aP bs w) (kI p) = some (.inl (some (.int v)), h', z') → v ≠ 0 → f_B_advance_L25 bs sE fuel (HB old bs r ed o D) z (aB bs) (aP bs w) (kI i) = some (.inl (some (.int v)), h', z') := by
  intro d
  induction d with
  | zero =>
    intro fuel i hi hf
    obtain ⟨f, rfl⟩ : ∃ f, fuel = f + 1 := ⟨fuel - 1, by omega⟩
    have c : (4 : Int32) ≤ kI i := (kI_le (a := 4) (by omega) (by omega)).mpr (by omega)
    refine ⟨fun _ => ?_, fun p v h' z' h => by simp [srch] at h⟩
    simp only [f_B_advance_L25, fb_B_advance_L25, if_pos c]
  | succ d ih =>
    intro fuel i hi hf
    obtain ⟨f, rfl⟩ : ∃ f, fuel = f + 1 := ⟨fuel - 1, by omega⟩
    have c : ¬ (4 : Int32) ≤ kI i := fun h => by have := (kI_le (a := 4) (by omega) (by omega)).mp h; omega
    obtain ⟨i1, i2⟩ := ih f (i + 1) (by omega) (by omega)
    have hh : ∀ z, f_B_has bs sE (HB old bs r ed o D) z (kI k) (kI i) = some (.inl (some (.int (bI (bt k i)))), HB old bs r ed o D, z) := fun z => B_has
    simp only [f_B_advance_L25, fb_B_advance_L25, if_neg c, gI_P5 hw, h5, cI_s, cI_x, cR_s, cR_x, cV_s, cV_x, cX_s, cX_x, bn_s, bz_0, bz_1, bz_b, bI_0, bI_1, hh, oK_B, kI_add1, srch, if_true]
    cases hp : P i with
    | true =>
      have hb := hP i hp
      refine ⟨fun h => by simp at h, fun p v h' z' h ha hv => ?_⟩
      have : i = p := by simpa using h
      subst this
      simp only [hb, Bool.true_eq_false, if_false, ha, cI_s, if_neg hv]
    | false =>
      simp only [Bool.false_eq_true, if_false]
      cases hb : bt k i with
      | false => exact ⟨fun h => by rw [if_pos rfl]; exact i1 h, fun p v h' z' h ha hv => by rw [if_pos rfl]; exact i2 p v h' z' h ha hv⟩
      | true =>
        simp only [Bool.true_eq_false, if_false, h0 i (by omega) hp hb, cI_s, if_true]
        exact ⟨i1, i2⟩
theorem B_step_L {Q : Nat → Bool} (h0 : ∀ w, w < 4 → Q w = false → f_B_advance bs sE (HB old bs r ed o D) z (aB bs) (aP bs w) = some (.inl (some (.int 0)), HB old bs r ed o D, z)) : ∀ (d fuel i : Nat), i + d = 4 → d < fuel → (srch Q d i = none → f_B_step_L2 bs sE fuel (HB old bs r ed o D) z (aB bs) (kI i) = some (.inl (some (.int (-1))), HB old bs r ed o D, z)) ∧ ∀ w v h' z', srch Q d i = some w → f_B_advance bs sE (HB old bs r ed o D) z (aB bs) (aP bs w) = some (.inl (some (.int v)), h', z') → v ≠ 0 → f_B_step_L2 bs sE fuel (HB old bs r ed o D) z (aB bs) (kI i) = some (.inl (some (.int (10 * kI w + v))), h', z') := by
  intro d
  induction d with
  | zero =>
    intro fuel i hi hf
    obtain ⟨f, rfl⟩ : ∃ f, fuel = f + 1 := ⟨fuel - 1, by omega⟩
    have c : (4 : Int32) ≤ kI i := (kI_le (a := 4) (by omega) (by omega)).mpr (by omega)
    refine ⟨fun _ => ?_, fun p v h' z' h => by simp [srch] at h⟩
    simp only [f_B_step_L2, fb_B_step_L2, if_pos c]
  | succ d ih =>
    intro fuel i hi hf
    obtain ⟨f, rfl⟩ : ∃ f, fuel = f + 1 := ⟨fuel - 1, by omega⟩
    have c : ¬ (4 : Int32) ≤ kI i := fun h => by have := (kI_le (a := 4) (by omega) (by omega)).mp h; omega
    obtain ⟨i1, i2⟩ := ih f (i + 1) (by omega) (by omega)
    simp only [f_B_step_L2, fb_B_step_L2, if_neg c, gR_B1, aR_Ps (show i < 4 by omega), cI_s, cI_x, cR_s, cR_x, cV_s, cV_x, cX_s, cX_x, bn_s, bz_0, bz_1, bz_b, bI_0, bI_1, oK_B, kI_add1, srch]
    cases hp : Q i with
    | true =>
      refine ⟨fun h => by simp at h, fun p v h' z' h ha hv => ?_⟩
      have : i = p := by simpa using h
      subst this
      simp only [ha, cI_s, if_neg hv]
    | false =>
      simp only [Bool.false_eq_true, if_false, h0 i (by omega) hp, cI_s, if_true]
      exact ⟨i1, i2⟩
theorem M_adv_L {w k t : Nat} {N H : Nat → Nat} (hT : T ≤ 513) (hw : w < 4) (hk : k < 16) (ht : t ≤ 40) (h12 : r 20 12 w = kI t) (h13 : r 20 13 w = kI k) (hG : ∀ p, p < 4 → MG T r p (N p) (H p)) : ∀ (d fuel i : Nat), i + d = 4 → d < fuel → f_M_stepOf_L75 bs sE fuel (HB old bs r ed o D) z (aM bs) (kI w) (kI i) = match srch (fun p => bt k p && (mkd r p (H p) t false || !mkd r p (N p) t false)) d i with
      | none => some (.inl (some (.int 0)), HB old bs r ed o D, z)
      | some p => if mkd r p (H p) t false = true then some (.inl (some (.int 2)), HB old bs (up3 r 20 13 w (kI k - (1 <<< (kI p &&& 31)))) ed o D, z) else some (.inl (some (.int 1)), HB old bs (pu r p (N p) (r 20 10 w) 0 (kI w) (r 20 11 w) (-1) (kI t)) ed o D, z) := by
  intro d
  induction d with
  | zero =>
    intro fuel i hi hf
    obtain ⟨f, rfl⟩ : ∃ f, fuel = f + 1 := ⟨fuel - 1, by omega⟩
    have c : (4 : Int32) ≤ kI i := (kI_le (a := 4) (by omega) (by omega)).mpr (by omega)
    simp only [f_M_stepOf_L75, fb_M_stepOf_L75, if_pos c, srch]
  | succ d ih =>
    intro fuel i hi hf
    obtain ⟨f, rfl⟩ : ∃ f, fuel = f + 1 := ⟨fuel - 1, by omega⟩
    have c : ¬ (4 : Int32) ≤ kI i := fun h => by have := (kI_le (a := 4) (by omega) (by omega)).mp h; omega
    have ih' := ih f (i + 1) (by omega) (by omega)
    have hi4 : i < 4 := by omega
    have hg := hG i hi4
    have b1 := hg.1
    simp only [f_M_stepOf_L75, fb_M_stepOf_L75, if_neg c, gR_M13, gR_M12, gR_M9, gR_M7, gR_M10, oK_M, aI_MA (show marr 13 = true from rfl) (show w < msz 13 by simp [msz, hw]), aI_MA (show marr 12 = true from rfl) (show w < msz 12 by simp [msz, hw]), aI_MA (show marr 10 = true from rfl) (show w < msz 10 by simp [msz, hw]), aI_MA (show marr 9 = true from rfl) (show i < msz 9 by simp [msz, hi4]), aI_MA (show marr 7 = true from rfl) (show i < msz 7 by simp [msz, hi4]), aIs_MA (show marr 13 = true from rfl) (show w < msz 13 by simp [msz, hw]), h12, h13, hg.2.2.1, hg.2.2.2.1, cI_s, cI_x, cR_s, cR_x, cV_s, cV_x, cX_s, cX_x, bn_s, bz_0, bz_1, bz_b, bI_0, bI_1, M_marked hi4 hT hg hg.2.1, M_marked hi4 hT hg (Nat.le_refl _), M_put hi4 (show N i ≤ 513 by omega) hw hg.2.2.1, kI_add1, srch, show decide ((0 : Int32) ≠ 0) = false from rfl, ih']
    by_cases hb : bt k i = true
    · have hb' : ¬ ((kI k >>> (kI i &&& 31)) &&& 1) = 0 := by simpa [bt] using hb
      rw [if_neg hb']
      by_cases m1 : mkd r i (H i) t false = true
      · simp [hb, m1]
      · have m1 : mkd r i (H i) t false = false := by simpa using m1
        by_cases m2 : mkd r i (N i) t false = true
        · simp [hb, m1, m2]
        · have m2 : mkd r i (N i) t false = false := by simpa using m2
          simp [hb, m1, m2]
    · have hb' : ((kI k >>> (kI i &&& 31)) &&& 1) = 0 := by simpa [bt] using hb
      have hb : bt k i = false := by simpa using hb
      simp [hb, hb']
theorem M_step_L {R : Nat → Option RS} {Q : Nat → Bool} (hQ : ∀ w, Q w = true → ¬ r 20 10 w ≤ 1) (h0 : ∀ w, w < 4 → Q w = false → ¬ r 20 10 w ≤ 1 → f_M_stepOf bs sE (HB old bs r ed o D) z (aM bs) (kI w) = some (.inl (some (.int 0)), HB old bs r ed o D, z)) : ∀ (d fuel i : Nat), i + d = 4 → d < fuel → (srch Q d i = none → f_M_step_L7 bs sE fuel (HB old bs r ed o D) z (aM bs) (kI i) = some (.inl (some (.int (-1))), HB old bs r ed o D, z)) ∧ ∀ w v h' z', srch Q d i = some w → f_M_stepOf bs sE (HB old bs r ed o D) z (aM bs) (kI w) = some (.inl (some (.int v)), h', z') → ¬ v ≤ 0 → f_M_step_L7 bs sE fuel (HB old bs r ed o D) z (aM bs) (kI i) = some (.inl (some (.int (10 * kI w + v))), h', z') := by
  intro d
  induction d with
  | zero =>
    intro fuel i hi hf
    obtain ⟨f, rfl⟩ : ∃ f, fuel = f + 1 := ⟨fuel - 1, by omega⟩
    have c : (4 : Int32) ≤ kI i := (kI_le (a := 4) (by omega) (by omega)).mpr (by omega)
    refine ⟨fun _ => ?_, fun p v h' z' h => by simp [srch] at h⟩
    simp only [f_M_step_L7, fb_M_step_L7, if_pos c]
  | succ d ih =>
    intro fuel i hi hf
    obtain ⟨f, rfl⟩ : ∃ f, fuel = f + 1 := ⟨fuel - 1, by omega⟩
    have c : ¬ (4 : Int32) ≤ kI i := fun h => by have := (kI_le (a := 4) (by omega) (by omega)).mp h; omega
    obtain ⟨i1, i2⟩ := ih f (i + 1) (by omega) (by omega)
    simp only [f_M_step_L7, fb_M_step_L7, if_neg c, gR_M10, aI_MA (show marr 10 = true from rfl) (show i < msz 10 by simp [msz]; omega), cI_s, cI_x, cR_s, cR_x, cV_s, cV_x, cX_s, cX_x, bn_s, bz_0, bz_1, bz_b, bI_0, bI_1, oK_M, kI_add1, srch, Int32.le_refl, if_true]
    by_cases hp : Q i = true
    · rw [if_neg (hQ i hp)]
      refine ⟨fun h => by simp [hp] at h, fun p v h' z' h ha hv => ?_⟩
      have : i = p := by simpa [hp] using h
      subst this
      simp only [ha, cI_s, if_neg hv]
    · have hp : Q i = false := by simpa using hp
      simp only [hp, Bool.false_eq_true, if_false]
      by_cases h1 : r 20 10 i ≤ 1
      · rw [if_pos h1]
        exact ⟨i1, i2⟩
      · rw [if_neg h1, h0 i (by omega) hp h1]
        simp only [cI_s, Int32.le_refl, if_true]
        exact ⟨i1, i2⟩
end OPU
