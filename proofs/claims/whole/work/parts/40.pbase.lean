/-! the pure side: words -/
def kI (k : Nat) : Int32 := Int32.ofNat k
theorem kI_toInt {k : Nat} (h : k < 2147483648) : (kI k).toInt = k := Int32.toInt_ofNat_of_lt (by omega)
theorem kI_0 : kI 0 = 0 := rfl
theorem kI_add (a b : Nat) : kI a + kI b = kI (a + b) := (Int32.ofNat_add a b).symm
theorem kI_add1 (a : Nat) : kI a + 1 = kI (a + 1) := kI_add a 1
theorem kI_1add (a : Nat) : 1 + kI a = kI (1 + a) := kI_add 1 a
theorem kI_sub {a b : Nat} (h : b ≤ a) : kI a - kI b = kI (a - b) := (Int32.ofNat_sub a b h).symm
theorem kI_sub1 {a : Nat} (h : 1 ≤ a) : kI a - 1 = kI (a - 1) := kI_sub h
theorem kI_mul (a b : Nat) : kI a * kI b = kI (a * b) := (Int32.ofNat_mul a b).symm
theorem kI_m1 {a : Nat} (h : 1 ≤ a) : kI a + (-1) = kI (a - 1) := by
  rw [← kI_sub1 h, Int32.sub_eq_add_neg]
theorem kI_520 (a : Nat) : 520 * kI a = kI (520 * a) := kI_mul 520 a
theorem kI_8 (a : Nat) : 8 * kI a = kI (8 * a) := kI_mul 8 a
theorem kI_4 (a : Nat) : 4 * kI a = kI (4 * a) := kI_mul 4 a
theorem kI_m4 (a : Nat) : kI a * 4 = kI (a * 4) := kI_mul a 4
theorem kI_10 (a : Nat) : 10 * kI a = kI (10 * a) := kI_mul 10 a
theorem kI_add6 (a : Nat) : kI a + 6 = kI (a + 6) := kI_add a 6
theorem kI_add2 (a : Nat) : kI a + 2 = kI (a + 2) := kI_add a 2
theorem kI_add3 (a : Nat) : kI a + 3 = kI (a + 3) := kI_add a 3
theorem kI_add4 (a : Nat) : kI a + 4 = kI (a + 4) := kI_add a 4
theorem kI_add5 (a : Nat) : kI a + 5 = kI (a + 5) := kI_add a 5
theorem kI_le {a b : Nat} (ha : a < 2147483648) (hb : b < 2147483648) : kI a ≤ kI b ↔ a ≤ b := by
  rw [Int32.le_iff_toInt_le, kI_toInt ha, kI_toInt hb]
  omega
theorem kI_lt {a b : Nat} (ha : a < 2147483648) (hb : b < 2147483648) : kI a < kI b ↔ a < b := by
  rw [Int32.lt_iff_toInt_lt, kI_toInt ha, kI_toInt hb]
  omega
theorem kI_eq {a b : Nat} (ha : a < 2147483648) (hb : b < 2147483648) : kI a = kI b ↔ a = b := by
  rw [← Int32.toInt_inj, kI_toInt ha, kI_toInt hb]
  omega
theorem kI_nl0 {a : Nat} (ha : a < 2147483648) : (kI a < 0) = False := eq_false (fun h => absurd ((kI_lt (b := 0) ha (by omega)).mp h) (by omega))
theorem kI_0le {a : Nat} (ha : a < 2147483648) : (0 ≤ kI a) = True := eq_true ((kI_le (a := 0) (by omega) ha).mpr (by omega))
theorem kI_nm1 {a : Nat} (ha : a < 2147483648) : (kI a = -1) = False := by
  apply eq_false
  intro h
  have h2 := kI_toInt ha
  rw [h] at h2
  have h3 : (-1 : Int32).toInt = -1 := by decide
  omega
theorem kI_clamp {a : Nat} (ha : a < 2147483648) : (kI a).toNatClampNeg = a := Int32.toNatClampNeg_ofNat_of_lt (by omega)
theorem kI_inr {a n : Nat} (ha : a < 2147483648) (h : a < n) : inr_ (kI a) n = true := by
  have h1 := kI_nl0 ha
  simp [inr_, kI_clamp ha, h1]
  omega
theorem kI_of {x : Int32} (h0 : 0 ≤ x) : ∃ k, k < 2147483648 ∧ x = kI k := by
  refine ⟨x.toNatClampNeg, ?_, ?_⟩
  · have := x.toInt_lt
    have h1 : x.toNatClampNeg = x.toInt.toNat := rfl
    omega
  · apply Int32.toInt_inj.mp
    have h1 : x.toNatClampNeg = x.toInt.toNat := rfl
    have h2 : 0 ≤ x.toInt := Int32.le_iff_toInt_le.mp h0
    have h3 := x.toInt_lt
    rw [kI_toInt (by omega)]
    omega
theorem kI_rg {x : Int32} {m : Nat} (hm : m < 2147483648) (h0 : ¬ x < 0) (h1 : x ≤ kI m) : ∃ k, k ≤ m ∧ x = kI k := by
  obtain ⟨k, hk, rfl⟩ := kI_of (Int32.not_lt.mp h0)
  exact ⟨k, (kI_le hk hm).mp h1, rfl⟩
/-! the heap of the run: fixed cells at bs + .., the rest D -/
def up3 (r : Nat → Nat → Nat → Int32) (f m i : Nat) (x : Int32) : Nat → Nat → Nat → Int32 := fun f' m' i' => if f' = f ∧ m' = m ∧ i' = i then x else r f' m' i'
theorem up3_fn {r : Nat → Nat → Nat → Int32} {f m i : Nat} {x : Int32} {f' m' : Nat} (h : ¬ (f' = f ∧ m' = m)) : up3 r f m i x f' m' = r f' m' := by
  funext i'
  unfold up3
  rw [if_neg]
  rintro ⟨a, b, -⟩
  exact h ⟨a, b⟩
theorem up3_at {r : Nat → Nat → Nat → Int32} {f m i : Nat} {x : Int32} : up3 r f m i x f m = upd (r f m) i x := by
  funext i'
  simp [up3, upd]
abbrev RH : Type := Nat → Nat → Nat → Int32
def aL (bs p : Nat) : Nat := bs + (4 + 3 * p)
def aAL (bs p : Nat) : Nat := bs + (5 + 3 * p)
def aMK (bs p : Nat) : Nat := bs + (6 + 3 * p)
def aP (bs n : Nat) : Nat := bs + (16 + 2 * n)
def aPe (bs n : Nat) : Nat := bs + (17 + 2 * n)
def aG (bs g : Nat) : Nat := bs + (24 + 5 * g)
def aMe (bs g : Nat) : Nat := bs + (25 + 5 * g)
def aHe (bs g : Nat) : Nat := bs + (26 + 5 * g)
def aOw (bs g : Nat) : Nat := bs + (27 + 5 * g)
def aCo (bs g : Nat) : Nat := bs + (28 + 5 * g)
def aB (bs : Nat) : Nat := bs + 0
def aLs (bs : Nat) : Nat := bs + 1
def aPs (bs : Nat) : Nat := bs + 2
def aGs (bs : Nat) : Nat := bs + 3
def aM (bs : Nat) : Nat := bs + 34
def mof (k : Nat) : Nat := if k ≤ 15 then 34 + k else 33 + k
def aMA (bs k : Nat) : Nat := bs + mof k
def aOu (bs : Nat) : Nat := bs + 55
def cB (bs : Nat) (r : RH) : HC := .inl (4, [.inr (some (aLs bs)), .inr (some (aPs bs)), .inr (some (aGs bs)), .inl (r 0 0 3), .inl (r 0 0 4), .inl (r 0 0 5)])
def cL (bs : Nat) (r : RH) (p : Nat) : HC := .inl (2, [.inr (some (aAL bs p)), .inr (some (aMK bs p)), .inl (r 1 p 2), .inl (r 1 p 3)])
def cAL (r : RH) (ed : Nat → Nat) (p : Nat) : HC := .inl (5, [.inl (r 2 p 0), .inr (some (ed p)), .inl (r 2 p 2)])
def cP (bs : Nat) (r : RH) (n : Nat) : HC := .inl (3, [.inl (r 4 n 0), .inl (r 4 n 1), .inl (r 4 n 2), .inl (r 4 n 3), .inl (r 4 n 4), .inl (r 4 n 5), .inr (some (aPe bs n))])
def cG (bs : Nat) (r : RH) (g : Nat) : HC := .inl (1, [.inl (r 6 g 0), .inr (some (aMe bs g)), .inr (some (aHe bs g)), .inr (some (aOw bs g)), .inr (some (aCo bs g))])
def cA (n : Nat) (f : Nat → Int32) : HC := .inr (0, n, .inl f)
def cZ (n : Nat) (f : Nat → Int32) : HC := .inr (1, n, .inl f)
def cRs (kd n : Nat) (f : Nat → Nat) : HC := .inr (kd, n, .inr (.inr (fun i => if i < n then some (f i) else none)))
def mR (bs k : Nat) : HV := .inr (some (aMA bs k))
def cM (bs : Nat) (r : RH) : HC := .inl (6, [.inl (r 20 0 0), mR bs 1, mR bs 2, mR bs 3, mR bs 4, mR bs 5, mR bs 6, mR bs 7, mR bs 8, mR bs 9, mR bs 10, mR bs 11, mR bs 12, mR bs 13, mR bs 14, mR bs 15, .inl (r 20 16 0), mR bs 17, mR bs 18, mR bs 19, mR bs 20, mR bs 21, .inl (r 20 22 0), .inl (r 20 23 0)])
def msz (k : Nat) : Nat := if k ≤ 6 then 2080 else if k ≤ 14 then 4 else if k = 15 then 32 else if k = 17 then 2 else 8
def SC (bs : Nat) (r : RH) (ed : Nat → Nat) (o : Int64) (j : Nat) : HC :=
  if j = 0 then cB bs r else
  if j = 1 then cRs 4 4 (aL bs) else
  if j = 2 then cRs 5 4 (aP bs) else
  if j = 3 then cRs 6 2 (aG bs) else
  if j < 16 then (if (j - 4) % 3 = 0 then cL bs r ((j - 4) / 3) else if (j - 4) % 3 = 1 then cAL r ed ((j - 4) / 3) else cA 41 (r 3 ((j - 4) / 3))) else
  if j < 24 then (if (j - 16) % 2 = 0 then cP bs r ((j - 16) / 2) else cA 8 (r 5 ((j - 16) / 2))) else
  if j < 34 then (if (j - 24) % 5 = 0 then cG bs r ((j - 24) / 5) else if (j - 24) % 5 = 1 then cZ 4 (r 7 ((j - 24) / 5)) else if (j - 24) % 5 = 2 then cA 4 (r 8 ((j - 24) / 5)) else if (j - 24) % 5 = 3 then cA 4 (r 9 ((j - 24) / 5)) else cA 4 (r 10 ((j - 24) / 5))) else
  if j = 34 then cM bs r else
  if j < 50 then cA (msz (j - 34)) (r 20 (j - 34)) else
  if j = 51 then cZ 8 (r 20 18) else
  if j < 55 then cA (msz (j - 33)) (r 20 (j - 33)) else
  .inr (2, 1, .inr (.inl (fun i => if i = 0 then o else 0)))
def HB (old : HH) (bs : Nat) (r : RH) (ed : Nat → Nat) (o : Int64) (D : HH) : HH := fun a => if a < bs then old a else if a < bs + 56 then some (SC bs r ed o (a - bs)) else D a
section HB1
variable {old : HH} {bs : Nat} {r : RH} {ed : Nat → Nat} {o : Int64} {D : HH}
theorem HB_st {j : Nat} (h : j < 56) : HB old bs r ed o D (bs + j) = some (SC bs r ed o j) := by
  unfold HB
  rw [if_neg (by omega), if_pos (by omega)]
  congr 2
  omega
theorem HB_old {a : Nat} (h : a < bs) : HB old bs r ed o D a = old a := by
  unfold HB
  rw [if_pos h]
theorem HB_D {a : Nat} (h : bs + 56 ≤ a) : HB old bs r ed o D a = D a := by
  unfold HB
  rw [if_neg (by omega), if_neg (by omega)]
theorem HB_upD {a : Nat} {x : Option HC} (h : bs + 56 ≤ a) : va_up (HB old bs r ed o D) a x = HB old bs r ed o (va_up D a x) := by
  funext b
  unfold va_up HB
  by_cases hb : b = a
  · subst hb
    rw [if_pos rfl, if_neg (by omega), if_neg (by omega)]
    simp
  · simp [hb]
theorem HB_B : HB old bs r ed o D (aB bs) = some (cB bs r) := HB_st (j := 0) (by omega)
theorem HB_Ls : HB old bs r ed o D (aLs bs) = some (cRs 4 4 (aL bs)) := HB_st (j := 1) (by omega)
theorem HB_Ps : HB old bs r ed o D (aPs bs) = some (cRs 5 4 (aP bs)) := HB_st (j := 2) (by omega)
theorem HB_Gs : HB old bs r ed o D (aGs bs) = some (cRs 6 2 (aG bs)) := HB_st (j := 3) (by omega)
theorem HB_M : HB old bs r ed o D (aM bs) = some (cM bs r) := HB_st (j := 34) (by omega)
theorem HB_Ou : HB old bs r ed o D (aOu bs) = some (.inr (2, 1, .inr (.inl (fun i => if i = 0 then o else 0)))) := HB_st (j := 55) (by omega)
theorem c4 {p : Nat} (h : p < 4) : p = 0 ∨ p = 1 ∨ p = 2 ∨ p = 3 := by omega
theorem c2 {p : Nat} (h : p < 2) : p = 0 ∨ p = 1 := by omega
theorem HB_L {p : Nat} (h : p < 4) : HB old bs r ed o D (aL bs p) = some (cL bs r p) := by
  unfold aL
  rw [HB_st (by omega)]
  rcases c4 h with rfl | rfl | rfl | rfl <;> rfl
theorem HB_AL {p : Nat} (h : p < 4) : HB old bs r ed o D (aAL bs p) = some (cAL r ed p) := by
  unfold aAL
  rw [HB_st (by omega)]
  rcases c4 h with rfl | rfl | rfl | rfl <;> rfl
theorem HB_MK {p : Nat} (h : p < 4) : HB old bs r ed o D (aMK bs p) = some (cA 41 (r 3 p)) := by
  unfold aMK
  rw [HB_st (by omega)]
  rcases c4 h with rfl | rfl | rfl | rfl <;> rfl
theorem HB_P {p : Nat} (h : p < 4) : HB old bs r ed o D (aP bs p) = some (cP bs r p) := by
  unfold aP
  rw [HB_st (by omega)]
  rcases c4 h with rfl | rfl | rfl | rfl <;> rfl
theorem HB_Pe {p : Nat} (h : p < 4) : HB old bs r ed o D (aPe bs p) = some (cA 8 (r 5 p)) := by
  unfold aPe
  rw [HB_st (by omega)]
  rcases c4 h with rfl | rfl | rfl | rfl <;> rfl
theorem HB_G {p : Nat} (h : p < 2) : HB old bs r ed o D (aG bs p) = some (cG bs r p) := by
  unfold aG
  rw [HB_st (by omega)]
  rcases c2 h with rfl | rfl <;> rfl
theorem HB_Me {p : Nat} (h : p < 2) : HB old bs r ed o D (aMe bs p) = some (cZ 4 (r 7 p)) := by
  unfold aMe
  rw [HB_st (by omega)]
  rcases c2 h with rfl | rfl <;> rfl
theorem HB_He {p : Nat} (h : p < 2) : HB old bs r ed o D (aHe bs p) = some (cA 4 (r 8 p)) := by
  unfold aHe
  rw [HB_st (by omega)]
  rcases c2 h with rfl | rfl <;> rfl
theorem HB_Ow {p : Nat} (h : p < 2) : HB old bs r ed o D (aOw bs p) = some (cA 4 (r 9 p)) := by
  unfold aOw
  rw [HB_st (by omega)]
  rcases c2 h with rfl | rfl <;> rfl
theorem HB_Co {p : Nat} (h : p < 2) : HB old bs r ed o D (aCo bs p) = some (cA 4 (r 10 p)) := by
  unfold aCo
  rw [HB_st (by omega)]
  rcases c2 h with rfl | rfl <;> rfl
/-- the model's fields that are arrays of int -/
def marr (k : Nat) : Bool := decide (1 ≤ k ∧ k ≤ 21 ∧ k ≠ 16 ∧ k ≠ 18)
theorem HB_MA {k : Nat} (h : marr k = true) : HB old bs r ed o D (aMA bs k) = some (cA (msz k) (r 20 k)) := by
  have h2 : 1 ≤ k ∧ k ≤ 21 ∧ k ≠ 16 ∧ k ≠ 18 := of_decide_eq_true h
  have h3 : mof k < 56 := by
    unfold mof
    split <;> omega
  unfold aMA
  rw [HB_st h3]
  rcases (show k = 1 ∨ k = 2 ∨ k = 3 ∨ k = 4 ∨ k = 5 ∨ k = 6 ∨ k = 7 ∨ k = 8 ∨ k = 9 ∨ k = 10 ∨ k = 11 ∨ k = 12 ∨ k = 13 ∨ k = 14 ∨ k = 15 ∨ k = 17 ∨ k = 19 ∨ k = 20 ∨ k = 21 by omega) with rfl | rfl | rfl | rfl | rfl | rfl | rfl | rfl | rfl | rfl | rfl | rfl | rfl | rfl | rfl | rfl | rfl | rfl | rfl <;> rfl
theorem HB_MA18 : HB old bs r ed o D (aMA bs 18) = some (cZ 8 (r 20 18)) := HB_st (j := 51) (by omega)
/-- where the fixed cell of a family lies -/
def own (f m : Nat) : Nat :=
  if f = 0 then 0 else if f = 1 then 4 + 3 * m else if f = 2 then 5 + 3 * m else if f = 3 then 6 + 3 * m else
  if f = 4 then 16 + 2 * m else if f = 5 then 17 + 2 * m else if f = 6 then 24 + 5 * m else if f = 7 then 25 + 5 * m else if f = 8 then 26 + 5 * m else if f = 9 then 27 + 5 * m else if f = 10 then 28 + 5 * m else
  if m = 0 ∨ m = 16 ∨ m = 22 ∨ m = 23 then 34 else mof m
theorem up3_ne {f m i : Nat} {x : Int32} {f' m' i' : Nat} (h : own f' m' ≠ own f m) : up3 r f m i x f' m' i' = r f' m' i' := by
  rw [up3_fn]
  rintro ⟨rfl, rfl⟩
  exact h rfl
theorem up3_nf {f m i : Nat} {x : Int32} {f' m' : Nat} (h : own f' m' ≠ own f m) : up3 r f m i x f' m' = r f' m' := by
  rw [up3_fn]
  rintro ⟨rfl, rfl⟩
  exact h rfl
theorem SC_ne {f m i : Nat} {x : Int32} {j : Nat} (hj : j < 56) (h : j ≠ own f m) : SC bs (up3 r f m i x) ed o j = SC bs r ed o j := by
  unfold SC
  by_cases h0 : j = 0
  · simp only [h0, if_true]
    have e : own 0 0 ≠ own f m := by rw [show own 0 0 = 0 from rfl, ← h0]; exact h
    unfold cB
    rw [up3_ne e, up3_ne e, up3_ne e]
  rw [if_neg h0, if_neg h0]
  by_cases h1 : j = 1
  · simp only [h1, if_true]
  rw [if_neg h1, if_neg h1]
  by_cases h2 : j = 2
  · simp only [h2, if_true]
  rw [if_neg h2, if_neg h2]
  by_cases h3 : j = 3
  · simp only [h3, if_true]
  rw [if_neg h3, if_neg h3]
  by_cases h16 : j < 16
  · rw [if_pos h16, if_pos h16]
    by_cases e0 : (j - 4) % 3 = 0
    · rw [if_pos e0, if_pos e0]
      have e : own 1 ((j - 4) / 3) ≠ own f m := by
        have : own 1 ((j - 4) / 3) = j := by simp [own]; omega
        rw [this]; exact h
      unfold cL
      rw [up3_ne e, up3_ne e]
    rw [if_neg e0, if_neg e0]
    by_cases e1 : (j - 4) % 3 = 1
    · rw [if_pos e1, if_pos e1]
      have e : own 2 ((j - 4) / 3) ≠ own f m := by
        have : own 2 ((j - 4) / 3) = j := by simp [own]; omega
        rw [this]; exact h
      unfold cAL
      rw [up3_ne e, up3_ne e]
    rw [if_neg e1, if_neg e1]
    have e : own 3 ((j - 4) / 3) ≠ own f m := by
      have : own 3 ((j - 4) / 3) = j := by simp [own]; omega
      rw [this]; exact h
    rw [up3_nf e]
  rw [if_neg h16, if_neg h16]
  by_cases h24 : j < 24
  · rw [if_pos h24, if_pos h24]
    by_cases e0 : (j - 16) % 2 = 0
    · rw [if_pos e0, if_pos e0]
      have e : own 4 ((j - 16) / 2) ≠ own f m := by
        have : own 4 ((j - 16) / 2) = j := by simp [own]; omega
        rw [this]; exact h
      unfold cP
      rw [up3_ne e, up3_ne e, up3_ne e, up3_ne e, up3_ne e, up3_ne e]
    rw [if_neg e0, if_neg e0]
    have e : own 5 ((j - 16) / 2) ≠ own f m := by
      have : own 5 ((j - 16) / 2) = j := by simp [own]; omega
      rw [this]; exact h
    rw [up3_nf e]
  rw [if_neg h24, if_neg h24]
  by_cases h34 : j < 34
  · rw [if_pos h34, if_pos h34]
    by_cases e0 : (j - 24) % 5 = 0
    · rw [if_pos e0, if_pos e0]
      have e : own 6 ((j - 24) / 5) ≠ own f m := by
        have : own 6 ((j - 24) / 5) = j := by simp [own]; omega
        rw [this]; exact h
      unfold cG
      rw [up3_ne e]
    rw [if_neg e0, if_neg e0]
    by_cases e1 : (j - 24) % 5 = 1
    · rw [if_pos e1, if_pos e1]
      have e : own 7 ((j - 24) / 5) ≠ own f m := by
        have : own 7 ((j - 24) / 5) = j := by simp [own]; omega
        rw [this]; exact h
      rw [up3_nf e]
    rw [if_neg e1, if_neg e1]
    by_cases e2 : (j - 24) % 5 = 2
    · rw [if_pos e2, if_pos e2]
      have e : own 8 ((j - 24) / 5) ≠ own f m := by
        have : own 8 ((j - 24) / 5) = j := by simp [own]; omega
        rw [this]; exact h
      rw [up3_nf e]
    rw [if_neg e2, if_neg e2]
    by_cases e3 : (j - 24) % 5 = 3
    · rw [if_pos e3, if_pos e3]
      have e : own 9 ((j - 24) / 5) ≠ own f m := by
        have : own 9 ((j - 24) / 5) = j := by simp [own]; omega
        rw [this]; exact h
      rw [up3_nf e]
    rw [if_neg e3, if_neg e3]
    have e : own 10 ((j - 24) / 5) ≠ own f m := by
      have : own 10 ((j - 24) / 5) = j := by simp [own]; omega
      rw [this]; exact h
    rw [up3_nf e]
  rw [if_neg h34, if_neg h34]
  by_cases e34 : j = 34
  · rw [if_pos e34, if_pos e34]
    have q0 : own 20 0 ≠ own f m := by rw [show own 20 0 = 34 from rfl, ← e34]; exact h
    have q1 : own 20 16 ≠ own f m := by rw [show own 20 16 = 34 from rfl, ← e34]; exact h
    have q2 : own 20 22 ≠ own f m := by rw [show own 20 22 = 34 from rfl, ← e34]; exact h
    have q3 : own 20 23 ≠ own f m := by rw [show own 20 23 = 34 from rfl, ← e34]; exact h
    unfold cM
    rw [up3_ne q0, up3_ne q1, up3_ne q2, up3_ne q3]
  rw [if_neg e34, if_neg e34]
  by_cases h50 : j < 50
  · rw [if_pos h50, if_pos h50]
    have e : own 20 (j - 34) ≠ own f m := by
      have : own 20 (j - 34) = j := by
        unfold own mof
        simp
        rw [if_neg (by omega), if_pos (by omega)]
        omega
      rw [this]; exact h
    rw [up3_nf e]
  rw [if_neg h50, if_neg h50]
  by_cases h51 : j = 51
  · rw [if_pos h51, if_pos h51]
    have e : own 20 18 ≠ own f m := by rw [show own 20 18 = 51 from rfl, ← h51]; exact h
    rw [up3_nf e]
  rw [if_neg h51, if_neg h51]
  by_cases h55 : j < 55
  · rw [if_pos h55, if_pos h55]
    have e : own 20 (j - 33) ≠ own f m := by
      have : own 20 (j - 33) = j := by
        unfold own mof
        simp
        rw [if_neg (by omega), if_neg (by omega)]
        omega
      rw [this]; exact h
    rw [up3_nf e]
  rw [if_neg h55, if_neg h55]
theorem HB_up {f m i : Nat} {x : Int32} (hv : own f m < 56) : va_up (HB old bs r ed o D) (bs + own f m) (some (SC bs (up3 r f m i x) ed o (own f m))) = HB old bs (up3 r f m i x) ed o D := by
  funext b
  unfold va_up
  by_cases hb : b = bs + own f m
  · subst hb
    rw [if_pos rfl, HB_st hv]
  · rw [if_neg hb]
    unfold HB
    by_cases h1 : b < bs
    · rw [if_pos h1, if_pos h1]
    rw [if_neg h1, if_neg h1]
    by_cases h2 : b < bs + 56
    · rw [if_pos h2, if_pos h2, SC_ne (by omega) (by omega)]
    · rw [if_neg h2, if_neg h2]
end HB1
