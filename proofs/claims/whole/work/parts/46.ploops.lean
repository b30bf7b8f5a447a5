/-! the class's searches along a log -/
section LG2
variable {old : HH} {bs : Nat} {r : RH} {ed : Nat → Nat} {o : Int64} {D : HH} {sE : Nat × Nat} {z : Z3} {T zz p n hi : Nat}
def fulq (n s : Int32) : Bool := decide (32 ≤ n - s ∨ ¬ n < 400)
theorem L_isFull (hp : p < 4) : f_L_isFull bs sE (HB old bs r ed o D) z (aL bs p) = some (.inl (some (.int (bI (fulq (r 2 p 2) (r 1 p 2))))), HB old bs r ed o D, z) := by
  simp only [f_L_isFull, oK_L hp, L_length hp, gI_L2 hp, cI_s, cI_x, cR_s, cR_x, cV_s, cV_x, cX_s, cX_x, bn_s, bz_0, bz_1, bz_b, bI_0, bI_1]
  by_cases h1 : 32 ≤ r 2 p 2 - r 1 p 2 <;> by_cases h2 : r 2 p 2 < 400 <;> simp [h1, h2, bI, fulq]
theorem L_raiseHigh {x : Int32} (hp : p < 4) : f_L_raiseHigh bs sE (HB old bs r ed o D) z (aL bs p) x = some (.inl (some (.int (if r 2 p 2 < r 1 p 3 + x then r 2 p 2 else r 1 p 3 + x))), HB old bs (up3 r 1 p 3 (if r 2 p 2 < r 1 p 3 + x then r 2 p 2 else r 1 p 3 + x)) ed o D, z) := by
  simp only [f_L_raiseHigh, oK_L hp, L_length hp, gI_L3 hp, pV_L3 hp, cI_s, cI_x, cR_s, cR_x, cV_s, cV_x, cX_s, cX_x, bn_s, bz_0, bz_1, bz_b, bI_0, bI_1]
  simp [up3]
theorem L_valueAt (hp : p < 4) (hT : T ≤ 513) (hL : LG bs sE.1 T r ed D zz p n hi) {i : Nat} (hi' : i < n) : f_L_valueAt bs sE (HB old bs r ed o D) z (aL bs p) (kI i) = some (.inl (some (.int (r 20 2 (520 * p + i)))), HB old bs r ed o D, z) := by
  obtain ⟨a, g1, g2⟩ := A_get (old := old) (o := o) hp hT hL hi'
  simp only [f_L_valueAt, gR_L0 hp, oK_A hp, g1, e_oK g2, e_5 g2, cI_s, cI_x, cR_s, cR_x, cV_s, cV_x, cX_s, cX_x, bn_s, bz_0, bz_1, bz_b, bI_0, bI_1]
def uncP (r : RH) (p q : Nat) (i : Nat) : Bool := decide (r 20 1 (520 * p + i) = 1 ∧ r 20 6 (520 * p + i) = kI q)
theorem kI_ne0 {q : Nat} (h1 : 1 ≤ q) (h2 : q < 2147483648) : kI q ≠ 0 := by
  intro h
  have := (kI_eq (b := 0) h2 (by omega)).mp h
  omega
theorem L_hasUncopied_L (hp : p < 4) (hT : T ≤ 513) (hL : LG bs sE.1 T r ed D zz p n hi) {q : Nat} (h1q : 1 ≤ q) (hq : q ≤ 40) : ∀ (d fuel i : Nat), i + d = n → d < fuel → f_L_hasUncopied_L5 bs sE fuel (HB old bs r ed o D) z (aL bs p) (kI q) (kI i) = some (.inl (some (.int (bI (exi (uncP r p q) d i)))), HB old bs r ed o D, z) := by
  have hn : n ≤ 513 := by have := hL.1; omega
  have a3 : r 2 p 2 = kI n := hL.2.2.1
  intro d
  induction d with
  | zero =>
    intro fuel i hi hf
    obtain ⟨f, rfl⟩ : ∃ f, fuel = f + 1 := ⟨fuel - 1, by omega⟩
    have c : kI n ≤ kI i := (kI_le (by omega) (by omega)).mpr (by omega)
    simp only [f_L_hasUncopied_L5, fb_L_hasUncopied_L5, oK_L hp, L_length hp, a3, if_pos c, cI_s, cI_x, cR_s, cR_x, cV_s, cV_x, cX_s, cX_x, bn_s, bz_0, bz_1, bz_b, bI_0, bI_1, exi]
    rfl
  | succ d ih =>
    intro fuel i hi hf
    obtain ⟨f, rfl⟩ : ∃ f, fuel = f + 1 := ⟨fuel - 1, by omega⟩
    have c : ¬ kI n ≤ kI i := by rw [kI_le (by omega) (by omega)]; omega
    obtain ⟨a, g1, g2⟩ := A_get (old := old) (o := o) (i := i) hp hT hL (by omega)
    obtain ⟨hk, ⟨u, u1, u2, u3⟩, -⟩ := hL.2.2.2.2.2.2.2.2.1 i (by omega)
    have ih' := ih f (i + 1) (by omega) (by omega)
    simp only [f_L_hasUncopied_L5, fb_L_hasUncopied_L5, oK_L hp, L_length hp, a3, if_neg c, cI_s, cI_x, cR_s, cR_x, cV_s, cV_x, cX_s, cX_x, bn_s, bz_0, bz_1, bz_b, bI_0, bI_1, exi, gR_L0 hp, oK_A hp, g1, e_oK g2, E_isData g2, e_1 g2, kI_add1, ih', uncP]
    rcases hk with hk | hk | hk | hk
    · have : u = 0 := u3.mp hk
      subst this
      have e : ¬ (r 20 6 (520 * p + i) = kI q) := by rw [u2]; exact fun e => kI_ne0 h1q (by omega) e.symm
      simp [hk, e]
    · by_cases e : r 20 6 (520 * p + i) = kI q
      · simp [hk, e, bI_t]
      · simp [hk, e]
    · simp [hk]
    · simp [hk]
theorem L_hasUncopied (hp : p < 4) (hT : T ≤ 513) (hL : LG bs sE.1 T r ed D zz p n hi) {q : Nat} (h1q : 1 ≤ q) (hq : q ≤ 40) : f_L_hasUncopied bs sE (HB old bs r ed o D) z (aL bs p) (kI q) = some (.inl (some (.int (bI (exi (uncP r p q) (n - hi) hi)))), HB old bs r ed o D, z) := by
  have := hL.1
  have := hL.2.1
  simp only [f_L_hasUncopied, gI_L3 hp, cI_s, cI_x, cR_s, cR_x, cV_s, cV_x, cX_s, cX_x, bn_s, bz_0, bz_1, bz_b, bI_0, bI_1, hL.2.2.2.2.1]
  exact L_hasUncopied_L hp hT hL h1q hq (n - hi) FU hi (by omega) (by show _ < 1000; omega)
def ofP (r : RH) (p : Nat) (x y : Int32) (i : Nat) : Bool := decide (r 20 1 (520 * p + i) = 1 ∧ r 20 3 (520 * p + i) = x ∧ r 20 4 (520 * p + i) = y)
theorem L_recent_L (hp : p < 4) (hT : T ≤ 513) (hL : LG bs sE.1 T r ed D zz p n hi) {x1 x2 x3 : Int32} (hx : x1 ≠ -1) : ∀ (m fuel c : Nat), m ≤ n → c ≤ 5 → m < fuel → f_L_recentOffset_L11 bs sE fuel (HB old bs r ed o D) z (aL bs p) x1 x2 x3 (kI c) (dn m) = some (.inl (some (.int (oI (rcn (ofP r p x1 x2) (fun i => r 20 5 (520 * p + i)) x3 m c)))), HB old bs r ed o D, z) := by
  have hn : n ≤ 513 := by have := hL.1; omega
  intro m
  induction m with
  | zero =>
    intro fuel c h1 h2 hf
    obtain ⟨f, rfl⟩ : ∃ f, fuel = f + 1 := ⟨fuel - 1, by omega⟩
    have e : dn 0 < 0 := by decide
    simp only [f_L_recentOffset_L11, fb_L_recentOffset_L11, if_pos e, rcn, oI]
  | succ m ih =>
    intro fuel c h1 h2 hf
    obtain ⟨f, rfl⟩ : ∃ f, fuel = f + 1 := ⟨fuel - 1, by omega⟩
    have e : ¬ kI m < 0 := by rw [kI_nl0 (by omega)]; exact id
    by_cases h5 : 5 ≤ c
    · have e5 : (5 : Int32) ≤ kI c := (kI_le (a := 5) (by omega) (by omega)).mpr h5
      simp only [dn_s, f_L_recentOffset_L11, fb_L_recentOffset_L11, if_neg e, if_pos e5, rcn, if_pos h5, oI]
    have e5 : ¬ (5 : Int32) ≤ kI c := fun q => h5 ((kI_le (a := 5) (by omega) (by omega)).mp q)
    obtain ⟨a, g1, g2⟩ := A_get (old := old) (o := o) (i := m) hp hT hL (by omega)
    obtain ⟨hk, -, -⟩ := hL.2.2.2.2.2.2.2.2.1 m (by omega)
    have i1 := ih f c (by omega) (by omega) (by omega)
    have i2 := ih f (c + 1) (by omega) (by omega) (by omega)
    simp only [dn_s, f_L_recentOffset_L11, fb_L_recentOffset_L11, if_neg e, if_neg e5, rcn, if_neg h5, gR_L0 hp, oK_A hp, g1, e_oK g2, E_isDataOf hx hk g2, e_4 g2, cI_s, cI_x, cR_s, cR_x, cV_s, cV_x, cX_s, cX_x, bn_s, bz_0, bz_1, bz_b, bI_0, bI_1, dn_m1 (show m < 100000 by omega), i1, kI_add1, i2, ofP]
    by_cases hP : r 20 1 (520 * p + m) = 1 ∧ r 20 3 (520 * p + m) = x1 ∧ r 20 4 (520 * p + m) = x2
    · by_cases hS : r 20 5 (520 * p + m) = x3
      · simp [hP, hS, oI]
      · simp [hP, hS]
    · have hP' : decide (r 20 1 (520 * p + m) = 1 ∧ r 20 3 (520 * p + m) = x1 ∧ r 20 4 (520 * p + m) = x2) = false := decide_eq_false hP
      simp only [hP']
      simp
theorem L_recentOffset (hp : p < 4) (hT : T ≤ 513) (hL : LG bs sE.1 T r ed D zz p n hi) {x1 x2 x3 : Int32} (hx : x1 ≠ -1) : f_L_recentOffset bs sE (HB old bs r ed o D) z (aL bs p) x1 x2 x3 = some (.inl (some (.int (oI (rcn (ofP r p x1 x2) (fun i => r 20 5 (520 * p + i)) x3 n 0)))), HB old bs r ed o D, z) := by
  have := hL.1
  simp only [f_L_recentOffset, oK_L hp, L_length hp, cI_s, cI_x, cR_s, cR_x, cV_s, cV_x, cX_s, cX_x, bn_s, bz_0, bz_1, bz_b, bI_0, bI_1, hL.2.2.1, dn_sub (show n < 100000 by omega)]
  exact L_recent_L hp hT hL hx n FU 0 (by omega) (by omega) (by show _ < 1000; omega)
theorem L_next_L (hp : p < 4) (hT : T ≤ 513) (hL : LG bs sE.1 T r ed D zz p n hi) {x1 x2 : Int32} (hx : x1 ≠ -1) : ∀ (m fuel : Nat), m ≤ n → m < fuel → f_L_nextSequence_L7 bs sE fuel (HB old bs r ed o D) z (aL bs p) x1 x2 (dn m) = some (.inl (some (.int (nx (ofP r p x1 x2) (fun i => r 20 5 (520 * p + i)) m))), HB old bs r ed o D, z) := by
  have hn : n ≤ 513 := by have := hL.1; omega
  intro m
  induction m with
  | zero =>
    intro fuel h1 hf
    obtain ⟨f, rfl⟩ : ∃ f, fuel = f + 1 := ⟨fuel - 1, by omega⟩
    have e : dn 0 < 0 := by decide
    simp only [f_L_nextSequence_L7, fb_L_nextSequence_L7, if_pos e, nx]
  | succ m ih =>
    intro fuel h1 hf
    obtain ⟨f, rfl⟩ : ∃ f, fuel = f + 1 := ⟨fuel - 1, by omega⟩
    have e : ¬ kI m < 0 := by rw [kI_nl0 (by omega)]; exact id
    obtain ⟨a, g1, g2⟩ := A_get (old := old) (o := o) (i := m) hp hT hL (by omega)
    obtain ⟨hk, -, -⟩ := hL.2.2.2.2.2.2.2.2.1 m (by omega)
    have i1 := ih f (by omega) (by omega)
    simp only [dn_s, f_L_nextSequence_L7, fb_L_nextSequence_L7, if_neg e, nx, gR_L0 hp, oK_A hp, g1, e_oK g2, E_isDataOf hx hk g2, e_4 g2, cI_s, cI_x, cR_s, cR_x, cV_s, cV_x, cX_s, cX_x, bn_s, bz_0, bz_1, bz_b, bI_0, bI_1, dn_m1 (show m < 100000 by omega), i1, ofP]
    by_cases hP : r 20 1 (520 * p + m) = 1 ∧ r 20 3 (520 * p + m) = x1 ∧ r 20 4 (520 * p + m) = x2
    · simp [hP]
    · have hP' : decide (r 20 1 (520 * p + m) = 1 ∧ r 20 3 (520 * p + m) = x1 ∧ r 20 4 (520 * p + m) = x2) = false := decide_eq_false hP
      simp only [hP']
      simp
theorem L_nextSequence (hp : p < 4) (hT : T ≤ 513) (hL : LG bs sE.1 T r ed D zz p n hi) {x1 x2 : Int32} (hx : x1 ≠ -1) : f_L_nextSequence bs sE (HB old bs r ed o D) z (aL bs p) x1 x2 = some (.inl (some (.int (nx (ofP r p x1 x2) (fun i => r 20 5 (520 * p + i)) n))), HB old bs r ed o D, z) := by
  have := hL.1
  simp only [f_L_nextSequence, oK_L hp, L_length hp, cI_s, cI_x, cR_s, cR_x, cV_s, cV_x, cX_s, cX_x, bn_s, bz_0, bz_1, bz_b, bI_0, bI_1, hL.2.2.1, dn_sub (show n < 100000 by omega)]
  exact L_next_L hp hT hL hx n FU (by omega) (by show _ < 1000; omega)
/-- the transaction of a record, as a number -/
def tN (r : RH) (p i : Nat) : Nat := (r 20 6 (520 * p + i)).toNatClampNeg
theorem tN_at (hL : LG bs sE.1 T r ed D zz p n hi) {i : Nat} (h : i < n) : r 20 6 (520 * p + i) = kI (tN r p i) ∧ tN r p i ≤ 40 ∧ (r 20 1 (520 * p + i) = 0 ↔ tN r p i = 0) := by
  obtain ⟨hk, ⟨u, u1, u2, u3⟩, -⟩ := hL.2.2.2.2.2.2.2.2.1 i h
  have : tN r p i = u := by unfold tN; rw [u2, kI_clamp (by omega)]
  rw [this]
  exact ⟨u2, u1, u3⟩
def stP (r : RH) (p hi i : Nat) : Bool := decide (r 20 1 (520 * p + i) = 1) && !mkd r p hi (tN r p i) false
theorem L_stable_L (hp : p < 4) (hT : T ≤ 513) (hL : LG bs sE.1 T r ed D zz p n hi) : ∀ (d fuel i : Nat), i + d = hi → d < fuel → f_L_stableOffset_L2 bs sE fuel (HB old bs r ed o D) z (aL bs p) (kI i) = some (.inl (some (.int (kI (fst_ (stP r p hi) d i)))), HB old bs r ed o D, z) := by
  have hn : n ≤ 513 := by have := hL.1; omega
  have hh : hi ≤ n := hL.2.1
  have a5 : r 1 p 3 = kI hi := hL.2.2.2.2.1
  intro d
  induction d with
  | zero =>
    intro fuel i hi' hf
    obtain ⟨f, rfl⟩ : ∃ f, fuel = f + 1 := ⟨fuel - 1, by omega⟩
    obtain rfl : i = hi := by omega
    have c : kI i ≤ kI i := (kI_le (by omega) (by omega)).mpr (by omega)
    simp only [f_L_stableOffset_L2, fb_L_stableOffset_L2, gI_L3 hp, a5, if_pos c, cI_s, cI_x, cR_s, cR_x, cV_s, cV_x, cX_s, cX_x, bn_s, bz_0, bz_1, bz_b, bI_0, bI_1, fst_]
  | succ d ih =>
    intro fuel i hi' hf
    obtain ⟨f, rfl⟩ : ∃ f, fuel = f + 1 := ⟨fuel - 1, by omega⟩
    have c : ¬ kI hi ≤ kI i := by rw [kI_le (by omega) (by omega)]; omega
    obtain ⟨a, g1, g2⟩ := A_get (old := old) (o := o) (i := i) hp hT hL (by omega)
    obtain ⟨hk, -, -⟩ := hL.2.2.2.2.2.2.2.2.1 i (by omega)
    obtain ⟨t1, t2, t3⟩ := tN_at hL (i := i) (by omega)
    have ih' := ih f (i + 1) (by omega) (by omega)
    have me := mk_end hT hL t2
    rw [a5] at me
    simp only [f_L_stableOffset_L2, fb_L_stableOffset_L2, f_L_isUnended, gI_L3 hp, a5, oK_L hp, if_neg c, cI_s, cI_x, cR_s, cR_x, cV_s, cV_x, cX_s, cX_x, bn_s, bz_0, bz_1, bz_b, bI_0, bI_1, fst_, gR_L0 hp, oK_A hp, g1, e_oK g2, E_isData g2, e_1 g2, kI_add1, ih', stP, t1, L_hasEnded hp t2, me]
    rcases hk with hk | hk | hk | hk
    · have : tN r p i = 0 := t3.mp hk
      simp [hk, this, kI_0, cI_s, cI_x, cR_s, cR_x, cV_s, cV_x, cX_s, cX_x, bn_s, bz_0, bz_1, bz_b, bI_0, bI_1, ih']
    · have : tN r p i ≠ 0 := fun e => by have := t3.mpr e; rw [hk] at this; exact absurd this (by decide)
      have : kI (tN r p i) ≠ 0 := kI_ne0 (by omega) (by omega)
      by_cases e : mkd r p hi (tN r p i) false = true
      · simp [hk, this, e, cI_s, cI_x, cR_s, cR_x, cV_s, cV_x, cX_s, cX_x, bn_s, bz_0, bz_1, bz_b, bI_0, bI_1, ih']
      · have e : mkd r p hi (tN r p i) false = false := by simpa using e
        simp [hk, this, e, cI_s, cI_x, cR_s, cR_x, cV_s, cV_x, cX_s, cX_x, bn_s, bz_0, bz_1, bz_b, bI_0, bI_1, ih']
    · simp [hk, cI_s, cI_x, cR_s, cR_x, cV_s, cV_x, cX_s, cX_x, bn_s, bz_0, bz_1, bz_b, bI_0, bI_1, ih']
    · simp [hk, cI_s, cI_x, cR_s, cR_x, cV_s, cV_x, cX_s, cX_x, bn_s, bz_0, bz_1, bz_b, bI_0, bI_1, ih']
theorem L_stableOffset (hp : p < 4) (hT : T ≤ 513) (hL : LG bs sE.1 T r ed D zz p n hi) : f_L_stableOffset bs sE (HB old bs r ed o D) z (aL bs p) = some (.inl (some (.int (kI (fst_ (stP r p hi) hi 0)))), HB old bs r ed o D, z) := by
  have := hL.1
  have := hL.2.1
  exact L_stable_L hp hT hL hi FU 0 (by omega) (by show _ < 1000; omega)
def rdP (r : RH) (p hi : Nat) (c : Bool) (i : Nat) : Bool := decide (r 20 1 (520 * p + i) = 0 ∨ r 20 1 (520 * p + i) = 1) && (!c || decide (r 20 1 (520 * p + i) = 0) || !mkd r p hi (tN r p i) true)
theorem mkd_0 (hL : LG bs sE.1 T r ed D zz p n hi) {m : Nat} (hm : m ≤ n) {c : Bool} : mkd r p m 0 c = false := by
  rw [← Bool.not_eq_true]
  unfold mkd
  rw [exi_iff]
  rintro ⟨j, h1, h2, h3⟩
  have h3 := of_decide_eq_true h3
  obtain ⟨hk, ⟨u, u1, u2, u3⟩, -⟩ := hL.2.2.2.2.2.2.2.2.1 j (by omega)
  have e : u = 0 := (kI_eq (by omega) (by omega)).mp (u2.symm.trans h3.2.1)
  have := u3.mpr e
  rcases h3.1 with q | q <;> (rw [this] at q; exact absurd q (by decide))
theorem L_first_L (hp : p < 4) (hT : T ≤ 513) (hL : LG bs sE.1 T r ed D zz p n hi) {x2 : Int32} {w : Nat} (hw : w ≤ n) : ∀ (d fuel i : Nat), i + d = w → d < fuel → f_L_firstReadable_L19 bs sE fuel (HB old bs r ed o D) z (aL bs p) x2 (kI w) (kI i) = some (.inl (some (.int (oI (srch (rdP r p hi (decide (x2 ≠ 0))) d i)))), HB old bs r ed o D, z) := by
  have hn : n ≤ 513 := by have := hL.1; omega
  have hh : hi ≤ n := hL.2.1
  intro d
  induction d with
  | zero =>
    intro fuel i hi' hf
    obtain ⟨f, rfl⟩ : ∃ f, fuel = f + 1 := ⟨fuel - 1, by omega⟩
    have c : kI w ≤ kI i := (kI_le (by omega) (by omega)).mpr (by omega)
    simp only [f_L_firstReadable_L19, fb_L_firstReadable_L19, if_pos c, cI_s, cI_x, cR_s, cR_x, cV_s, cV_x, cX_s, cX_x, bn_s, bz_0, bz_1, bz_b, bI_0, bI_1, srch, oI]
  | succ d ih =>
    intro fuel i hi' hf
    obtain ⟨f, rfl⟩ : ∃ f, fuel = f + 1 := ⟨fuel - 1, by omega⟩
    have c : ¬ kI w ≤ kI i := by rw [kI_le (by omega) (by omega)]; omega
    obtain ⟨a, g1, g2⟩ := A_get (old := old) (o := o) (i := i) hp hT hL (by omega)
    obtain ⟨hk, -, -⟩ := hL.2.2.2.2.2.2.2.2.1 i (by omega)
    obtain ⟨t1, t2, t3⟩ := tN_at hL (i := i) (by omega)
    have ih' := ih f (i + 1) (by omega) (by omega)
    simp only [f_L_firstReadable_L19, fb_L_firstReadable_L19, oK_L hp, if_neg c, cI_s, cI_x, cR_s, cR_x, cV_s, cV_x, cX_s, cX_x, bn_s, bz_0, bz_1, bz_b, bI_0, bI_1, srch, gR_L0 hp, oK_A hp, g1, e_oK g2, E_isData g2, e_1 g2, kI_add1, ih', rdP, t1, L_isAborted hp hT hL t2]
    by_cases hx : x2 = 0
    · rcases hk with hk | hk | hk | hk <;> simp [hk, hx, oI]
    · rcases hk with hk | hk | hk | hk
      · have : tN r p i = 0 := t3.mp hk
        simp [hk, hx, this, mkd_0 hL hh, oI]
      · by_cases e : mkd r p hi (tN r p i) true = true
        · simp [hk, hx, e, oI]
        · have e : mkd r p hi (tN r p i) true = false := by simpa using e
          simp [hk, hx, e, oI]
      · simp [hk, hx, oI]
      · simp [hk, hx, oI]
theorem L_firstReadable (hp : p < 4) (hT : T ≤ 513) (hL : LG bs sE.1 T r ed D zz p n hi) {x2 : Int32} {i : Nat} (hi' : i ≤ 600) : f_L_firstReadable bs sE (HB old bs r ed o D) z (aL bs p) (kI i) x2 = some (.inl (some (.int (oI (srch (rdP r p hi (decide (x2 ≠ 0))) ((if x2 = 0 then hi else fst_ (stP r p hi) hi 0) - i) i)))), HB old bs r ed o D, z) := by
  have hn : n ≤ 513 := by have := hL.1; omega
  have hh : hi ≤ n := hL.2.1
  have key : ∀ w, w ≤ n → f_L_firstReadable_L19 bs sE FU (HB old bs r ed o D) z (aL bs p) x2 (kI w) (kI i) = some (.inl (some (.int (oI (srch (rdP r p hi (decide (x2 ≠ 0))) (w - i) i)))), HB old bs r ed o D, z) := by
    intro w hw
    by_cases h : i ≤ w
    · exact L_first_L hp hT hL hw (w - i) FU i (by omega) (by show _ < 1000; omega)
    · have e : w - i = 0 := by omega
      obtain ⟨f, hf⟩ := FUn 0 (by omega)
      have c : kI w ≤ kI i := (kI_le (by omega) (by omega)).mpr (by omega)
      rw [e, hf]
      simp only [f_L_firstReadable_L19, fb_L_firstReadable_L19, if_pos c, srch, oI]
  by_cases hx : x2 = 0
  · simp only [f_L_firstReadable, if_pos hx, gI_L3 hp, cI_s, cI_x, cR_s, cR_x, cV_s, cV_x, cX_s, cX_x, bn_s, bz_0, bz_1, bz_b, bI_0, bI_1, f_L_firstReadable_B15, hL.2.2.2.2.1]
    exact key hi hh
  · simp only [f_L_firstReadable, if_neg hx, oK_L hp, L_stableOffset hp hT hL, cI_s, cI_x, cR_s, cR_x, cV_s, cV_x, cX_s, cX_x, bn_s, bz_0, bz_1, bz_b, bI_0, bI_1, f_L_firstReadable_B15]
    exact key _ (Nat.le_trans fst_le (by omega))
end LG2
