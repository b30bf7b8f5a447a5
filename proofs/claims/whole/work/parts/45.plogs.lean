/-! the class's logs, read -/
abbrev LG (bs s1 T : Nat) (r : RH) (ed : Nat → Nat) (D : HH) (zz p n hi : Nat) : Prop := IL bs s1 T D zz (ed p) p n hi (r 2 p) (r 1 p) (r 3 p) (r 20 1) (r 20 2) (r 20 3) (r 20 4) (r 20 5) (r 20 6) (r 20 7) (r 20 8) (r 20 9)
abbrev eC (r : RH) (j : Nat) : HC := ec (r 20 1) (r 20 2) (r 20 3) (r 20 4) (r 20 5) (r 20 6) j
theorem FUn (n : Nat) (h : n ≤ 999) : ∃ m, FU = m + n + 1 := ⟨999 - n, by show 1000 = _; omega⟩
def exi (P : Nat → Bool) : Nat → Nat → Bool
  | 0, _ => false
  | d + 1, i => P i || exi P d (i + 1)
theorem exi_iff {P : Nat → Bool} : ∀ {d i : Nat}, exi P d i = true ↔ ∃ j, i ≤ j ∧ j < i + d ∧ P j = true
  | 0, i => by simp [exi]; intro j h1 h2; omega
  | d + 1, i => by
    simp only [exi, Bool.or_eq_true, exi_iff (d := d)]
    constructor
    · rintro (h | ⟨j, h1, h2, h3⟩)
      · exact ⟨i, by omega, by omega, h⟩
      · exact ⟨j, by omega, by omega, h3⟩
    · rintro ⟨j, h1, h2, h3⟩
      by_cases e : j = i
      · subst e; exact Or.inl h3
      · exact Or.inr ⟨j, by omega, by omega, h3⟩
theorem exi_c {P Q : Nat → Bool} : ∀ {d i : Nat}, (∀ j, i ≤ j → j < i + d → P j = Q j) → exi P d i = exi Q d i
  | 0, i => fun _ => rfl
  | d + 1, i => fun h => by
    simp only [exi]
    rw [h i (by omega) (by omega), exi_c (fun j h1 h2 => h j (by omega) (by omega))]
def srch (P : Nat → Bool) : Nat → Nat → Option Nat
  | 0, _ => none
  | d + 1, i => if P i = true then some i else srch P d (i + 1)
theorem srch_c {P Q : Nat → Bool} : ∀ {d i : Nat}, (∀ j, i ≤ j → j < i + d → P j = Q j) → srch P d i = srch Q d i
  | 0, i => fun _ => rfl
  | d + 1, i => fun h => by
    simp only [srch]
    rw [h i (by omega) (by omega), srch_c (fun j h1 h2 => h j (by omega) (by omega))]
theorem srch_at {P : Nat → Bool} : ∀ {d i j : Nat}, srch P d i = some j → i ≤ j ∧ j < i + d ∧ P j = true
  | 0, i, j => fun h => by simp [srch] at h
  | d + 1, i, j => fun h => by
    simp only [srch] at h
    split at h
    · rename_i hP
      cases h
      exact ⟨by omega, by omega, hP⟩
    · obtain ⟨h1, h2, h3⟩ := srch_at h
      exact ⟨by omega, by omega, h3⟩
/-- the first index at which P holds, or the end -/
def fst_ (P : Nat → Bool) : Nat → Nat → Nat
  | 0, i => i
  | d + 1, i => if P i = true then i else fst_ P d (i + 1)
theorem fst_c {P Q : Nat → Bool} : ∀ {d i : Nat}, (∀ j, i ≤ j → j < i + d → P j = Q j) → fst_ P d i = fst_ Q d i
  | 0, i => fun _ => rfl
  | d + 1, i => fun h => by
    simp only [fst_]
    rw [h i (by omega) (by omega), fst_c (fun j h1 h2 => h j (by omega) (by omega))]
theorem fst_le {P : Nat → Bool} : ∀ {d i : Nat}, fst_ P d i ≤ i + d
  | 0, i => by simp [fst_]
  | d + 1, i => by
    simp only [fst_]
    split
    · omega
    · have := fst_le (P := P) (d := d) (i := i + 1)
      omega
def rcn (P : Nat → Bool) (S : Nat → Int32) (x : Int32) : Nat → Nat → Option Nat
  | 0, _ => none
  | i + 1, c => if 5 ≤ c then none else if P i = true then (if S i = x then some i else rcn P S x i (c + 1)) else rcn P S x i c
theorem rcn_c {P Q : Nat → Bool} {S S' : Nat → Int32} {x : Int32} : ∀ {i c : Nat}, (∀ j, j < i → P j = Q j ∧ S j = S' j) → rcn P S x i c = rcn Q S' x i c
  | 0, c => fun _ => rfl
  | i + 1, c => fun h => by
    simp only [rcn]
    rw [(h i (by omega)).1, (h i (by omega)).2, rcn_c (c := c + 1) (fun j h1 => h j (by omega)), rcn_c (c := c) (fun j h1 => h j (by omega))]
theorem rcn_at {P : Nat → Bool} {S : Nat → Int32} {x : Int32} : ∀ {i c j : Nat}, rcn P S x i c = some j → j < i
  | 0, c, j => fun h => by simp [rcn] at h
  | i + 1, c, j => fun h => by
    simp only [rcn] at h
    split at h
    · cases h
    split at h
    · split at h
      · cases h; omega
      · have := rcn_at h; omega
    · have := rcn_at h; omega
def nx (P : Nat → Bool) (S : Nat → Int32) : Nat → Int32
  | 0 => 0
  | i + 1 => if P i = true then S i + 1 else nx P S i
/-- an index that goes down: m records are left -/
def dn (m : Nat) : Int32 := if m = 0 then -1 else kI (m - 1)
theorem dn_0 : dn 0 = -1 := rfl
theorem dn_s (m : Nat) : dn (m + 1) = kI m := rfl
theorem dn_sub {m : Nat} (h : m < 100000) : kI m - 1 = dn m := by
  cases m with
  | zero => rfl
  | succ m => rw [dn_s, kI_sub1 (by omega)]; rfl
theorem dn_m1 {m : Nat} (h : m < 100000) : kI m + (-1) = dn m := by
  rw [← dn_sub h, Int32.sub_eq_add_neg]
def oI (x : Option Nat) : Int32 := match x with
  | none => -1
  | some i => kI i
section EN1
variable {bs : Nat} {sE : Nat × Nat} {h : HH} {z : Z3} {a j : Nat} {r : RH}
theorem e_oK (he : h a = some (eC r j)) : oK h a 0 = some () := oK_o he
theorem e_0 (he : h a = some (eC r j)) : gI h a 0 0 = some (if r 20 1 j = 2 then 1 else if r 20 1 j = 3 then 2 else 0) := gI_o he rfl
theorem e_1 (he : h a = some (eC r j)) : gI h a 0 1 = some (r 20 6 j) := gI_o he rfl
theorem e_2 (he : h a = some (eC r j)) : gI h a 0 2 = some (if r 20 1 j = 1 then r 20 3 j else -1) := gI_o he rfl
theorem e_3 (he : h a = some (eC r j)) : gI h a 0 3 = some (if r 20 1 j = 1 then r 20 4 j else -1) := gI_o he rfl
theorem e_4 (he : h a = some (eC r j)) : gI h a 0 4 = some (if r 20 1 j = 1 then r 20 5 j else -1) := gI_o he rfl
theorem e_5 (he : h a = some (eC r j)) : gI h a 0 5 = some (r 20 2 j) := gI_o he rfl
theorem E_isData (he : h a = some (eC r j)) : f_E_isData bs sE h z a = some (.inl (some (.int (bI (decide (¬ (r 20 1 j = 2 ∨ r 20 1 j = 3)))))), h, z) := by
  unfold f_E_isData
  rw [e_0 he]
  by_cases h2 : r 20 1 j = 2
  · simp [h2, bn_s, bI, bz_0]
  · by_cases h3 : r 20 1 j = 3 <;> simp [h2, h3, bn_s, bI, bz_0, bz_1]
theorem E_isDataOf {x1 x2 : Int32} (hx : x1 ≠ -1) (hk : r 20 1 j = 0 ∨ r 20 1 j = 1 ∨ r 20 1 j = 2 ∨ r 20 1 j = 3) (he : h a = some (eC r j)) : f_E_isDataOf bs sE h z a x1 x2 = some (.inl (some (.int (bI (decide (r 20 1 j = 1 ∧ r 20 3 j = x1 ∧ r 20 4 j = x2))))), h, z) := by
  unfold f_E_isDataOf
  rw [e_0 he, e_2 he, e_3 he]
  rcases hk with hk | hk | hk | hk
  · have : ¬ (-1 : Int32) = x1 := fun e => hx e.symm
    simp [hk, bn_s, bI, bz_0, this]
  · by_cases c1 : r 20 3 j = x1 <;> by_cases c2 : r 20 4 j = x2 <;> simp [hk, bn_s, bI, bz_0, bz_1, c1, c2]
  · simp [hk, bn_s, bI, bz_0]
  · simp [hk, bn_s, bI, bz_0]
end EN1
section LG1
variable {old : HH} {bs : Nat} {r : RH} {ed : Nat → Nat} {o : Int64} {D : HH} {sE : Nat × Nat} {z : Z3} {T zz p n hi : Nat}
theorem A_get (hp : p < 4) (hT : T ≤ 513) (hL : LG bs sE.1 T r ed D zz p n hi) {i : Nat} (hi' : i < n) : ∃ a, (∀ z, f_A_get bs sE (HB old bs r ed o D) z (aAL bs p) (kI i) = some (.inl (some (.ref a)), HB old bs r ed o D, z)) ∧ HB old bs r ed o D a = some (eC r (520 * p + i)) := by
  obtain ⟨a1, a2, a3, a4, a5, a6, a7, a8, a9⟩ := hL
  rcases a8 with h | ⟨cap, f, h1, h2, h3, h4, h5, h6⟩
  · omega
  obtain ⟨a, fs, b1, b2, b3, b4, b5⟩ := h6 i hi'
  have hc : cap ≤ 549 := by
    simp only [caps, List.mem_cons, List.not_mem_nil, or_false] at h1
    omega
  refine ⟨a, fun z => ?_, by rw [HB_D b2, b4]; exact congrArg some b5.symm⟩
  have e : HB old bs r ed o D (ed p) = some (.inr (3, cap, .inr (.inr f))) := by rw [HB_D h3]; exact h5
  have e2 := aR_o (i := i) e (by omega) (by omega) (by omega) b1
  have c1 : ¬ kI i < 0 := by rw [kI_nl0 (by omega)]; exact id
  have c2 : kI i < kI n := (kI_lt (by omega) (by omega)).mpr hi'
  simp only [f_A_get, f_O_checkIndex, f_PC_checkIndex, f_A_elementData, gI_A2 hp, a3, if_neg c1, if_pos c2, cI_s, cI_x, cR_s, cR_x, cV_s, cV_x, cX_s, cX_x, bn_s, bz_0, bz_1, bz_b, bI_0, bI_1, oK_A hp, gR_A1 hp, e2]
theorem L_length (hp : p < 4) : f_L_length bs sE (HB old bs r ed o D) z (aL bs p) = some (.inl (some (.int (r 2 p 2))), HB old bs r ed o D, z) := by
  simp only [f_L_length, f_A_size, gR_L0 hp, oK_A hp, gI_A2 hp, cI_s, cI_x, cR_s, cR_x, cV_s, cV_x, cX_s, cX_x, bn_s, bz_0, bz_1, bz_b, bI_0, bI_1]
theorem L_hasMarker (hp : p < 4) {q : Nat} (hq : q ≤ 40) : f_L_hasMarker bs sE (HB old bs r ed o D) z (aL bs p) (kI q) = some (.inl (some (.int (bI (decide (r 3 p q ≠ -1))))), HB old bs r ed o D, z) := by
  simp only [f_L_hasMarker, gR_L1 hp, aI_MK hp (show q < 41 by omega), cI_s, cI_x, cR_s, cR_x, cV_s, cV_x, cX_s, cX_x, bn_s, bz_0, bz_1, bz_b, bI_0, bI_1]
  by_cases h : r 3 p q = -1 <;> simp [h, bI]
theorem L_hasEnded (hp : p < 4) {q : Nat} (hq : q ≤ 40) : f_L_hasEnded bs sE (HB old bs r ed o D) z (aL bs p) (kI q) = some (.inl (some (.int (bI (decide (r 3 p q ≠ -1 ∧ ¬ r 1 p 3 ≤ r 3 p q))))), HB old bs r ed o D, z) := by
  simp only [f_L_hasEnded, oK_L hp, L_hasMarker hp hq, gR_L1 hp, gI_L3 hp, aI_MK hp (show q < 41 by omega), cI_s, cI_x, cR_s, cR_x, cV_s, cV_x, cX_s, cX_x, bn_s, bz_0, bz_1, bz_b, bI_0, bI_1]
  by_cases h : r 3 p q = -1
  · simp [h, bI]
  · by_cases h2 : r 1 p 3 ≤ r 3 p q <;> simp [h, h2, bI]
/-- the marker that ends a transaction is among the first m records -/
def mkd (r : RH) (p m q : Nat) (c : Bool) : Bool := exi (fun i => decide ((r 20 1 (520 * p + i) = 2 ∨ r 20 1 (520 * p + i) = 3) ∧ r 20 6 (520 * p + i) = kI q ∧ (c = false ∨ r 20 1 (520 * p + i) = 3))) m 0
theorem mk_all (hT : T ≤ 513) (hL : LG bs sE.1 T r ed D zz p n hi) {q : Nat} (hq : q ≤ 40) : decide (r 3 p q ≠ -1) = mkd r p n q false := by
  obtain ⟨a1, a2, a3, a4, a5, a6, a7, a8, a9, a10, a11⟩ := hL
  unfold mkd
  rw [Bool.eq_iff_iff, decide_eq_true_iff, exi_iff]
  rcases a10 q hq with ⟨b1, b2⟩ | ⟨j, b1, b2, b3, b4, b5⟩
  · simp only [b1, ne_eq, not_true_eq_false, false_iff]
    rintro ⟨j, h1, h2, h3⟩
    have h3 := of_decide_eq_true h3
    exact b2 j (by omega) h3.1 h3.2.1
  · have : r 3 p q ≠ -1 := by rw [b2]; intro e; rw [kI_nm1 (by omega)] at e; exact e
    simp only [ne_eq, this, not_false_eq_true, true_iff]
    exact ⟨j, by omega, by omega, decide_eq_true ⟨b3, b4, Or.inl trivial⟩⟩
theorem mk_end (hT : T ≤ 513) (hL : LG bs sE.1 T r ed D zz p n hi) {q : Nat} (hq : q ≤ 40) : decide (r 3 p q ≠ -1 ∧ ¬ r 1 p 3 ≤ r 3 p q) = mkd r p hi q false := by
  obtain ⟨a1, a2, a3, a4, a5, a6, a7, a8, a9, a10, a11⟩ := hL
  unfold mkd
  rw [Bool.eq_iff_iff, decide_eq_true_iff, exi_iff]
  rcases a10 q hq with ⟨b1, b2⟩ | ⟨j, b1, b2, b3, b4, b5⟩
  · simp only [b1, ne_eq, not_true_eq_false, false_and, false_iff]
    rintro ⟨j, h1, h2, h3⟩
    have h3 := of_decide_eq_true h3
    exact b2 j (by omega) h3.1 h3.2.1
  · have : r 3 p q ≠ -1 := by rw [b2]; intro e; rw [kI_nm1 (by omega)] at e; exact e
    simp only [ne_eq, a5, b2, kI_nm1 (show j < 2147483648 by omega), not_false_eq_true, true_and]
    rw [kI_le (by omega) (by omega)]
    constructor
    · intro h
      exact ⟨j, by omega, by omega, decide_eq_true ⟨b3, b4, Or.inl trivial⟩⟩
    · rintro ⟨i, h1, h2, h3⟩
      have h3 := of_decide_eq_true h3
      have := b5 i (by omega) h3.1 h3.2.1
      omega
theorem L_isAborted (hp : p < 4) (hT : T ≤ 513) (hL : LG bs sE.1 T r ed D zz p n hi) {q : Nat} (hq : q ≤ 40) : f_L_isAborted bs sE (HB old bs r ed o D) z (aL bs p) (kI q) = some (.inl (some (.int (bI (mkd r p hi q true)))), HB old bs r ed o D, z) := by
  simp only [f_L_isAborted, oK_L hp, L_hasEnded hp hq, mk_end hT hL hq, cI_s, cI_x, cR_s, cR_x, cV_s, cV_x, cX_s, cX_x, bn_s, bz_0, bz_1, bz_b, bI_0, bI_1]
  have hL' := hL
  obtain ⟨a1, a2, a3, a4, a5, a6, a7, a8, a9, a10, a11⟩ := hL
  by_cases hm : mkd r p hi q false = false
  · rw [if_pos hm]
    have : mkd r p hi q true = false := by
      rw [← Bool.not_eq_true] at hm ⊢
      intro h
      apply hm
      unfold mkd at h ⊢
      rw [exi_iff] at h ⊢
      obtain ⟨j, h1, h2, h3⟩ := h
      have h3 := of_decide_eq_true h3
      exact ⟨j, h1, h2, decide_eq_true ⟨h3.1, h3.2.1, Or.inl rfl⟩⟩
    rw [this]
    rfl
  · rw [if_neg hm]
    have hm : mkd r p hi q false = true := by simpa using hm
    unfold mkd at hm
    rw [exi_iff] at hm
    obtain ⟨i, h1, h2, h3⟩ := hm
    have h3 := of_decide_eq_true h3
    rcases a10 q hq with ⟨b1, b2⟩ | ⟨j, b1, b2, b3, b4, b5⟩
    · exact absurd h3.2.1 (b2 i (by omega) h3.1)
    have hij := b5 i (by omega) h3.1 h3.2.1
    subst hij
    obtain ⟨a, g1, g2⟩ := A_get (old := old) (o := o) hp hT hL' b1
    simp only [gR_L0 hp, gR_L1 hp, aI_MK hp (show q < 41 by omega), b2, oK_A hp, g1, e_oK g2, e_0 g2, cI_s, cI_x, cR_s, cR_x, cV_s, cV_x, cX_s, cX_x, bn_s, bz_0, bz_1, bz_b, bI_0, bI_1]
    have hd : mkd r p hi q true = decide (r 20 1 (520 * p + i) = 3) := by
      unfold mkd
      rw [Bool.eq_iff_iff, exi_iff, decide_eq_true_iff]
      constructor
      · rintro ⟨j, k1, k2, k3⟩
        have k3 := of_decide_eq_true k3
        have := b5 j (by omega) k3.1 k3.2.1
        subst this
        rcases k3.2.2 with e | e
        · cases e
        · exact e
      · intro e
        exact ⟨i, h1, h2, decide_eq_true ⟨h3.1, h3.2.1, Or.inr e⟩⟩
    rw [hd]
    rcases h3.1 with e | e <;> simp [e, bI]
end LG1
