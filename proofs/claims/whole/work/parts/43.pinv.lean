/-! the invariant: the class's cells against the model's -/
def caps : List Nat := [10, 15, 22, 33, 49, 73, 109, 163, 244, 366, 549]
def LD (bs s1 : Nat) (D : HH) (zz e n : Nat) (c : Nat → HC) : Prop :=
  (n = 0 ∧ e = s1) ∨ ∃ (cap : Nat) (f : Nat → Option Nat), cap ∈ caps ∧ n ≤ cap ∧ bs + 56 ≤ e ∧ e < zz ∧ D e = some (.inr (3, cap, .inr (.inr f))) ∧ ∀ i, i < n → ∃ a fs, f i = some a ∧ bs + 56 ≤ a ∧ a < zz ∧ D a = some (.inl (0, fs)) ∧ c i = .inl (0, fs)
abbrev Rw : Type := Nat → Int32
/-- the cell of a record: its kind, transaction, producer, age, sequence, value -/
def ec (k v b a s t : Rw) (j : Nat) : HC := .inl (0, [.inl (if k j = 2 then 1 else if k j = 3 then 2 else 0), .inl (t j), .inl (if k j = 1 then b j else -1), .inl (if k j = 1 then a j else -1), .inl (if k j = 1 then s j else -1), .inl (v j)])
def ER (k s t : Rw) (j : Nat) : Prop := (k j = 0 ∨ k j = 1 ∨ k j = 2 ∨ k j = 3) ∧ (∃ q, q ≤ 40 ∧ t j = kI q ∧ (k j = 0 ↔ q = 0)) ∧ (k j = 1 → ∃ q, q ≤ 1000 ∧ s j = kI q)
def MKI (m k t : Rw) (b n : Nat) : Prop := ∀ q, q ≤ 40 → (m q = -1 ∧ ∀ i, i < n → (k (b + i) = 2 ∨ k (b + i) = 3) → t (b + i) ≠ kI q) ∨ ∃ j, j < n ∧ m q = kI j ∧ (k (b + j) = 2 ∨ k (b + j) = 3) ∧ t (b + j) = kI q ∧ ∀ i, i < n → (k (b + i) = 2 ∨ k (b + i) = 3) → t (b + i) = kI q → i = j
def SQI (k b a s : Rw) (o n : Nat) : Prop := ∀ i j, i < j → j < n → k (o + i) = 1 → k (o + j) = 1 → b (o + i) = b (o + j) → a (o + i) = a (o + j) → s (o + i) < s (o + j)
def IL (bs s1 T : Nat) (D : HH) (zz e p n hi : Nat) (aA aL aM k v b a s t ln st hg : Rw) : Prop :=
  n ≤ T ∧ hi ≤ n ∧ aA 2 = kI n ∧ ln p = kI n ∧ aL 3 = kI hi ∧ hg p = kI hi ∧ aL 2 = st p ∧
  LD bs s1 D zz e n (fun i => ec k v b a s t (520 * p + i)) ∧ (∀ i, i < n → ER k s t (520 * p + i)) ∧ MKI aM k t (520 * p) n ∧ SQI k b a s (520 * p) n
def IP (tx tm n : Nat) (c d m10 m11 m12 m13 m14 m15 : Rw) : Prop :=
  c 0 = kI n ∧ c 1 = m10 n ∧ (m10 n = -1 ∨ m10 n = 0 ∨ m10 n = 1 ∨ m10 n = 2 ∨ m10 n = 3) ∧
  (m10 n = -1 → c 2 = -1) ∧ (m10 n ≠ -1 → c 2 = m11 n) ∧
  (m10 n = -1 ∨ m10 n = 0 → c 3 = 0 ∧ m13 n = 0 ∧ ∀ j, j < 8 → d j = -1) ∧
  (m10 n = 1 ∨ m10 n = 2 ∨ m10 n = 3 → c 3 = m12 n ∧ (∃ q, 1 ≤ q ∧ q ≤ tx ∧ m12 n = kI q) ∧ ∀ j, j < 8 → d j = m15 (8 * n + j) ∧ (d j = -1 ∨ ∃ x, x ≤ 600 ∧ d j = kI x)) ∧
  c 4 = m14 n ∧ (∃ q, q ≤ tm ∧ m14 n = kI q) ∧ c 5 = m13 n ∧ ∃ q, q < 16 ∧ m13 n = kI q
/-- the partitions that a member holds, as bits -/
def msk (ho : Rw) (b m : Nat) : Int32 := (if ho (b + 0) = kI m then 1 else 0) + (if ho (b + 1) = kI m then 2 else 0) + (if ho (b + 2) = kI m then 4 else 0) + (if ho (b + 3) = kI m then 8 else 0)
def IG (tm g : Nat) (c6 c7 c8 c9 c10 m17 m18 m19 m20 m21 : Rw) : Prop :=
  c6 0 = m17 g ∧ (∀ m, m < 4 → c7 m = m18 (4 * g + m) ∧ (c7 m = 0 ∨ c7 m = 1) ∧ c8 m = m19 (4 * g + m) ∧ (∃ q, q ≤ tm ∧ c8 m = kI q) ∧ c9 m = msk m20 (4 * g) m ∧ c10 m = m21 (4 * g + m) ∧
    (m20 (4 * g + m) = -1 ∨ ∃ q, q < 4 ∧ m20 (4 * g + m) = kI q ∧ c7 q = 1))
def IR (bs T : Nat) (z : Z3) : Prop := bs + 56 ≤ z.1 ∧ 601024 ≤ z.2.1 + 100 + 4 * T ∧ 7293034 ≤ z.2.2 + 20000 + 2000 * T
def IE (bs : Nat) (ed : Nat → Nat) : Prop := ∀ p q, p < 4 → q < 4 → p ≠ q → ed p = ed q → ed p < bs
def IV0 (tx tm T : Nat) (r : RH) : Prop := tx ≤ 40 ∧ tm ≤ 30 * T ∧ r 0 0 3 = kI tx ∧ r 20 16 0 = kI tx ∧ r 0 0 4 = kI tm ∧ r 20 22 0 = kI tm ∧ r 0 0 5 = r 20 23 0
def IVP (tx tm : Nat) (r : RH) : Prop := ∀ n, n < 4 → IP tx tm n (r 4 n) (r 5 n) (r 20 10) (r 20 11) (r 20 12) (r 20 13) (r 20 14) (r 20 15)
def IVG (tm : Nat) (r : RH) : Prop := ∀ g, g < 2 → IG tm g (r 6 g) (r 7 g) (r 8 g) (r 9 g) (r 10 g) (r 20 17) (r 20 18) (r 20 19) (r 20 20) (r 20 21)
def IVL (bs s1 T : Nat) (D : HH) (zz : Nat) (ed : Nat → Nat) (r : RH) : Prop := ∀ p, p < 4 → ∃ n hi, IL bs s1 T D zz (ed p) p n hi (r 2 p) (r 1 p) (r 3 p) (r 20 1) (r 20 2) (r 20 3) (r 20 4) (r 20 5) (r 20 6) (r 20 7) (r 20 8) (r 20 9)
def INV (bs s1 T : Nat) (r : RH) (ed : Nat → Nat) (D : HH) (z : Z3) : Prop :=
  IR bs T z ∧ IE bs ed ∧ ∃ tx tm, IV0 tx tm T r ∧ IVP tx tm r ∧ IVG tm r ∧ IVL bs s1 T D z.1 ed r
theorem INV_RO {bs s1 T : Nat} {r : RH} {ed : Nat → Nat} {D : HH} {z : Z3} (hT : T ≤ 513) (h : INV bs s1 T r ed D z) : RO z := by
  obtain ⟨⟨h1, h2, h3⟩, -⟩ := h
  exact ⟨by omega, by omega⟩
theorem up3_r {r : RH} {f m i : Nat} {x : Int32} {f' m' : Nat} : up3 r f m i x f' m' = if f' = f ∧ m' = m then upd (r f m) i x else r f' m' := by
  by_cases h : f' = f ∧ m' = m
  · rw [if_pos h, h.1, h.2, up3_at]
  · rw [if_neg h, up3_fn h]
theorem LD_mono {bs s1 : Nat} {D : HH} {zz zz' e n : Nat} {c : Nat → HC} (hz : zz ≤ zz') (h : LD bs s1 D zz e n c) : LD bs s1 D zz' e n c := by
  rcases h with h | ⟨cap, f, h1, h2, h3, h4, h5, h6⟩
  · exact Or.inl h
  · refine Or.inr ⟨cap, f, h1, h2, h3, by omega, h5, fun i hi => ?_⟩
    obtain ⟨a, fs, b1, b2, b3, b4⟩ := h6 i hi
    exact ⟨a, fs, b1, b2, by omega, b4⟩
theorem IL_mono {bs s1 T T' : Nat} {D : HH} {zz zz' e p n hi : Nat} {aA aL aM k v b a s t ln st hg : Rw} (hT : T ≤ T') (hz : zz ≤ zz') (h : IL bs s1 T D zz e p n hi aA aL aM k v b a s t ln st hg) : IL bs s1 T' D zz' e p n hi aA aL aM k v b a s t ln st hg := by
  obtain ⟨h1, h2, h3, h4, h5, h6, h7, h8, h9⟩ := h
  exact ⟨by omega, h2, h3, h4, h5, h6, h7, LD_mono hz h8, h9⟩
theorem IP_mono {tx tm tx' tm' n : Nat} {c d m10 m11 m12 m13 m14 m15 : Rw} (h1 : tx ≤ tx') (h2 : tm ≤ tm') (h : IP tx tm n c d m10 m11 m12 m13 m14 m15) : IP tx' tm' n c d m10 m11 m12 m13 m14 m15 := by
  obtain ⟨a1, a2, a3, a4, a5, a6, a7, a8, ⟨q, q1, q2⟩, a10, a11⟩ := h
  refine ⟨a1, a2, a3, a4, a5, a6, fun h => ?_, a8, ⟨q, by omega, q2⟩, a10, a11⟩
  obtain ⟨b1, ⟨u, u1, u2, u3⟩, b3⟩ := a7 h
  exact ⟨b1, ⟨u, u1, by omega, u3⟩, b3⟩
theorem IG_mono {tm tm' g : Nat} {c6 c7 c8 c9 c10 m17 m18 m19 m20 m21 : Rw} (h2 : tm ≤ tm') (h : IG tm g c6 c7 c8 c9 c10 m17 m18 m19 m20 m21) : IG tm' g c6 c7 c8 c9 c10 m17 m18 m19 m20 m21 := by
  obtain ⟨a1, a2⟩ := h
  refine ⟨a1, fun m hm => ?_⟩
  obtain ⟨b1, b2, b3, ⟨q, q1, q2⟩, b5⟩ := a2 m hm
  exact ⟨b1, b2, b3, ⟨q, by omega, q2⟩, b5⟩
def ZR (z z' : Z3) : Prop := z.1 ≤ z'.1 ∧ z.2.1 ≤ z'.2.1 + 4 ∧ z.2.2 ≤ z'.2.2 + 2000
theorem ZR_rfl {z : Z3} : ZR z z := ⟨by omega, by omega, by omega⟩
theorem ZR_6 {z : Z3} : ZR z (nZ z 6) := ⟨by simp [nZ], by simp [nZ]; omega, by simp [nZ]; omega⟩
theorem IR_next {bs T : Nat} {z z' : Z3} (hz : ZR z z') (h : IR bs T z) : IR bs (T + 1) z' := by
  obtain ⟨h1, h2, h3⟩ := h
  obtain ⟨g1, g2, g3⟩ := hz
  exact ⟨by omega, by omega, by omega⟩
/-- after a call that changes nothing but what the model says of failing -/
theorem INV_f {bs s1 T : Nat} {r : RH} {ed : Nat → Nat} {D : HH} {z z' : Z3} {x : Int32} (hz : ZR z z') (h : INV bs s1 T r ed D z) : INV bs s1 (T + 1) (up3 r 20 0 0 x) ed D z' := by
  obtain ⟨h1, h2, tx, tm, h3, h4, h5, h6⟩ := h
  refine ⟨IR_next hz h1, h2, tx, tm, ?_, ?_, ?_, ?_⟩
  · obtain ⟨a1, a2, a3⟩ := h3
    refine ⟨a1, by omega, ?_⟩
    simpa [up3_r] using a3
  · intro n hn
    simpa [up3_r] using h4 n hn
  · intro g hg
    simpa [up3_r] using h5 g hg
  · intro p hp
    obtain ⟨n, hi, hL⟩ := h6 p hp
    refine ⟨n, hi, ?_⟩
    simpa [up3_r] using IL_mono (Nat.le_succ T) hz.1 hL
/-- after a call that changes producers only -/
theorem INV_P {bs s1 T tx tm tx' : Nat} {r r' : RH} {ed : Nat → Nat} {D : HH} {z z' : Z3} (hz : ZR z z') (h1 : IR bs T z) (h2 : IE bs ed) (h0 : IV0 tx' tm (T + 1) r') (h3 : IVP tx' tm r') (h4 : IVG tm r) (h5 : IVL bs s1 T D z.1 ed r)
    (e1 : ∀ f m, f = 1 ∨ f = 2 ∨ f = 3 ∨ f = 6 ∨ f = 7 ∨ f = 8 ∨ f = 9 ∨ f = 10 → r' f m = r f m) (e2 : ∀ k, (1 ≤ k ∧ k ≤ 9) ∨ (17 ≤ k ∧ k ≤ 21) → r' 20 k = r 20 k) : INV bs s1 (T + 1) r' ed D z' := by
  refine ⟨IR_next hz h1, h2, tx', tm, h0, h3, ?_, ?_⟩
  · intro g hg
    have := h4 g hg
    rw [e1 6 g (by simp), e1 7 g (by simp), e1 8 g (by simp), e1 9 g (by simp), e1 10 g (by simp), e2 17 (by simp), e2 18 (by simp), e2 19 (by simp), e2 20 (by simp), e2 21 (by simp)]
    exact this
  · intro p hp
    obtain ⟨n, hi, hL⟩ := h5 p hp
    refine ⟨n, hi, ?_⟩
    rw [e1 1 p (by simp), e1 2 p (by simp), e1 3 p (by simp), e2 1 (by simp), e2 2 (by simp), e2 3 (by simp), e2 4 (by simp), e2 5 (by simp), e2 6 (by simp), e2 7 (by simp), e2 8 (by simp), e2 9 (by simp)]
    exact IL_mono (Nat.le_succ T) hz.1 hL
/-- one call on both sides -/
def OPK (bs s1 T : Nat) (old : HH) (r : RH) (ed : Nat → Nat) (o : Int64) (D : HH) (z : Z3) (W M : HH → Z3 → Option RS) : Prop :=
  ∃ (c v : Int32) (r1 : RH) (ed1 : Nat → Nat) (o1 : Int64) (D1 : HH) (z1 : Z3) (r2 : RH), W (HB old bs r ed o D) z = some (.inl (some (.int c)), HB old bs r1 ed1 o1 D1, z1) ∧ M (HB old bs r1 ed1 o1 D1) z1 = some (.inl (some (.int v)), HB old bs r2 ed1 o1 D1, z1) ∧ r2 20 0 0 = c ∧ (c = 0 → o1 = v.toInt64) ∧ INV bs s1 (T + 1) r2 ed1 D1 z1
theorem up3_s {r : RH} {f m i : Nat} {x y : Int32} : up3 (up3 r f m i x) f m i y = up3 r f m i y := by
  funext f' m' i'
  unfold up3
  by_cases h : f' = f ∧ m' = m ∧ i' = i <;> simp [h]
