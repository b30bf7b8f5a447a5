/-! the model's searches along a log -/
def MG (T : Nat) (r : RH) (p n hi : Nat) : Prop := n ≤ T ∧ hi ≤ n ∧ r 20 7 p = kI n ∧ r 20 9 p = kI hi ∧ (∀ i, i < n → ER (r 20 1) (r 20 5) (r 20 6) (520 * p + i)) ∧ SQI (r 20 1) (r 20 3) (r 20 4) (r 20 5) (520 * p) n
theorem MG_of {bs s1 T : Nat} {r : RH} {ed : Nat → Nat} {D : HH} {zz p n hi : Nat} (hL : LG bs s1 T r ed D zz p n hi) : MG T r p n hi := by
  obtain ⟨a1, a2, a3, a4, a5, a6, a7, a8, a9, a10, a11⟩ := hL
  exact ⟨a1, a2, a4, a6, a9, a11⟩
theorem MG_c {T : Nat} {r r' : RH} {p n hi : Nat} (h : ∀ m, 1 ≤ m → m ≤ 9 → r' 20 m = r 20 m) (hL : MG T r p n hi) : MG T r' p n hi := by
  unfold MG at hL ⊢
  rw [h 1 (by omega) (by omega), h 3 (by omega) (by omega), h 4 (by omega) (by omega), h 5 (by omega) (by omega), h 6 (by omega) (by omega), h 7 (by omega) (by omega), h 9 (by omega) (by omega)]
  exact hL
theorem mkd_c {r r' : RH} {p n q : Nat} {c : Bool} (h : ∀ m, 1 ≤ m → m ≤ 9 → r' 20 m = r 20 m) : mkd r' p n q c = mkd r p n q c := by
  unfold mkd
  rw [h 1 (by omega) (by omega), h 6 (by omega) (by omega)]
theorem stP_c {r r' : RH} {p hi : Nat} (h : ∀ m, 1 ≤ m → m ≤ 9 → r' 20 m = r 20 m) : stP r' p hi = stP r p hi := by
  funext i
  unfold stP tN
  rw [mkd_c h, h 1 (by omega) (by omega), h 6 (by omega) (by omega)]
theorem rdP_c {r r' : RH} {p hi : Nat} {c : Bool} (h : ∀ m, 1 ≤ m → m ≤ 9 → r' 20 m = r 20 m) : rdP r' p hi c = rdP r p hi c := by
  funext i
  unfold rdP tN
  rw [mkd_c h, h 1 (by omega) (by omega), h 6 (by omega) (by omega)]
theorem ofP_c {r r' : RH} {p : Nat} {a b : Int32} (h : ∀ m, 1 ≤ m → m ≤ 9 → r' 20 m = r 20 m) : ofP r' p a b = ofP r p a b := by
  funext i
  unfold ofP
  rw [h 1 (by omega) (by omega), h 3 (by omega) (by omega), h 4 (by omega) (by omega)]
theorem uncP_c {r r' : RH} {p q : Nat} (h : ∀ m, 1 ≤ m → m ≤ 9 → r' 20 m = r 20 m) : uncP r' p q = uncP r p q := by
  funext i
  unfold uncP
  rw [h 1 (by omega) (by omega), h 6 (by omega) (by omega)]
section MG1
variable {old : HH} {bs : Nat} {r : RH} {ed : Nat → Nat} {o : Int64} {D : HH} {sE : Nat × Nat} {z : Z3} {T zz p n hi : Nat}
theorem tN_at' (hL : MG T r p n hi) {i : Nat} (h : i < n) : r 20 6 (520 * p + i) = kI (tN r p i) ∧ tN r p i ≤ 40 ∧ (r 20 1 (520 * p + i) = 0 ↔ tN r p i = 0) := by
  obtain ⟨hk, ⟨u, u1, u2, u3⟩, -⟩ := hL.2.2.2.2.1 i h
  have : tN r p i = u := by unfold tN; rw [u2, kI_clamp (by omega)]
  rw [this]
  exact ⟨u2, u1, u3⟩
theorem M_ofProducer {j m : Nat} (hj : j < 2080) (hm : m < 4) : f_M_ofProducer bs sE (HB old bs r ed o D) z (aM bs) (kI j) (kI m) = some (.inl (some (.int (bI (decide (r 20 1 j = 1 ∧ r 20 3 j = kI m ∧ r 20 4 j = r 20 11 m))))), HB old bs r ed o D, z) := by
  simp [f_M_ofProducer, gR_M1, gR_M3, gR_M4, gR_M11, aI_MA, marr, msz, hj, hm, cI_s, cI_x, cR_s, cR_x, cV_s, cV_x, cX_s, cX_x, bn_s, bz_0, bz_1, bz_b, bI_0, bI_1]
  by_cases h1 : r 20 1 j = 1 <;> by_cases h2 : r 20 3 j = kI m <;> by_cases h3 : r 20 4 j = r 20 11 m <;> simp [h1, h2, h3, bI]
theorem M_full (hp : p < 4) : f_M_full bs sE (HB old bs r ed o D) z (aM bs) (kI p) = some (.inl (some (.int (bI (fulq (r 20 7 p) (r 20 8 p))))), HB old bs r ed o D, z) := by
  simp only [f_M_full, gR_M7, gR_M8, aI_MA (show marr 7 = true from rfl) (show p < msz 7 by simp [msz, hp]), aI_MA (show marr 8 = true from rfl) (show p < msz 8 by simp [msz, hp]), cI_s, cI_x, cR_s, cR_x, cV_s, cV_x, cX_s, cX_x, bn_s, bz_0, bz_1, bz_b, bI_0, bI_1]
  by_cases h1 : 32 ≤ r 20 7 p - r 20 8 p <;> by_cases h2 : r 20 7 p < 400 <;> simp [h1, h2, bI, fulq]
theorem M_recent_L (hp : p < 4) (hn : n ≤ 513) {x3 : Int32} {w : Nat} (hw : w < 4) : ∀ (m fuel c : Nat), m ≤ n → c ≤ 5 → m < fuel → f_M_recent_L13 bs sE fuel (HB old bs r ed o D) z (aM bs) (kI w) (kI p) x3 (kI c) (dn m) = some (.inl (some (.int (oI (rcn (ofP r p (kI w) (r 20 11 w)) (fun i => r 20 5 (520 * p + i)) x3 m c)))), HB old bs r ed o D, z) := by
  intro m
  induction m with
  | zero =>
    intro fuel c h1 h2 hf
    obtain ⟨f, rfl⟩ : ∃ f, fuel = f + 1 := ⟨fuel - 1, by omega⟩
    have e : dn 0 < 0 := by decide
    simp only [f_M_recent_L13, fb_M_recent_L13, if_pos e, rcn, oI]
  | succ m ih =>
    intro fuel c h1 h2 hf
    obtain ⟨f, rfl⟩ : ∃ f, fuel = f + 1 := ⟨fuel - 1, by omega⟩
    have e : ¬ kI m < 0 := by rw [kI_nl0 (by omega)]; exact id
    by_cases h5 : 5 ≤ c
    · have e5 : (5 : Int32) ≤ kI c := (kI_le (a := 5) (by omega) (by omega)).mpr h5
      simp only [dn_s, f_M_recent_L13, fb_M_recent_L13, if_neg e, if_pos e5, rcn, if_pos h5, oI]
    have e5 : ¬ (5 : Int32) ≤ kI c := fun q => h5 ((kI_le (a := 5) (by omega) (by omega)).mp q)
    have i1 := ih f c (by omega) (by omega) (by omega)
    have i2 := ih f (c + 1) (by omega) (by omega) (by omega)
    simp only [dn_s, f_M_recent_L13, fb_M_recent_L13, if_neg e, if_neg e5, rcn, if_neg h5, oK_M, kI_520, kI_add, M_ofProducer (show 520 * p + m < 2080 by omega) hw, gR_M5, aI_MA (show marr 5 = true from rfl) (show 520 * p + m < msz 5 by simp [msz]; omega), cI_s, cI_x, cR_s, cR_x, cV_s, cV_x, cX_s, cX_x, bn_s, bz_0, bz_1, bz_b, bI_0, bI_1, dn_m1 (show m < 100000 by omega), i1, kI_add1, i2, ofP]
    by_cases hP : r 20 1 (520 * p + m) = 1 ∧ r 20 3 (520 * p + m) = kI w ∧ r 20 4 (520 * p + m) = r 20 11 w
    · by_cases hS : r 20 5 (520 * p + m) = x3
      · simp [hP, hS, oI]
      · simp [hP, hS]
    · have hP' : decide (r 20 1 (520 * p + m) = 1 ∧ r 20 3 (520 * p + m) = kI w ∧ r 20 4 (520 * p + m) = r 20 11 w) = false := decide_eq_false hP
      simp only [hP']
      simp
theorem M_recent (hp : p < 4) (hn : n ≤ 513) (hl : r 20 7 p = kI n) {x3 : Int32} {w : Nat} (hw : w < 4) : f_M_recent bs sE (HB old bs r ed o D) z (aM bs) (kI w) (kI p) x3 = some (.inl (some (.int (oI (rcn (ofP r p (kI w) (r 20 11 w)) (fun i => r 20 5 (520 * p + i)) x3 n 0)))), HB old bs r ed o D, z) := by
  simp only [f_M_recent, gR_M7, aI_MA (show marr 7 = true from rfl) (show p < msz 7 by simp [msz, hp]), cI_s, cI_x, cR_s, cR_x, cV_s, cV_x, cX_s, cX_x, bn_s, bz_0, bz_1, bz_b, bI_0, bI_1, hl, dn_sub (show n < 100000 by omega)]
  exact M_recent_L hp hn hw n FU 0 (by omega) (by omega) (by show _ < 1000; omega)
/-- along a log the sequences rise: the last one plus one is more than each -/
theorem nx_le {P : Nat → Bool} {S : Nat → Int32} {n : Nat} (hS : ∀ i, i < n → P i = true → ∃ q, q ≤ 1000 ∧ S i = kI q) (hI : ∀ i j, i < j → j < n → P i = true → P j = true → S i < S j) : ∀ m, m < n → P m = true → ¬ S m < nx P S m := by
  have key : ∀ m k, m ≤ k → k < n → P k = true → ¬ S k < nx P S m := by
    intro m
    induction m with
    | zero =>
      intro k _ hk hP
      obtain ⟨q, q1, q2⟩ := hS k hk hP
      rw [q2]
      show ¬ kI q < 0
      rw [kI_nl0 (by omega)]
      exact id
    | succ m ih =>
      intro k h1 hk hP
      unfold nx
      by_cases hm : P m = true
      · rw [if_pos hm]
        obtain ⟨q, q1, q2⟩ := hS k hk hP
        obtain ⟨u, u1, u2⟩ := hS m (by omega) hm
        have := hI m k (by omega) hk hm hP
        rw [q2, u2, kI_lt (by omega) (by omega)] at this
        rw [q2, u2, kI_add1, kI_lt (by omega) (by omega)]
        omega
      · rw [if_neg hm]
        exact ih k (by omega) hk hP
  intro m hm hP
  exact key m m (by omega) hm hP
theorem M_next_L (hp : p < 4) (hn : n ≤ 513) (hl : r 20 7 p = kI n) {w : Nat} (hw : w < 4) (hI : ∀ m, m < n → ofP r p (kI w) (r 20 11 w) m = true → ¬ r 20 5 (520 * p + m) < nx (ofP r p (kI w) (r 20 11 w)) (fun i => r 20 5 (520 * p + i)) m) : ∀ (d fuel i : Nat), i + d = n → d < fuel → f_M_next_L9 bs sE fuel (HB old bs r ed o D) z (aM bs) (kI w) (kI p) (nx (ofP r p (kI w) (r 20 11 w)) (fun i => r 20 5 (520 * p + i)) i) (kI (520 * p + i)) = some (.inl (some (.int (nx (ofP r p (kI w) (r 20 11 w)) (fun i => r 20 5 (520 * p + i)) n))), HB old bs r ed o D, z) := by
  intro d
  induction d with
  | zero =>
    intro fuel i hi' hf
    obtain ⟨f, rfl⟩ : ∃ f, fuel = f + 1 := ⟨fuel - 1, by omega⟩
    obtain rfl : i = n := by omega
    have c : kI (520 * p + i) ≤ kI (520 * p + i) := (kI_le (by omega) (by omega)).mpr (by omega)
    simp only [f_M_next_L9, fb_M_next_L9, gR_M7, aI_MA (show marr 7 = true from rfl) (show p < msz 7 by simp [msz, hp]), hl, kI_520, kI_add, if_pos c, cI_s, cI_x, cR_s, cR_x, cV_s, cV_x, cX_s, cX_x, bn_s, bz_0, bz_1, bz_b, bI_0, bI_1]
  | succ d ih =>
    intro fuel i hi' hf
    obtain ⟨f, rfl⟩ : ∃ f, fuel = f + 1 := ⟨fuel - 1, by omega⟩
    have c : ¬ kI (520 * p + n) ≤ kI (520 * p + i) := by rw [kI_le (by omega) (by omega)]; omega
    have ih' := ih f (i + 1) (by omega) (by omega)
    have hI' := hI i (by omega)
    simp only [f_M_next_L9, fb_M_next_L9, gR_M7, aI_MA (show marr 7 = true from rfl) (show p < msz 7 by simp [msz, hp]), hl, kI_520, kI_add, if_neg c, cI_s, cI_x, cR_s, cR_x, cV_s, cV_x, cX_s, cX_x, bn_s, bz_0, bz_1, bz_b, bI_0, bI_1, oK_M, M_ofProducer (show 520 * p + i < 2080 by omega) hw, gR_M5, aI_MA (show marr 5 = true from rfl) (show 520 * p + i < msz 5 by simp [msz]; omega), kI_add1]
    rw [show (520 * p + (i + 1)) = 520 * p + i + 1 by omega] at ih'
    cases hP : ofP r p (kI w) (r 20 11 w) i with
    | true =>
      have hQ : decide (r 20 1 (520 * p + i) = 1 ∧ r 20 3 (520 * p + i) = kI w ∧ r 20 4 (520 * p + i) = r 20 11 w) = true := hP
      have e : nx (ofP r p (kI w) (r 20 11 w)) (fun i => r 20 5 (520 * p + i)) (i + 1) = r 20 5 (520 * p + i) + 1 := by
        rw [nx, if_pos hP]
      rw [e] at ih'
      simp only [hQ, if_neg (hI' hP), ih']
      simp
    | false =>
      have hQ : decide (r 20 1 (520 * p + i) = 1 ∧ r 20 3 (520 * p + i) = kI w ∧ r 20 4 (520 * p + i) = r 20 11 w) = false := hP
      have e : nx (ofP r p (kI w) (r 20 11 w)) (fun i => r 20 5 (520 * p + i)) (i + 1) = nx (ofP r p (kI w) (r 20 11 w)) (fun i => r 20 5 (520 * p + i)) i := by
        rw [nx, if_neg (by rw [hP]; simp)]
      rw [e] at ih'
      simp only [hQ, ih']
      simp
theorem M_next (hp : p < 4) (hT : T ≤ 513) (hL : MG T r p n hi) {w : Nat} (hw : w < 4) : f_M_next bs sE (HB old bs r ed o D) z (aM bs) (kI w) (kI p) = some (.inl (some (.int (nx (ofP r p (kI w) (r 20 11 w)) (fun i => r 20 5 (520 * p + i)) n))), HB old bs r ed o D, z) := by
  have := hL.1
  have hI := nx_le (P := ofP r p (kI w) (r 20 11 w)) (S := fun i => r 20 5 (520 * p + i)) (n := n) (fun i hi hP => by
    have hP := of_decide_eq_true hP
    exact (hL.2.2.2.2.1 i hi).2.2 hP.1) (fun i j hij hj h1 h2 => by
    have h1 := of_decide_eq_true h1
    have h2 := of_decide_eq_true h2
    exact hL.2.2.2.2.2 i j hij hj h1.1 h2.1 (h1.2.1.trans h2.2.1.symm) (h1.2.2.trans h2.2.2.symm))
  have := M_next_L (old := old) (bs := bs) (ed := ed) (o := o) (D := D) (sE := sE) (z := z) hp (by omega) hL.2.2.1 hw hI n FU 0 (by omega) (by show _ < 1000; omega)
  simpa [f_M_next, kI_520, nx] using this
theorem M_marked_L (hp : p < 4) {lim : Nat} (hlim : lim ≤ 520) (hK : ∀ i, i < lim → r 20 1 (520 * p + i) = 0 ∨ r 20 1 (520 * p + i) = 1 ∨ r 20 1 (520 * p + i) = 2 ∨ r 20 1 (520 * p + i) = 3) {q : Nat} {x4 : Int32} : ∀ (d fuel i : Nat), i + d = lim → d < fuel → f_M_marked_L7 bs sE fuel (HB old bs r ed o D) z (aM bs) (kI p) (kI q) (kI lim) x4 (kI (520 * p + i)) = some (.inl (some (.int (bI (exi (fun i => decide ((r 20 1 (520 * p + i) = 2 ∨ r 20 1 (520 * p + i) = 3) ∧ r 20 6 (520 * p + i) = kI q ∧ ((decide (x4 ≠ 0)) = false ∨ r 20 1 (520 * p + i) = 3))) d i)))), HB old bs r ed o D, z) := by
  intro d
  induction d with
  | zero =>
    intro fuel i hi' hf
    obtain ⟨f, rfl⟩ : ∃ f, fuel = f + 1 := ⟨fuel - 1, by omega⟩
    obtain rfl : i = lim := by omega
    have c : kI (520 * p + i) ≤ kI (520 * p + i) := (kI_le (by omega) (by omega)).mpr (by omega)
    simp only [f_M_marked_L7, fb_M_marked_L7, kI_520, kI_add, if_pos c, cI_s, cI_x, cR_s, cR_x, cV_s, cV_x, cX_s, cX_x, bn_s, bz_0, bz_1, bz_b, bI_0, bI_1, exi, bI_f]
  | succ d ih =>
    intro fuel i hi' hf
    obtain ⟨f, rfl⟩ : ∃ f, fuel = f + 1 := ⟨fuel - 1, by omega⟩
    have c : ¬ kI (520 * p + lim) ≤ kI (520 * p + i) := by rw [kI_le (by omega) (by omega)]; omega
    have ih' := ih f (i + 1) (by omega) (by omega)
    rw [show (520 * p + (i + 1)) = 520 * p + i + 1 by omega] at ih'
    simp only [f_M_marked_L7, fb_M_marked_L7, kI_520, kI_add, if_neg c, cI_s, cI_x, cR_s, cR_x, cV_s, cV_x, cX_s, cX_x, bn_s, bz_0, bz_1, bz_b, bI_0, bI_1, exi, gR_M1, gR_M6, aI_MA (show marr 1 = true from rfl) (show 520 * p + i < msz 1 by simp [msz]; omega), aI_MA (show marr 6 = true from rfl) (show 520 * p + i < msz 6 by simp [msz]; omega), kI_add1, ih']
    rcases hK i (by omega) with hk | hk | hk | hk
    · simp [hk]
    · simp [hk]
    · by_cases hq : r 20 6 (520 * p + i) = kI q <;> by_cases hx : x4 = 0 <;> simp [hk, hq, hx, bI_t]
    · by_cases hq : r 20 6 (520 * p + i) = kI q <;> by_cases hx : x4 = 0 <;> simp [hk, hq, hx, bI_t]
theorem M_marked (hp : p < 4) (hT : T ≤ 513) (hL : MG T r p n hi) {lim : Nat} (hlim : lim ≤ n) {q : Nat} {x4 : Int32} : f_M_marked bs sE (HB old bs r ed o D) z (aM bs) (kI p) (kI q) (kI lim) x4 = some (.inl (some (.int (bI (mkd r p lim q (decide (x4 ≠ 0)))))), HB old bs r ed o D, z) := by
  have := hL.1
  have := M_marked_L (old := old) (bs := bs) (ed := ed) (o := o) (D := D) (sE := sE) (z := z) (q := q) (x4 := x4) hp (show lim ≤ 520 by omega) (fun i hi => (hL.2.2.2.2.1 i (by omega)).1) lim FU 0 (by omega) (by show _ < 1000; omega)
  simpa [f_M_marked, kI_520, mkd] using this
theorem M_stable_L (hp : p < 4) (hT : T ≤ 513) (hL : MG T r p n hi) : ∀ (d fuel i : Nat), i + d = hi → d < fuel → f_M_stable_L2 bs sE fuel (HB old bs r ed o D) z (aM bs) (kI p) (kI i) = some (.inl (some (.int (kI (fst_ (stP r p hi) d i)))), HB old bs r ed o D, z) := by
  have hn : n ≤ 513 := by have := hL.1; omega
  have hh : hi ≤ n := hL.2.1
  have a5 : r 20 9 p = kI hi := hL.2.2.2.1
  intro d
  induction d with
  | zero =>
    intro fuel i hi' hf
    obtain ⟨f, rfl⟩ : ∃ f, fuel = f + 1 := ⟨fuel - 1, by omega⟩
    obtain rfl : i = hi := by omega
    have c : kI i ≤ kI i := (kI_le (by omega) (by omega)).mpr (by omega)
    simp only [f_M_stable_L2, fb_M_stable_L2, gR_M9, aI_MA (show marr 9 = true from rfl) (show p < msz 9 by simp [msz, hp]), a5, if_pos c, cI_s, cI_x, cR_s, cR_x, cV_s, cV_x, cX_s, cX_x, bn_s, bz_0, bz_1, bz_b, bI_0, bI_1, fst_]
  | succ d ih =>
    intro fuel i hi' hf
    obtain ⟨f, rfl⟩ : ∃ f, fuel = f + 1 := ⟨fuel - 1, by omega⟩
    have c : ¬ kI hi ≤ kI i := by rw [kI_le (by omega) (by omega)]; omega
    obtain ⟨hk, -, -⟩ := hL.2.2.2.2.1 i (by omega)
    obtain ⟨t1, t2, t3⟩ := tN_at' hL (i := i) (by omega)
    have ih' := ih f (i + 1) (by omega) (by omega)
    simp only [f_M_stable_L2, fb_M_stable_L2, gR_M9, gR_M1, gR_M6, oK_M, aI_MA (show marr 9 = true from rfl) (show p < msz 9 by simp [msz, hp]), kI_520, kI_add, aI_MA (show marr 1 = true from rfl) (show 520 * p + i < msz 1 by simp [msz]; omega), aI_MA (show marr 6 = true from rfl) (show 520 * p + i < msz 6 by simp [msz]; omega), a5, if_neg c, cI_s, cI_x, cR_s, cR_x, cV_s, cV_x, cX_s, cX_x, bn_s, bz_0, bz_1, bz_b, bI_0, bI_1, fst_, kI_add1, ih', stP, t1, M_marked hp hT hL hh]
    rcases hk with hk | hk | hk | hk
    · simp [hk, cI_s, cI_x, cR_s, cR_x, cV_s, cV_x, cX_s, cX_x, bn_s, bz_0, bz_1, bz_b, bI_0, bI_1, ih']
    · by_cases e : mkd r p hi (tN r p i) false = true
      · simp [hk, e, cI_s, cI_x, cR_s, cR_x, cV_s, cV_x, cX_s, cX_x, bn_s, bz_0, bz_1, bz_b, bI_0, bI_1, ih']
      · have e : mkd r p hi (tN r p i) false = false := by simpa using e
        simp [hk, e, cI_s, cI_x, cR_s, cR_x, cV_s, cV_x, cX_s, cX_x, bn_s, bz_0, bz_1, bz_b, bI_0, bI_1, ih']
    · simp [hk, cI_s, cI_x, cR_s, cR_x, cV_s, cV_x, cX_s, cX_x, bn_s, bz_0, bz_1, bz_b, bI_0, bI_1, ih']
    · simp [hk, cI_s, cI_x, cR_s, cR_x, cV_s, cV_x, cX_s, cX_x, bn_s, bz_0, bz_1, bz_b, bI_0, bI_1, ih']
theorem M_stable (hp : p < 4) (hT : T ≤ 513) (hL : MG T r p n hi) : f_M_stable bs sE (HB old bs r ed o D) z (aM bs) (kI p) = some (.inl (some (.int (kI (fst_ (stP r p hi) hi 0)))), HB old bs r ed o D, z) := by
  have := hL.1
  have := hL.2.1
  exact M_stable_L hp hT hL hi FU 0 (by omega) (by show _ < 1000; omega)
def ftc (old : HH) (bs : Nat) (r : RH) (ed : Nat → Nat) (o : Int64) (D : HH) (z : Z3) (p : Nat) (x : Option Nat) : Option RS := match x with
  | none => some (.inl (some (.int 0)), HB old bs (up3 r 20 0 0 3) ed o D, z)
  | some i => some (.inl (some (.int (kI i))), HB old bs (up3 r 20 23 0 (r 20 2 (520 * p + i))) ed o D, z)
theorem M_fetch_L (hp : p < 4) (hT : T ≤ 513) (hL : MG T r p n hi) {x3 : Int32} {w : Nat} (hw : w ≤ n) : ∀ (d fuel i : Nat), i + d = w → d < fuel → f_M_fetch_L70 bs sE fuel (HB old bs r ed o D) z (aM bs) (kI p) x3 (kI w) (kI i) = ftc old bs r ed o D z p (srch (rdP r p hi (decide (x3 ≠ 0))) d i) := by
  have hn : n ≤ 513 := by have := hL.1; omega
  have hh : hi ≤ n := hL.2.1
  have a5 : r 20 9 p = kI hi := hL.2.2.2.1
  intro d
  induction d with
  | zero =>
    intro fuel i hi' hf
    obtain ⟨f, rfl⟩ : ∃ f, fuel = f + 1 := ⟨fuel - 1, by omega⟩
    have c : kI w ≤ kI i := (kI_le (by omega) (by omega)).mpr (by omega)
    simp only [f_M_fetch_L70, fb_M_fetch_L70, if_pos c, cI_s, cI_x, cR_s, cR_x, cV_s, cV_x, cX_s, cX_x, bn_s, bz_0, bz_1, bz_b, bI_0, bI_1, srch, oK_M, M_fail, ftc]
  | succ d ih =>
    intro fuel i hi' hf
    obtain ⟨f, rfl⟩ : ∃ f, fuel = f + 1 := ⟨fuel - 1, by omega⟩
    have c : ¬ kI w ≤ kI i := by rw [kI_le (by omega) (by omega)]; omega
    obtain ⟨hk, -, -⟩ := hL.2.2.2.2.1 i (by omega)
    obtain ⟨t1, t2, t3⟩ := tN_at' hL (i := i) (by omega)
    have ih' := ih f (i + 1) (by omega) (by omega)
    simp only [f_M_fetch_L70, fb_M_fetch_L70, if_neg c, cI_s, cI_x, cR_s, cR_x, cV_s, cV_x, cX_s, cX_x, bn_s, bz_0, bz_1, bz_b, bI_0, bI_1, srch, gR_M1, gR_M2, gR_M6, gR_M9, oK_M, aI_MA (show marr 9 = true from rfl) (show p < msz 9 by simp [msz, hp]), kI_520, kI_add, aI_MA (show marr 1 = true from rfl) (show 520 * p + i < msz 1 by simp [msz]; omega), aI_MA (show marr 2 = true from rfl) (show 520 * p + i < msz 2 by simp [msz]; omega), aI_MA (show marr 6 = true from rfl) (show 520 * p + i < msz 6 by simp [msz]; omega), pV_M23, a5, kI_add1, ih', rdP, t1, M_marked hp hT hL hh]
    by_cases hx : x3 = 0
    · rcases hk with hk | hk | hk | hk <;> simp [hk, hx, ftc]
    · rcases hk with hk | hk | hk | hk
      · simp [hk, hx, ftc]
      · by_cases e : mkd r p hi (tN r p i) true = true
        · simp [hk, hx, e, ftc, cI_s, cI_x, cR_s, cR_x, cV_s, cV_x, cX_s, cX_x, bn_s, bz_0, bz_1, bz_b, bI_0, bI_1, ih']
        · have e : mkd r p hi (tN r p i) true = false := by simpa using e
          simp [hk, hx, e, ftc, cI_s, cI_x, cR_s, cR_x, cV_s, cV_x, cX_s, cX_x, bn_s, bz_0, bz_1, bz_b, bI_0, bI_1, pV_M23]
      · simp [hk, hx, ftc]
      · simp [hk, hx, ftc]
theorem M_finish_L (hp : p < 4) (hT : T ≤ 513) (hL : MG T r p n hi) {K117 : HH → Z3 → Nat → Int32 → Int32 → Int32 → Option RS} {K105 : HH → Z3 → Nat → Option RS} {w q : Nat} {x3 : Int32} (hw : w < 4) (hq : r 20 12 w = kI q) (hx : x3 ≠ 0) : ∀ (d fuel i : Nat), i + d = n → d < fuel → f_M_finish_L51 bs sE K117 K105 fuel (HB old bs r ed o D) z (aM bs) (kI w) x3 (kI p) (kI i) = if exi (uncP r p q) d i = true then K105 (HB old bs r ed o D) z (aM bs) else K117 (HB old bs r ed o D) z (aM bs) (kI w) x3 (kI p) := by
  have hn : n ≤ 513 := by have := hL.1; omega
  have a4 : r 20 7 p = kI n := hL.2.2.1
  intro d
  induction d with
  | zero =>
    intro fuel i hi' hf
    obtain ⟨f, rfl⟩ : ∃ f, fuel = f + 1 := ⟨fuel - 1, by omega⟩
    have c : kI n ≤ kI i := (kI_le (by omega) (by omega)).mpr (by omega)
    simp [f_M_finish_L51, fb_M_finish_L51, hx, gR_M7, aI_MA (show marr 7 = true from rfl) (show p < msz 7 by simp [msz, hp]), a4, c, cI_s, cI_x, cR_s, cR_x, cV_s, cV_x, cX_s, cX_x, bn_s, bz_0, bz_1, bz_b, bI_0, bI_1, exi]
  | succ d ih =>
    intro fuel i hi' hf
    obtain ⟨f, rfl⟩ : ∃ f, fuel = f + 1 := ⟨fuel - 1, by omega⟩
    have c : ¬ kI n ≤ kI i := by rw [kI_le (by omega) (by omega)]; omega
    have ih' := ih f (i + 1) (by omega) (by omega)
    simp only [f_M_finish_L51, fb_M_finish_L51, if_neg hx, gR_M7, gR_M1, gR_M6, gR_M12, aI_MA (show marr 7 = true from rfl) (show p < msz 7 by simp [msz, hp]), aI_MA (show marr 12 = true from rfl) (show w < msz 12 by simp [msz, hw]), kI_520, kI_add, aI_MA (show marr 1 = true from rfl) (show 520 * p + i < msz 1 by simp [msz]; omega), aI_MA (show marr 6 = true from rfl) (show 520 * p + i < msz 6 by simp [msz]; omega), a4, hq, if_neg c, cI_s, cI_x, cR_s, cR_x, cV_s, cV_x, cX_s, cX_x, bn_s, bz_0, bz_1, bz_b, bI_0, bI_1, exi, kI_add1, ih', uncP]
    by_cases h1 : r 20 1 (520 * p + i) = 1 <;> by_cases h2 : r 20 6 (520 * p + i) = kI q <;> simp [h1, h2]
/-- a record put by a producer, and one put by none -/
def pu (r : RH) (p n : Nat) (k v b a s t : Int32) : RH := up3 (up3 (up3 (up3 (up3 (up3 (up3 r 20 1 (520 * p + n) k) 20 2 (520 * p + n) v) 20 3 (520 * p + n) b) 20 4 (520 * p + n) a) 20 5 (520 * p + n) s) 20 6 (520 * p + n) t) 20 7 p (kI (n + 1))
theorem M_put {k v s : Int32} {w : Nat} (hp : p < 4) (hn : n ≤ 513) (hw : w < 4) (hl : r 20 7 p = kI n) : f_M_put bs sE (HB old bs r ed o D) z (aM bs) (kI p) k v (kI w) s = some (.inl (some (.int (kI n))), HB old bs (pu r p n k v (kI w) (r 20 11 w) s (r 20 12 w)) ed o D, z) := by
  have c : (0 : Int32) ≤ kI w := by rw [kI_0le (by omega)]; trivial
  have e : 520 * p + n < 2080 := by omega
  simp [f_M_put, f_M_put_B61, f_M_put_B93, gR_M7, gR_M1, gR_M2, gR_M3, gR_M4, gR_M5, gR_M6, gR_M11, gR_M12, aI_MA, aIs_MA, marr, msz, hp, hw, hl, kI_520, kI_add, kI_add1, cI_s, cI_x, cR_s, cR_x, cV_s, cV_x, cX_s, cX_x, bn_s, bz_0, bz_1, bz_b, bI_0, bI_1, c, e, up3_r, upd, pu]
theorem M_put0 {k v s : Int32} (hp : p < 4) (hn : n ≤ 513) (hl : r 20 7 p = kI n) : f_M_put bs sE (HB old bs r ed o D) z (aM bs) (kI p) k v (-1) s = some (.inl (some (.int (kI n))), HB old bs (pu r p n k v (-1) 0 s 0) ed o D, z) := by
  have c : ¬ (0 : Int32) ≤ -1 := by decide
  have e : 520 * p + n < 2080 := by omega
  simp [f_M_put, f_M_put_B61, f_M_put_B93, gR_M7, gR_M1, gR_M2, gR_M3, gR_M4, gR_M5, gR_M6, gR_M11, gR_M12, aI_MA, aIs_MA, marr, msz, hp, hl, kI_520, kI_add, kI_add1, cI_s, cI_x, cR_s, cR_x, cV_s, cV_x, cX_s, cX_x, bn_s, bz_0, bz_1, bz_b, bI_0, bI_1, c, e, up3_r, upd, pu]
end MG1
