/-! the law: call by call -/
section LAW
variable {old : HH} {bs : Nat} {r : RH} {ed : Nat → Nat} {o : Int64} {D : HH} {sE : Nat × Nat} {z : Z3} {T : Nat}
variable {b L : Nat} {xs : Nat → Int32}
theorem lg_self {x : Int64} : lg_cmp x x = 0 := by
  unfold lg_cmp
  rw [if_neg (Int64.lt_irrefl), if_pos rfl]
theorem M_thr : f_M_thrown bs sE (HB old bs r ed o D) z (aM bs) = some (.inl (some (.int (r 20 0 0))), HB old bs r ed o D, z) := by
  simp only [f_M_thrown, gI_M0, bn_s]
theorem L6 {L i : Nat} (hL : L < 100000) (hi : i < 100000) : (kI L - 6 < kI i) ↔ L < i + 6 := by
  by_cases h : 6 ≤ L
  · rw [show (6 : Int32) = kI 6 from rfl, kI_sub h, kI_lt (by omega) (by omega)]
    omega
  · refine ⟨fun _ => by omega, fun _ => ?_⟩
    rw [Int32.lt_iff_toInt_lt, kI_toInt (by omega)]
    rcases (show L = 0 ∨ L = 1 ∨ L = 2 ∨ L = 3 ∨ L = 4 ∨ L = 5 by omega) with rfl | rfl | rfl | rfl | rfl | rfl
    · have : (kI 0 - 6).toInt = -6 := by decide
      omega
    · have : (kI 1 - 6).toInt = -5 := by decide
      omega
    · have : (kI 2 - 6).toInt = -4 := by decide
      omega
    · have : (kI 3 - 6).toInt = -3 := by decide
      omega
    · have : (kI 4 - 6).toInt = -2 := by decide
      omega
    · have : (kI 5 - 6).toInt = -1 := by decide
      omega
theorem law_L (hO : OLD old bs sE.1) (hb : b < bs) (hob : old b = some (.inr (7, L, .inl xs))) (hL : L ≤ 3072) : ∀ (k fuel T : Nat) (r : RH) (ed : Nat → Nat) (o : Int64) (D : HH) (z : Z3), T + k = 512 → k < fuel → INV bs sE.1 T r ed D z → ∃ (h' : HH) (z' : Z3), f_W_law_L23 bs sE fuel (HB old bs r ed o D) z b (aB bs) (aM bs) (aOu bs) (kI (6 * T)) = some (.inl (some (.int 1)), h', z') := by
  have hX : ∀ (r : RH) (ed : Nat → Nat) (o : Int64) (D : HH), HB old bs r ed o D b = some (.inr (7, L, .inl xs)) := fun r ed o D => by rw [HB_old hb]; exact hob
  have hN : ∀ (r : RH) (ed : Nat → Nat) (o : Int64) (D : HH), aN (HB old bs r ed o D) b = some (kI L) := fun r ed o D => aN_o (hX r ed o D) (by omega)
  have hA : ∀ (i : Nat), i < L → ∀ (r : RH) (ed : Nat → Nat) (o : Int64) (D : HH), aI (HB old bs r ed o D) b 7 (kI i) = some (xs i) := fun i hi r ed o D => aI_o (hX r ed o D) hi (by omega)
  intro k
  induction k with
  | zero =>
    intro fuel T r ed o D z hT hf hI
    obtain ⟨f, rfl⟩ : ∃ f, fuel = f + 1 := ⟨fuel - 1, by omega⟩
    have c : kI L - 6 < kI (6 * T) := (L6 (by omega) (by omega)).mpr (by omega)
    refine ⟨HB old bs r ed o D, z, ?_⟩
    simp only [f_W_law_L23, fb_W_law_L23, hN, bn_s, if_pos c, bz_1]
  | succ k ih =>
    intro fuel T r ed o D z hT hf hI
    obtain ⟨f, rfl⟩ : ∃ f, fuel = f + 1 := ⟨fuel - 1, by omega⟩
    by_cases c : kI L - 6 < kI (6 * T)
    · refine ⟨HB old bs r ed o D, z, ?_⟩
      simp only [f_W_law_L23, fb_W_law_L23, hN, bn_s, if_pos c, bz_1]
    have hLT : 6 * T + 6 ≤ L := Nat.le_of_not_lt fun h => c ((L6 (by omega) (by omega)).mpr h)
    have ih := fun r ed o D z hI => ih f (T + 1) r ed o D z (by omega) (by omega) hI
    rw [show 6 * (T + 1) = 6 * T + 6 by omega] at ih
    have A0 := hA (6 * T) (by omega)
    have A1 := hA (6 * T + 1) (by omega)
    have A2 := hA (6 * T + 2) (by omega)
    have A3 := hA (6 * T + 3) (by omega)
    have A4 := hA (6 * T + 4) (by omega)
    have A5 := hA (6 * T + 5) (by omega)
    rw [f_W_law_L23]
    unfold fb_W_law_L23
    simp only [hN, bn_s, if_neg c, A0]
    by_cases e0 : xs (6 * T) &&& 31 = 0
    · rw [if_pos e0]
      obtain ⟨c', v, r1, ed1, o1, D1, z1, r2, w1, m1, t1, t2, inv⟩ := op_init (old := old) (o := o) (show T ≤ 512 by omega) hI (xs (6 * T + 1))
      have w1 : f_W_init bs sE (HB old bs r ed o D) z (aB bs) (xs (6 * T + 1)) (aOu bs) = _ := w1
      have m1 : f_M_init bs sE (HB old bs r1 ed1 o1 D1) z1 (aM bs) (xs (6 * T + 1)) = _ := m1
      obtain ⟨h', z', ih⟩ := ih r2 ed1 o1 D1 z1 inv
      refine ⟨h', z', ?_⟩
      simp only [kI_add1, A1, bn_s, w1, cI_s, oK_M, m1, M_thr, t1, if_true, kI_add6, aJ_Ou]
      by_cases h0 : c' = 0
      · rw [if_pos h0, t2 h0, lg_self, if_pos rfl, ← t2 h0]
        exact ih
      · rw [if_neg h0]
        exact ih
    rw [if_neg e0]
    by_cases e1 : xs (6 * T) &&& 31 = 1
    · rw [if_pos e1]
      obtain ⟨c', v, r1, ed1, o1, D1, z1, r2, w1, m1, t1, t2, inv⟩ := op_begin (old := old) (o := o) (show T ≤ 512 by omega) hI (xs (6 * T + 1)) (xs (6 * T + 2))
      have w1 : f_W_begin bs sE (HB old bs r ed o D) z (aB bs) (xs (6 * T + 1)) (xs (6 * T + 2)) (aOu bs) = _ := w1
      have m1 : f_M_begin bs sE (HB old bs r1 ed1 o1 D1) z1 (aM bs) (xs (6 * T + 1)) (xs (6 * T + 2)) = _ := m1
      obtain ⟨h', z', ih⟩ := ih r2 ed1 o1 D1 z1 inv
      refine ⟨h', z', ?_⟩
      simp only [kI_add1, kI_add2, A1, A2, bn_s, w1, cI_s, oK_M, m1, M_thr, t1, if_true, kI_add6, aJ_Ou]
      by_cases h0 : c' = 0
      · rw [if_pos h0, t2 h0, lg_self, if_pos rfl, ← t2 h0]
        exact ih
      · rw [if_neg h0]
        exact ih
    rw [if_neg e1]
    by_cases e2 : xs (6 * T) &&& 31 = 2
    · rw [if_pos e2]
      obtain ⟨c', v, r1, ed1, o1, D1, z1, r2, w1, m1, t1, t2, inv⟩ := op_send (old := old) (o := o) (show T ≤ 512 by omega) hO hI (xs (6 * T + 1)) (xs (6 * T + 2)) (xs (6 * T + 3)) (xs (6 * T + 4)) (xs (6 * T + 5))
      have w1 : f_W_send bs sE (HB old bs r ed o D) z (aB bs) (xs (6 * T + 1)) (xs (6 * T + 2)) (xs (6 * T + 3)) (xs (6 * T + 4)) (xs (6 * T + 5)) (aOu bs) = _ := w1
      have m1 : f_M_send bs sE (HB old bs r1 ed1 o1 D1) z1 (aM bs) (xs (6 * T + 1)) (xs (6 * T + 2)) (xs (6 * T + 3)) (xs (6 * T + 4)) (xs (6 * T + 5)) = _ := m1
      obtain ⟨h', z', ih⟩ := ih r2 ed1 o1 D1 z1 inv
      refine ⟨h', z', ?_⟩
      simp only [kI_add1, kI_add2, kI_add3, kI_add4, kI_add5, A1, A2, A3, A4, A5, bn_s, w1, cI_s, oK_M, m1, M_thr, t1, if_true, kI_add6, aJ_Ou]
      by_cases h0 : c' = 0
      · rw [if_pos h0, t2 h0, lg_self, if_pos rfl, ← t2 h0]
        exact ih
      · rw [if_neg h0]
        exact ih
    rw [if_neg e2]
    by_cases e3 : xs (6 * T) &&& 31 = 3
    · rw [if_pos e3]
      obtain ⟨c', v, r1, ed1, o1, D1, z1, r2, w1, m1, t1, t2, inv⟩ := op_pend (old := old) (o := o) (show T ≤ 512 by omega) hI (xs (6 * T + 1)) (xs (6 * T + 2)) (xs (6 * T + 3)) (xs (6 * T + 4)) (xs (6 * T + 5))
      have w1 : f_W_pend bs sE (HB old bs r ed o D) z (aB bs) (xs (6 * T + 1)) (xs (6 * T + 2)) (xs (6 * T + 3)) (xs (6 * T + 4)) (xs (6 * T + 5)) (aOu bs) = _ := w1
      have m1 : f_M_pend bs sE (HB old bs r1 ed1 o1 D1) z1 (aM bs) (xs (6 * T + 1)) (xs (6 * T + 2)) (xs (6 * T + 3)) (xs (6 * T + 4)) (xs (6 * T + 5)) = _ := m1
      obtain ⟨h', z', ih⟩ := ih r2 ed1 o1 D1 z1 inv
      refine ⟨h', z', ?_⟩
      simp only [kI_add1, kI_add2, kI_add3, kI_add4, kI_add5, A1, A2, A3, A4, A5, bn_s, w1, cI_s, oK_M, m1, M_thr, t1, if_true, kI_add6, aJ_Ou]
      by_cases h0 : c' = 0
      · rw [if_pos h0, t2 h0, lg_self, if_pos rfl, ← t2 h0]
        exact ih
      · rw [if_neg h0]
        exact ih
    rw [if_neg e3]
    by_cases e4 : xs (6 * T) &&& 31 = 4
    · rw [if_pos e4]
      simp only [kI_add1, kI_add2, kI_add3, A1, A2, A3, bn_s]
      by_cases e3 : xs (6 * T + 3) = 0
      · rw [if_pos e3]
        obtain ⟨c', v, r1, ed1, o1, D1, z1, r2, w1, m1, t1, t2, inv⟩ := op_finish (old := old) (o := o) (show T ≤ 512 by omega) hI (xs (6 * T + 1)) (xs (6 * T + 2)) 0
        have w1 : f_W_finish bs sE (HB old bs r ed o D) z (aB bs) (xs (6 * T + 1)) (xs (6 * T + 2)) 0 (aOu bs) = _ := w1
        have m1 : f_M_finish bs sE (HB old bs r1 ed1 o1 D1) z1 (aM bs) (xs (6 * T + 1)) (xs (6 * T + 2)) 0 = _ := m1
        obtain ⟨h', z', ih⟩ := ih r2 ed1 o1 D1 z1 inv
        refine ⟨h', z', ?_⟩
        simp only [kI_add1, kI_add2, kI_add3, A1, A2, A3, bn_s, w1, cI_s, if_pos e3, oK_M, m1, M_thr, t1, if_true, kI_add6, aJ_Ou]
        by_cases h0 : c' = 0
        · rw [if_pos h0, t2 h0, lg_self, if_pos rfl, ← t2 h0]
          exact ih
        · rw [if_neg h0]
          exact ih
      · rw [if_neg e3]
        obtain ⟨c', v, r1, ed1, o1, D1, z1, r2, w1, m1, t1, t2, inv⟩ := op_finish (old := old) (o := o) (show T ≤ 512 by omega) hI (xs (6 * T + 1)) (xs (6 * T + 2)) 1
        have w1 : f_W_finish bs sE (HB old bs r ed o D) z (aB bs) (xs (6 * T + 1)) (xs (6 * T + 2)) 1 (aOu bs) = _ := w1
        have m1 : f_M_finish bs sE (HB old bs r1 ed1 o1 D1) z1 (aM bs) (xs (6 * T + 1)) (xs (6 * T + 2)) 1 = _ := m1
        obtain ⟨h', z', ih⟩ := ih r2 ed1 o1 D1 z1 inv
        refine ⟨h', z', ?_⟩
        simp only [kI_add1, kI_add2, kI_add3, A1, A2, A3, bn_s, w1, cI_s, if_neg e3, oK_M, m1, M_thr, t1, if_true, kI_add6, aJ_Ou]
        by_cases h0 : c' = 0
        · rw [if_pos h0, t2 h0, lg_self, if_pos rfl, ← t2 h0]
          exact ih
        · rw [if_neg h0]
          exact ih
    rw [if_neg e4]
    by_cases e5 : xs (6 * T) &&& 31 = 5
    · rw [if_pos e5]
      obtain ⟨v, r1, ed1, D1, z1, r2, w1, m1, inv⟩ := op_step (old := old) (o := o) (show T ≤ 512 by omega) hO hI
      have w1 : f_B_step bs sE (HB old bs r ed o D) z (aB bs) = _ := w1
      have m1 : f_M_step bs sE (HB old bs r1 ed1 o D1) z1 (aM bs) = _ := m1
      obtain ⟨h', z', ih⟩ := ih r2 ed1 o D1 z1 inv
      refine ⟨h', z', ?_⟩
      simp only [oK_B, bn_s, w1, cI_s, oK_M, m1, if_true, kI_add6]
      exact ih
    rw [if_neg e5]
    by_cases e6 : xs (6 * T) &&& 31 = 6
    · rw [if_pos e6]
      obtain ⟨c', v, r1, ed1, o1, D1, z1, r2, w1, m1, t1, t2, inv⟩ := op_plain (old := old) (o := o) (show T ≤ 512 by omega) hO hI (xs (6 * T + 1)) (xs (6 * T + 2))
      have w1 : f_W_plain bs sE (HB old bs r ed o D) z (aB bs) (xs (6 * T + 1)) (xs (6 * T + 2)) (aOu bs) = _ := w1
      have m1 : f_M_plain bs sE (HB old bs r1 ed1 o1 D1) z1 (aM bs) (xs (6 * T + 1)) (xs (6 * T + 2)) = _ := m1
      obtain ⟨h', z', ih⟩ := ih r2 ed1 o1 D1 z1 inv
      refine ⟨h', z', ?_⟩
      simp only [kI_add1, kI_add2, A1, A2, bn_s, w1, cI_s, oK_M, m1, M_thr, t1, if_true, kI_add6, aJ_Ou]
      by_cases h0 : c' = 0
      · rw [if_pos h0, t2 h0, lg_self, if_pos rfl, ← t2 h0]
        exact ih
      · rw [if_neg h0]
        exact ih
    rw [if_neg e6]
    by_cases e7 : xs (6 * T) &&& 31 = 7
    · rw [if_pos e7]
      obtain ⟨c', v, r1, ed1, o1, D1, z1, r2, w1, m1, t1, t2, inv⟩ := op_copy (old := old) (o := o) (show T ≤ 512 by omega) hI (xs (6 * T + 1)) (xs (6 * T + 2))
      have w1 : f_W_copy bs sE (HB old bs r ed o D) z (aB bs) (xs (6 * T + 1)) (xs (6 * T + 2)) (aOu bs) = _ := w1
      have m1 : f_M_copy bs sE (HB old bs r1 ed1 o1 D1) z1 (aM bs) (xs (6 * T + 1)) (xs (6 * T + 2)) = _ := m1
      obtain ⟨h', z', ih⟩ := ih r2 ed1 o1 D1 z1 inv
      refine ⟨h', z', ?_⟩
      simp only [kI_add1, kI_add2, A1, A2, bn_s, w1, cI_s, oK_M, m1, M_thr, t1, if_true, kI_add6, aJ_Ou]
      by_cases h0 : c' = 0
      · rw [if_pos h0, t2 h0, lg_self, if_pos rfl, ← t2 h0]
        exact ih
      · rw [if_neg h0]
        exact ih
    rw [if_neg e7]
    by_cases e8 : xs (6 * T) &&& 31 = 8
    · rw [if_pos e8]
      obtain ⟨c', v, r1, ed1, o1, D1, z1, r2, w1, m1, t1, t2, inv⟩ := op_lose (old := old) (o := o) (show T ≤ 512 by omega) hI (xs (6 * T + 1))
      have w1 : f_W_lose bs sE (HB old bs r ed o D) z (aB bs) (xs (6 * T + 1)) (aOu bs) = _ := w1
      have m1 : f_M_lose bs sE (HB old bs r1 ed1 o1 D1) z1 (aM bs) (xs (6 * T + 1)) = _ := m1
      obtain ⟨h', z', ih⟩ := ih r2 ed1 o1 D1 z1 inv
      refine ⟨h', z', ?_⟩
      simp only [kI_add1, A1, bn_s, w1, cI_s, oK_M, m1, M_thr, t1, if_true, kI_add6, aJ_Ou]
      by_cases h0 : c' = 0
      · rw [if_pos h0, t2 h0, lg_self, if_pos rfl, ← t2 h0]
        exact ih
      · rw [if_neg h0]
        exact ih
    rw [if_neg e8]
    by_cases e9 : xs (6 * T) &&& 31 = 9
    · rw [if_pos e9]
      simp only [kI_add1, kI_add2, kI_add3, A1, A2, A3, bn_s]
      by_cases e3 : xs (6 * T + 3) = 0
      · rw [if_pos e3]
        obtain ⟨c', v, r1, ed1, o1, D1, z1, r2, w1, m1, t1, t2, inv⟩ := op_fetch (old := old) (o := o) (show T ≤ 512 by omega) hI (xs (6 * T + 1)) (xs (6 * T + 2)) 0
        have w1 : f_W_fetch bs sE (HB old bs r ed o D) z (aB bs) (xs (6 * T + 1)) (xs (6 * T + 2)) 0 (aOu bs) = _ := w1
        have m1 : f_M_fetch bs sE (HB old bs r1 ed1 o1 D1) z1 (aM bs) (xs (6 * T + 1)) (xs (6 * T + 2)) 0 = _ := m1
        obtain ⟨h', z', ih⟩ := ih r2 ed1 o1 D1 z1 inv
        refine ⟨h', z', ?_⟩
        simp only [kI_add1, kI_add2, kI_add3, A1, A2, A3, bn_s, w1, cI_s, if_pos e3, oK_M, m1, M_thr, t1, if_true, kI_add6, aJ_Ou]
        by_cases h0 : c' = 0
        · rw [if_pos h0, t2 h0, lg_self, if_pos rfl, ← t2 h0]
          exact ih
        · rw [if_neg h0]
          exact ih
      · rw [if_neg e3]
        obtain ⟨c', v, r1, ed1, o1, D1, z1, r2, w1, m1, t1, t2, inv⟩ := op_fetch (old := old) (o := o) (show T ≤ 512 by omega) hI (xs (6 * T + 1)) (xs (6 * T + 2)) 1
        have w1 : f_W_fetch bs sE (HB old bs r ed o D) z (aB bs) (xs (6 * T + 1)) (xs (6 * T + 2)) 1 (aOu bs) = _ := w1
        have m1 : f_M_fetch bs sE (HB old bs r1 ed1 o1 D1) z1 (aM bs) (xs (6 * T + 1)) (xs (6 * T + 2)) 1 = _ := m1
        obtain ⟨h', z', ih⟩ := ih r2 ed1 o1 D1 z1 inv
        refine ⟨h', z', ?_⟩
        simp only [kI_add1, kI_add2, kI_add3, A1, A2, A3, bn_s, w1, cI_s, if_neg e3, oK_M, m1, M_thr, t1, if_true, kI_add6, aJ_Ou]
        by_cases h0 : c' = 0
        · rw [if_pos h0, t2 h0, lg_self, if_pos rfl, ← t2 h0]
          exact ih
        · rw [if_neg h0]
          exact ih
    rw [if_neg e9]
    by_cases e10 : xs (6 * T) &&& 31 = 10
    · rw [if_pos e10]
      obtain ⟨v, r1, ed1, D1, z1, r2, w1, m1, inv⟩ := op_last (old := old) (o := o) (show T ≤ 512 by omega) hI
      have w1 : f_B_last bs sE (HB old bs r ed o D) z (aB bs) = _ := w1
      have m1 : f_M_last bs sE (HB old bs r1 ed1 o D1) z1 (aM bs) = _ := m1
      obtain ⟨h', z', ih⟩ := ih r2 ed1 o D1 z1 inv
      refine ⟨h', z', ?_⟩
      simp only [oK_B, bn_s, w1, cI_s, oK_M, m1, if_true, kI_add6]
      exact ih
    rw [if_neg e10]
    by_cases e11 : xs (6 * T) &&& 31 = 11
    · rw [if_pos e11]
      obtain ⟨c', v, r1, ed1, o1, D1, z1, r2, w1, m1, t1, t2, inv⟩ := op_trim (old := old) (o := o) (show T ≤ 512 by omega) hI (xs (6 * T + 1)) (xs (6 * T + 2))
      have w1 : f_W_trim bs sE (HB old bs r ed o D) z (aB bs) (xs (6 * T + 1)) (xs (6 * T + 2)) (aOu bs) = _ := w1
      have m1 : f_M_trim bs sE (HB old bs r1 ed1 o1 D1) z1 (aM bs) (xs (6 * T + 1)) (xs (6 * T + 2)) = _ := m1
      obtain ⟨h', z', ih⟩ := ih r2 ed1 o1 D1 z1 inv
      refine ⟨h', z', ?_⟩
      simp only [kI_add1, kI_add2, A1, A2, bn_s, w1, cI_s, oK_M, m1, M_thr, t1, if_true, kI_add6, aJ_Ou]
      by_cases h0 : c' = 0
      · rw [if_pos h0, t2 h0, lg_self, if_pos rfl, ← t2 h0]
        exact ih
      · rw [if_neg h0]
        exact ih
    rw [if_neg e11]
    by_cases e12 : xs (6 * T) &&& 31 = 12
    · rw [if_pos e12]
      obtain ⟨c', v, r1, ed1, o1, D1, z1, r2, w1, m1, t1, t2, inv⟩ := op_join (old := old) (o := o) (show T ≤ 512 by omega) hI (xs (6 * T + 1)) (xs (6 * T + 2))
      have w1 : f_W_join bs sE (HB old bs r ed o D) z (aB bs) (xs (6 * T + 1)) (xs (6 * T + 2)) (aOu bs) = _ := w1
      have m1 : f_M_join bs sE (HB old bs r1 ed1 o1 D1) z1 (aM bs) (xs (6 * T + 1)) (xs (6 * T + 2)) = _ := m1
      obtain ⟨h', z', ih⟩ := ih r2 ed1 o1 D1 z1 inv
      refine ⟨h', z', ?_⟩
      simp only [kI_add1, kI_add2, A1, A2, bn_s, w1, cI_s, oK_M, m1, M_thr, t1, if_true, kI_add6, aJ_Ou]
      by_cases h0 : c' = 0
      · rw [if_pos h0, t2 h0, lg_self, if_pos rfl, ← t2 h0]
        exact ih
      · rw [if_neg h0]
        exact ih
    rw [if_neg e12]
    by_cases e13 : xs (6 * T) &&& 31 = 13
    · rw [if_pos e13]
      obtain ⟨c', v, r1, ed1, o1, D1, z1, r2, w1, m1, t1, t2, inv⟩ := op_leave (old := old) (o := o) (show T ≤ 512 by omega) hI (xs (6 * T + 1)) (xs (6 * T + 2))
      have w1 : f_W_leave bs sE (HB old bs r ed o D) z (aB bs) (xs (6 * T + 1)) (xs (6 * T + 2)) (aOu bs) = _ := w1
      have m1 : f_M_leave bs sE (HB old bs r1 ed1 o1 D1) z1 (aM bs) (xs (6 * T + 1)) (xs (6 * T + 2)) = _ := m1
      obtain ⟨h', z', ih⟩ := ih r2 ed1 o1 D1 z1 inv
      refine ⟨h', z', ?_⟩
      simp only [kI_add1, kI_add2, A1, A2, bn_s, w1, cI_s, oK_M, m1, M_thr, t1, if_true, kI_add6, aJ_Ou]
      by_cases h0 : c' = 0
      · rw [if_pos h0, t2 h0, lg_self, if_pos rfl, ← t2 h0]
        exact ih
      · rw [if_neg h0]
        exact ih
    rw [if_neg e13]
    by_cases e14 : xs (6 * T) &&& 31 = 14
    · rw [if_pos e14]
      obtain ⟨c', v, r1, ed1, o1, D1, z1, r2, w1, m1, t1, t2, inv⟩ := op_beat (old := old) (o := o) (show T ≤ 512 by omega) hI (xs (6 * T + 1)) (xs (6 * T + 2)) (xs (6 * T + 3))
      have w1 : f_W_beat bs sE (HB old bs r ed o D) z (aB bs) (xs (6 * T + 1)) (xs (6 * T + 2)) (xs (6 * T + 3)) (aOu bs) = _ := w1
      have m1 : f_M_beat bs sE (HB old bs r1 ed1 o1 D1) z1 (aM bs) (xs (6 * T + 1)) (xs (6 * T + 2)) (xs (6 * T + 3)) = _ := m1
      obtain ⟨h', z', ih⟩ := ih r2 ed1 o1 D1 z1 inv
      refine ⟨h', z', ?_⟩
      simp only [kI_add1, kI_add2, kI_add3, A1, A2, A3, bn_s, w1, cI_s, oK_M, m1, M_thr, t1, if_true, kI_add6, aJ_Ou]
      by_cases h0 : c' = 0
      · rw [if_pos h0, t2 h0, lg_self, if_pos rfl, ← t2 h0]
        exact ih
      · rw [if_neg h0]
        exact ih
    rw [if_neg e14]
    by_cases e15 : xs (6 * T) &&& 31 = 15
    · rw [if_pos e15]
      obtain ⟨c', v, r1, ed1, o1, D1, z1, r2, w1, m1, t1, t2, inv⟩ := op_mark (old := old) (o := o) (show T ≤ 512 by omega) hI (xs (6 * T + 1)) (xs (6 * T + 2)) (xs (6 * T + 3)) (xs (6 * T + 4)) (xs (6 * T + 5))
      have w1 : f_W_mark bs sE (HB old bs r ed o D) z (aB bs) (xs (6 * T + 1)) (xs (6 * T + 2)) (xs (6 * T + 3)) (xs (6 * T + 4)) (xs (6 * T + 5)) (aOu bs) = _ := w1
      have m1 : f_M_mark bs sE (HB old bs r1 ed1 o1 D1) z1 (aM bs) (xs (6 * T + 1)) (xs (6 * T + 2)) (xs (6 * T + 3)) (xs (6 * T + 4)) (xs (6 * T + 5)) = _ := m1
      obtain ⟨h', z', ih⟩ := ih r2 ed1 o1 D1 z1 inv
      refine ⟨h', z', ?_⟩
      simp only [kI_add1, kI_add2, kI_add3, kI_add4, kI_add5, A1, A2, A3, A4, A5, bn_s, w1, cI_s, oK_M, m1, M_thr, t1, if_true, kI_add6, aJ_Ou]
      by_cases h0 : c' = 0
      · rw [if_pos h0, t2 h0, lg_self, if_pos rfl, ← t2 h0]
        exact ih
      · rw [if_neg h0]
        exact ih
    rw [if_neg e15]
    by_cases e16 : xs (6 * T) &&& 31 = 16
    · rw [if_pos e16]
      obtain ⟨c', v, r1, ed1, o1, D1, z1, r2, w1, m1, t1, t2, inv⟩ := op_tick (old := old) (o := o) (show T ≤ 511 by omega) hI (xs (6 * T + 1))
      have w1 : f_W_tick bs sE (HB old bs r ed o D) z (aB bs) (xs (6 * T + 1)) (aOu bs) = _ := w1
      have m1 : f_M_tick bs sE (HB old bs r1 ed1 o1 D1) z1 (aM bs) (xs (6 * T + 1)) = _ := m1
      obtain ⟨h', z', ih⟩ := ih r2 ed1 o1 D1 z1 inv
      refine ⟨h', z', ?_⟩
      simp only [kI_add1, A1, bn_s, w1, cI_s, oK_M, m1, M_thr, t1, if_true, kI_add6, aJ_Ou]
      by_cases h0 : c' = 0
      · rw [if_pos h0, t2 h0, lg_self, if_pos rfl, ← t2 h0]
        exact ih
      · rw [if_neg h0]
        exact ih
    rw [if_neg e16]
    by_cases e17 : xs (6 * T) &&& 31 = 17
    · rw [if_pos e17]
      obtain ⟨c', v, r1, ed1, o1, D1, z1, r2, w1, m1, t1, t2, inv⟩ := op_edge (old := old) (o := o) (show T ≤ 512 by omega) hI (xs (6 * T + 1)) (xs (6 * T + 2))
      have w1 : f_W_edge bs sE (HB old bs r ed o D) z (aB bs) (xs (6 * T + 1)) (xs (6 * T + 2)) (aOu bs) = _ := w1
      have m1 : f_M_edge bs sE (HB old bs r1 ed1 o1 D1) z1 (aM bs) (xs (6 * T + 1)) (xs (6 * T + 2)) = _ := m1
      obtain ⟨h', z', ih⟩ := ih r2 ed1 o1 D1 z1 inv
      refine ⟨h', z', ?_⟩
      simp only [kI_add1, kI_add2, A1, A2, bn_s, w1, cI_s, oK_M, m1, M_thr, t1, if_true, kI_add6, aJ_Ou]
      by_cases h0 : c' = 0
      · rw [if_pos h0, t2 h0, lg_self, if_pos rfl, ← t2 h0]
        exact ih
      · rw [if_neg h0]
        exact ih
    rw [if_neg e17]
    by_cases e18 : xs (6 * T) &&& 31 = 18
    · rw [if_pos e18]
      obtain ⟨c', v, r1, ed1, o1, D1, z1, r2, w1, m1, t1, t2, inv⟩ := op_fact (old := old) (o := o) (show T ≤ 512 by omega) hI (xs (6 * T + 1)) (xs (6 * T + 2))
      have w1 : f_W_fact bs sE (HB old bs r ed o D) z (aB bs) (xs (6 * T + 1)) (xs (6 * T + 2)) (aOu bs) = _ := w1
      have m1 : f_M_fact bs sE (HB old bs r1 ed1 o1 D1) z1 (aM bs) (xs (6 * T + 1)) (xs (6 * T + 2)) = _ := m1
      obtain ⟨h', z', ih⟩ := ih r2 ed1 o1 D1 z1 inv
      refine ⟨h', z', ?_⟩
      simp only [kI_add1, kI_add2, A1, A2, bn_s, w1, cI_s, oK_M, m1, M_thr, t1, if_true, kI_add6, aJ_Ou]
      by_cases h0 : c' = 0
      · rw [if_pos h0, t2 h0, lg_self, if_pos rfl, ← t2 h0]
        exact ih
      · rw [if_neg h0]
        exact ih
    rw [if_neg e18]
    obtain ⟨h', z', ih⟩ := ih r ed o D z (by
      have := INV_f (x := r 20 0 0) ZR_rfl hI
      have e : up3 r 20 0 0 (r 20 0 0) = r := by
        funext f m i
        unfold up3
        by_cases h : f = 20 ∧ m = 0 ∧ i = 0
        · rw [if_pos h, h.1, h.2.1, h.2.2]
        · rw [if_neg h]
      rw [e] at this
      exact this)
    refine ⟨h', z', ?_⟩
    simp only [kI_add6]
    exact ih
end LAW
