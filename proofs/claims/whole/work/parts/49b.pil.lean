/-! a log after a put -/
section IL1
variable {bs s1 T : Nat} {r r2 : RH} {ed ed' : Nat → Nat} {D D' : HH} {z z' : Z3} {p n hi : Nat} {x : HC}
theorem nx_gt {P : Nat → Bool} {S : Nat → Int32} {n : Nat} (hS : ∀ i, i < n → P i = true → ∃ q, q ≤ 1000 ∧ S i = kI q) (hI : ∀ i j, i < j → j < n → P i = true → P j = true → S i < S j) : ∀ m, m ≤ n → ∀ i, i < m → P i = true → S i < nx P S m := by
  intro m
  induction m with
  | zero => intro _ i hi; omega
  | succ m ih =>
    intro hm i hi hP
    unfold nx
    by_cases hm' : P m = true
    · rw [if_pos hm']
      obtain ⟨q, q1, q2⟩ := hS i (by omega) hP
      obtain ⟨u, u1, u2⟩ := hS m (by omega) hm'
      rw [q2, u2, kI_add1, kI_lt (by omega) (by omega)]
      by_cases e : i = m
      · subst e
        have := (kI_eq (by omega) (by omega)).mp (q2.symm.trans u2)
        omega
      · have := hI i m (by omega) (by omega) hP hm'
        rw [q2, u2, kI_lt (by omega) (by omega)] at this
        omega
    · rw [if_neg hm']
      have : i ≠ m := fun e => hm' (e ▸ hP)
      exact ih (by omega) i (by omega) hP
theorem LG_nx (hL : LG bs s1 T r ed D z.1 p n hi) {a b : Int32} : ∀ i, i < n → ofP r p a b i = true → r 20 5 (520 * p + i) < nx (ofP r p a b) (fun i => r 20 5 (520 * p + i)) n := by
  refine nx_gt (fun i hi hP => ?_) (fun i j hij hj h1 h2 => ?_) n (Nat.le_refl _)
  · have hP := of_decide_eq_true hP
    exact (hL.2.2.2.2.2.2.2.2.1 i hi).2.2 hP.1
  · have h1 := of_decide_eq_true h1
    have h2 := of_decide_eq_true h2
    exact hL.2.2.2.2.2.2.2.2.2.2 i j hij hj h1.1 h2.1 (h1.2.1.trans h2.2.1.symm) (h1.2.2.trans h2.2.2.symm)
theorem IL_put (hT : T ≤ 512) (hL : LG bs s1 T r ed D z.1 p n hi) (hP : PUT bs s1 ed ed' D D' z z' p n x)
    (e2 : r2 2 p 2 = kI (n + 1)) (e7 : r2 20 7 p = kI (n + 1)) (e12 : r2 1 p 2 = r 1 p 2) (e13 : r2 1 p 3 = r 1 p 3) (e8 : r2 20 8 p = r 20 8 p) (e9 : r2 20 9 p = r 20 9 p)
    (hq : ∀ m, 1 ≤ m → m ≤ 6 → ∀ i, i < n → r2 20 m (520 * p + i) = r 20 m (520 * p + i)) (hx : eC r2 (520 * p + n) = x) (hER : ER (r2 20 1) (r2 20 5) (r2 20 6) (520 * p + n))
    (hMK : (¬ (r2 20 1 (520 * p + n) = 2 ∨ r2 20 1 (520 * p + n) = 3) ∧ r2 3 p = r 3 p) ∨ ((r2 20 1 (520 * p + n) = 2 ∨ r2 20 1 (520 * p + n) = 3) ∧ ∃ q, q ≤ 40 ∧ r2 20 6 (520 * p + n) = kI q ∧ r 3 p q = -1 ∧ r2 3 p = upd (r 3 p) q (kI n)))
    (hSQ : r2 20 1 (520 * p + n) = 1 → ∀ i, i < n → r 20 1 (520 * p + i) = 1 → r 20 3 (520 * p + i) = r2 20 3 (520 * p + n) → r 20 4 (520 * p + i) = r2 20 4 (520 * p + n) → r 20 5 (520 * p + i) < r2 20 5 (520 * p + n)) :
    IL bs s1 (T + 1) D' z'.1 (ed' p) p (n + 1) hi (r2 2 p) (r2 1 p) (r2 3 p) (r2 20 1) (r2 20 2) (r2 20 3) (r2 20 4) (r2 20 5) (r2 20 6) (r2 20 7) (r2 20 8) (r2 20 9) := by
  obtain ⟨a1, a2, a3, a4, a5, a6, a7, a8, a9, a10, a11⟩ := hL
  obtain ⟨p1, p2, p3, p4, p5, p6, p7⟩ := hP
  refine ⟨by omega, by omega, e2, e7, e13.trans a5, e9.trans a6, by rw [e12, e8]; exact a7, LD_c (fun i hi => ?_) (p7 _ a8), fun i hi => ?_, fun q hq' => ?_, fun i j hij hj => ?_⟩
  · by_cases e : i = n
    · subst e
      simp only [if_true]
      exact hx
    · simp only [if_neg e]
      exact ec_fr (fun m h1 h2 => hq m h1 h2 i (by omega))
  · by_cases e : i = n
    · subst e
      exact hER
    · have := a9 i (by omega)
      unfold ER at this ⊢
      rw [hq 1 (by omega) (by omega) i (by omega), hq 5 (by omega) (by omega) i (by omega), hq 6 (by omega) (by omega) i (by omega)]
      exact this
  · rcases hMK with ⟨m1, m2⟩ | ⟨m1, u, u1, u2, u3, u4⟩
    · rw [m2]
      rcases a10 q hq' with ⟨b1, b2⟩ | ⟨j, b1, b2, b3, b4, b5⟩
      · refine Or.inl ⟨b1, fun i hi => ?_⟩
        by_cases e : i = n
        · subst e
          intro h
          exact absurd h m1
        · rw [hq 1 (by omega) (by omega) i (by omega), hq 6 (by omega) (by omega) i (by omega)]
          exact b2 i (by omega)
      · refine Or.inr ⟨j, by omega, b2, ?_, ?_, fun i hi => ?_⟩
        · rw [hq 1 (by omega) (by omega) j b1]; exact b3
        · rw [hq 6 (by omega) (by omega) j b1]; exact b4
        · by_cases e : i = n
          · subst e
            intro h
            exact absurd h m1
          · rw [hq 1 (by omega) (by omega) i (by omega), hq 6 (by omega) (by omega) i (by omega)]
            exact b5 i (by omega)
    · rw [u4]
      by_cases e : q = u
      · subst e
        refine Or.inr ⟨n, by omega, by simp [upd], m1, u2, fun i hi hm ht => ?_⟩
        by_cases e : i = n
        · exact e
        · exfalso
          rw [hq 1 (by omega) (by omega) i (by omega)] at hm
          rw [hq 6 (by omega) (by omega) i (by omega)] at ht
          rcases a10 q hq' with ⟨b1, b2⟩ | ⟨j, b1, b2, b3, b4, b5⟩
          · exact b2 i (by omega) hm ht
          · rw [u3] at b2
            have := kI_nm1 (show j < 2147483648 by omega)
            rw [← b2] at this
            simp at this
      · have e' : upd (r 3 p) u (kI n) q = r 3 p q := by simp [upd, e]
        rw [e']
        have hne : ∀ i, i = n → r2 20 6 (520 * p + i) ≠ kI q := fun i hi h => by
          subst hi
          exact e ((kI_eq (by omega) (by omega)).mp (h.symm.trans u2))
        rcases a10 q hq' with ⟨b1, b2⟩ | ⟨j, b1, b2, b3, b4, b5⟩
        · refine Or.inl ⟨b1, fun i hi => ?_⟩
          by_cases e : i = n
          · exact fun _ => hne i e
          · rw [hq 1 (by omega) (by omega) i (by omega), hq 6 (by omega) (by omega) i (by omega)]
            exact b2 i (by omega)
        · refine Or.inr ⟨j, by omega, b2, ?_, ?_, fun i hi => ?_⟩
          · rw [hq 1 (by omega) (by omega) j b1]; exact b3
          · rw [hq 6 (by omega) (by omega) j b1]; exact b4
          · by_cases e : i = n
            · exact fun _ h => absurd h (hne i e)
            · rw [hq 1 (by omega) (by omega) i (by omega), hq 6 (by omega) (by omega) i (by omega)]
              exact b5 i (by omega)
  · by_cases e : j = n
    · subst e
      rw [hq 1 (by omega) (by omega) i (by omega), hq 3 (by omega) (by omega) i (by omega), hq 4 (by omega) (by omega) i (by omega), hq 5 (by omega) (by omega) i (by omega)]
      exact fun h1 h2 => hSQ h2 i (by omega) h1
    · rw [hq 1 (by omega) (by omega) i (by omega), hq 3 (by omega) (by omega) i (by omega), hq 4 (by omega) (by omega) i (by omega), hq 5 (by omega) (by omega) i (by omega), hq 1 (by omega) (by omega) j (by omega), hq 3 (by omega) (by omega) j (by omega), hq 4 (by omega) (by omega) j (by omega), hq 5 (by omega) (by omega) j (by omega)]
      exact a11 i j hij (by omega)
theorem IVL_M (hs : s1 < bs) (hzb : bs + 56 ≤ z.1) (h6 : IVL bs s1 T D z.1 ed r) : ∀ q, q < 4 → ed q < z.1 := by
  intro q hq
  obtain ⟨n, hi, h⟩ := h6 q hq
  obtain ⟨a1, a2, a3, a4, a5, a6, a7, a8, a9, a10, a11⟩ := h
  rcases a8 with ⟨_, h⟩ | ⟨_, _, _, _, _, h, _⟩ <;> omega
end IL1
