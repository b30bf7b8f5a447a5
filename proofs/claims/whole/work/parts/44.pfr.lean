/-! what a part of the invariant speaks of -/
def dP (n f m i : Nat) : Prop := (f = 4 ∧ m = n) ∨ (f = 5 ∧ m = n) ∨ (f = 20 ∧ 10 ≤ m ∧ m ≤ 14 ∧ i = n) ∨ (f = 20 ∧ m = 15 ∧ 8 * n ≤ i ∧ i < 8 * n + 8)
def dG (g f m i : Nat) : Prop := (6 ≤ f ∧ f ≤ 10 ∧ m = g) ∨ (f = 20 ∧ m = 17 ∧ i = g) ∨ (f = 20 ∧ 18 ≤ m ∧ m ≤ 21 ∧ 4 * g ≤ i ∧ i < 4 * g + 4)
def dL (p f m i : Nat) : Prop := (1 ≤ f ∧ f ≤ 3 ∧ m = p) ∨ (f = 20 ∧ 1 ≤ m ∧ m ≤ 6 ∧ 520 * p ≤ i ∧ i < 520 * p + 520) ∨ (f = 20 ∧ 7 ≤ m ∧ m ≤ 9 ∧ i = p)
def dZ (f m i : Nat) : Prop := (f = 0 ∧ m = 0 ∧ (i = 3 ∨ i = 4 ∨ i = 5)) ∨ (f = 20 ∧ (m = 16 ∨ m = 22 ∨ m = 23) ∧ i = 0)
theorem IP_fr {r r' : RH} {tx tm n : Nat} (hd : ∀ f m i, dP n f m i → r' f m i = r f m i) (h : IP tx tm n (r 4 n) (r 5 n) (r 20 10) (r 20 11) (r 20 12) (r 20 13) (r 20 14) (r 20 15)) : IP tx tm n (r' 4 n) (r' 5 n) (r' 20 10) (r' 20 11) (r' 20 12) (r' 20 13) (r' 20 14) (r' 20 15) := by
  have e4 : r' 4 n = r 4 n := funext fun i => hd _ _ _ (by unfold dP; omega)
  have e5 : r' 5 n = r 5 n := funext fun i => hd _ _ _ (by unfold dP; omega)
  have e15 : ∀ j, j < 8 → r' 20 15 (8 * n + j) = r 20 15 (8 * n + j) := fun j hj => hd _ _ _ (by unfold dP; omega)
  unfold IP at h ⊢
  rw [e4, e5, hd 20 10 n (by unfold dP; omega), hd 20 11 n (by unfold dP; omega), hd 20 12 n (by unfold dP; omega), hd 20 13 n (by unfold dP; omega), hd 20 14 n (by unfold dP; omega)]
  obtain ⟨a1, a2, a3, a4, a5, a6, a7, a8⟩ := h
  refine ⟨a1, a2, a3, a4, a5, a6, fun hh => ?_, a8⟩
  obtain ⟨b1, b2, b3⟩ := a7 hh
  exact ⟨b1, b2, fun j hj => by rw [e15 j hj]; exact b3 j hj⟩
theorem IG_fr {r r' : RH} {tm g : Nat} (hd : ∀ f m i, dG g f m i → r' f m i = r f m i) (h : IG tm g (r 6 g) (r 7 g) (r 8 g) (r 9 g) (r 10 g) (r 20 17) (r 20 18) (r 20 19) (r 20 20) (r 20 21)) : IG tm g (r' 6 g) (r' 7 g) (r' 8 g) (r' 9 g) (r' 10 g) (r' 20 17) (r' 20 18) (r' 20 19) (r' 20 20) (r' 20 21) := by
  have e6 : r' 6 g = r 6 g := funext fun i => hd _ _ _ (by unfold dG; omega)
  have e7 : r' 7 g = r 7 g := funext fun i => hd _ _ _ (by unfold dG; omega)
  have e8 : r' 8 g = r 8 g := funext fun i => hd _ _ _ (by unfold dG; omega)
  have e9 : r' 9 g = r 9 g := funext fun i => hd _ _ _ (by unfold dG; omega)
  have e10 : r' 10 g = r 10 g := funext fun i => hd _ _ _ (by unfold dG; omega)
  have q18 : ∀ j, j < 4 → r' 20 18 (4 * g + j) = r 20 18 (4 * g + j) := fun j hj => hd _ _ _ (by unfold dG; omega)
  have q19 : ∀ j, j < 4 → r' 20 19 (4 * g + j) = r 20 19 (4 * g + j) := fun j hj => hd _ _ _ (by unfold dG; omega)
  have q20 : ∀ j, j < 4 → r' 20 20 (4 * g + j) = r 20 20 (4 * g + j) := fun j hj => hd _ _ _ (by unfold dG; omega)
  have q21 : ∀ j, j < 4 → r' 20 21 (4 * g + j) = r 20 21 (4 * g + j) := fun j hj => hd _ _ _ (by unfold dG; omega)
  have qm : ∀ m, msk (r' 20 20) (4 * g) m = msk (r 20 20) (4 * g) m := fun m => by
    unfold msk
    rw [q20 0 (by omega), q20 1 (by omega), q20 2 (by omega), q20 3 (by omega)]
  unfold IG at h ⊢
  rw [e6, e7, e8, e9, e10, hd 20 17 g (by unfold dG; omega)]
  refine ⟨h.1, fun m hm => ?_⟩
  rw [q18 m hm, q19 m hm, q20 m hm, q21 m hm, qm]
  exact h.2 m hm
theorem ec_fr {r r' : RH} {j : Nat} (h : ∀ m, 1 ≤ m → m ≤ 6 → r' 20 m j = r 20 m j) : ec (r' 20 1) (r' 20 2) (r' 20 3) (r' 20 4) (r' 20 5) (r' 20 6) j = ec (r 20 1) (r 20 2) (r 20 3) (r 20 4) (r 20 5) (r 20 6) j := by
  unfold ec
  rw [h 1 (by omega) (by omega), h 2 (by omega) (by omega), h 3 (by omega) (by omega), h 4 (by omega) (by omega), h 5 (by omega) (by omega), h 6 (by omega) (by omega)]
theorem LD_c {bs s1 : Nat} {D : HH} {zz e n : Nat} {c c' : Nat → HC} (hc : ∀ i, i < n → c' i = c i) (h : LD bs s1 D zz e n c) : LD bs s1 D zz e n c' := by
  rcases h with h | ⟨cap, f, h1, h2, h3, h4, h5, h6⟩
  · exact Or.inl h
  · refine Or.inr ⟨cap, f, h1, h2, h3, h4, h5, fun i hi => ?_⟩
    rw [hc i hi]
    exact h6 i hi
theorem IL_fr {r r' : RH} {bs s1 T : Nat} {D D' : HH} {zz zz' e e' p n hi : Nat} (hT : T ≤ 512) (hd : ∀ f m i, dL p f m i → r' f m i = r f m i) (hD : ∀ c, LD bs s1 D zz e n c → LD bs s1 D' zz' e' n c) (h : IL bs s1 T D zz e p n hi (r 2 p) (r 1 p) (r 3 p) (r 20 1) (r 20 2) (r 20 3) (r 20 4) (r 20 5) (r 20 6) (r 20 7) (r 20 8) (r 20 9)) : IL bs s1 T D' zz' e' p n hi (r' 2 p) (r' 1 p) (r' 3 p) (r' 20 1) (r' 20 2) (r' 20 3) (r' 20 4) (r' 20 5) (r' 20 6) (r' 20 7) (r' 20 8) (r' 20 9) := by
  have e1 : r' 1 p = r 1 p := funext fun i => hd _ _ _ (by unfold dL; omega)
  have e2 : r' 2 p = r 2 p := funext fun i => hd _ _ _ (by unfold dL; omega)
  have e3 : r' 3 p = r 3 p := funext fun i => hd _ _ _ (by unfold dL; omega)
  obtain ⟨a1, a2, a3, a4, a5, a6, a7, a8, a9, a10, a11⟩ := h
  have q : ∀ m, 1 ≤ m → m ≤ 6 → ∀ i, i < n → r' 20 m (520 * p + i) = r 20 m (520 * p + i) := fun m h1 h2 i hi => hd _ _ _ (by unfold dL; omega)
  unfold IL
  rw [e1, e2, e3, hd 20 7 p (by unfold dL; omega), hd 20 8 p (by unfold dL; omega), hd 20 9 p (by unfold dL; omega)]
  refine ⟨a1, a2, a3, a4, a5, a6, a7, LD_c (fun i hi => ec_fr (fun m h1 h2 => q m h1 h2 i hi)) (hD _ a8), fun i hi => ?_, fun u hu => ?_, fun i j hij hj => ?_⟩
  · have := a9 i hi
    unfold ER at this ⊢
    rw [q 1 (by omega) (by omega) i hi, q 5 (by omega) (by omega) i hi, q 6 (by omega) (by omega) i hi]
    exact this
  · rcases a10 u hu with ⟨b1, b2⟩ | ⟨j, b1, b2, b3, b4, b5⟩
    · refine Or.inl ⟨b1, fun i hi => ?_⟩
      rw [q 1 (by omega) (by omega) i hi, q 6 (by omega) (by omega) i hi]
      exact b2 i hi
    · refine Or.inr ⟨j, b1, b2, ?_, ?_, fun i hi => ?_⟩
      · rw [q 1 (by omega) (by omega) j b1]
        exact b3
      · rw [q 6 (by omega) (by omega) j b1]
        exact b4
      · rw [q 1 (by omega) (by omega) i hi, q 6 (by omega) (by omega) i hi]
        exact b5 i hi
  · have hi : i < n := by omega
    rw [q 1 (by omega) (by omega) i hi, q 1 (by omega) (by omega) j hj, q 3 (by omega) (by omega) i hi, q 3 (by omega) (by omega) j hj, q 4 (by omega) (by omega) i hi, q 4 (by omega) (by omega) j hj, q 5 (by omega) (by omega) i hi, q 5 (by omega) (by omega) j hj]
    exact a11 i j hij hj
theorem IV0_fr {r r' : RH} {tx tm T : Nat} (hd : ∀ f m i, dZ f m i → r' f m i = r f m i) (h : IV0 tx tm T r) : IV0 tx tm (T + 1) r' := by
  obtain ⟨a1, a2, a3, a4, a5, a6, a7⟩ := h
  refine ⟨a1, by omega, ?_⟩
  rw [hd 0 0 3 (by unfold dZ; omega), hd 0 0 4 (by unfold dZ; omega), hd 0 0 5 (by unfold dZ; omega), hd 20 16 0 (by unfold dZ; omega), hd 20 22 0 (by unfold dZ; omega), hd 20 23 0 (by unfold dZ; omega)]
  exact ⟨a3, a4, a5, a6, a7⟩
section FR1
variable {r r' : RH} {bs s1 T tx tm tx' tm' : Nat} {D D' : HH} {ed ed' : Nat → Nat} {z z' : Z3}
/-- the invariant after a call: each part anew or untouched -/
theorem INV_gen (hT : T ≤ 512) (hz : ZR z z') (h1 : IR bs T z) (h2 : IE bs ed') (ht : tx ≤ tx') (htm : tm ≤ tm') (h0 : IV0 tx' tm' (T + 1) r')
    (h4 : IVP tx tm r) (h5 : IVG tm r) (h6 : IVL bs s1 T D z.1 ed r)
    (g4 : ∀ n, n < 4 → (∀ f m i, dP n f m i → r' f m i = r f m i) ∨ IP tx' tm' n (r' 4 n) (r' 5 n) (r' 20 10) (r' 20 11) (r' 20 12) (r' 20 13) (r' 20 14) (r' 20 15))
    (g5 : ∀ g, g < 2 → (∀ f m i, dG g f m i → r' f m i = r f m i) ∨ IG tm' g (r' 6 g) (r' 7 g) (r' 8 g) (r' 9 g) (r' 10 g) (r' 20 17) (r' 20 18) (r' 20 19) (r' 20 20) (r' 20 21))
    (g6 : ∀ p, p < 4 → ((∀ f m i, dL p f m i → r' f m i = r f m i) ∧ ∀ n c, LD bs s1 D z.1 (ed p) n c → LD bs s1 D' z'.1 (ed' p) n c) ∨ ∃ n hi, IL bs s1 (T + 1) D' z'.1 (ed' p) p n hi (r' 2 p) (r' 1 p) (r' 3 p) (r' 20 1) (r' 20 2) (r' 20 3) (r' 20 4) (r' 20 5) (r' 20 6) (r' 20 7) (r' 20 8) (r' 20 9)) : INV bs s1 (T + 1) r' ed' D' z' := by
  refine ⟨IR_next hz h1, h2, tx', tm', h0, fun n hn => ?_, fun g hg => ?_, fun p hp => ?_⟩
  · rcases g4 n hn with h | h
    · exact IP_mono ht htm (IP_fr h (h4 n hn))
    · exact h
  · rcases g5 g hg with h | h
    · exact IG_mono htm (IG_fr h (h5 g hg))
    · exact h
  · rcases g6 p hp with ⟨h, h'⟩ | h
    · obtain ⟨n, hi, hL⟩ := h6 p hp
      exact ⟨n, hi, IL_mono (Nat.le_succ T) (Nat.le_refl _) (IL_fr hT h (fun c => h' n c) hL)⟩
    · exact h
/-- a call that touches one producer -/
theorem INV_p {n : Nat} (hT : T ≤ 512) (hz : ZR z z') (h1 : IR bs T z) (h2 : IE bs ed) (ht : tx ≤ tx') (h0 : IV0 tx' tm (T + 1) r')
    (h4 : IVP tx tm r) (h5 : IVG tm r) (h6 : IVL bs s1 T D z.1 ed r) (hn : n < 4)
    (hd : ∀ f m i, ¬ dP n f m i → ¬ dZ f m i → ¬ (f = 20 ∧ m = 0) → r' f m i = r f m i) (g4 : IP tx' tm n (r' 4 n) (r' 5 n) (r' 20 10) (r' 20 11) (r' 20 12) (r' 20 13) (r' 20 14) (r' 20 15)) : INV bs s1 (T + 1) r' ed D z' := by
  refine INV_gen hT hz h1 h2 ht (Nat.le_refl _) h0 h4 h5 h6 (fun n' hn' => ?_) (fun g hg => Or.inl fun f m i h => hd f m i ?_ ?_ ?_) (fun p hp => Or.inl ⟨fun f m i h => hd f m i ?_ ?_ ?_, fun _ c h => LD_mono hz.1 h⟩)
  · by_cases e : n' = n
    · subst e
      exact Or.inr g4
    · refine Or.inl fun f m i h => hd f m i ?_ ?_ ?_ <;> (simp only [dP, dZ] at h ⊢; omega)
  all_goals (simp only [dP, dG, dL, dZ] at h ⊢; omega)
/-- a call that touches one group -/
theorem INV_g {g : Nat} (hT : T ≤ 512) (hz : ZR z z') (h1 : IR bs T z) (h2 : IE bs ed) (h0 : IV0 tx tm (T + 1) r')
    (h4 : IVP tx tm r) (h5 : IVG tm r) (h6 : IVL bs s1 T D z.1 ed r) (hg : g < 2)
    (hd : ∀ f m i, ¬ dG g f m i → ¬ dZ f m i → ¬ (f = 20 ∧ m = 0) → r' f m i = r f m i) (g5 : IG tm g (r' 6 g) (r' 7 g) (r' 8 g) (r' 9 g) (r' 10 g) (r' 20 17) (r' 20 18) (r' 20 19) (r' 20 20) (r' 20 21)) : INV bs s1 (T + 1) r' ed D z' := by
  refine INV_gen hT hz h1 h2 (Nat.le_refl _) (Nat.le_refl _) h0 h4 h5 h6 (fun n' hn' => Or.inl fun f m i h => hd f m i ?_ ?_ ?_) (fun g' hg' => ?_) (fun p hp => Or.inl ⟨fun f m i h => hd f m i ?_ ?_ ?_, fun _ c h => LD_mono hz.1 h⟩)
  case refine_4 =>
    by_cases e : g' = g
    · subst e
      exact Or.inr g5
    · refine Or.inl fun f m i h => hd f m i ?_ ?_ ?_ <;> (simp only [dG, dZ] at h ⊢; omega)
  all_goals (simp only [dP, dG, dL, dZ] at h ⊢; omega)
/-- a call that touches one log -/
theorem INV_l {p : Nat} (hT : T ≤ 512) (hz : ZR z z') (h1 : IR bs T z) (h2 : IE bs ed') (h0 : IV0 tx tm (T + 1) r')
    (h4 : IVP tx tm r) (h5 : IVG tm r) (h6 : IVL bs s1 T D z.1 ed r) (hp : p < 4)
    (hd : ∀ f m i, ¬ dL p f m i → ¬ dZ f m i → ¬ (f = 20 ∧ m = 0) → r' f m i = r f m i)
    (hL : ∀ q, q < 4 → q ≠ p → ∀ n c, LD bs s1 D z.1 (ed q) n c → LD bs s1 D' z'.1 (ed' q) n c)
    (g6 : ∃ n hi, IL bs s1 (T + 1) D' z'.1 (ed' p) p n hi (r' 2 p) (r' 1 p) (r' 3 p) (r' 20 1) (r' 20 2) (r' 20 3) (r' 20 4) (r' 20 5) (r' 20 6) (r' 20 7) (r' 20 8) (r' 20 9)) : INV bs s1 (T + 1) r' ed' D' z' := by
  refine INV_gen hT hz h1 h2 (Nat.le_refl _) (Nat.le_refl _) h0 h4 h5 h6 (fun n' hn' => Or.inl fun f m i h => hd f m i ?_ ?_ ?_) (fun g' hg' => Or.inl fun f m i h => hd f m i ?_ ?_ ?_) (fun q hq => ?_)
  case refine_7 =>
    by_cases e : q = p
    · subst e
      exact Or.inr g6
    · refine Or.inl ⟨fun f m i h => hd f m i ?_ ?_ ?_, hL q hq e⟩ <;> (simp only [dL, dZ] at h ⊢; omega)
  all_goals (simp only [dP, dG, dL, dZ] at h ⊢; omega)
end FR1
