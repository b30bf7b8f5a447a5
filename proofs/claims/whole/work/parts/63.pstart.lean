/-! the start -/
def r0 : RH := fun f m i => if f = 3 then neg1 41 i else if f = 4 then (if i = 0 then kI m else if i = 1 then -1 else if i = 2 then -1 else 0) else if f = 5 then neg1 8 i else if f = 10 then neg1 4 i else if f = 20 then (if m = 10 then neg1 4 i else if m = 20 then neg1 8 i else if m = 21 then neg1 8 i else 0) else 0
theorem r0_3 {p : Nat} : r0 3 p = neg1 41 := rfl
theorem r0_5 {p : Nat} : r0 5 p = neg1 8 := rfl
theorem r0_7 {p : Nat} : r0 7 p = fun _ => 0 := rfl
theorem r0_8 {p : Nat} : r0 8 p = fun _ => 0 := rfl
theorem r0_9 {p : Nat} : r0 9 p = fun _ => 0 := rfl
theorem r0_10 {p : Nat} : r0 10 p = neg1 4 := rfl
theorem r0_z {f m i : Nat} (h : f = 0 ∨ f = 1 ∨ f = 2 ∨ f = 6) : r0 f m i = 0 := by
  rcases h with rfl | rfl | rfl | rfl <;> rfl
theorem r0_m1 : r0 20 1 = fun _ => 0 := rfl
theorem r0_m2 : r0 20 2 = fun _ => 0 := rfl
theorem r0_m3 : r0 20 3 = fun _ => 0 := rfl
theorem r0_m4 : r0 20 4 = fun _ => 0 := rfl
theorem r0_m5 : r0 20 5 = fun _ => 0 := rfl
theorem r0_m6 : r0 20 6 = fun _ => 0 := rfl
theorem r0_m7 : r0 20 7 = fun _ => 0 := rfl
theorem r0_m8 : r0 20 8 = fun _ => 0 := rfl
theorem r0_m9 : r0 20 9 = fun _ => 0 := rfl
theorem r0_m10 : r0 20 10 = neg1 4 := rfl
theorem r0_m11 : r0 20 11 = fun _ => 0 := rfl
theorem r0_m12 : r0 20 12 = fun _ => 0 := rfl
theorem r0_m13 : r0 20 13 = fun _ => 0 := rfl
theorem r0_m14 : r0 20 14 = fun _ => 0 := rfl
theorem r0_m15 : r0 20 15 = fun _ => 0 := rfl
theorem r0_m17 : r0 20 17 = fun _ => 0 := rfl
theorem r0_m18 : r0 20 18 = fun _ => 0 := rfl
theorem r0_m19 : r0 20 19 = fun _ => 0 := rfl
theorem r0_m20 : r0 20 20 = neg1 8 := rfl
theorem r0_m21 : r0 20 21 = neg1 8 := rfl
theorem ng {n k : Nat} (h : k < n) : neg1 n k = -1 := by
  unfold neg1
  rw [if_pos ⟨by omega, h⟩]
def SF (bs s1 : Nat) : Nat → HC := va_up (SN bs (va_up (SB bs s1) 34 (.inl (6, dfl 6)))) 55 (.inr (2, 1, .inr (.inl (fun _ => 0))))
theorem rs4 {bs : Nat} : (f4 bs 4) = (fun i => if i < 4 then some (aL bs i) else none) := by
  funext i
  by_cases h : i < 4
  · rcases c4 h with rfl | rfl | rfl | rfl <;> simp [f4, va_up, aL]
  · simp [f4, va_up, nn, h, show i ≠ 0 by omega, show i ≠ 1 by omega, show i ≠ 2 by omega, show i ≠ 3 by omega]
theorem rs5 {bs : Nat} : (f5_ bs 4) = (fun i => if i < 4 then some (aP bs i) else none) := by
  funext i
  by_cases h : i < 4
  · rcases c4 h with rfl | rfl | rfl | rfl <;> simp [f5_, va_up, aP]
  · simp [f5_, va_up, nn, h, show i ≠ 0 by omega, show i ≠ 1 by omega, show i ≠ 2 by omega, show i ≠ 3 by omega]
theorem rs6 {bs : Nat} : (f6_ bs 2) = (fun i => if i < 2 then some (aG bs i) else none) := by
  funext i
  by_cases h : i < 2
  · rcases c2 h with rfl | rfl <;> simp [f6_, va_up, aG]
  · simp [f6_, va_up, nn, h, show i ≠ 0 by omega, show i ≠ 1 by omega]
theorem ng41 : (fun k => if 0 ≤ k ∧ k < 41 then (-1 : Int32) else 0) = neg1 41 := rfl
theorem ng8 : (fun k => if 0 ≤ k ∧ k < 8 then (-1 : Int32) else 0) = neg1 8 := rfl
theorem ng4 : (fun k => if 0 ≤ k ∧ k < 4 then (-1 : Int32) else 0) = neg1 4 := rfl
theorem ouz : (fun i : Nat => if i = 0 then (0 : Int64) else 0) = fun _ => 0 := by
  funext i
  split <;> rfl
theorem SB_1 {bs s1 : Nat} : SB bs s1 1 = .inr (4, 4, .inr (.inr (f4 bs 4))) := by simp only [SB, S6, S5, S4, sL, sP, sG, va_up, S0]; rfl
theorem sf_0 {bs s1 : Nat} : SF bs s1 0 = SC bs r0 (fun _ => s1) 0 0 := by
  rfl
theorem sf_1 {bs s1 : Nat} : SF bs s1 1 = SC bs r0 (fun _ => s1) 0 1 := by
  show SF bs s1 1 = .inr (4, 4, .inr (.inr _))
  rw [← rs4]
  rfl
theorem sf_2 {bs s1 : Nat} : SF bs s1 2 = SC bs r0 (fun _ => s1) 0 2 := by
  show SF bs s1 2 = .inr (5, 4, .inr (.inr _))
  rw [← rs5]
  rfl
theorem sf_3 {bs s1 : Nat} : SF bs s1 3 = SC bs r0 (fun _ => s1) 0 3 := by
  show SF bs s1 3 = .inr (6, 2, .inr (.inr _))
  rw [← rs6]
  rfl
theorem sf_4 {bs s1 : Nat} : SF bs s1 4 = SC bs r0 (fun _ => s1) 0 4 := by
  rfl
theorem sf_5 {bs s1 : Nat} : SF bs s1 5 = SC bs r0 (fun _ => s1) 0 5 := by
  rfl
theorem sf_6 {bs s1 : Nat} : SF bs s1 6 = SC bs r0 (fun _ => s1) 0 6 := by
  rfl
theorem sf_7 {bs s1 : Nat} : SF bs s1 7 = SC bs r0 (fun _ => s1) 0 7 := by
  rfl
theorem sf_8 {bs s1 : Nat} : SF bs s1 8 = SC bs r0 (fun _ => s1) 0 8 := by
  rfl
theorem sf_9 {bs s1 : Nat} : SF bs s1 9 = SC bs r0 (fun _ => s1) 0 9 := by
  rfl
theorem sf_10 {bs s1 : Nat} : SF bs s1 10 = SC bs r0 (fun _ => s1) 0 10 := by
  rfl
theorem sf_11 {bs s1 : Nat} : SF bs s1 11 = SC bs r0 (fun _ => s1) 0 11 := by
  rfl
theorem sf_12 {bs s1 : Nat} : SF bs s1 12 = SC bs r0 (fun _ => s1) 0 12 := by
  rfl
theorem sf_13 {bs s1 : Nat} : SF bs s1 13 = SC bs r0 (fun _ => s1) 0 13 := by
  rfl
theorem sf_14 {bs s1 : Nat} : SF bs s1 14 = SC bs r0 (fun _ => s1) 0 14 := by
  rfl
theorem sf_15 {bs s1 : Nat} : SF bs s1 15 = SC bs r0 (fun _ => s1) 0 15 := by
  rfl
theorem sf_16 {bs s1 : Nat} : SF bs s1 16 = SC bs r0 (fun _ => s1) 0 16 := by
  rfl
theorem sf_17 {bs s1 : Nat} : SF bs s1 17 = SC bs r0 (fun _ => s1) 0 17 := by
  rfl
theorem sf_18 {bs s1 : Nat} : SF bs s1 18 = SC bs r0 (fun _ => s1) 0 18 := by
  rfl
theorem sf_19 {bs s1 : Nat} : SF bs s1 19 = SC bs r0 (fun _ => s1) 0 19 := by
  rfl
theorem sf_20 {bs s1 : Nat} : SF bs s1 20 = SC bs r0 (fun _ => s1) 0 20 := by
  rfl
theorem sf_21 {bs s1 : Nat} : SF bs s1 21 = SC bs r0 (fun _ => s1) 0 21 := by
  rfl
theorem sf_22 {bs s1 : Nat} : SF bs s1 22 = SC bs r0 (fun _ => s1) 0 22 := by
  rfl
theorem sf_23 {bs s1 : Nat} : SF bs s1 23 = SC bs r0 (fun _ => s1) 0 23 := by
  rfl
theorem sf_24 {bs s1 : Nat} : SF bs s1 24 = SC bs r0 (fun _ => s1) 0 24 := by
  rfl
theorem sf_25 {bs s1 : Nat} : SF bs s1 25 = SC bs r0 (fun _ => s1) 0 25 := by
  rfl
theorem sf_26 {bs s1 : Nat} : SF bs s1 26 = SC bs r0 (fun _ => s1) 0 26 := by
  rfl
theorem sf_27 {bs s1 : Nat} : SF bs s1 27 = SC bs r0 (fun _ => s1) 0 27 := by
  rfl
theorem sf_28 {bs s1 : Nat} : SF bs s1 28 = SC bs r0 (fun _ => s1) 0 28 := by
  rfl
theorem sf_29 {bs s1 : Nat} : SF bs s1 29 = SC bs r0 (fun _ => s1) 0 29 := by
  rfl
theorem sf_30 {bs s1 : Nat} : SF bs s1 30 = SC bs r0 (fun _ => s1) 0 30 := by
  rfl
theorem sf_31 {bs s1 : Nat} : SF bs s1 31 = SC bs r0 (fun _ => s1) 0 31 := by
  rfl
theorem sf_32 {bs s1 : Nat} : SF bs s1 32 = SC bs r0 (fun _ => s1) 0 32 := by
  rfl
theorem sf_33 {bs s1 : Nat} : SF bs s1 33 = SC bs r0 (fun _ => s1) 0 33 := by
  rfl
theorem sf_34 {bs s1 : Nat} : SF bs s1 34 = SC bs r0 (fun _ => s1) 0 34 := by
  rfl
theorem sf_35 {bs s1 : Nat} : SF bs s1 35 = SC bs r0 (fun _ => s1) 0 35 := by
  rfl
theorem sf_36 {bs s1 : Nat} : SF bs s1 36 = SC bs r0 (fun _ => s1) 0 36 := by
  rfl
theorem sf_37 {bs s1 : Nat} : SF bs s1 37 = SC bs r0 (fun _ => s1) 0 37 := by
  rfl
theorem sf_38 {bs s1 : Nat} : SF bs s1 38 = SC bs r0 (fun _ => s1) 0 38 := by
  rfl
theorem sf_39 {bs s1 : Nat} : SF bs s1 39 = SC bs r0 (fun _ => s1) 0 39 := by
  rfl
theorem sf_40 {bs s1 : Nat} : SF bs s1 40 = SC bs r0 (fun _ => s1) 0 40 := by
  rfl
theorem sf_41 {bs s1 : Nat} : SF bs s1 41 = SC bs r0 (fun _ => s1) 0 41 := by
  rfl
theorem sf_42 {bs s1 : Nat} : SF bs s1 42 = SC bs r0 (fun _ => s1) 0 42 := by
  rfl
theorem sf_43 {bs s1 : Nat} : SF bs s1 43 = SC bs r0 (fun _ => s1) 0 43 := by
  rfl
theorem sf_44 {bs s1 : Nat} : SF bs s1 44 = SC bs r0 (fun _ => s1) 0 44 := by
  rfl
theorem sf_45 {bs s1 : Nat} : SF bs s1 45 = SC bs r0 (fun _ => s1) 0 45 := by
  rfl
theorem sf_46 {bs s1 : Nat} : SF bs s1 46 = SC bs r0 (fun _ => s1) 0 46 := by
  rfl
theorem sf_47 {bs s1 : Nat} : SF bs s1 47 = SC bs r0 (fun _ => s1) 0 47 := by
  rfl
theorem sf_48 {bs s1 : Nat} : SF bs s1 48 = SC bs r0 (fun _ => s1) 0 48 := by
  rfl
theorem sf_49 {bs s1 : Nat} : SF bs s1 49 = SC bs r0 (fun _ => s1) 0 49 := by
  rfl
theorem sf_50 {bs s1 : Nat} : SF bs s1 50 = SC bs r0 (fun _ => s1) 0 50 := by
  rfl
theorem sf_51 {bs s1 : Nat} : SF bs s1 51 = SC bs r0 (fun _ => s1) 0 51 := by
  rfl
theorem sf_52 {bs s1 : Nat} : SF bs s1 52 = SC bs r0 (fun _ => s1) 0 52 := by
  rfl
theorem sf_53 {bs s1 : Nat} : SF bs s1 53 = SC bs r0 (fun _ => s1) 0 53 := by
  rfl
theorem sf_54 {bs s1 : Nat} : SF bs s1 54 = SC bs r0 (fun _ => s1) 0 54 := by
  rfl
theorem sf_55 {bs s1 : Nat} : SF bs s1 55 = SC bs r0 (fun _ => s1) 0 55 := by
  show SF bs s1 55 = .inr (2, 1, .inr (.inl _))
  rw [ouz]
  rfl
theorem SF_SC {bs s1 j : Nat} (hj : j < 56) : SF bs s1 j = SC bs r0 (fun _ => s1) 0 j := by
  rcases (show j = 0 ∨ j = 1 ∨ j = 2 ∨ j = 3 ∨ j = 4 ∨ j = 5 ∨ j = 6 ∨ j = 7 ∨ j = 8 ∨ j = 9 ∨ j = 10 ∨ j = 11 ∨ j = 12 ∨ j = 13 ∨ j = 14 ∨ j = 15 ∨ j = 16 ∨ j = 17 ∨ j = 18 ∨ j = 19 ∨ j = 20 ∨ j = 21 ∨ j = 22 ∨ j = 23 ∨ j = 24 ∨ j = 25 ∨ j = 26 ∨ j = 27 ∨ j = 28 ∨ j = 29 ∨ j = 30 ∨ j = 31 ∨ j = 32 ∨ j = 33 ∨ j = 34 ∨ j = 35 ∨ j = 36 ∨ j = 37 ∨ j = 38 ∨ j = 39 ∨ j = 40 ∨ j = 41 ∨ j = 42 ∨ j = 43 ∨ j = 44 ∨ j = 45 ∨ j = 46 ∨ j = 47 ∨ j = 48 ∨ j = 49 ∨ j = 50 ∨ j = 51 ∨ j = 52 ∨ j = 53 ∨ j = 54 ∨ j = 55 by omega) with rfl | rfl | rfl | rfl | rfl | rfl | rfl | rfl | rfl | rfl | rfl | rfl | rfl | rfl | rfl | rfl | rfl | rfl | rfl | rfl | rfl | rfl | rfl | rfl | rfl | rfl | rfl | rfl | rfl | rfl | rfl | rfl | rfl | rfl | rfl | rfl | rfl | rfl | rfl | rfl | rfl | rfl | rfl | rfl | rfl | rfl | rfl | rfl | rfl | rfl | rfl | rfl | rfl | rfl | rfl | rfl
  · exact sf_0
  · exact sf_1
  · exact sf_2
  · exact sf_3
  · exact sf_4
  · exact sf_5
  · exact sf_6
  · exact sf_7
  · exact sf_8
  · exact sf_9
  · exact sf_10
  · exact sf_11
  · exact sf_12
  · exact sf_13
  · exact sf_14
  · exact sf_15
  · exact sf_16
  · exact sf_17
  · exact sf_18
  · exact sf_19
  · exact sf_20
  · exact sf_21
  · exact sf_22
  · exact sf_23
  · exact sf_24
  · exact sf_25
  · exact sf_26
  · exact sf_27
  · exact sf_28
  · exact sf_29
  · exact sf_30
  · exact sf_31
  · exact sf_32
  · exact sf_33
  · exact sf_34
  · exact sf_35
  · exact sf_36
  · exact sf_37
  · exact sf_38
  · exact sf_39
  · exact sf_40
  · exact sf_41
  · exact sf_42
  · exact sf_43
  · exact sf_44
  · exact sf_45
  · exact sf_46
  · exact sf_47
  · exact sf_48
  · exact sf_49
  · exact sf_50
  · exact sf_51
  · exact sf_52
  · exact sf_53
  · exact sf_54
  · exact sf_55
