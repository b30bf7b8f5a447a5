/-! all cases of sharing out, f -/
theorem chk_a11110 : chkX 1 1 1 1 0 = true := by decide +kernel
theorem chk_a11111 : chkX 1 1 1 1 1 = true := by decide +kernel
theorem chk_a11112 : chkX 1 1 1 1 2 = true := by decide +kernel
theorem chk_a11113 : chkX 1 1 1 1 3 = true := by decide +kernel
theorem chk_a11114 : chkX 1 1 1 1 4 = true := by decide +kernel
theorem chk_a1111 : ∀ x, x < 5 → chkX 1 1 1 1 x = true := by
  intro x hx
  rcases (show x = 0 ∨ x = 1 ∨ x = 2 ∨ x = 3 ∨ x = 4 by omega) with rfl | rfl | rfl | rfl | rfl
  · exact chk_a11110
  · exact chk_a11111
  · exact chk_a11112
  · exact chk_a11113
  · exact chk_a11114
theorem chk_a : ∀ a, a < 2 → ∀ b, b < 2 → ∀ c, c < 2 → ∀ d, d < 2 → ∀ x, x < 5 → chkX a b c d x = true := by
  intro a ha b hb c hc d hd
  rcases c2 ha with rfl | rfl <;> rcases c2 hb with rfl | rfl <;> rcases c2 hc with rfl | rfl <;> rcases c2 hd with rfl | rfl
  · exact chk_a0000
  · exact chk_a0001
  · exact chk_a0010
  · exact chk_a0011
  · exact chk_a0100
  · exact chk_a0101
  · exact chk_a0110
  · exact chk_a0111
  · exact chk_a1000
  · exact chk_a1001
  · exact chk_a1010
  · exact chk_a1011
  · exact chk_a1100
  · exact chk_a1101
  · exact chk_a1110
  · exact chk_a1111
theorem chk_b : ∀ a, a < 2 → ∀ b, b < 2 → ∀ c, c < 2 → ∀ d, d < 2 → ∀ x, x < 5 → chkB a b c d x = true := by
  intro a ha b hb c hc d hd
  rcases c2 ha with rfl | rfl <;> rcases c2 hb with rfl | rfl <;> rcases c2 hc with rfl | rfl <;> rcases c2 hd with rfl | rfl
  · exact chk_b0000
  · exact chk_b0001
  · exact chk_b0010
  · exact chk_b0011
  · exact chk_b0100
  · exact chk_b0101
  · exact chk_b0110
  · exact chk_b0111
  · exact chk_b1000
  · exact chk_b1001
  · exact chk_b1010
  · exact chk_b1011
  · exact chk_b1100
  · exact chk_b1101
  · exact chk_b1110
  · exact chk_b1111
