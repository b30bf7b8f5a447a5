/-! all cases of sharing out, d -/
theorem chk_a0000 : ∀ x, x < 5 → chkX 0 0 0 0 x = true := by decide +kernel
theorem chk_a0001 : ∀ x, x < 5 → chkX 0 0 0 1 x = true := by decide +kernel
theorem chk_a0010 : ∀ x, x < 5 → chkX 0 0 1 0 x = true := by decide +kernel
theorem chk_a00110 : chkX 0 0 1 1 0 = true := by decide +kernel
theorem chk_a00111 : chkX 0 0 1 1 1 = true := by decide +kernel
theorem chk_a00112 : chkX 0 0 1 1 2 = true := by decide +kernel
theorem chk_a00113 : chkX 0 0 1 1 3 = true := by decide +kernel
theorem chk_a00114 : chkX 0 0 1 1 4 = true := by decide +kernel
theorem chk_a0011 : ∀ x, x < 5 → chkX 0 0 1 1 x = true := by
  intro x hx
  rcases (show x = 0 ∨ x = 1 ∨ x = 2 ∨ x = 3 ∨ x = 4 by omega) with rfl | rfl | rfl | rfl | rfl
  · exact chk_a00110
  · exact chk_a00111
  · exact chk_a00112
  · exact chk_a00113
  · exact chk_a00114
theorem chk_a0100 : ∀ x, x < 5 → chkX 0 1 0 0 x = true := by decide +kernel
theorem chk_a01010 : chkX 0 1 0 1 0 = true := by decide +kernel
theorem chk_a01011 : chkX 0 1 0 1 1 = true := by decide +kernel
theorem chk_a01012 : chkX 0 1 0 1 2 = true := by decide +kernel
theorem chk_a01013 : chkX 0 1 0 1 3 = true := by decide +kernel
theorem chk_a01014 : chkX 0 1 0 1 4 = true := by decide +kernel
theorem chk_a0101 : ∀ x, x < 5 → chkX 0 1 0 1 x = true := by
  intro x hx
  rcases (show x = 0 ∨ x = 1 ∨ x = 2 ∨ x = 3 ∨ x = 4 by omega) with rfl | rfl | rfl | rfl | rfl
  · exact chk_a01010
  · exact chk_a01011
  · exact chk_a01012
  · exact chk_a01013
  · exact chk_a01014
theorem chk_a01100 : chkX 0 1 1 0 0 = true := by decide +kernel
theorem chk_a01101 : chkX 0 1 1 0 1 = true := by decide +kernel
theorem chk_a01102 : chkX 0 1 1 0 2 = true := by decide +kernel
theorem chk_a01103 : chkX 0 1 1 0 3 = true := by decide +kernel
theorem chk_a01104 : chkX 0 1 1 0 4 = true := by decide +kernel
theorem chk_a0110 : ∀ x, x < 5 → chkX 0 1 1 0 x = true := by
  intro x hx
  rcases (show x = 0 ∨ x = 1 ∨ x = 2 ∨ x = 3 ∨ x = 4 by omega) with rfl | rfl | rfl | rfl | rfl
  · exact chk_a01100
  · exact chk_a01101
  · exact chk_a01102
  · exact chk_a01103
  · exact chk_a01104
theorem chk_a1000 : ∀ x, x < 5 → chkX 1 0 0 0 x = true := by decide +kernel
theorem chk_a10010 : chkX 1 0 0 1 0 = true := by decide +kernel
theorem chk_a10011 : chkX 1 0 0 1 1 = true := by decide +kernel
theorem chk_a10012 : chkX 1 0 0 1 2 = true := by decide +kernel
theorem chk_a10013 : chkX 1 0 0 1 3 = true := by decide +kernel
theorem chk_a10014 : chkX 1 0 0 1 4 = true := by decide +kernel
theorem chk_a1001 : ∀ x, x < 5 → chkX 1 0 0 1 x = true := by
  intro x hx
  rcases (show x = 0 ∨ x = 1 ∨ x = 2 ∨ x = 3 ∨ x = 4 by omega) with rfl | rfl | rfl | rfl | rfl
  · exact chk_a10010
  · exact chk_a10011
  · exact chk_a10012
  · exact chk_a10013
  · exact chk_a10014
theorem chk_a10100 : chkX 1 0 1 0 0 = true := by decide +kernel
theorem chk_a10101 : chkX 1 0 1 0 1 = true := by decide +kernel
theorem chk_a10102 : chkX 1 0 1 0 2 = true := by decide +kernel
theorem chk_a10103 : chkX 1 0 1 0 3 = true := by decide +kernel
theorem chk_a10104 : chkX 1 0 1 0 4 = true := by decide +kernel
theorem chk_a1010 : ∀ x, x < 5 → chkX 1 0 1 0 x = true := by
  intro x hx
  rcases (show x = 0 ∨ x = 1 ∨ x = 2 ∨ x = 3 ∨ x = 4 by omega) with rfl | rfl | rfl | rfl | rfl
  · exact chk_a10100
  · exact chk_a10101
  · exact chk_a10102
  · exact chk_a10103
  · exact chk_a10104
theorem chk_a11000 : chkX 1 1 0 0 0 = true := by decide +kernel
theorem chk_a11001 : chkX 1 1 0 0 1 = true := by decide +kernel
theorem chk_a11002 : chkX 1 1 0 0 2 = true := by decide +kernel
theorem chk_a11003 : chkX 1 1 0 0 3 = true := by decide +kernel
theorem chk_a11004 : chkX 1 1 0 0 4 = true := by decide +kernel
theorem chk_a1100 : ∀ x, x < 5 → chkX 1 1 0 0 x = true := by
  intro x hx
  rcases (show x = 0 ∨ x = 1 ∨ x = 2 ∨ x = 3 ∨ x = 4 by omega) with rfl | rfl | rfl | rfl | rfl
  · exact chk_a11000
  · exact chk_a11001
  · exact chk_a11002
  · exact chk_a11003
  · exact chk_a11004
