/-! all cases of sharing out, e -/
theorem chk_a01110 : chkX 0 1 1 1 0 = true := by decide +kernel
theorem chk_a01111 : chkX 0 1 1 1 1 = true := by decide +kernel
theorem chk_a01112 : chkX 0 1 1 1 2 = true := by decide +kernel
theorem chk_a01113 : chkX 0 1 1 1 3 = true := by decide +kernel
theorem chk_a01114 : chkX 0 1 1 1 4 = true := by decide +kernel
theorem chk_a0111 : ∀ x, x < 5 → chkX 0 1 1 1 x = true := by
  intro x hx
  rcases (show x = 0 ∨ x = 1 ∨ x = 2 ∨ x = 3 ∨ x = 4 by omega) with rfl | rfl | rfl | rfl | rfl
  · exact chk_a01110
  · exact chk_a01111
  · exact chk_a01112
  · exact chk_a01113
  · exact chk_a01114
theorem chk_a10110 : chkX 1 0 1 1 0 = true := by decide +kernel
theorem chk_a10111 : chkX 1 0 1 1 1 = true := by decide +kernel
theorem chk_a10112 : chkX 1 0 1 1 2 = true := by decide +kernel
theorem chk_a10113 : chkX 1 0 1 1 3 = true := by decide +kernel
theorem chk_a10114 : chkX 1 0 1 1 4 = true := by decide +kernel
theorem chk_a1011 : ∀ x, x < 5 → chkX 1 0 1 1 x = true := by
  intro x hx
  rcases (show x = 0 ∨ x = 1 ∨ x = 2 ∨ x = 3 ∨ x = 4 by omega) with rfl | rfl | rfl | rfl | rfl
  · exact chk_a10110
  · exact chk_a10111
  · exact chk_a10112
  · exact chk_a10113
  · exact chk_a10114
theorem chk_a11010 : chkX 1 1 0 1 0 = true := by decide +kernel
theorem chk_a11011 : chkX 1 1 0 1 1 = true := by decide +kernel
theorem chk_a11012 : chkX 1 1 0 1 2 = true := by decide +kernel
theorem chk_a11013 : chkX 1 1 0 1 3 = true := by decide +kernel
theorem chk_a11014 : chkX 1 1 0 1 4 = true := by decide +kernel
theorem chk_a1101 : ∀ x, x < 5 → chkX 1 1 0 1 x = true := by
  intro x hx
  rcases (show x = 0 ∨ x = 1 ∨ x = 2 ∨ x = 3 ∨ x = 4 by omega) with rfl | rfl | rfl | rfl | rfl
  · exact chk_a11010
  · exact chk_a11011
  · exact chk_a11012
  · exact chk_a11013
  · exact chk_a11014
theorem chk_a11100 : chkX 1 1 1 0 0 = true := by decide +kernel
theorem chk_a11101 : chkX 1 1 1 0 1 = true := by decide +kernel
theorem chk_a11102 : chkX 1 1 1 0 2 = true := by decide +kernel
theorem chk_a11103 : chkX 1 1 1 0 3 = true := by decide +kernel
theorem chk_a11104 : chkX 1 1 1 0 4 = true := by decide +kernel
theorem chk_a1110 : ∀ x, x < 5 → chkX 1 1 1 0 x = true := by
  intro x hx
  rcases (show x = 0 ∨ x = 1 ∨ x = 2 ∨ x = 3 ∨ x = 4 by omega) with rfl | rfl | rfl | rfl | rfl
  · exact chk_a11100
  · exact chk_a11101
  · exact chk_a11102
  · exact chk_a11103
  · exact chk_a11104
