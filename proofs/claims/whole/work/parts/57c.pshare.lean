/-! both sides share out alike: all cases -/
def mk4 (a b c d : Nat) (f : Nat → Int32) : Q4 := (f a, f b, f c, f d)
def f2 (k : Nat) : Int32 := if k = 0 then 0 else 1
def f5 (k : Nat) : Int32 := if k = 4 then -1 else kI k
def mk_ (ho : Q4) (m : Nat) : Int32 := (if g4 ho 0 = kI m then 1 else 0) + (if g4 ho 1 = kI m then 2 else 0) + (if g4 ho 2 = kI m then 4 else 0) + (if g4 ho 3 = kI m then 8 else 0)
/-- what the members hold -/
def wof (me ho : Q4) : Q4 := (if g4 me 0 = 0 then 0 else mk_ ho 0, if g4 me 1 = 0 then 0 else mk_ ho 1, if g4 me 2 = 0 then 0 else mk_ ho 2, if g4 me 3 = 0 then 0 else mk_ ho 3)
def okh (me : Q4) (x : Int32) : Bool := decide (x = -1) || (decide (x = 0) && decide (g4 me 0 = 1)) || (decide (x = 1) && decide (g4 me 1 = 1)) || (decide (x = 2) && decide (g4 me 2 = 1)) || (decide (x = 3) && decide (g4 me 3 = 1))
def chk (me ho : Q4) : Bool := decide (shC me (wof me ho) = (mk_ (shM me ho) 0, mk_ (shM me ho) 1, mk_ (shM me ho) 2, mk_ (shM me ho) 3)) && okh me (g4 (shM me ho) 0) && okh me (g4 (shM me ho) 1) && okh me (g4 (shM me ho) 2) && okh me (g4 (shM me ho) 3)
def vld (me ho : Q4) : Bool := okh me (g4 ho 0) && okh me (g4 ho 1) && okh me (g4 ho 2) && okh me (g4 ho 3)
def chkX (a b c d x : Nat) : Bool := (List.range 5).all fun y => (List.range 5).all fun u => (List.range 5).all fun v => !vld (mk4 a b c d f2) (mk4 x y u v f5) || chk (mk4 a b c d f2) (mk4 x y u v f5)
def chkB (a b c d x : Nat) : Bool := (List.range 5).all fun y => (List.range 5).all fun u => (List.range 5).all fun v => vld (mk4 a b c d f2) (drp (mk4 a b c d f2) 4 (mk4 x y u v f5) 0) && decide (drp (mk4 a b c d f2) 4 (drp (mk4 a b c d f2) 4 (mk4 x y u v f5) 0) 0 = drp (mk4 a b c d f2) 4 (mk4 x y u v f5) 0) && decide (wof (mk4 a b c d f2) (drp (mk4 a b c d f2) 4 (mk4 x y u v f5) 0) = wof (mk4 a b c d f2) (mk4 x y u v f5))
theorem chk_b00000 : chkB 0 0 0 0 0 = true := by decide +kernel
theorem chk_b00001 : chkB 0 0 0 0 1 = true := by decide +kernel
theorem chk_b00002 : chkB 0 0 0 0 2 = true := by decide +kernel
theorem chk_b00003 : chkB 0 0 0 0 3 = true := by decide +kernel
theorem chk_b00004 : chkB 0 0 0 0 4 = true := by decide +kernel
theorem chk_b0000 : ∀ x, x < 5 → chkB 0 0 0 0 x = true := by
  intro x hx
  rcases (show x = 0 ∨ x = 1 ∨ x = 2 ∨ x = 3 ∨ x = 4 by omega) with rfl | rfl | rfl | rfl | rfl
  · exact chk_b00000
  · exact chk_b00001
  · exact chk_b00002
  · exact chk_b00003
  · exact chk_b00004
theorem chk_b00010 : chkB 0 0 0 1 0 = true := by decide +kernel
theorem chk_b00011 : chkB 0 0 0 1 1 = true := by decide +kernel
theorem chk_b00012 : chkB 0 0 0 1 2 = true := by decide +kernel
theorem chk_b00013 : chkB 0 0 0 1 3 = true := by decide +kernel
theorem chk_b00014 : chkB 0 0 0 1 4 = true := by decide +kernel
theorem chk_b0001 : ∀ x, x < 5 → chkB 0 0 0 1 x = true := by
  intro x hx
  rcases (show x = 0 ∨ x = 1 ∨ x = 2 ∨ x = 3 ∨ x = 4 by omega) with rfl | rfl | rfl | rfl | rfl
  · exact chk_b00010
  · exact chk_b00011
  · exact chk_b00012
  · exact chk_b00013
  · exact chk_b00014
theorem chk_b00100 : chkB 0 0 1 0 0 = true := by decide +kernel
theorem chk_b00101 : chkB 0 0 1 0 1 = true := by decide +kernel
theorem chk_b00102 : chkB 0 0 1 0 2 = true := by decide +kernel
theorem chk_b00103 : chkB 0 0 1 0 3 = true := by decide +kernel
theorem chk_b00104 : chkB 0 0 1 0 4 = true := by decide +kernel
theorem chk_b0010 : ∀ x, x < 5 → chkB 0 0 1 0 x = true := by
  intro x hx
  rcases (show x = 0 ∨ x = 1 ∨ x = 2 ∨ x = 3 ∨ x = 4 by omega) with rfl | rfl | rfl | rfl | rfl
  · exact chk_b00100
  · exact chk_b00101
  · exact chk_b00102
  · exact chk_b00103
  · exact chk_b00104
theorem chk_b00110 : chkB 0 0 1 1 0 = true := by decide +kernel
theorem chk_b00111 : chkB 0 0 1 1 1 = true := by decide +kernel
theorem chk_b00112 : chkB 0 0 1 1 2 = true := by decide +kernel
theorem chk_b00113 : chkB 0 0 1 1 3 = true := by decide +kernel
theorem chk_b00114 : chkB 0 0 1 1 4 = true := by decide +kernel
theorem chk_b0011 : ∀ x, x < 5 → chkB 0 0 1 1 x = true := by
  intro x hx
  rcases (show x = 0 ∨ x = 1 ∨ x = 2 ∨ x = 3 ∨ x = 4 by omega) with rfl | rfl | rfl | rfl | rfl
  · exact chk_b00110
  · exact chk_b00111
  · exact chk_b00112
  · exact chk_b00113
  · exact chk_b00114
theorem chk_b01000 : chkB 0 1 0 0 0 = true := by decide +kernel
theorem chk_b01001 : chkB 0 1 0 0 1 = true := by decide +kernel
theorem chk_b01002 : chkB 0 1 0 0 2 = true := by decide +kernel
theorem chk_b01003 : chkB 0 1 0 0 3 = true := by decide +kernel
theorem chk_b01004 : chkB 0 1 0 0 4 = true := by decide +kernel
theorem chk_b0100 : ∀ x, x < 5 → chkB 0 1 0 0 x = true := by
  intro x hx
  rcases (show x = 0 ∨ x = 1 ∨ x = 2 ∨ x = 3 ∨ x = 4 by omega) with rfl | rfl | rfl | rfl | rfl
  · exact chk_b01000
  · exact chk_b01001
  · exact chk_b01002
  · exact chk_b01003
  · exact chk_b01004
theorem chk_b01010 : chkB 0 1 0 1 0 = true := by decide +kernel
theorem chk_b01011 : chkB 0 1 0 1 1 = true := by decide +kernel
theorem chk_b01012 : chkB 0 1 0 1 2 = true := by decide +kernel
theorem chk_b01013 : chkB 0 1 0 1 3 = true := by decide +kernel
theorem chk_b01014 : chkB 0 1 0 1 4 = true := by decide +kernel
theorem chk_b0101 : ∀ x, x < 5 → chkB 0 1 0 1 x = true := by
  intro x hx
  rcases (show x = 0 ∨ x = 1 ∨ x = 2 ∨ x = 3 ∨ x = 4 by omega) with rfl | rfl | rfl | rfl | rfl
  · exact chk_b01010
  · exact chk_b01011
  · exact chk_b01012
  · exact chk_b01013
  · exact chk_b01014
theorem chk_b01100 : chkB 0 1 1 0 0 = true := by decide +kernel
theorem chk_b01101 : chkB 0 1 1 0 1 = true := by decide +kernel
theorem chk_b01102 : chkB 0 1 1 0 2 = true := by decide +kernel
theorem chk_b01103 : chkB 0 1 1 0 3 = true := by decide +kernel
theorem chk_b01104 : chkB 0 1 1 0 4 = true := by decide +kernel
theorem chk_b0110 : ∀ x, x < 5 → chkB 0 1 1 0 x = true := by
  intro x hx
  rcases (show x = 0 ∨ x = 1 ∨ x = 2 ∨ x = 3 ∨ x = 4 by omega) with rfl | rfl | rfl | rfl | rfl
  · exact chk_b01100
  · exact chk_b01101
  · exact chk_b01102
  · exact chk_b01103
  · exact chk_b01104
theorem chk_b01110 : chkB 0 1 1 1 0 = true := by decide +kernel
theorem chk_b01111 : chkB 0 1 1 1 1 = true := by decide +kernel
theorem chk_b01112 : chkB 0 1 1 1 2 = true := by decide +kernel
theorem chk_b01113 : chkB 0 1 1 1 3 = true := by decide +kernel
theorem chk_b01114 : chkB 0 1 1 1 4 = true := by decide +kernel
theorem chk_b0111 : ∀ x, x < 5 → chkB 0 1 1 1 x = true := by
  intro x hx
  rcases (show x = 0 ∨ x = 1 ∨ x = 2 ∨ x = 3 ∨ x = 4 by omega) with rfl | rfl | rfl | rfl | rfl
  · exact chk_b01110
  · exact chk_b01111
  · exact chk_b01112
  · exact chk_b01113
  · exact chk_b01114
theorem chk_b10000 : chkB 1 0 0 0 0 = true := by decide +kernel
theorem chk_b10001 : chkB 1 0 0 0 1 = true := by decide +kernel
theorem chk_b10002 : chkB 1 0 0 0 2 = true := by decide +kernel
theorem chk_b10003 : chkB 1 0 0 0 3 = true := by decide +kernel
theorem chk_b10004 : chkB 1 0 0 0 4 = true := by decide +kernel
theorem chk_b1000 : ∀ x, x < 5 → chkB 1 0 0 0 x = true := by
  intro x hx
  rcases (show x = 0 ∨ x = 1 ∨ x = 2 ∨ x = 3 ∨ x = 4 by omega) with rfl | rfl | rfl | rfl | rfl
  · exact chk_b10000
  · exact chk_b10001
  · exact chk_b10002
  · exact chk_b10003
  · exact chk_b10004
theorem chk_b10010 : chkB 1 0 0 1 0 = true := by decide +kernel
theorem chk_b10011 : chkB 1 0 0 1 1 = true := by decide +kernel
theorem chk_b10012 : chkB 1 0 0 1 2 = true := by decide +kernel
theorem chk_b10013 : chkB 1 0 0 1 3 = true := by decide +kernel
theorem chk_b10014 : chkB 1 0 0 1 4 = true := by decide +kernel
theorem chk_b1001 : ∀ x, x < 5 → chkB 1 0 0 1 x = true := by
  intro x hx
  rcases (show x = 0 ∨ x = 1 ∨ x = 2 ∨ x = 3 ∨ x = 4 by omega) with rfl | rfl | rfl | rfl | rfl
  · exact chk_b10010
  · exact chk_b10011
  · exact chk_b10012
  · exact chk_b10013
  · exact chk_b10014
theorem chk_b10100 : chkB 1 0 1 0 0 = true := by decide +kernel
theorem chk_b10101 : chkB 1 0 1 0 1 = true := by decide +kernel
theorem chk_b10102 : chkB 1 0 1 0 2 = true := by decide +kernel
theorem chk_b10103 : chkB 1 0 1 0 3 = true := by decide +kernel
theorem chk_b10104 : chkB 1 0 1 0 4 = true := by decide +kernel
theorem chk_b1010 : ∀ x, x < 5 → chkB 1 0 1 0 x = true := by
  intro x hx
  rcases (show x = 0 ∨ x = 1 ∨ x = 2 ∨ x = 3 ∨ x = 4 by omega) with rfl | rfl | rfl | rfl | rfl
  · exact chk_b10100
  · exact chk_b10101
  · exact chk_b10102
  · exact chk_b10103
  · exact chk_b10104
theorem chk_b10110 : chkB 1 0 1 1 0 = true := by decide +kernel
theorem chk_b10111 : chkB 1 0 1 1 1 = true := by decide +kernel
theorem chk_b10112 : chkB 1 0 1 1 2 = true := by decide +kernel
theorem chk_b10113 : chkB 1 0 1 1 3 = true := by decide +kernel
theorem chk_b10114 : chkB 1 0 1 1 4 = true := by decide +kernel
theorem chk_b1011 : ∀ x, x < 5 → chkB 1 0 1 1 x = true := by
  intro x hx
  rcases (show x = 0 ∨ x = 1 ∨ x = 2 ∨ x = 3 ∨ x = 4 by omega) with rfl | rfl | rfl | rfl | rfl
  · exact chk_b10110
  · exact chk_b10111
  · exact chk_b10112
  · exact chk_b10113
  · exact chk_b10114
theorem chk_b11000 : chkB 1 1 0 0 0 = true := by decide +kernel
theorem chk_b11001 : chkB 1 1 0 0 1 = true := by decide +kernel
theorem chk_b11002 : chkB 1 1 0 0 2 = true := by decide +kernel
theorem chk_b11003 : chkB 1 1 0 0 3 = true := by decide +kernel
theorem chk_b11004 : chkB 1 1 0 0 4 = true := by decide +kernel
theorem chk_b1100 : ∀ x, x < 5 → chkB 1 1 0 0 x = true := by
  intro x hx
  rcases (show x = 0 ∨ x = 1 ∨ x = 2 ∨ x = 3 ∨ x = 4 by omega) with rfl | rfl | rfl | rfl | rfl
  · exact chk_b11000
  · exact chk_b11001
  · exact chk_b11002
  · exact chk_b11003
  · exact chk_b11004
theorem chk_b11010 : chkB 1 1 0 1 0 = true := by decide +kernel
theorem chk_b11011 : chkB 1 1 0 1 1 = true := by decide +kernel
theorem chk_b11012 : chkB 1 1 0 1 2 = true := by decide +kernel
theorem chk_b11013 : chkB 1 1 0 1 3 = true := by decide +kernel
theorem chk_b11014 : chkB 1 1 0 1 4 = true := by decide +kernel
theorem chk_b1101 : ∀ x, x < 5 → chkB 1 1 0 1 x = true := by
  intro x hx
  rcases (show x = 0 ∨ x = 1 ∨ x = 2 ∨ x = 3 ∨ x = 4 by omega) with rfl | rfl | rfl | rfl | rfl
  · exact chk_b11010
  · exact chk_b11011
  · exact chk_b11012
  · exact chk_b11013
  · exact chk_b11014
theorem chk_b11100 : chkB 1 1 1 0 0 = true := by decide +kernel
theorem chk_b11101 : chkB 1 1 1 0 1 = true := by decide +kernel
theorem chk_b11102 : chkB 1 1 1 0 2 = true := by decide +kernel
theorem chk_b11103 : chkB 1 1 1 0 3 = true := by decide +kernel
theorem chk_b11104 : chkB 1 1 1 0 4 = true := by decide +kernel
theorem chk_b1110 : ∀ x, x < 5 → chkB 1 1 1 0 x = true := by
  intro x hx
  rcases (show x = 0 ∨ x = 1 ∨ x = 2 ∨ x = 3 ∨ x = 4 by omega) with rfl | rfl | rfl | rfl | rfl
  · exact chk_b11100
  · exact chk_b11101
  · exact chk_b11102
  · exact chk_b11103
  · exact chk_b11104
theorem chk_b11110 : chkB 1 1 1 1 0 = true := by decide +kernel
theorem chk_b11111 : chkB 1 1 1 1 1 = true := by decide +kernel
theorem chk_b11112 : chkB 1 1 1 1 2 = true := by decide +kernel
theorem chk_b11113 : chkB 1 1 1 1 3 = true := by decide +kernel
theorem chk_b11114 : chkB 1 1 1 1 4 = true := by decide +kernel
theorem chk_b1111 : ∀ x, x < 5 → chkB 1 1 1 1 x = true := by
  intro x hx
  rcases (show x = 0 ∨ x = 1 ∨ x = 2 ∨ x = 3 ∨ x = 4 by omega) with rfl | rfl | rfl | rfl | rfl
  · exact chk_b11110
  · exact chk_b11111
  · exact chk_b11112
  · exact chk_b11113
  · exact chk_b11114
