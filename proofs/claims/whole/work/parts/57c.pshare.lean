/-! both sides share out alike: all cases -/
def mk4 (a b c d : Nat) (f : Nat → Int32) : Q4 := (f a, f b, f c, f d)
def f2 (k : Nat) : Int32 := if k = 0 then 0 else 1
def f5 (k : Nat) : Int32 := if k = 4 then -1 else kI k
def mk_ (ho : Q4) (m : Nat) : Int32 := (if g4 ho 0 = kI m then 1 else 0) + (if g4 ho 1 = kI m then 2 else 0) + (if g4 ho 2 = kI m then 4 else 0) + (if g4 ho 3 = kI m then 8 else 0)
/-- what the members hold -/
def wof (me ho : Q4) : Q4 := (if g4 me 0 = 0 then 0 else mk_ ho 0, if g4 me 1 = 0 then 0 else mk_ ho 1, if g4 me 2 = 0 then 0 else mk_ ho 2, if g4 me 3 = 0 then 0 else mk_ ho 3)
def okh (me : Q4) (x : Int32) : Bool := decide (x = -1) || (decide (x = 0) && decide (g4 me 0 = 1)) || (decide (x = 1) && decide (g4 me 1 = 1)) || (decide (x = 2) && decide (g4 me 2 = 1)) || (decide (x = 3) && decide (g4 me 3 = 1))
def chk (me ho : Q4) : Bool := decide (shC me (wof me ho) = (mk_ (shM me ho) 0, mk_ (shM me ho) 1, mk_ (shM me ho) 2, mk_ (shM me ho) 3)) && okh me (g4 (shM me ho) 0) && okh me (g4 (shM me ho) 1) && okh me (g4 (shM me ho) 2) && okh me (g4 (shM me ho) 3)
def vld (me ho : Q4) : Bool := okh me (g4 ho 0) && okh me (g4 ho 1) && okh me (g4 ho 2) && okh me (g4 ho 3)
def chkA (a b c d : Nat) : Bool := (List.range 5).all fun x => (List.range 5).all fun y => (List.range 5).all fun u => (List.range 5).all fun v => !vld (mk4 a b c d f2) (mk4 x y u v f5) || chk (mk4 a b c d f2) (mk4 x y u v f5)
def chkB (a b c d : Nat) : Bool := (List.range 5).all fun x => (List.range 5).all fun y => (List.range 5).all fun u => (List.range 5).all fun v => vld (mk4 a b c d f2) (drp (mk4 a b c d f2) 4 (mk4 x y u v f5) 0) && decide (drp (mk4 a b c d f2) 4 (drp (mk4 a b c d f2) 4 (mk4 x y u v f5) 0) 0 = drp (mk4 a b c d f2) 4 (mk4 x y u v f5) 0) && decide (wof (mk4 a b c d f2) (drp (mk4 a b c d f2) 4 (mk4 x y u v f5) 0) = wof (mk4 a b c d f2) (mk4 x y u v f5))
theorem chk_b : ∀ a, a < 2 → ∀ b, b < 2 → ∀ c, c < 2 → ∀ d, d < 2 → chkB a b c d = true := by decide +kernel
theorem chk_a0 : ∀ a, a < 2 → ∀ b, b < 2 → ∀ c, c < 2 → chkA a b c 0 = true := by decide +kernel
theorem chk_a1 : ∀ a, a < 2 → ∀ b, b < 2 → chkA a b 0 1 = true := by decide +kernel
theorem chk_a2 : ∀ a, a < 2 → chkA a 0 1 1 = true := by decide +kernel
theorem chk_a3 : chkA 0 1 1 1 = true := by decide +kernel
theorem chk_a4 : chkA 1 1 1 1 = true := by decide +kernel
