/-! reads and writes over the heap of the run -/
section HB2
variable {old : HH} {bs : Nat} {r : RH} {ed : Nat → Nat} {o : Int64} {D : HH}
theorem gI_o {h : HH} {a ci k : Nat} {fs : List HV} {x : Int32} (e : h a = some (.inl (ci, fs))) (hk : fs[k]? = some (.inl x)) : gI h a ci k = some x := by
  simp [gI, gV, e, hk]
theorem gR_o {h : HH} {a ci k : Nat} {fs : List HV} {x : Nat} (e : h a = some (.inl (ci, fs))) (hk : fs[k]? = some (.inr (some x))) : gR h a ci k = some x := by
  simp [gR, gV, e, hk]
theorem oK_o {h : HH} {a ci : Nat} {fs : List HV} (e : h a = some (.inl (ci, fs))) : oK h a ci = some () := by
  simp [oK, e]
theorem pV_o {h : HH} {bs a ci k : Nat} {fs : List HV} {v : HV} (e : h a = some (.inl (ci, fs))) (hk : k < fs.length) (hb : bs ≤ a) : pV bs h a ci k v = some (va_up h a (some (.inl (ci, fs.set k v)))) := by
  simp [pV, e, hk, hb]
theorem aI_o {h : HH} {a kd n i : Nat} {f : Nat → Int32} (e : h a = some (.inr (kd, n, .inl f))) (hi : i < n) (hn : n ≤ 5000) : aI h a kd (kI i) = some (f i) := by
  simp [aI, e, kI_inr (show i < 2147483648 by omega) hi, kI_clamp (show i < 2147483648 by omega)]
theorem aIs_o {h : HH} {bs a kd n i : Nat} {f : Nat → Int32} {x : Int32} (e : h a = some (.inr (kd, n, .inl f))) (hi : i < n) (hn : n ≤ 5000) (hb : bs ≤ a) : aIs bs h a kd (kI i) x = some (va_up h a (some (.inr (kd, n, .inl (upd f i x))))) := by
  simp [aIs, e, kI_inr (show i < 2147483648 by omega) hi, kI_clamp (show i < 2147483648 by omega), hb]
theorem aR_o {h : HH} {a kd n i : Nat} {f : Nat → Option Nat} {x : Nat} (e : h a = some (.inr (kd, n, .inr (.inr f)))) (hk : kd < 7) (hi : i < n) (hn : n ≤ 5000) (hx : f i = some x) : aR h a kd (kI i) = some x := by
  simp [aR, aQ, e, kI_inr (show i < 2147483648 by omega) hi, kI_clamp (show i < 2147483648 by omega), hk, hx]
theorem aQs_o {h : HH} {bs a kd n i : Nat} {f : Nat → Option Nat} {x : Option Nat} (e : h a = some (.inr (kd, n, .inr (.inr f)))) (hk : kd < 7) (hi : i < n) (hn : n ≤ 5000) (hb : bs ≤ a) : aQs bs h a kd (kI i) x = some (va_up h a (some (.inr (kd, n, .inr (.inr (va_up f i x)))))) := by
  simp [aQs, e, kI_inr (show i < 2147483648 by omega) hi, kI_clamp (show i < 2147483648 by omega), hb, hk]
theorem aN_o {h : HH} {a kd n : Nat} {f : HA} (e : h a = some (.inr (kd, n, f))) (hk : kd < 9) : aN h a = some (Int32.ofNat n) := by
  simp [aN, e, hk]
theorem oK_B  : oK (HB old bs r ed o D) (aB bs) 4 = some () := oK_o (HB_B)
theorem gI_B3  : gI (HB old bs r ed o D) (aB bs) 4 3 = some (r 0 0 3) := gI_o (HB_B) rfl
theorem gI_B4  : gI (HB old bs r ed o D) (aB bs) 4 4 = some (r 0 0 4) := gI_o (HB_B) rfl
theorem gI_B5  : gI (HB old bs r ed o D) (aB bs) 4 5 = some (r 0 0 5) := gI_o (HB_B) rfl
theorem gR_B0  : gR (HB old bs r ed o D) (aB bs) 4 0 = some (aLs bs) := gR_o (HB_B) rfl
theorem gR_B1  : gR (HB old bs r ed o D) (aB bs) 4 1 = some (aPs bs) := gR_o (HB_B) rfl
theorem gR_B2  : gR (HB old bs r ed o D) (aB bs) 4 2 = some (aGs bs) := gR_o (HB_B) rfl
theorem pV_B3  {x : Int32} : pV bs (HB old bs r ed o D) (aB bs) 4 3 (.inl x) = some (HB old bs (up3 r 0 0 3 x) ed o D) := by
  rw [pV_o (HB_B) (by simp) (by unfold aB; omega)]
  have e : aB bs = bs + own 0 0 := by simp [aB, own]
  rw [e, ← HB_up (f := 0) (m := 0) (i := 3) (x := x) (by simp [own]), ← e]
  congr 3
  skip
theorem pV_B4  {x : Int32} : pV bs (HB old bs r ed o D) (aB bs) 4 4 (.inl x) = some (HB old bs (up3 r 0 0 4 x) ed o D) := by
  rw [pV_o (HB_B) (by simp) (by unfold aB; omega)]
  have e : aB bs = bs + own 0 0 := by simp [aB, own]
  rw [e, ← HB_up (f := 0) (m := 0) (i := 4) (x := x) (by simp [own]), ← e]
  congr 3
  skip
theorem pV_B5  {x : Int32} : pV bs (HB old bs r ed o D) (aB bs) 4 5 (.inl x) = some (HB old bs (up3 r 0 0 5 x) ed o D) := by
  rw [pV_o (HB_B) (by simp) (by unfold aB; omega)]
  have e : aB bs = bs + own 0 0 := by simp [aB, own]
  rw [e, ← HB_up (f := 0) (m := 0) (i := 5) (x := x) (by simp [own]), ← e]
  congr 3
  skip
theorem oK_L {p : Nat} (hp : p < 4) : oK (HB old bs r ed o D) (aL bs p) 2 = some () := oK_o (HB_L hp)
theorem gI_L2 {p : Nat} (hp : p < 4) : gI (HB old bs r ed o D) (aL bs p) 2 2 = some (r 1 p 2) := gI_o (HB_L hp) rfl
theorem gI_L3 {p : Nat} (hp : p < 4) : gI (HB old bs r ed o D) (aL bs p) 2 3 = some (r 1 p 3) := gI_o (HB_L hp) rfl
theorem gR_L0 {p : Nat} (hp : p < 4) : gR (HB old bs r ed o D) (aL bs p) 2 0 = some (aAL bs p) := gR_o (HB_L hp) rfl
theorem gR_L1 {p : Nat} (hp : p < 4) : gR (HB old bs r ed o D) (aL bs p) 2 1 = some (aMK bs p) := gR_o (HB_L hp) rfl
theorem pV_L2 {p : Nat} (hp : p < 4) {x : Int32} : pV bs (HB old bs r ed o D) (aL bs p) 2 2 (.inl x) = some (HB old bs (up3 r 1 p 2 x) ed o D) := by
  rw [pV_o (HB_L hp) (by simp) (by unfold aL; omega)]
  have e : aL bs p = bs + own 1 p := by simp [aL, own]
  rw [e, ← HB_up (f := 1) (m := p) (i := 2) (x := x) (by simp [own]; omega), ← e]
  congr 3
  rcases c4 hp with rfl | rfl | rfl | rfl <;> rfl
theorem pV_L3 {p : Nat} (hp : p < 4) {x : Int32} : pV bs (HB old bs r ed o D) (aL bs p) 2 3 (.inl x) = some (HB old bs (up3 r 1 p 3 x) ed o D) := by
  rw [pV_o (HB_L hp) (by simp) (by unfold aL; omega)]
  have e : aL bs p = bs + own 1 p := by simp [aL, own]
  rw [e, ← HB_up (f := 1) (m := p) (i := 3) (x := x) (by simp [own]; omega), ← e]
  congr 3
  rcases c4 hp with rfl | rfl | rfl | rfl <;> rfl
theorem oK_A {p : Nat} (hp : p < 4) : oK (HB old bs r ed o D) (aAL bs p) 5 = some () := oK_o (HB_AL hp)
theorem gI_A0 {p : Nat} (hp : p < 4) : gI (HB old bs r ed o D) (aAL bs p) 5 0 = some (r 2 p 0) := gI_o (HB_AL hp) rfl
theorem gI_A2 {p : Nat} (hp : p < 4) : gI (HB old bs r ed o D) (aAL bs p) 5 2 = some (r 2 p 2) := gI_o (HB_AL hp) rfl
theorem gR_A1 {p : Nat} (hp : p < 4) : gR (HB old bs r ed o D) (aAL bs p) 5 1 = some (ed p) := gR_o (HB_AL hp) rfl
theorem pV_A0 {p : Nat} (hp : p < 4) {x : Int32} : pV bs (HB old bs r ed o D) (aAL bs p) 5 0 (.inl x) = some (HB old bs (up3 r 2 p 0 x) ed o D) := by
  rw [pV_o (HB_AL hp) (by simp) (by unfold aAL; omega)]
  have e : aAL bs p = bs + own 2 p := by simp [aAL, own]
  rw [e, ← HB_up (f := 2) (m := p) (i := 0) (x := x) (by simp [own]; omega), ← e]
  congr 3
  rcases c4 hp with rfl | rfl | rfl | rfl <;> rfl
theorem pV_A2 {p : Nat} (hp : p < 4) {x : Int32} : pV bs (HB old bs r ed o D) (aAL bs p) 5 2 (.inl x) = some (HB old bs (up3 r 2 p 2 x) ed o D) := by
  rw [pV_o (HB_AL hp) (by simp) (by unfold aAL; omega)]
  have e : aAL bs p = bs + own 2 p := by simp [aAL, own]
  rw [e, ← HB_up (f := 2) (m := p) (i := 2) (x := x) (by simp [own]; omega), ← e]
  congr 3
  rcases c4 hp with rfl | rfl | rfl | rfl <;> rfl
theorem oK_P {p : Nat} (hp : p < 4) : oK (HB old bs r ed o D) (aP bs p) 3 = some () := oK_o (HB_P hp)
theorem gI_P0 {p : Nat} (hp : p < 4) : gI (HB old bs r ed o D) (aP bs p) 3 0 = some (r 4 p 0) := gI_o (HB_P hp) rfl
theorem gI_P1 {p : Nat} (hp : p < 4) : gI (HB old bs r ed o D) (aP bs p) 3 1 = some (r 4 p 1) := gI_o (HB_P hp) rfl
theorem gI_P2 {p : Nat} (hp : p < 4) : gI (HB old bs r ed o D) (aP bs p) 3 2 = some (r 4 p 2) := gI_o (HB_P hp) rfl
theorem gI_P3 {p : Nat} (hp : p < 4) : gI (HB old bs r ed o D) (aP bs p) 3 3 = some (r 4 p 3) := gI_o (HB_P hp) rfl
theorem gI_P4 {p : Nat} (hp : p < 4) : gI (HB old bs r ed o D) (aP bs p) 3 4 = some (r 4 p 4) := gI_o (HB_P hp) rfl
theorem gI_P5 {p : Nat} (hp : p < 4) : gI (HB old bs r ed o D) (aP bs p) 3 5 = some (r 4 p 5) := gI_o (HB_P hp) rfl
theorem gR_P6 {p : Nat} (hp : p < 4) : gR (HB old bs r ed o D) (aP bs p) 3 6 = some (aPe bs p) := gR_o (HB_P hp) rfl
theorem pV_P1 {p : Nat} (hp : p < 4) {x : Int32} : pV bs (HB old bs r ed o D) (aP bs p) 3 1 (.inl x) = some (HB old bs (up3 r 4 p 1 x) ed o D) := by
  rw [pV_o (HB_P hp) (by simp) (by unfold aP; omega)]
  have e : aP bs p = bs + own 4 p := by simp [aP, own]
  rw [e, ← HB_up (f := 4) (m := p) (i := 1) (x := x) (by simp [own]; omega), ← e]
  congr 3
  rcases c4 hp with rfl | rfl | rfl | rfl <;> rfl
theorem pV_P2 {p : Nat} (hp : p < 4) {x : Int32} : pV bs (HB old bs r ed o D) (aP bs p) 3 2 (.inl x) = some (HB old bs (up3 r 4 p 2 x) ed o D) := by
  rw [pV_o (HB_P hp) (by simp) (by unfold aP; omega)]
  have e : aP bs p = bs + own 4 p := by simp [aP, own]
  rw [e, ← HB_up (f := 4) (m := p) (i := 2) (x := x) (by simp [own]; omega), ← e]
  congr 3
  rcases c4 hp with rfl | rfl | rfl | rfl <;> rfl
theorem pV_P3 {p : Nat} (hp : p < 4) {x : Int32} : pV bs (HB old bs r ed o D) (aP bs p) 3 3 (.inl x) = some (HB old bs (up3 r 4 p 3 x) ed o D) := by
  rw [pV_o (HB_P hp) (by simp) (by unfold aP; omega)]
  have e : aP bs p = bs + own 4 p := by simp [aP, own]
  rw [e, ← HB_up (f := 4) (m := p) (i := 3) (x := x) (by simp [own]; omega), ← e]
  congr 3
  rcases c4 hp with rfl | rfl | rfl | rfl <;> rfl
theorem pV_P4 {p : Nat} (hp : p < 4) {x : Int32} : pV bs (HB old bs r ed o D) (aP bs p) 3 4 (.inl x) = some (HB old bs (up3 r 4 p 4 x) ed o D) := by
  rw [pV_o (HB_P hp) (by simp) (by unfold aP; omega)]
  have e : aP bs p = bs + own 4 p := by simp [aP, own]
  rw [e, ← HB_up (f := 4) (m := p) (i := 4) (x := x) (by simp [own]; omega), ← e]
  congr 3
  rcases c4 hp with rfl | rfl | rfl | rfl <;> rfl
theorem pV_P5 {p : Nat} (hp : p < 4) {x : Int32} : pV bs (HB old bs r ed o D) (aP bs p) 3 5 (.inl x) = some (HB old bs (up3 r 4 p 5 x) ed o D) := by
  rw [pV_o (HB_P hp) (by simp) (by unfold aP; omega)]
  have e : aP bs p = bs + own 4 p := by simp [aP, own]
  rw [e, ← HB_up (f := 4) (m := p) (i := 5) (x := x) (by simp [own]; omega), ← e]
  congr 3
  rcases c4 hp with rfl | rfl | rfl | rfl <;> rfl
theorem oK_G {p : Nat} (hp : p < 2) : oK (HB old bs r ed o D) (aG bs p) 1 = some () := oK_o (HB_G hp)
theorem gI_G0 {p : Nat} (hp : p < 2) : gI (HB old bs r ed o D) (aG bs p) 1 0 = some (r 6 p 0) := gI_o (HB_G hp) rfl
theorem gR_G1 {p : Nat} (hp : p < 2) : gR (HB old bs r ed o D) (aG bs p) 1 1 = some (aMe bs p) := gR_o (HB_G hp) rfl
theorem gR_G2 {p : Nat} (hp : p < 2) : gR (HB old bs r ed o D) (aG bs p) 1 2 = some (aHe bs p) := gR_o (HB_G hp) rfl
theorem gR_G3 {p : Nat} (hp : p < 2) : gR (HB old bs r ed o D) (aG bs p) 1 3 = some (aOw bs p) := gR_o (HB_G hp) rfl
theorem gR_G4 {p : Nat} (hp : p < 2) : gR (HB old bs r ed o D) (aG bs p) 1 4 = some (aCo bs p) := gR_o (HB_G hp) rfl
theorem pV_G0 {p : Nat} (hp : p < 2) {x : Int32} : pV bs (HB old bs r ed o D) (aG bs p) 1 0 (.inl x) = some (HB old bs (up3 r 6 p 0 x) ed o D) := by
  rw [pV_o (HB_G hp) (by simp) (by unfold aG; omega)]
  have e : aG bs p = bs + own 6 p := by simp [aG, own]
  rw [e, ← HB_up (f := 6) (m := p) (i := 0) (x := x) (by simp [own]; omega), ← e]
  congr 3
  rcases c2 hp with rfl | rfl <;> rfl
theorem aI_MK {p i : Nat} (hp : p < 4) (hi : i < 41) : aI (HB old bs r ed o D) (aMK bs p) 0 (kI i) = some (r 3 p i) := aI_o (HB_MK hp) hi (by omega)
theorem aN_MK {p : Nat} (hp : p < 4) : aN (HB old bs r ed o D) (aMK bs p) = some 41 := aN_o (HB_MK hp) (by omega)
theorem aIs_MK {p i : Nat} {x : Int32} (hp : p < 4) (hi : i < 41) : aIs bs (HB old bs r ed o D) (aMK bs p) 0 (kI i) x = some (HB old bs (up3 r 3 p i x) ed o D) := by
  rw [aIs_o (HB_MK hp) hi (by omega) (by unfold aMK; omega)]
  have e : aMK bs p = bs + own 3 p := by simp [aMK, own]
  rw [e, ← HB_up (f := 3) (m := p) (i := i) (x := x) (by simp [own]; omega), ← e, ← up3_at]
  congr 3
  rcases c4 hp with rfl | rfl | rfl | rfl <;> rfl
theorem aI_Pe {p i : Nat} (hp : p < 4) (hi : i < 8) : aI (HB old bs r ed o D) (aPe bs p) 0 (kI i) = some (r 5 p i) := aI_o (HB_Pe hp) hi (by omega)
theorem aN_Pe {p : Nat} (hp : p < 4) : aN (HB old bs r ed o D) (aPe bs p) = some 8 := aN_o (HB_Pe hp) (by omega)
theorem aIs_Pe {p i : Nat} {x : Int32} (hp : p < 4) (hi : i < 8) : aIs bs (HB old bs r ed o D) (aPe bs p) 0 (kI i) x = some (HB old bs (up3 r 5 p i x) ed o D) := by
  rw [aIs_o (HB_Pe hp) hi (by omega) (by unfold aPe; omega)]
  have e : aPe bs p = bs + own 5 p := by simp [aPe, own]
  rw [e, ← HB_up (f := 5) (m := p) (i := i) (x := x) (by simp [own]; omega), ← e, ← up3_at]
  congr 3
  rcases c4 hp with rfl | rfl | rfl | rfl <;> rfl
theorem aI_Me {p i : Nat} (hp : p < 2) (hi : i < 4) : aI (HB old bs r ed o D) (aMe bs p) 1 (kI i) = some (r 7 p i) := aI_o (HB_Me hp) hi (by omega)
theorem aN_Me {p : Nat} (hp : p < 2) : aN (HB old bs r ed o D) (aMe bs p) = some 4 := aN_o (HB_Me hp) (by omega)
theorem aIs_Me {p i : Nat} {x : Int32} (hp : p < 2) (hi : i < 4) : aIs bs (HB old bs r ed o D) (aMe bs p) 1 (kI i) x = some (HB old bs (up3 r 7 p i x) ed o D) := by
  rw [aIs_o (HB_Me hp) hi (by omega) (by unfold aMe; omega)]
  have e : aMe bs p = bs + own 7 p := by simp [aMe, own]
  rw [e, ← HB_up (f := 7) (m := p) (i := i) (x := x) (by simp [own]; omega), ← e, ← up3_at]
  congr 3
  rcases c2 hp with rfl | rfl <;> rfl
theorem aI_He {p i : Nat} (hp : p < 2) (hi : i < 4) : aI (HB old bs r ed o D) (aHe bs p) 0 (kI i) = some (r 8 p i) := aI_o (HB_He hp) hi (by omega)
theorem aN_He {p : Nat} (hp : p < 2) : aN (HB old bs r ed o D) (aHe bs p) = some 4 := aN_o (HB_He hp) (by omega)
theorem aIs_He {p i : Nat} {x : Int32} (hp : p < 2) (hi : i < 4) : aIs bs (HB old bs r ed o D) (aHe bs p) 0 (kI i) x = some (HB old bs (up3 r 8 p i x) ed o D) := by
  rw [aIs_o (HB_He hp) hi (by omega) (by unfold aHe; omega)]
  have e : aHe bs p = bs + own 8 p := by simp [aHe, own]
  rw [e, ← HB_up (f := 8) (m := p) (i := i) (x := x) (by simp [own]; omega), ← e, ← up3_at]
  congr 3
  rcases c2 hp with rfl | rfl <;> rfl
theorem aI_Ow {p i : Nat} (hp : p < 2) (hi : i < 4) : aI (HB old bs r ed o D) (aOw bs p) 0 (kI i) = some (r 9 p i) := aI_o (HB_Ow hp) hi (by omega)
theorem aN_Ow {p : Nat} (hp : p < 2) : aN (HB old bs r ed o D) (aOw bs p) = some 4 := aN_o (HB_Ow hp) (by omega)
theorem aIs_Ow {p i : Nat} {x : Int32} (hp : p < 2) (hi : i < 4) : aIs bs (HB old bs r ed o D) (aOw bs p) 0 (kI i) x = some (HB old bs (up3 r 9 p i x) ed o D) := by
  rw [aIs_o (HB_Ow hp) hi (by omega) (by unfold aOw; omega)]
  have e : aOw bs p = bs + own 9 p := by simp [aOw, own]
  rw [e, ← HB_up (f := 9) (m := p) (i := i) (x := x) (by simp [own]; omega), ← e, ← up3_at]
  congr 3
  rcases c2 hp with rfl | rfl <;> rfl
theorem aI_Co {p i : Nat} (hp : p < 2) (hi : i < 4) : aI (HB old bs r ed o D) (aCo bs p) 0 (kI i) = some (r 10 p i) := aI_o (HB_Co hp) hi (by omega)
theorem aN_Co {p : Nat} (hp : p < 2) : aN (HB old bs r ed o D) (aCo bs p) = some 4 := aN_o (HB_Co hp) (by omega)
theorem aIs_Co {p i : Nat} {x : Int32} (hp : p < 2) (hi : i < 4) : aIs bs (HB old bs r ed o D) (aCo bs p) 0 (kI i) x = some (HB old bs (up3 r 10 p i x) ed o D) := by
  rw [aIs_o (HB_Co hp) hi (by omega) (by unfold aCo; omega)]
  have e : aCo bs p = bs + own 10 p := by simp [aCo, own]
  rw [e, ← HB_up (f := 10) (m := p) (i := i) (x := x) (by simp [own]; omega), ← e, ← up3_at]
  congr 3
  rcases c2 hp with rfl | rfl <;> rfl
theorem aR_Ls {i : Nat} (hi : i < 4) : aR (HB old bs r ed o D) (aLs bs) 4 (kI i) = some (aL bs i) := aR_o HB_Ls (by omega) hi (by omega) (by simp [hi])
theorem aR_Ps {i : Nat} (hi : i < 4) : aR (HB old bs r ed o D) (aPs bs) 5 (kI i) = some (aP bs i) := aR_o HB_Ps (by omega) hi (by omega) (by simp [hi])
theorem aR_Gs {i : Nat} (hi : i < 2) : aR (HB old bs r ed o D) (aGs bs) 6 (kI i) = some (aG bs i) := aR_o HB_Gs (by omega) hi (by omega) (by simp [hi])
theorem own_M {k : Nat} (hk : marr k = true) : own 20 k = mof k ∧ mof k < 56 := by
  have h2 : 1 ≤ k ∧ k ≤ 21 ∧ k ≠ 16 ∧ k ≠ 18 := of_decide_eq_true hk
  refine ⟨by simp [own]; omega, ?_⟩
  unfold mof
  split <;> omega
theorem oK_M : oK (HB old bs r ed o D) (aM bs) 6 = some () := oK_o HB_M
theorem gI_M0 : gI (HB old bs r ed o D) (aM bs) 6 0 = some (r 20 0 0) := gI_o HB_M rfl
theorem pV_M0 {x : Int32} : pV bs (HB old bs r ed o D) (aM bs) 6 0 (.inl x) = some (HB old bs (up3 r 20 0 0 x) ed o D) := by
  rw [pV_o HB_M (by simp) (by unfold aM; omega)]
  exact congrArg some (HB_up (f := 20) (m := 0) (i := 0) (x := x) (by decide))
theorem gI_M16 : gI (HB old bs r ed o D) (aM bs) 6 16 = some (r 20 16 0) := gI_o HB_M rfl
theorem pV_M16 {x : Int32} : pV bs (HB old bs r ed o D) (aM bs) 6 16 (.inl x) = some (HB old bs (up3 r 20 16 0 x) ed o D) := by
  rw [pV_o HB_M (by simp) (by unfold aM; omega)]
  exact congrArg some (HB_up (f := 20) (m := 16) (i := 0) (x := x) (by decide))
theorem gI_M22 : gI (HB old bs r ed o D) (aM bs) 6 22 = some (r 20 22 0) := gI_o HB_M rfl
theorem pV_M22 {x : Int32} : pV bs (HB old bs r ed o D) (aM bs) 6 22 (.inl x) = some (HB old bs (up3 r 20 22 0 x) ed o D) := by
  rw [pV_o HB_M (by simp) (by unfold aM; omega)]
  exact congrArg some (HB_up (f := 20) (m := 22) (i := 0) (x := x) (by decide))
theorem gI_M23 : gI (HB old bs r ed o D) (aM bs) 6 23 = some (r 20 23 0) := gI_o HB_M rfl
theorem pV_M23 {x : Int32} : pV bs (HB old bs r ed o D) (aM bs) 6 23 (.inl x) = some (HB old bs (up3 r 20 23 0 x) ed o D) := by
  rw [pV_o HB_M (by simp) (by unfold aM; omega)]
  exact congrArg some (HB_up (f := 20) (m := 23) (i := 0) (x := x) (by decide))
theorem gR_M1 : gR (HB old bs r ed o D) (aM bs) 6 1 = some (aMA bs 1) := gR_o HB_M rfl
theorem gR_M2 : gR (HB old bs r ed o D) (aM bs) 6 2 = some (aMA bs 2) := gR_o HB_M rfl
theorem gR_M3 : gR (HB old bs r ed o D) (aM bs) 6 3 = some (aMA bs 3) := gR_o HB_M rfl
theorem gR_M4 : gR (HB old bs r ed o D) (aM bs) 6 4 = some (aMA bs 4) := gR_o HB_M rfl
theorem gR_M5 : gR (HB old bs r ed o D) (aM bs) 6 5 = some (aMA bs 5) := gR_o HB_M rfl
theorem gR_M6 : gR (HB old bs r ed o D) (aM bs) 6 6 = some (aMA bs 6) := gR_o HB_M rfl
theorem gR_M7 : gR (HB old bs r ed o D) (aM bs) 6 7 = some (aMA bs 7) := gR_o HB_M rfl
theorem gR_M8 : gR (HB old bs r ed o D) (aM bs) 6 8 = some (aMA bs 8) := gR_o HB_M rfl
theorem gR_M9 : gR (HB old bs r ed o D) (aM bs) 6 9 = some (aMA bs 9) := gR_o HB_M rfl
theorem gR_M10 : gR (HB old bs r ed o D) (aM bs) 6 10 = some (aMA bs 10) := gR_o HB_M rfl
theorem gR_M11 : gR (HB old bs r ed o D) (aM bs) 6 11 = some (aMA bs 11) := gR_o HB_M rfl
theorem gR_M12 : gR (HB old bs r ed o D) (aM bs) 6 12 = some (aMA bs 12) := gR_o HB_M rfl
theorem gR_M13 : gR (HB old bs r ed o D) (aM bs) 6 13 = some (aMA bs 13) := gR_o HB_M rfl
theorem gR_M14 : gR (HB old bs r ed o D) (aM bs) 6 14 = some (aMA bs 14) := gR_o HB_M rfl
theorem gR_M15 : gR (HB old bs r ed o D) (aM bs) 6 15 = some (aMA bs 15) := gR_o HB_M rfl
theorem gR_M17 : gR (HB old bs r ed o D) (aM bs) 6 17 = some (aMA bs 17) := gR_o HB_M rfl
theorem gR_M18 : gR (HB old bs r ed o D) (aM bs) 6 18 = some (aMA bs 18) := gR_o HB_M rfl
theorem gR_M19 : gR (HB old bs r ed o D) (aM bs) 6 19 = some (aMA bs 19) := gR_o HB_M rfl
theorem gR_M20 : gR (HB old bs r ed o D) (aM bs) 6 20 = some (aMA bs 20) := gR_o HB_M rfl
theorem gR_M21 : gR (HB old bs r ed o D) (aM bs) 6 21 = some (aMA bs 21) := gR_o HB_M rfl
theorem aI_MA {k i : Nat} (hk : marr k = true) (hi : i < msz k) : aI (HB old bs r ed o D) (aMA bs k) 0 (kI i) = some (r 20 k i) := aI_o (HB_MA hk) hi (by unfold msz; repeat (first | split | omega))
theorem aIs_MA {k i : Nat} {x : Int32} (hk : marr k = true) (hi : i < msz k) : aIs bs (HB old bs r ed o D) (aMA bs k) 0 (kI i) x = some (HB old bs (up3 r 20 k i x) ed o D) := by
  rw [aIs_o (HB_MA hk) hi (by unfold msz; repeat (first | split | omega)) (by unfold aMA; omega)]
  have e : aMA bs k = bs + own 20 k := by unfold aMA; rw [(own_M hk).1]
  have e2 := @HB_MA old bs (up3 r 20 k i x) ed o D k hk
  rw [e, HB_st (by rw [(own_M hk).1]; exact (own_M hk).2)] at e2
  rw [e, ← HB_up (f := 20) (m := k) (i := i) (x := x) (by rw [(own_M hk).1]; exact (own_M hk).2), ← up3_at]
  congr 3
  exact (Option.some.inj e2).symm
theorem aI_MA18 {i : Nat} (hi : i < 8) : aI (HB old bs r ed o D) (aMA bs 18) 1 (kI i) = some (r 20 18 i) := aI_o HB_MA18 hi (by omega)
theorem aIs_MA18 {i : Nat} {x : Int32} (hi : i < 8) : aIs bs (HB old bs r ed o D) (aMA bs 18) 1 (kI i) x = some (HB old bs (up3 r 20 18 i x) ed o D) := by
  rw [aIs_o HB_MA18 hi (by omega) (by unfold aMA; omega), ← up3_at]
  exact congrArg some (HB_up (f := 20) (m := 18) (i := i) (x := x) (by decide))
theorem aJ_Ou : aJ (HB old bs r ed o D) (aOu bs) 2 0 = some o := by
  simp [aJ, HB_Ou, inr_]
theorem aJs_Ou {x : Int64} : aJs bs (HB old bs r ed o D) (aOu bs) 2 0 x = some (HB old bs r ed x D) := by
  have hb : bs ≤ aOu bs := by unfold aOu; omega
  simp [aJs, HB_Ou, inr_, hb]
  funext b
  unfold va_up HB
  by_cases hb : b = aOu bs
  · subst hb
    rw [if_pos rfl, if_neg (by omega), if_pos (by unfold aOu; omega)]
    have e : aOu bs - bs = 55 := by unfold aOu; omega
    rw [e]
    have e2 : vp_updL (fun i => if i = 0 then o else 0) 0 x = (fun i => if i = 0 then x else 0) := by
      funext i
      unfold vp_updL
      by_cases hi : i = 0 <;> simp [hi]
    rw [e2]
    rfl
  · rw [if_neg hb]
    by_cases h1 : b < bs
    · rw [if_pos h1, if_pos h1]
    rw [if_neg h1, if_neg h1]
    by_cases h2 : b < bs + 56
    · rw [if_pos h2, if_pos h2]
      have e : b - bs ≠ 55 := by unfold aOu at hb; omega
      unfold SC
      by_cases h55 : b - bs < 55
      · simp [h55]
      · omega
    · rw [if_neg h2, if_neg h2]
end HB2
