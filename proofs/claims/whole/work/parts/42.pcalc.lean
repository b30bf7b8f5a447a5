/-! calls over values, boolean answers, ranges -/
abbrev rI (v : Int32) (h : HH) (z : Z3) : Option RS := some (.inl (some (.int v)), h, z)
abbrev rR (v : Nat) (h : HH) (z : Z3) : Option RS := some (.inl (some (.ref v)), h, z)
abbrev rV (h : HH) (z : Z3) : Option RS := some (.inl none, h, z)
abbrev rX (E : String) (h : HH) (z : Z3) : Option RS := some (.inr E, h, z)
section CC1
variable {h : HH} {z : Z3} {v : Int32} {a : Nat} {E : String}
theorem cI_s {K : Int32 → HH → Z3 → Option RS} : cI (some (.inl (some (.int v)), h, z)) K = K v h z := rfl
theorem cI_x {K : Int32 → HH → Z3 → Option RS} : cI (some (.inr E, h, z)) K = some (.inr E, h, z) := rfl
theorem cR_s {K : Nat → HH → Z3 → Option RS} : cR (some (.inl (some (.ref a)), h, z)) K = K a h z := rfl
theorem cR_x {K : Nat → HH → Z3 → Option RS} : cR (some (.inr E, h, z)) K = some (.inr E, h, z) := rfl
theorem cV_s {K : HH → Z3 → Option RS} : cV (some (.inl none, h, z)) K = K h z := rfl
theorem cV_x {K : HH → Z3 → Option RS} : cV (some (.inr E, h, z)) K = some (.inr E, h, z) := rfl
theorem cX_s {K : Int32 → HH → Z3 → Option RS} {KX : String → HH → Z3 → Option RS} : cX (some (.inl (some (.int v)), h, z)) K KX = K v h z := rfl
theorem cX_x {K : Int32 → HH → Z3 → Option RS} {KX : String → HH → Z3 → Option RS} : cX (some (.inr E, h, z)) K KX = KX E h z := rfl
theorem bn_s {α β : Type} {x : α} {K : α → Option β} : (some x).bind K = K x := rfl
theorem bz_0 : bz 0 = some () := rfl
theorem bz_1 : bz 1 = some () := rfl
def bI (b : Bool) : Int32 := if b = true then 1 else 0
theorem bz_b {b : Bool} : bz (bI b) = some () := by cases b <;> rfl
theorem bI_0 {b : Bool} : (bI b = 0) = (b = false) := by cases b <;> simp [bI]
theorem bI_1 {b : Bool} : (bI b = 1) = (b = true) := by cases b <;> simp [bI]
theorem bI_t : bI true = 1 := rfl
theorem bI_f : bI false = 0 := rfl
def RO (z : Z3) : Prop := 100 ≤ z.2.1 ∧ 100000 ≤ z.2.2
theorem nO_r {N : Nat} (hz : 1 ≤ z.2.1) (hN : N ≤ z.2.2) : nO z N = some () := by
  unfold nO
  rw [if_pos ⟨hz, hN⟩]
theorem tO_r (hz : RO z) : tO h z E = some (.inr E, h, nZ z 6) := by
  unfold tO
  rw [nO_r (by unfold RO at hz; omega) (by unfold RO at hz; omega)]
  rfl
end CC1
/-! ranges of arguments -/
def bad (x : Int32) (m : Nat) : Prop := x < 0 ∨ kI m < x
theorem rg (m : Nat) (hm : m < 2147483648) (x : Int32) : (∃ k, k ≤ m ∧ x = kI k) ∨ bad x m := by
  by_cases h0 : x < 0
  · exact Or.inr (Or.inl h0)
  by_cases h1 : x ≤ kI m
  · exact Or.inl (kI_rg hm h0 h1)
  · exact Or.inr (Or.inr (Int32.not_le.mp h1))
section RG1
variable {bs : Nat} {sE : Nat × Nat} {h : HH} {z : Z3} {a : Nat}
theorem req_k {k m : Nat} (hm : m < 2147483648) (hk : k ≤ m) : f_B_requireRange bs sE h z (kI k) 0 (kI m) = some (.inl none, h, z) := by
  unfold f_B_requireRange
  rw [if_neg (by rw [kI_nl0 (by omega)]; exact id), if_pos ((kI_le (by omega) hm).mpr hk)]
theorem req_b {x : Int32} {m : Nat} (hz : RO z) (hb : bad x m) : f_B_requireRange bs sE h z x 0 (kI m) = some (.inr "java/lang/IllegalArgumentException", h, nZ z 6) := by
  unfold f_B_requireRange
  rw [tO_r hz]
  by_cases h0 : x < 0
  · rw [if_pos h0]
  · rw [if_neg h0, if_neg]
    rcases hb with hb | hb
    · exact absurd hb h0
    · exact Int32.not_le.mpr hb
theorem out_k {k m : Nat} (hm : m < 2147483648) (hk : k < m) : f_M_out bs sE h z a (kI k) (kI m) = some (.inl (some (.int 0)), h, z) := by
  unfold f_M_out
  rw [if_neg (by rw [kI_nl0 (by omega)]; exact id), if_pos ((kI_lt (by omega) hm).mpr hk)]
  rfl
theorem out_b {x : Int32} {m : Nat} (hm : m + 1 < 2147483648) (hb : bad x m) : f_M_out bs sE h z a x (kI (m + 1)) = some (.inl (some (.int 1)), h, z) := by
  unfold f_M_out
  by_cases h0 : x < 0
  · rw [if_pos h0]
    rfl
  · rw [if_neg h0, if_neg]
    · rfl
    rcases hb with hb | hb
    · exact absurd hb h0
    · intro h1
      obtain ⟨k, hk, rfl⟩ := kI_of (Int32.not_lt.mp h0)
      have := (kI_lt (by omega) hk).mp hb
      have := (kI_lt hk hm).mp h1
      omega
theorem req3 {k : Nat} (hk : k ≤ 3) : f_B_requireRange bs sE h z (kI k) 0 3 = some (.inl none, h, z) := req_k (m := 3) (by omega) hk
theorem reb3 {x : Int32} (hz : RO z) (hb : bad x 3) : f_B_requireRange bs sE h z x 0 3 = some (.inr "java/lang/IllegalArgumentException", h, nZ z 6) := req_b (m := 3) hz hb
theorem ou3 {k : Nat} (hk : k ≤ 3) : f_M_out bs sE h z a (kI k) 4 = some (.inl (some (.int 0)), h, z) := out_k (m := 4) (by omega) (by omega)
theorem oub3 {x : Int32} (hb : bad x 3) : f_M_out bs sE h z a x 4 = some (.inl (some (.int 1)), h, z) := out_b (m := 3) (by omega) hb
theorem req1 {k : Nat} (hk : k ≤ 1) : f_B_requireRange bs sE h z (kI k) 0 1 = some (.inl none, h, z) := req_k (m := 1) (by omega) hk
theorem reb1 {x : Int32} (hz : RO z) (hb : bad x 1) : f_B_requireRange bs sE h z x 0 1 = some (.inr "java/lang/IllegalArgumentException", h, nZ z 6) := req_b (m := 1) hz hb
theorem ou1 {k : Nat} (hk : k ≤ 1) : f_M_out bs sE h z a (kI k) 2 = some (.inl (some (.int 0)), h, z) := out_k (m := 2) (by omega) (by omega)
theorem oub1 {x : Int32} (hb : bad x 1) : f_M_out bs sE h z a x 2 = some (.inl (some (.int 1)), h, z) := out_b (m := 1) (by omega) hb
theorem req1000 {k : Nat} (hk : k ≤ 1000) : f_B_requireRange bs sE h z (kI k) 0 1000 = some (.inl none, h, z) := req_k (m := 1000) (by omega) hk
theorem reb1000 {x : Int32} (hz : RO z) (hb : bad x 1000) : f_B_requireRange bs sE h z x 0 1000 = some (.inr "java/lang/IllegalArgumentException", h, nZ z 6) := req_b (m := 1000) hz hb
theorem ou1000 {k : Nat} (hk : k ≤ 1000) : f_M_out bs sE h z a (kI k) 1001 = some (.inl (some (.int 0)), h, z) := out_k (m := 1001) (by omega) (by omega)
theorem oub1000 {x : Int32} (hb : bad x 1000) : f_M_out bs sE h z a x 1001 = some (.inl (some (.int 1)), h, z) := out_b (m := 1000) (by omega) hb
theorem req600 {k : Nat} (hk : k ≤ 600) : f_B_requireRange bs sE h z (kI k) 0 600 = some (.inl none, h, z) := req_k (m := 600) (by omega) hk
theorem reb600 {x : Int32} (hz : RO z) (hb : bad x 600) : f_B_requireRange bs sE h z x 0 600 = some (.inr "java/lang/IllegalArgumentException", h, nZ z 6) := req_b (m := 600) hz hb
theorem ou600 {k : Nat} (hk : k ≤ 600) : f_M_out bs sE h z a (kI k) 601 = some (.inl (some (.int 0)), h, z) := out_k (m := 601) (by omega) (by omega)
theorem oub600 {x : Int32} (hb : bad x 600) : f_M_out bs sE h z a x 601 = some (.inl (some (.int 1)), h, z) := out_b (m := 600) (by omega) hb
theorem req30 {k : Nat} (hk : k ≤ 30) : f_B_requireRange bs sE h z (kI k) 0 30 = some (.inl none, h, z) := req_k (m := 30) (by omega) hk
theorem reb30 {x : Int32} (hz : RO z) (hb : bad x 30) : f_B_requireRange bs sE h z x 0 30 = some (.inr "java/lang/IllegalArgumentException", h, nZ z 6) := req_b (m := 30) hz hb
theorem ou30 {k : Nat} (hk : k ≤ 30) : f_M_out bs sE h z a (kI k) 31 = some (.inl (some (.int 0)), h, z) := out_k (m := 31) (by omega) (by omega)
theorem oub30 {x : Int32} (hb : bad x 30) : f_M_out bs sE h z a x 31 = some (.inl (some (.int 1)), h, z) := out_b (m := 30) (by omega) hb
theorem req5 {k : Nat} (hk : k ≤ 5) : f_B_requireRange bs sE h z (kI k) 0 5 = some (.inl none, h, z) := req_k (m := 5) (by omega) hk
theorem reb5 {x : Int32} (hz : RO z) (hb : bad x 5) : f_B_requireRange bs sE h z x 0 5 = some (.inr "java/lang/IllegalArgumentException", h, nZ z 6) := req_b (m := 5) hz hb
theorem ou5 {k : Nat} (hk : k ≤ 5) : f_M_out bs sE h z a (kI k) 6 = some (.inl (some (.int 0)), h, z) := out_k (m := 6) (by omega) (by omega)
theorem oub5 {x : Int32} (hb : bad x 5) : f_M_out bs sE h z a x 6 = some (.inl (some (.int 1)), h, z) := out_b (m := 5) (by omega) hb
theorem req7 {k : Nat} (hk : k ≤ 7) : f_B_requireRange bs sE h z (kI k) 0 7 = some (.inl none, h, z) := req_k (m := 7) (by omega) hk
theorem reb7 {x : Int32} (hz : RO z) (hb : bad x 7) : f_B_requireRange bs sE h z x 0 7 = some (.inr "java/lang/IllegalArgumentException", h, nZ z 6) := req_b (m := 7) hz hb
theorem ou7 {k : Nat} (hk : k ≤ 7) : f_M_out bs sE h z a (kI k) 8 = some (.inl (some (.int 0)), h, z) := out_k (m := 8) (by omega) (by omega)
theorem oub7 {x : Int32} (hb : bad x 7) : f_M_out bs sE h z a x 8 = some (.inl (some (.int 1)), h, z) := out_b (m := 7) (by omega) hb
end RG1
section PM1
variable {old : HH} {bs : Nat} {r : RH} {ed : Nat → Nat} {o : Int64} {D : HH} {sE : Nat × Nat} {z : Z3} {n : Nat}
theorem P_isEnding (hp : n < 4) : f_P_isEnding bs sE (HB old bs r ed o D) z (aP bs n) = some (.inl (some (.int (bI (decide (r 4 n 1 = 2 ∨ r 4 n 1 = 3))))), HB old bs r ed o D, z) := by
  unfold f_P_isEnding
  simp only [gI_P1 hp, bn_s]
  by_cases h1 : r 4 n 1 = 2
  · simp [h1, bI, bz_1]
  · by_cases h2 : r 4 n 1 = 3 <;> simp [h1, h2, bI, bz_1, bz_0]
theorem P_isCommitting (hp : n < 4) : f_P_isCommitting bs sE (HB old bs r ed o D) z (aP bs n) = some (.inl (some (.int (bI (decide (r 4 n 1 = 2))))), HB old bs r ed o D, z) := by
  unfold f_P_isCommitting
  simp only [gI_P1 hp, bn_s]
  by_cases h1 : r 4 n 1 = 2 <;> simp [h1, bI, bz_1, bz_0]
theorem P_isOpen (hp : n < 4) : f_P_isOpen bs sE (HB old bs r ed o D) z (aP bs n) = some (.inl (some (.int (bI (decide (r 4 n 1 = 1))))), HB old bs r ed o D, z) := by
  unfold f_P_isOpen
  simp only [gI_P1 hp, bn_s]
  by_cases h1 : r 4 n 1 = 1 <;> simp [h1, bI, bz_1, bz_0]
theorem P_isKnown (hp : n < 4) : f_P_isKnown bs sE (HB old bs r ed o D) z (aP bs n) = some (.inl (some (.int (bI (decide (r 4 n 1 ≠ -1))))), HB old bs r ed o D, z) := by
  unfold f_P_isKnown
  simp only [gI_P1 hp, bn_s]
  by_cases h1 : r 4 n 1 = -1 <;> simp [h1, bI, bz_1, bz_0]
theorem P_isIdle (hp : n < 4) : f_P_isIdle bs sE (HB old bs r ed o D) z (aP bs n) = some (.inl (some (.int (bI (decide (r 4 n 1 = 0))))), HB old bs r ed o D, z) := by
  unfold f_P_isIdle
  simp only [gI_P1 hp, bn_s]
  by_cases h1 : r 4 n 1 = 0 <;> simp [h1, bI, bz_1, bz_0]
theorem P_fence (hp : n < 4) : f_P_fence bs sE (HB old bs r ed o D) z (aP bs n) = some (.inl none, HB old bs (up3 (up3 r 4 n 2 (r 4 n 2 + 1)) 4 n 1 3) ed o D, z) := by
  unfold f_P_fence
  simp only [gI_P2 hp, pV_P2 hp, pV_P1 hp, bn_s]
theorem P_renew (hp : n < 4) : f_P_renew bs sE (HB old bs r ed o D) z (aP bs n) = some (.inl (some (.int (r 4 n 2 + 1))), HB old bs (up3 (up3 r 4 n 1 0) 4 n 2 (r 4 n 2 + 1)) ed o D, z) := by
  unfold f_P_renew
  simp only [gI_P2 hp, pV_P2 hp, pV_P1 hp, bn_s]
  simp [up3]
theorem P_open {x y : Int32} (hp : n < 4) : f_P_open bs sE (HB old bs r ed o D) z (aP bs n) x y = some (.inl none, HB old bs (up3 (up3 (up3 r 4 n 1 1) 4 n 3 x) 4 n 4 y) ed o D, z) := by
  unfold f_P_open
  simp only [pV_P1 hp, pV_P3 hp, pV_P4 hp, bn_s]
theorem P_untouch {x : Int32} (hp : n < 4) : f_P_untouch bs sE (HB old bs r ed o D) z (aP bs n) x = some (.inl none, HB old bs (up3 r 4 n 5 (r 4 n 5 &&& ((1 <<< (x &&& 31)) ^^^ (-1)))) ed o D, z) := by
  unfold f_P_untouch
  simp only [gI_P5 hp, pV_P5 hp, bn_s]
theorem P_touch {x : Int32} (hp : n < 4) : f_P_touch bs sE (HB old bs r ed o D) z (aP bs n) x = some (.inl none, HB old bs (up3 r 4 n 5 (r 4 n 5 ||| (1 <<< (x &&& 31)))) ed o D, z) := by
  unfold f_P_touch
  simp only [gI_P5 hp, pV_P5 hp, bn_s]
theorem P_startEnding {x : Int32} (hp : n < 4) : f_P_startEnding bs sE (HB old bs r ed o D) z (aP bs n) x = some (.inl none, HB old bs (up3 r 4 n 1 (if x = 0 then 3 else 2)) ed o D, z) := by
  unfold f_P_startEnding
  by_cases h : x = 0 <;> simp [h, pV_P1 hp, bn_s]
theorem M_fail {x : Int32} : f_M_fail bs sE (HB old bs r ed o D) z (aM bs) x = some (.inl (some (.int 0)), HB old bs (up3 r 20 0 0 x) ed o D, z) := by
  unfold f_M_fail
  simp only [pV_M0, bn_s]
theorem M_abort (hp : n < 4) : f_M_abort bs sE (HB old bs r ed o D) z (aM bs) (kI n) = some (.inl none, HB old bs (up3 (up3 r 20 11 n (r 20 11 n + 1)) 20 10 n 3) ed o D, z) := by
  unfold f_M_abort
  simp [gR_M11, gR_M10, aI_MA, aIs_MA, bn_s, marr, msz, hp]
theorem M_check {x y : Int32} (hp : n < 4) : f_M_check bs sE (HB old bs r ed o D) z (aM bs) (kI n) x y = some (.inl (some (.int (if 0 ≤ r 20 10 n then (if x = r 20 11 n then (if r 20 10 n = y then 0 else 3) else 3) else 2))), HB old bs r ed o D, z) := by
  unfold f_M_check
  simp [gR_M11, gR_M10, aI_MA, aIs_MA, bn_s, marr, msz, hp]
  by_cases h1 : 0 ≤ r 20 10 n <;> by_cases h2 : x = r 20 11 n <;> by_cases h3 : r 20 10 n = y <;> (try subst h3) <;> simp [h1, h2, *]
end PM1
