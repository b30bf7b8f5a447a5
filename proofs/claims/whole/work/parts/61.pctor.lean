/-! the broker's constructor -/
def sL (bs s1 : Nat) (S : Nat → HC) (n : Nat) : Nat → HC := va_up (va_up (va_up S n (.inl (2, [.inr (some (bs + (n + 1))), .inr (some (bs + (n + 2))), .inl 0, .inl 0]))) (n + 1) (.inl (5, [.inl 0, .inr (some s1), .inl 0]))) (n + 2) (.inr (0, 41, .inl (fun k => if 0 ≤ k ∧ k < 41 then -1 else 0)))
def sP (bs : Nat) (x : Int32) (S : Nat → HC) (n : Nat) : Nat → HC := va_up (va_up S n (.inl (3, [.inl x, .inl (-1), .inl (-1), .inl 0, .inl 0, .inl 0, .inr (some (bs + (n + 1)))]))) (n + 1) (.inr (0, 8, .inl (fun k => if 0 ≤ k ∧ k < 8 then -1 else 0)))
def sG (bs : Nat) (S : Nat → HC) (n : Nat) : Nat → HC := va_up (va_up (va_up (va_up (va_up S n (.inl (1, [.inl 0, .inr (some (bs + (n + 1))), .inr (some (bs + (n + 2))), .inr (some (bs + (n + 3))), .inr (some (bs + (n + 4)))]))) (n + 1) (.inr (1, 4, .inl (fun _ => 0)))) (n + 2) (.inr (0, 4, .inl (fun _ => 0)))) (n + 3) (.inr (0, 4, .inl (fun _ => 0)))) (n + 4) (.inr (0, 4, .inl (fun k => if 0 ≤ k ∧ k < 4 then -1 else 0)))
section CT2
variable {old : HH} {bs n : Nat} {S : Nat → HC} {sE : Nat × Nat}
theorem pV_Z {ci k : Nat} {v : HV} (hj : 0 < n) : pV bs (PH old bs n S) bs ci k v = (pc_ (S 0) ci k v).map (fun c => PH old bs n (va_up S 0 c)) := pV_M (j := 0) hj
theorem aq_in {kd N i : Nat} {f : Nat → Option Nat} {x : Option Nat} (hi : i < N) (hN : N ≤ 5000) (hk : kd < 7) : aq_ (.inr (kd, N, .inr (.inr f))) kd i x = some (.inr (kd, N, .inr (.inr (va_up f i x)))) := by
  simp [aq_, hi, hN, hk]
theorem B_L45 {c s i : Nat} {f : Nat → Option Nat} {REC : HH → Z3 → Nat → Int32 → Option RS} (hn : 4 ≤ n) (hi : i < 4) (h0 : gr_ (S 0) 4 0 = some (bs + 1)) (h1 : S 1 = .inr (4, 4, .inr (.inr f))) (hc : 20 ≤ c) (hs : 200 ≤ s) : fb_B_ctor_L45 bs sE REC (PH old bs n S) (bs + n, c, s) (bs + 0) (kI i) = REC (PH old bs (n + 3) (va_up (sL bs sE.1 S n) 1 (.inr (4, 4, .inr (.inr (va_up f i (some (bs + n)))))))) (bs + (n + 3), c - 1 - 1 - 1, s - 4 - 3 - 41) (bs + 0) (kI (i + 1)) := by
  have L := L_ctor_H (old := old) (bs := bs) (n := n) (S := va_up S n (.inl (2, dfl 2))) (sE := sE) (c := c - 1) (s := s - 4) vau_e (by omega) (by omega)
  have e1 : PH old bs (n + 3) (va_up (va_up (va_up (va_up S n (.inl (2, dfl 2))) n (.inl (2, [.inr (some (bs + (n + 1))), .inr (some (bs + (n + 2))), .inl 0, .inl 0]))) (n + 1) (.inl (5, [.inl 0, .inr (some sE.1), .inl 0]))) (n + 2) (.inr (0, 41, .inl (fun k => if 0 ≤ k ∧ k < 41 then -1 else 0)))) = PH old bs (n + 3) (sL bs sE.1 S n) := by
    rw [vau_s]
    rfl
  rw [e1] at L
  have e2 : ok_ (sL bs sE.1 S n n) 2 = some () := by simp [sL, va_up, ok_]
  have e3 : aq_ (sL bs sE.1 S n 1) 4 i (some (bs + n)) = some (.inr (4, 4, .inr (.inr (va_up f i (some (bs + n)))))) := by
    have : sL bs sE.1 S n 1 = S 1 := by unfold sL; rw [vau_n (by omega), vau_n (by omega), vau_n (by omega)]
    rw [this, h1]
    exact aq_in hi (by omega) (by omega)
  simp only [fb_B_ctor_L45, if_neg (k4n hi), gR_H (show 0 < n by omega) h0, bn_s, nO_H (show 1 ≤ c by omega) (show 4 ≤ s by omega), PH_new, nZ_H, L, cV_s, oK_H (show n < n + 3 by omega) e2, aQs_H (show 1 < n + 3 by omega) e3, kI_add1]
theorem B_L71 {c s i : Nat} {f : Nat → Option Nat} {REC : HH → Z3 → Nat → Int32 → Option RS} (hn : 4 ≤ n) (hi : i < 4) (h0 : gr_ (S 0) 4 1 = some (bs + 2)) (h1 : S 2 = .inr (5, 4, .inr (.inr f))) (hc : 20 ≤ c) (hs : 200 ≤ s) : fb_B_ctor_L71 bs sE REC (PH old bs n S) (bs + n, c, s) (bs + 0) (kI i) = REC (PH old bs (n + 2) (va_up (sP bs (kI i) S n) 2 (.inr (5, 4, .inr (.inr (va_up f i (some (bs + n)))))))) (bs + (n + 2), c - 1 - 1, s - 7 - 8) (bs + 0) (kI (i + 1)) := by
  have L := P_ctor_H (old := old) (bs := bs) (n := n) (S := va_up S n (.inl (3, dfl 3))) (sE := sE) (c := c - 1) (s := s - 7) (x := kI i) vau_e (by omega) (by omega)
  have e1 : PH old bs (n + 2) (va_up (va_up (va_up S n (.inl (3, dfl 3))) n (.inl (3, [.inl (kI i), .inl (-1), .inl (-1), .inl 0, .inl 0, .inl 0, .inr (some (bs + (n + 1)))]))) (n + 1) (.inr (0, 8, .inl (fun k => if 0 ≤ k ∧ k < 8 then -1 else 0)))) = PH old bs (n + 2) (sP bs (kI i) S n) := by
    rw [vau_s]
    rfl
  rw [e1] at L
  have e2 : ok_ (sP bs (kI i) S n n) 3 = some () := by simp [sP, va_up, ok_]
  have e3 : aq_ (sP bs (kI i) S n 2) 5 i (some (bs + n)) = some (.inr (5, 4, .inr (.inr (va_up f i (some (bs + n)))))) := by
    have : sP bs (kI i) S n 2 = S 2 := by unfold sP; rw [vau_n (by omega), vau_n (by omega)]
    rw [this, h1]
    exact aq_in hi (by omega) (by omega)
  simp only [fb_B_ctor_L71, if_neg (k4n hi), gR_H (show 0 < n by omega) h0, bn_s, nO_H (show 1 ≤ c by omega) (show 7 ≤ s by omega), PH_new, nZ_H, L, cV_s, oK_H (show n < n + 2 by omega) e2, aQs_H (show 2 < n + 2 by omega) e3, kI_add1]
theorem B_L98 {c s i : Nat} {f : Nat → Option Nat} {REC : HH → Z3 → Nat → Int32 → Option RS} (hn : 4 ≤ n) (hi : i < 2) (h0 : gr_ (S 0) 4 2 = some (bs + 3)) (h1 : S 3 = .inr (6, 2, .inr (.inr f))) (hc : 20 ≤ c) (hs : 200 ≤ s) : fb_B_ctor_L98 bs sE REC (PH old bs n S) (bs + n, c, s) (bs + 0) (kI i) = REC (PH old bs (n + 5) (va_up (sG bs S n) 3 (.inr (6, 2, .inr (.inr (va_up f i (some (bs + n)))))))) (bs + (n + 5), c - 1 - 1 - 1 - 1 - 1, s - 5 - 4 - 4 - 4 - 4) (bs + 0) (kI (i + 1)) := by
  have L := G_ctor_H (old := old) (bs := bs) (n := n) (S := va_up S n (.inl (1, dfl 1))) (sE := sE) (c := c - 1) (s := s - 5) vau_e (by omega) (by omega)
  rw [vau_s] at L
  have e1 : PH old bs (n + 5) (va_up (va_up (va_up (va_up (va_up S n (.inl (1, [.inl 0, .inr (some (bs + (n + 1))), .inr (some (bs + (n + 2))), .inr (some (bs + (n + 3))), .inr (some (bs + (n + 4)))]))) (n + 1) (.inr (1, 4, .inl (fun _ => 0)))) (n + 2) (.inr (0, 4, .inl (fun _ => 0)))) (n + 3) (.inr (0, 4, .inl (fun _ => 0)))) (n + 4) (.inr (0, 4, .inl (fun k => if 0 ≤ k ∧ k < 4 then -1 else 0)))) = PH old bs (n + 5) (sG bs S n) := rfl
  rw [e1] at L
  have c1 : ¬ (2 : Int32) ≤ kI i := fun q => by have := (kI_le (a := 2) (by omega) (by omega)).mp q; omega
  have e2 : ok_ (sG bs S n n) 1 = some () := by simp [sG, va_up, ok_]
  have e3 : aq_ (sG bs S n 3) 6 i (some (bs + n)) = some (.inr (6, 2, .inr (.inr (va_up f i (some (bs + n)))))) := by
    have : sG bs S n 3 = S 3 := by unfold sG; rw [vau_n (by omega), vau_n (by omega), vau_n (by omega), vau_n (by omega), vau_n (by omega)]
    rw [this, h1]
    exact aq_in hi (by omega) (by omega)
  simp only [fb_B_ctor_L98, if_neg c1, gR_H (show 0 < n by omega) h0, bn_s, nO_H (show 1 ≤ c by omega) (show 5 ≤ s by omega), PH_new, nZ_H, L, cV_s, oK_H (show n < n + 5 by omega) e2, aQs_H (show 3 < n + 5 by omega) e3, kI_add1]
def nn : Nat → Option Nat := fun _ => none
def f4 (bs : Nat) : Nat → Nat → Option Nat
  | 0 => nn
  | k + 1 => va_up (f4 bs k) k (some (bs + (4 + 3 * k)))
def f5_ (bs : Nat) : Nat → Nat → Option Nat
  | 0 => nn
  | k + 1 => va_up (f5_ bs k) k (some (bs + (16 + 2 * k)))
def f6_ (bs : Nat) : Nat → Nat → Option Nat
  | 0 => nn
  | k + 1 => va_up (f6_ bs k) k (some (bs + (24 + 5 * k)))
/-- the cells after k logs, then k producers, then k groups -/
def S4 (bs s1 : Nat) (S : Nat → HC) : Nat → Nat → HC
  | 0 => S
  | k + 1 => va_up (sL bs s1 (S4 bs s1 S k) (4 + 3 * k)) 1 (.inr (4, 4, .inr (.inr (f4 bs (k + 1)))))
def S5 (bs : Nat) (S : Nat → HC) : Nat → Nat → HC
  | 0 => S
  | k + 1 => va_up (sP bs (kI k) (S5 bs S k) (16 + 2 * k)) 2 (.inr (5, 4, .inr (.inr (f5_ bs (k + 1)))))
def S6 (bs : Nat) (S : Nat → HC) : Nat → Nat → HC
  | 0 => S
  | k + 1 => va_up (sG bs (S6 bs S k) (24 + 5 * k)) 3 (.inr (6, 2, .inr (.inr (f6_ bs (k + 1)))))
theorem S4_0 {s1 : Nat} : ∀ k, S4 bs s1 S k 0 = S 0 ∧ S4 bs s1 S k 2 = S 2 ∧ S4 bs s1 S k 3 = S 3
  | 0 => ⟨rfl, rfl, rfl⟩
  | k + 1 => by
    obtain ⟨a, b, c⟩ := S4_0 (s1 := s1) k
    refine ⟨?_, ?_, ?_⟩
    · rw [← a]; simp [S4, sL, va_up, show ¬ 0 = 4 + 3 * k by omega, show ¬ 0 = 4 + 3 * k + 1 by omega, show ¬ 0 = 4 + 3 * k + 2 by omega]
    · rw [← b]; simp [S4, sL, va_up, show ¬ 2 = 4 + 3 * k by omega, show ¬ 2 = 4 + 3 * k + 1 by omega, show ¬ 2 = 4 + 3 * k + 2 by omega]
    · rw [← c]; simp [S4, sL, va_up, show ¬ 3 = 4 + 3 * k by omega, show ¬ 3 = 4 + 3 * k + 1 by omega, show ¬ 3 = 4 + 3 * k + 2 by omega]
theorem S5_0 : ∀ k, S5 bs S k 0 = S 0 ∧ S5 bs S k 3 = S 3
  | 0 => ⟨rfl, rfl⟩
  | k + 1 => by
    obtain ⟨a, b⟩ := S5_0 k
    refine ⟨?_, ?_⟩
    · rw [← a]; simp [S5, sP, va_up, show ¬ 0 = 16 + 2 * k by omega, show ¬ 0 = 16 + 2 * k + 1 by omega]
    · rw [← b]; simp [S5, sP, va_up, show ¬ 3 = 16 + 2 * k by omega, show ¬ 3 = 16 + 2 * k + 1 by omega]
theorem S6_0 : ∀ k, S6 bs S k 0 = S 0
  | 0 => rfl
  | k + 1 => by
    rw [← S6_0 k]; simp [S6, sG, va_up, show ¬ 0 = 24 + 5 * k by omega, show ¬ 0 = 24 + 5 * k + 1 by omega, show ¬ 0 = 24 + 5 * k + 2 by omega, show ¬ 0 = 24 + 5 * k + 3 by omega, show ¬ 0 = 24 + 5 * k + 4 by omega]
theorem B45 (h0 : gr_ (S 0) 4 0 = some (bs + 1)) (h1 : S 1 = .inr (4, 4, .inr (.inr nn))) : ∀ (d fuel k c s : Nat), k + d = 4 → d < fuel → 40 + 3 * d ≤ c → 400 + 48 * d ≤ s → f_B_ctor_L45 bs sE fuel (PH old bs (4 + 3 * k) (S4 bs sE.1 S k)) (bs + (4 + 3 * k), c, s) (bs + 0) (kI k) = f_B_ctor_L71 bs sE FU (PH old bs 16 (S4 bs sE.1 S 4)) (bs + 16, c - 3 * d, s - 48 * d) (bs + 0) 0 := by
  intro d
  induction d with
  | zero =>
    intro fuel k c s hk hf hc hs
    obtain ⟨f, rfl⟩ : ∃ f, fuel = f + 1 := ⟨fuel - 1, by omega⟩
    obtain rfl : k = 4 := by omega
    simp only [f_B_ctor_L45, fb_B_ctor_L45, if_pos (k4l (show 4 ≤ 4 by omega) (by omega)), Nat.mul_zero, Nat.sub_zero]
  | succ d ih =>
    intro fuel k c s hk hf hc hs
    obtain ⟨f, rfl⟩ : ∃ f, fuel = f + 1 := ⟨fuel - 1, by omega⟩
    have e1 : S4 bs sE.1 S k 1 = .inr (4, 4, .inr (.inr (f4 bs k))) := by
      cases k with
      | zero => exact h1
      | succ k => simp [S4, va_up]
    show fb_B_ctor_L45 bs sE (f_B_ctor_L45 bs sE f) _ _ _ _ = _
    rw [B_L45 (by omega) (by omega) (by rw [(S4_0 k).1]; exact h0) e1 (by omega) (by omega)]
    have := ih f (k + 1) (c - 1 - 1 - 1) (s - 4 - 3 - 41) (by omega) (by omega) (by omega) (by omega)
    rw [show c - 1 - 1 - 1 - 3 * d = c - 3 * (d + 1) by omega, show s - 4 - 3 - 41 - 48 * d = s - 48 * (d + 1) by omega] at this
    exact this
theorem B71 (h0 : gr_ (S 0) 4 1 = some (bs + 2)) (h1 : S 2 = .inr (5, 4, .inr (.inr nn))) : ∀ (d fuel k c s : Nat), k + d = 4 → d < fuel → 40 + 2 * d ≤ c → 400 + 15 * d ≤ s → f_B_ctor_L71 bs sE fuel (PH old bs (16 + 2 * k) (S5 bs S k)) (bs + (16 + 2 * k), c, s) (bs + 0) (kI k) = f_B_ctor_L98 bs sE FU (PH old bs 24 (S5 bs S 4)) (bs + 24, c - 2 * d, s - 15 * d) (bs + 0) 0 := by
  intro d
  induction d with
  | zero =>
    intro fuel k c s hk hf hc hs
    obtain ⟨f, rfl⟩ : ∃ f, fuel = f + 1 := ⟨fuel - 1, by omega⟩
    obtain rfl : k = 4 := by omega
    simp only [f_B_ctor_L71, fb_B_ctor_L71, if_pos (k4l (show 4 ≤ 4 by omega) (by omega)), Nat.mul_zero, Nat.sub_zero]
  | succ d ih =>
    intro fuel k c s hk hf hc hs
    obtain ⟨f, rfl⟩ : ∃ f, fuel = f + 1 := ⟨fuel - 1, by omega⟩
    have e1 : S5 bs S k 2 = .inr (5, 4, .inr (.inr (f5_ bs k))) := by
      cases k with
      | zero => exact h1
      | succ k => simp [S5, va_up]
    show fb_B_ctor_L71 bs sE (f_B_ctor_L71 bs sE f) _ _ _ _ = _
    rw [B_L71 (by omega) (by omega) (by rw [(S5_0 k).1]; exact h0) e1 (by omega) (by omega)]
    have := ih f (k + 1) (c - 1 - 1) (s - 7 - 8) (by omega) (by omega) (by omega) (by omega)
    rw [show c - 1 - 1 - 2 * d = c - 2 * (d + 1) by omega, show s - 7 - 8 - 15 * d = s - 15 * (d + 1) by omega] at this
    exact this
theorem B98 (h0 : gr_ (S 0) 4 2 = some (bs + 3)) (h1 : S 3 = .inr (6, 2, .inr (.inr nn))) : ∀ (d fuel k c s : Nat), k + d = 2 → d < fuel → 40 + 5 * d ≤ c → 400 + 21 * d ≤ s → f_B_ctor_L98 bs sE fuel (PH old bs (24 + 5 * k) (S6 bs S k)) (bs + (24 + 5 * k), c, s) (bs + 0) (kI k) = some (.inl none, PH old bs 34 (S6 bs S 2), (bs + 34, c - 5 * d, s - 21 * d)) := by
  intro d
  induction d with
  | zero =>
    intro fuel k c s hk hf hc hs
    obtain ⟨f, rfl⟩ : ∃ f, fuel = f + 1 := ⟨fuel - 1, by omega⟩
    obtain rfl : k = 2 := by omega
    have c1 : (2 : Int32) ≤ kI 2 := by decide
    simp only [f_B_ctor_L98, fb_B_ctor_L98, if_pos c1, Nat.mul_zero, Nat.sub_zero]
  | succ d ih =>
    intro fuel k c s hk hf hc hs
    obtain ⟨f, rfl⟩ : ∃ f, fuel = f + 1 := ⟨fuel - 1, by omega⟩
    have e1 : S6 bs S k 3 = .inr (6, 2, .inr (.inr (f6_ bs k))) := by
      cases k with
      | zero => exact h1
      | succ k => simp [S6, va_up]
    show fb_B_ctor_L98 bs sE (f_B_ctor_L98 bs sE f) _ _ _ _ = _
    rw [B_L98 (by omega) (by omega) (by rw [S6_0 k]; exact h0) e1 (by omega) (by omega)]
    have := ih f (k + 1) (c - 1 - 1 - 1 - 1 - 1) (s - 5 - 4 - 4 - 4 - 4) (by omega) (by omega) (by omega) (by omega)
    rw [show c - 1 - 1 - 1 - 1 - 1 - 5 * d = c - 5 * (d + 1) by omega, show s - 5 - 4 - 4 - 4 - 4 - 21 * d = s - 21 * (d + 1) by omega] at this
    exact this
/-- the broker's own four cells -/
def S0 (bs : Nat) : Nat → HC := fun j => if j = 0 then .inl (4, [.inr (some (bs + 1)), .inr (some (bs + 2)), .inr (some (bs + 3)), .inl 0, .inl 0, .inl 0]) else if j = 1 then .inr (4, 4, .inr (.inr nn)) else if j = 2 then .inr (5, 4, .inr (.inr nn)) else .inr (6, 2, .inr (.inr nn))
def SB (bs s1 : Nat) : Nat → HC := S6 bs (S5 bs (S4 bs s1 (S0 bs) 4) 4) 2
theorem B_ctor_H {c s : Nat} (hS : S 0 = .inl (4, dfl 4)) (hc : 100 ≤ c) (hs : 1000 ≤ s) : f_B_ctor bs sE (PH old bs 1 S) (bs + 1, c, s) (bs + 0) = some (.inl none, PH old bs 34 (SB bs sE.1), (bs + 34, c - 33, s - 304)) := by
  have k45 := B45 (old := old) (bs := bs) (sE := sE) (S := S0 bs) rfl rfl 4 FU 0 (c - 1 - 1 - 1) (s - 4 - 4 - 2) (by omega) (by show _ < 1000; omega) (by omega) (by omega)
  have k71 := B71 (old := old) (bs := bs) (sE := sE) (S := S4 bs sE.1 (S0 bs) 4) (by rw [(S4_0 4).1]; rfl) (by rw [(S4_0 4).2.1]; rfl) 4 FU 0 (c - 1 - 1 - 1 - 3 * 4) (s - 4 - 4 - 2 - 48 * 4) (by omega) (by show _ < 1000; omega) (by omega) (by omega)
  have k98 := B98 (old := old) (bs := bs) (sE := sE) (S := S5 bs (S4 bs sE.1 (S0 bs) 4) 4) (by rw [(S5_0 4).1, (S4_0 4).1]; rfl) (by rw [(S5_0 4).2, (S4_0 4).2.2]; rfl) 2 FU 0 (c - 1 - 1 - 1 - 3 * 4 - 2 * 4) (s - 4 - 4 - 2 - 48 * 4 - 15 * 4) (by omega) (by show _ < 1000; omega) (by omega) (by omega)
  have z34 : ((bs + 34, c - 1 - 1 - 1 - 3 * 4 - 2 * 4 - 5 * 2, s - 4 - 4 - 2 - 48 * 4 - 15 * 4 - 21 * 2) : Z3) = (bs + 34, c - 33, s - 304) := by
    refine Prod.ext rfl (Prod.ext ?_ ?_)
    · show c - 1 - 1 - 1 - 3 * 4 - 2 * 4 - 5 * 2 = c - 33
      omega
    · show s - 4 - 4 - 2 - 48 * 4 - 15 * 4 - 21 * 2 = s - 304
      omega
  rw [z34] at k98
  have all : f_B_ctor_L45 bs sE FU (PH old bs 4 (S0 bs)) (bs + 4, c - 1 - 1 - 1, s - 4 - 4 - 2) (bs + 0) 0 = some (.inl none, PH old bs 34 (SB bs sE.1), (bs + 34, c - 33, s - 304)) := Eq.trans k45 (Eq.trans k71 k98)
  have all' : f_B_ctor_L45 bs sE FU (PH old bs 4 (S0 bs)) (bs + 4, c - 1 - 1 - 1, s - 4 - 4 - 2) bs 0 = some (.inl none, PH old bs 34 (SB bs sE.1), (bs + 34, c - 33, s - 304)) := all
  show f_B_ctor bs sE (PH old bs 1 S) (bs + 1, c, s) bs = _
  simp [f_B_ctor, nA4, nA2, nO_H (show 1 ≤ c by omega) (show 4 ≤ s by omega), nO_H (show 1 ≤ c - 1 by omega) (show 4 ≤ s - 4 by omega), nO_H (show 1 ≤ c - 1 - 1 by omega) (show 2 ≤ s - 4 - 4 by omega), PH_new, nZ_H, tn4, tn2, pV_Z, vau_e, vau_n, vau_s, hS, dfl_4, pc_in]
  refine Eq.trans (congrArg (fun h => f_B_ctor_L45 bs sE FU h _ bs 0) (PH_c (S' := S0 bs) fun j hj => ?_)) all'
  rcases (show j = 0 ∨ j = 1 ∨ j = 2 ∨ j = 3 by omega) with rfl | rfl | rfl | rfl <;> simp [va_up, S0] <;> rfl
end CT2
