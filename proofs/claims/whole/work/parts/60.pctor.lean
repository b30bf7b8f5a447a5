/-! the constructors -/
def PH (old : HH) (bs n : Nat) (S : Nat → HC) : HH := fun a => if a < bs then old a else if a < bs + n then some (S (a - bs)) else none
section CT1
variable {old : HH} {bs n : Nat} {S : Nat → HC} {sE : Nat × Nat}
theorem PH_at {j : Nat} (h : j < n) : PH old bs n S (bs + j) = some (S j) := by
  unfold PH
  rw [if_neg (by omega), if_pos (by omega), show bs + j - bs = j by omega]
theorem PH_new {c : HC} : va_up (PH old bs n S) (bs + n) (some c) = PH old bs (n + 1) (va_up S n c) := by
  funext a
  simp only [va_up, PH]
  by_cases h : a = bs + n
  · subst h
    rw [if_pos rfl, if_neg (by omega), if_pos (by omega), if_pos (by omega)]
  · rw [if_neg h]
    by_cases h1 : a < bs
    · rw [if_pos h1, if_pos h1]
    rw [if_neg h1, if_neg h1]
    by_cases h2 : a < bs + n
    · rw [if_pos h2, if_pos (by omega), if_neg (by omega)]
    · rw [if_neg h2, if_neg (by omega)]
theorem PH_put {c : HC} {j : Nat} (hj : j < n) : va_up (PH old bs n S) (bs + j) (some c) = PH old bs n (va_up S j c) := by
  funext a
  simp only [va_up, PH]
  by_cases h : a = bs + j
  · subst h
    rw [if_pos rfl, if_neg (by omega), if_pos (by omega), if_pos (by omega)]
  · rw [if_neg h]
    by_cases h1 : a < bs
    · rw [if_pos h1, if_pos h1]
    rw [if_neg h1, if_neg h1]
    by_cases h2 : a < bs + n
    · rw [if_pos h2, if_pos h2, if_neg (by omega)]
    · rw [if_neg h2, if_neg h2]
theorem PH_c {S' : Nat → HC} (h : ∀ j, j < n → S j = S' j) : PH old bs n S = PH old bs n S' := by
  funext a
  unfold PH
  by_cases h1 : a < bs
  · rw [if_pos h1, if_pos h1]
  rw [if_neg h1, if_neg h1]
  by_cases h2 : a < bs + n
  · rw [if_pos h2, if_pos h2, h _ (by omega)]
  · rw [if_neg h2, if_neg h2]
def pc_ (c : HC) (ci k : Nat) (v : HV) : Option HC := match c with
  | .inl (c', fs) => if c' = ci ∧ k < fs.length then some (.inl (ci, fs.set k v)) else none
  | _ => none
def gr_ (c : HC) (ci k : Nat) : Option Nat := match c with
  | .inl (c', fs) => if c' = ci then (match fs[k]? with
    | some (.inr (some q)) => some q
    | _ => none) else none
  | _ => none
def ai_ (c : HC) (kd : Nat) (i : Nat) (x : Int32) : Option HC := match c with
  | .inr (k, N, .inl f) => if k = kd ∧ i < N ∧ N ≤ 5000 then some (.inr (kd, N, .inl (upd f i x))) else none
  | _ => none
def aq_ (c : HC) (kd : Nat) (i : Nat) (x : Option Nat) : Option HC := match c with
  | .inr (k, N, .inr (.inr f)) => if k = kd ∧ i < N ∧ N ≤ 5000 ∧ k < 7 then some (.inr (kd, N, .inr (.inr (va_up f i x)))) else none
  | _ => none
def ok_ (c : HC) (ci : Nat) : Option Unit := match c with
  | .inl (c', _) => if c' = ci then some () else none
  | _ => none
theorem pV_H {j ci k : Nat} {v : HV} {c : HC} (hj : j < n) (hc : pc_ (S j) ci k v = some c) : pV bs (PH old bs n S) (bs + j) ci k v = some (PH old bs n (va_up S j c)) := by
  unfold pV
  rw [PH_at hj]
  unfold pc_ at hc
  split at hc
  · rename_i c' fs he
    rw [he]
    simp only
    split at hc
    · rename_i h1
      rw [if_pos ⟨h1.1, h1.2, by omega⟩]
      cases hc
      rw [PH_put hj]
    · cases hc
  · cases hc
theorem gR_H {j ci k q : Nat} (hj : j < n) (hc : gr_ (S j) ci k = some q) : gR (PH old bs n S) (bs + j) ci k = some q := by
  unfold gR gV
  rw [PH_at hj]
  unfold gr_ at hc
  split at hc
  · rename_i c' fs he
    rw [he]
    simp only
    split at hc
    · rename_i h1
      rw [if_pos h1]
      split at hc
      · rename_i q' hq
        cases hc
        rw [hq]
      · cases hc
    · cases hc
  · cases hc
theorem oK_H {j ci : Nat} (hj : j < n) (hc : ok_ (S j) ci = some ()) : oK (PH old bs n S) (bs + j) ci = some () := by
  unfold oK
  rw [PH_at hj]
  unfold ok_ at hc
  split at hc
  · rename_i c' fs he
    rw [he]
    exact hc
  · cases hc
theorem aIs_H {j kd i : Nat} {x : Int32} {c : HC} (hj : j < n) (hc : ai_ (S j) kd i x = some c) : aIs bs (PH old bs n S) (bs + j) kd (kI i) x = some (PH old bs n (va_up S j c)) := by
  unfold ai_ at hc
  split at hc
  · rename_i k N f he
    split at hc
    · rename_i h1
      obtain ⟨rfl, h2, h3⟩ := h1
      cases hc
      have e : PH old bs n S (bs + j) = some (.inr (k, N, .inl f)) := by rw [PH_at hj, he]
      rw [aIs_o e h2 h3 (by omega), PH_put hj]
    · cases hc
  · cases hc
theorem aQs_H {j kd i : Nat} {x : Option Nat} {c : HC} (hj : j < n) (hc : aq_ (S j) kd i x = some c) : aQs bs (PH old bs n S) (bs + j) kd (kI i) x = some (PH old bs n (va_up S j c)) := by
  unfold aq_ at hc
  split at hc
  · rename_i k N f he
    split at hc
    · rename_i h1
      obtain ⟨rfl, h2, h3, h4⟩ := h1
      cases hc
      have e : PH old bs n S (bs + j) = some (.inr (k, N, .inr (.inr f))) := by rw [PH_at hj, he]
      rw [aQs_o e h4 h2 h3 (by omega), PH_put hj]
    · cases hc
  · cases hc
theorem fill_L {j N : Nat} {x : Int32} {z : Z3} (hj : j < n) (hN : N ≤ 500) : ∀ (d fuel i : Nat) (S : Nat → HC) (f : Nat → Int32), i + d = N → d < fuel → S j = .inr (0, N, .inl f) → f_R_fill_L5 bs sE fuel (PH old bs n S) z (bs + j) x (kI i) (kI N) = some (.inl none, PH old bs n (va_up S j (.inr (0, N, .inl (fun k => if i ≤ k ∧ k < N then x else f k)))), z) := by
  intro d
  induction d with
  | zero =>
    intro fuel i S f hi hf hS
    obtain ⟨m, rfl⟩ : ∃ m, fuel = m + 1 := ⟨fuel - 1, by omega⟩
    have c : kI N ≤ kI i := (kI_le (by omega) (by omega)).mpr (by omega)
    have e : (fun k => if i ≤ k ∧ k < N then x else f k) = f := by
      funext k
      rw [if_neg (by omega)]
    have e2 : va_up S j (.inr (0, N, .inl f)) = S := by
      funext a
      unfold va_up
      by_cases h : a = j
      · rw [if_pos h, h, hS]
      · rw [if_neg h]
    simp only [f_R_fill_L5, fb_R_fill_L5, if_pos c]
    rw [e, e2]
  | succ d ih =>
    intro fuel i S f hi hf hS
    obtain ⟨m, rfl⟩ : ∃ m, fuel = m + 1 := ⟨fuel - 1, by omega⟩
    have c : ¬ kI N ≤ kI i := by rw [kI_le (by omega) (by omega)]; omega
    have h1 : ai_ (S j) 0 i x = some (.inr (0, N, .inl (upd f i x))) := by
      rw [hS]
      simp only [ai_]
      rw [if_pos ⟨trivial, by omega, by omega⟩]
    simp only [f_R_fill_L5, fb_R_fill_L5, if_neg c, aIs_H hj h1, bn_s, kI_add1]
    rw [ih m (i + 1) _ (upd f i x) (by omega) (by omega) vau_e, vau_s]
    congr 4
    funext a
    congr 5
    funext k
    unfold upd
    by_cases h2 : i + 1 ≤ k ∧ k < N
    · rw [if_pos h2, if_pos (by omega)]
    · rw [if_neg h2]
      by_cases h3 : k = i
      · rw [if_pos h3, if_pos (by omega)]
      · rw [if_neg h3, if_neg (by omega)]
theorem R_fill_H {j N : Nat} {x : Int32} {z : Z3} {f : Nat → Int32} (hj : j < n) (hN : N ≤ 500) (hS : S j = .inr (0, N, .inl f)) : f_R_fill bs sE (PH old bs n S) z (bs + j) x = some (.inl none, PH old bs n (va_up S j (.inr (0, N, .inl (fun k => if 0 ≤ k ∧ k < N then x else f k)))), z) := by
  have e : PH old bs n S (bs + j) = some (.inr (0, N, .inl f)) := by rw [PH_at hj, hS]
  simp only [f_R_fill, aN_o e (show 0 < 9 by omega), bn_s]
  exact fill_L hj hN N FU 0 S f (by omega) (by show _ < 1000; omega) hS
theorem pV_M {j ci k : Nat} {v : HV} (hj : j < n) : pV bs (PH old bs n S) (bs + j) ci k v = (pc_ (S j) ci k v).map (fun c => PH old bs n (va_up S j c)) := by
  cases h : pc_ (S j) ci k v with
  | some c => rw [pV_H hj h]; rfl
  | none =>
    unfold pV
    rw [PH_at hj]
    unfold pc_ at h
    split at h
    · rename_i c' fs he
      rw [he]
      simp only
      split at h
      · cases h
      · rename_i h1
        rw [if_neg (fun q => h1 ⟨q.1, q.2.1⟩)]
        rfl
    · rename_i h1
      split
      · rename_i c' fs he
        exact absurd (Option.some.inj he) (by intro q; exact h1 _ _ q)
      · rfl
theorem nZ_H {m c s N : Nat} : nZ (bs + m, c, s) N = (bs + (m + 1), c - 1, s - N) := rfl
theorem nO_H {a c s N : Nat} (hc : 1 ≤ c) (hs : N ≤ s) : nO (a, c, s) N = some () := nO_r hc hs
theorem dfl_1 : dfl 1 = [.inl 0, .inr none, .inr none, .inr none, .inr none] := rfl
theorem dfl_2 : dfl 2 = [.inr none, .inr none, .inl 0, .inl 0] := rfl
theorem dfl_3 : dfl 3 = [.inl 0, .inl 0, .inl 0, .inl 0, .inl 0, .inl 0, .inr none] := rfl
theorem dfl_4 : dfl 4 = [.inr none, .inr none, .inr none, .inl 0, .inl 0, .inl 0] := rfl
theorem dfl_5 : dfl 5 = [.inl 0, .inr none, .inl 0] := rfl
theorem tn41 : ((41 : Int32).toNatClampNeg) = 41 := rfl
theorem tn8 : ((8 : Int32).toNatClampNeg) = 8 := rfl
theorem tn4 : ((4 : Int32).toNatClampNeg) = 4 := rfl
theorem tn2 : ((2 : Int32).toNatClampNeg) = 2 := rfl
theorem nA41 : nA 41 41 = some () := rfl
theorem nA8 : nA 8 8 = some () := rfl
theorem nA4 : nA 4 4 = some () := rfl
theorem nA2 : nA 2 2 = some () := rfl
theorem pc_in {ci k : Nat} {fs : List HV} {v : HV} (h : k < fs.length) : pc_ (.inl (ci, fs)) ci k v = some (.inl (ci, fs.set k v)) := by
  simp [pc_, h]
theorem L_ctor_H {c s : Nat} (hS : S n = .inl (2, dfl 2)) (hc : 10 ≤ c) (hs : 100 ≤ s) : f_L_ctor bs sE (PH old bs (n + 1) S) (bs + (n + 1), c, s) (bs + n) = some (.inl none, PH old bs (n + 3) (va_up (va_up (va_up S n (.inl (2, [.inr (some (bs + (n + 1))), .inr (some (bs + (n + 2))), .inl 0, .inl 0]))) (n + 1) (.inl (5, [.inl 0, .inr (some sE.1), .inl 0]))) (n + 2) (.inr (0, 41, .inl (fun k => if 0 ≤ k ∧ k < 41 then -1 else 0)))), (bs + (n + 3), c - 1 - 1, s - 3 - 41)) := by
  have hF : ∀ (S : Nat → HC) (z : Z3), S (n + 2) = .inr (0, 41, .inl (fun _ => 0)) → f_R_fill bs sE (PH old bs (n + 1 + 1 + 1) S) z (bs + (n + 1 + 1)) (-1) = _ := fun S z h => R_fill_H (sE := sE) (z := z) (x := -1) (j := n + 2) (n := n + 3) (by omega) (by omega) h
  have gR1 : ∀ (S : Nat → HC) (q : Nat), S n = .inl (2, [.inr (some (bs + (n + 1))), .inr (some q), .inl 0, .inl 0]) → gR (PH old bs (n + 1 + 1 + 1) S) (bs + n) 2 1 = some q := fun S q h => gR_H (by omega) (by rw [h]; rfl)
  have a1 : n < n + 1 + 1 := by omega
  have a2 : n < n + 1 + 1 + 1 := by omega
  have b1 : n ≠ n + 1 := by omega
  have b2 : n ≠ n + 1 + 1 := by omega
  simp [f_L_ctor, f_A_ctor, f_AL_ctor, f_AC_ctor, nO_H (show 1 ≤ c by omega) (show 3 ≤ s by omega), PH_new, nZ_H, cV_s, nA41, nO_H (show 1 ≤ c - 1 by omega) (show 41 ≤ s - 3 by omega), tn41, pV_M, vau_e, vau_n, vau_s, hS, dfl_2, dfl_5, pc_in, a1, a2, b1, b2]
  rw [gR1 _ _ vau_e]
  simp only [bn_s]
  rw [hF _ _ (by simp [vau_e, vau_n])]
  simp only [cV_s]
  refine congrArg some (Prod.ext rfl (Prod.ext (PH_c fun j hj => ?_) rfl))
  rcases (show j < n ∨ j = n ∨ j = n + 1 ∨ j = n + 2 by omega) with h | rfl | rfl | rfl
  · simp [va_up, show j ≠ n by omega, show j ≠ n + 1 by omega, show j ≠ n + 2 by omega]
  · simp [va_up]
  · simp [va_up]
  · simp [va_up]
theorem P_ctor_H {c s : Nat} {x : Int32} (hS : S n = .inl (3, dfl 3)) (hc : 10 ≤ c) (hs : 100 ≤ s) : f_P_ctor bs sE (PH old bs (n + 1) S) (bs + (n + 1), c, s) (bs + n) x = some (.inl none, PH old bs (n + 2) (va_up (va_up S n (.inl (3, [.inl x, .inl (-1), .inl (-1), .inl 0, .inl 0, .inl 0, .inr (some (bs + (n + 1)))]))) (n + 1) (.inr (0, 8, .inl (fun k => if 0 ≤ k ∧ k < 8 then -1 else 0)))), (bs + (n + 2), c - 1, s - 8)) := by
  have hF : ∀ (S : Nat → HC) (z : Z3), S (n + 1) = .inr (0, 8, .inl (fun _ => 0)) → f_R_fill bs sE (PH old bs (n + 1 + 1) S) z (bs + (n + 1)) (-1) = _ := fun S z h => R_fill_H (sE := sE) (z := z) (x := -1) (j := n + 1) (n := n + 2) (by omega) (by omega) h
  have gR1 : ∀ (S : Nat → HC) (q : Nat), S n = .inl (3, [.inl x, .inl (-1), .inl (-1), .inl 0, .inl 0, .inl 0, .inr (some q)]) → gR (PH old bs (n + 1 + 1) S) (bs + n) 3 6 = some q := fun S q h => gR_H (by omega) (by rw [h]; rfl)
  have a1 : n < n + 1 + 1 := by omega
  have b1 : n ≠ n + 1 := by omega
  simp [f_P_ctor, nO_H (show 1 ≤ c by omega) (show 8 ≤ s by omega), PH_new, nZ_H, cV_s, nA8, tn8, pV_M, vau_e, vau_n, vau_s, hS, dfl_3, pc_in, a1, b1]
  rw [gR1 _ _ vau_e]
  simp only [bn_s]
  rw [hF _ _ (by simp [vau_e, vau_n])]
  simp only [cV_s]
  refine congrArg some (Prod.ext rfl (Prod.ext (PH_c fun j hj => ?_) rfl))
  rcases (show j < n ∨ j = n ∨ j = n + 1 by omega) with h | rfl | rfl
  · simp [va_up, show j ≠ n by omega, show j ≠ n + 1 by omega]
  · simp [va_up]
  · simp [va_up]
theorem G_ctor_H {c s : Nat} (hS : S n = .inl (1, dfl 1)) (hc : 10 ≤ c) (hs : 100 ≤ s) : f_G_ctor bs sE (PH old bs (n + 1) S) (bs + (n + 1), c, s) (bs + n) = some (.inl none, PH old bs (n + 5) (va_up (va_up (va_up (va_up (va_up S n (.inl (1, [.inl 0, .inr (some (bs + (n + 1))), .inr (some (bs + (n + 2))), .inr (some (bs + (n + 3))), .inr (some (bs + (n + 4)))]))) (n + 1) (.inr (1, 4, .inl (fun _ => 0)))) (n + 2) (.inr (0, 4, .inl (fun _ => 0)))) (n + 3) (.inr (0, 4, .inl (fun _ => 0)))) (n + 4) (.inr (0, 4, .inl (fun k => if 0 ≤ k ∧ k < 4 then -1 else 0)))), (bs + (n + 5), c - 1 - 1 - 1 - 1, s - 4 - 4 - 4 - 4)) := by
  have hF : ∀ (S : Nat → HC) (z : Z3), S (n + 4) = .inr (0, 4, .inl (fun _ => 0)) → f_R_fill bs sE (PH old bs (n + 1 + 1 + 1 + 1 + 1) S) z (bs + (n + 1 + 1 + 1 + 1)) (-1) = _ := fun S z h => R_fill_H (sE := sE) (z := z) (x := -1) (j := n + 4) (n := n + 5) (by omega) (by omega) h
  have gR1 : ∀ (S : Nat → HC) (q : Nat), S n = .inl (1, [.inl 0, .inr (some (bs + (n + 1))), .inr (some (bs + (n + 1 + 1))), .inr (some (bs + (n + 1 + 1 + 1))), .inr (some q)]) → gR (PH old bs (n + 1 + 1 + 1 + 1 + 1) S) (bs + n) 1 4 = some q := fun S q h => gR_H (by omega) (by rw [h]; rfl)
  have a0 : n < n + 1 := by omega
  have a1 : n < n + 1 + 1 := by omega
  have a2 : n < n + 1 + 1 + 1 := by omega
  have a3 : n < n + 1 + 1 + 1 + 1 := by omega
  have a4 : n < n + 1 + 1 + 1 + 1 + 1 := by omega
  have b1 : n ≠ n + 1 := by omega
  have b2 : n ≠ n + 1 + 1 := by omega
  have b3 : n ≠ n + 1 + 1 + 1 := by omega
  have b4 : n ≠ n + 1 + 1 + 1 + 1 := by omega
  simp [f_G_ctor, nO_H (show 1 ≤ c by omega) (show 4 ≤ s by omega), nO_H (show 1 ≤ c - 1 by omega) (show 4 ≤ s - 4 by omega), nO_H (show 1 ≤ c - 1 - 1 by omega) (show 4 ≤ s - 4 - 4 by omega), nO_H (show 1 ≤ c - 1 - 1 - 1 by omega) (show 4 ≤ s - 4 - 4 - 4 by omega), PH_new, nZ_H, cV_s, nA4, tn4, pV_M, vau_e, vau_n, vau_s, hS, dfl_1, pc_in, a0, a1, a2, a3, a4, b1, b2, b3, b4]
  rw [gR1 _ _ vau_e]
  simp only [bn_s]
  rw [hF _ _ (by simp [vau_e, vau_n])]
  simp only [cV_s]
  refine congrArg some (Prod.ext rfl (Prod.ext (PH_c fun j hj => ?_) rfl))
  rcases (show j < n ∨ j = n ∨ j = n + 1 ∨ j = n + 2 ∨ j = n + 3 ∨ j = n + 4 by omega) with h | rfl | rfl | rfl | rfl | rfl
  · simp [va_up, show j ≠ n by omega, show j ≠ n + 1 by omega, show j ≠ n + 2 by omega, show j ≠ n + 3 by omega, show j ≠ n + 4 by omega]
  · simp [va_up]
  · simp [va_up]
  · simp [va_up]
  · simp [va_up]
  · simp [va_up]
end CT1
