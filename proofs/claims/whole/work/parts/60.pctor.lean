/-! the constructors -/
def PH (old : HH) (bs n : Nat) (S : Nat → HC) : HH := fun a => if a < bs then old a else if a < bs + n then some (S (a - bs)) else none
section CT1
variable {old : HH} {bs n : Nat} {S : Nat → HC} {sE : Nat × Nat}
theorem PH_at {j : Nat} (h : j < n) : PH old bs n S (bs + j) = some (S j) := by
  unfold PH
  rw [if_neg (by omega), if_pos (by omega), show bs + j - bs = j by omega]
theorem PH_new {c : HC} : va_up (PH old bs n S) (bs + n) (some c) = PH old bs (n + 1) (va_up S n c) := by
  funext a
  simp only [va_up, PH]
  by_cases h : a = bs + n
  · subst h
    rw [if_pos rfl, if_neg (by omega), if_pos (by omega), if_pos (by omega)]
  · rw [if_neg h]
    by_cases h1 : a < bs
    · rw [if_pos h1, if_pos h1]
    rw [if_neg h1, if_neg h1]
    by_cases h2 : a < bs + n
    · rw [if_pos h2, if_pos (by omega), if_neg (by omega)]
    · rw [if_neg h2, if_neg (by omega)]
theorem PH_put {c : HC} {j : Nat} (hj : j < n) : va_up (PH old bs n S) (bs + j) (some c) = PH old bs n (va_up S j c) := by
  funext a
  simp only [va_up, PH]
  by_cases h : a = bs + j
  · subst h
    rw [if_pos rfl, if_neg (by omega), if_pos (by omega), if_pos (by omega)]
  · rw [if_neg h]
    by_cases h1 : a < bs
    · rw [if_pos h1, if_pos h1]
    rw [if_neg h1, if_neg h1]
    by_cases h2 : a < bs + n
    · rw [if_pos h2, if_pos h2, if_neg (by omega)]
    · rw [if_neg h2, if_neg h2]
def pc_ (c : HC) (ci k : Nat) (v : HV) : Option HC := match c with
  | .inl (c', fs) => if c' = ci ∧ k < fs.length then some (.inl (ci, fs.set k v)) else none
  | _ => none
def gr_ (c : HC) (ci k : Nat) : Option Nat := match c with
  | .inl (c', fs) => if c' = ci then (match fs[k]? with
    | some (.inr (some q)) => some q
    | _ => none) else none
  | _ => none
def ai_ (c : HC) (kd : Nat) (i : Nat) (x : Int32) : Option HC := match c with
  | .inr (k, N, .inl f) => if k = kd ∧ i < N ∧ N ≤ 5000 then some (.inr (kd, N, .inl (upd f i x))) else none
  | _ => none
def aq_ (c : HC) (kd : Nat) (i : Nat) (x : Option Nat) : Option HC := match c with
  | .inr (k, N, .inr (.inr f)) => if k = kd ∧ i < N ∧ N ≤ 5000 ∧ k < 7 then some (.inr (kd, N, .inr (.inr (va_up f i x)))) else none
  | _ => none
def ok_ (c : HC) (ci : Nat) : Option Unit := match c with
  | .inl (c', _) => if c' = ci then some () else none
  | _ => none
theorem pV_H {j ci k : Nat} {v : HV} {c : HC} (hj : j < n) (hc : pc_ (S j) ci k v = some c) : pV bs (PH old bs n S) (bs + j) ci k v = some (PH old bs n (va_up S j c)) := by
  unfold pV
  rw [PH_at hj]
  unfold pc_ at hc
  split at hc
  · rename_i c' fs he
    rw [he]
    simp only
    split at hc
    · rename_i h1
      rw [if_pos ⟨h1.1, h1.2, by omega⟩]
      cases hc
      rw [PH_put hj]
    · cases hc
  · cases hc
theorem gR_H {j ci k q : Nat} (hj : j < n) (hc : gr_ (S j) ci k = some q) : gR (PH old bs n S) (bs + j) ci k = some q := by
  unfold gR gV
  rw [PH_at hj]
  unfold gr_ at hc
  split at hc
  · rename_i c' fs he
    rw [he]
    simp only
    split at hc
    · rename_i h1
      rw [if_pos h1]
      split at hc
      · rename_i q' hq
        cases hc
        rw [hq]
      · cases hc
    · cases hc
  · cases hc
theorem oK_H {j ci : Nat} (hj : j < n) (hc : ok_ (S j) ci = some ()) : oK (PH old bs n S) (bs + j) ci = some () := by
  unfold oK
  rw [PH_at hj]
  unfold ok_ at hc
  split at hc
  · rename_i c' fs he
    rw [he]
    exact hc
  · cases hc
theorem aIs_H {j kd i : Nat} {x : Int32} {c : HC} (hj : j < n) (hc : ai_ (S j) kd i x = some c) : aIs bs (PH old bs n S) (bs + j) kd (kI i) x = some (PH old bs n (va_up S j c)) := by
  unfold ai_ at hc
  split at hc
  · rename_i k N f he
    split at hc
    · rename_i h1
      obtain ⟨rfl, h2, h3⟩ := h1
      cases hc
      have e : PH old bs n S (bs + j) = some (.inr (k, N, .inl f)) := by rw [PH_at hj, he]
      rw [aIs_o e h2 h3 (by omega), PH_put hj]
    · cases hc
  · cases hc
theorem aQs_H {j kd i : Nat} {x : Option Nat} {c : HC} (hj : j < n) (hc : aq_ (S j) kd i x = some c) : aQs bs (PH old bs n S) (bs + j) kd (kI i) x = some (PH old bs n (va_up S j c)) := by
  unfold aq_ at hc
  split at hc
  · rename_i k N f he
    split at hc
    · rename_i h1
      obtain ⟨rfl, h2, h3, h4⟩ := h1
      cases hc
      have e : PH old bs n S (bs + j) = some (.inr (k, N, .inr (.inr f))) := by rw [PH_at hj, he]
      rw [aQs_o e h4 h2 h3 (by omega), PH_put hj]
    · cases hc
  · cases hc
theorem fill_L {j N : Nat} {x : Int32} {z : Z3} (hj : j < n) (hN : N ≤ 500) : ∀ (d fuel i : Nat) (S : Nat → HC) (f : Nat → Int32), i + d = N → d < fuel → S j = .inr (0, N, .inl f) → f_R_fill_L5 bs sE fuel (PH old bs n S) z (bs + j) x (kI i) (kI N) = some (.inl none, PH old bs n (va_up S j (.inr (0, N, .inl (fun k => if i ≤ k ∧ k < N then x else f k)))), z) := by
  intro d
  induction d with
  | zero =>
    intro fuel i S f hi hf hS
    obtain ⟨m, rfl⟩ : ∃ m, fuel = m + 1 := ⟨fuel - 1, by omega⟩
    have c : kI N ≤ kI i := (kI_le (by omega) (by omega)).mpr (by omega)
    have e : (fun k => if i ≤ k ∧ k < N then x else f k) = f := by
      funext k
      rw [if_neg (by omega)]
    have e2 : va_up S j (.inr (0, N, .inl f)) = S := by
      funext a
      unfold va_up
      by_cases h : a = j
      · rw [if_pos h, h, hS]
      · rw [if_neg h]
    simp only [f_R_fill_L5, fb_R_fill_L5, if_pos c]
    rw [e, e2]
  | succ d ih =>
    intro fuel i S f hi hf hS
    obtain ⟨m, rfl⟩ : ∃ m, fuel = m + 1 := ⟨fuel - 1, by omega⟩
    have c : ¬ kI N ≤ kI i := by rw [kI_le (by omega) (by omega)]; omega
    have h1 : ai_ (S j) 0 i x = some (.inr (0, N, .inl (upd f i x))) := by
      rw [hS]
      simp only [ai_]
      rw [if_pos ⟨trivial, by omega, by omega⟩]
    simp only [f_R_fill_L5, fb_R_fill_L5, if_neg c, aIs_H hj h1, bn_s, kI_add1]
    rw [ih m (i + 1) _ (upd f i x) (by omega) (by omega) vau_e, vau_s]
    congr 4
    funext a
    congr 5
    funext k
    unfold upd
    by_cases h2 : i + 1 ≤ k ∧ k < N
    · rw [if_pos h2, if_pos (by omega)]
    · rw [if_neg h2]
      by_cases h3 : k = i
      · rw [if_pos h3, if_pos (by omega)]
      · rw [if_neg h3, if_neg (by omega)]
theorem R_fill_H {j N : Nat} {x : Int32} {z : Z3} {f : Nat → Int32} (hj : j < n) (hN : N ≤ 500) (hS : S j = .inr (0, N, .inl f)) : f_R_fill bs sE (PH old bs n S) z (bs + j) x = some (.inl none, PH old bs n (va_up S j (.inr (0, N, .inl (fun k => if 0 ≤ k ∧ k < N then x else f k)))), z) := by
  have e : PH old bs n S (bs + j) = some (.inr (0, N, .inl f)) := by rw [PH_at hj, hS]
  simp only [f_R_fill, aN_o e (show 0 < 9 by omega), bn_s]
  exact fill_L hj hN N FU 0 S f (by omega) (by show _ < 1000; omega) hS
theorem pV_M {j ci k : Nat} {v : HV} (hj : j < n) : pV bs (PH old bs n S) (bs + j) ci k v = (pc_ (S j) ci k v).map (fun c => PH old bs n (va_up S j c)) := by
  cases h : pc_ (S j) ci k v with
  | some c => rw [pV_H hj h]; rfl
  | none =>
    unfold pV
    rw [PH_at hj]
    unfold pc_ at h
    split at h
    · rename_i c' fs he
      rw [he]
      simp only
      split at h
      · cases h
      · rename_i h1
        rw [if_neg (fun q => h1 ⟨q.1, q.2.1⟩)]
        rfl
    · rename_i h1
      split
      · rename_i c' fs he
        exact absurd (Option.some.inj he) (by intro q; exact h1 _ _ q)
      · rfl
theorem nZ_H {m c s N : Nat} : nZ (bs + m, c, s) N = (bs + (m + 1), c - 1, s - N) := rfl
theorem nO_H {a c s N : Nat} (hc : 1 ≤ c) (hs : N ≤ s) : nO (a, c, s) N = some () := nO_r hc hs
theorem dfl_1 : dfl 1 = [.inl 0, .inr none, .inr none, .inr none, .inr none] := rfl
theorem dfl_2 : dfl 2 = [.inr none, .inr none, .inl 0, .inl 0] := rfl
theorem dfl_3 : dfl 3 = [.inl 0, .inl 0, .inl 0, .inl 0, .inl 0, .inl 0, .inr none] := rfl
theorem dfl_4 : dfl 4 = [.inr none, .inr none, .inr none, .inl 0, .inl 0, .inl 0] := rfl
theorem dfl_5 : dfl 5 = [.inl 0, .inr none, .inl 0] := rfl
theorem tn41 : ((41 : Int32).toNatClampNeg) = 41 := rfl
theorem tn8 : ((8 : Int32).toNatClampNeg) = 8 := rfl
theorem tn4 : ((4 : Int32).toNatClampNeg) = 4 := rfl
theorem tn2 : ((2 : Int32).toNatClampNeg) = 2 := rfl
theorem nA41 : nA 41 41 = some () := rfl
theorem nA8 : nA 8 8 = some () := rfl
theorem nA4 : nA 4 4 = some () := rfl
theorem nA2 : nA 2 2 = some () := rfl
theorem L_ctor_H {c s : Nat} (hS : S n = .inl (2, dfl 2)) (hc : 10 ≤ c) (hs : 100 ≤ s) : f_L_ctor bs sE (PH old bs (n + 1) S) (bs + (n + 1), c, s) (bs + n) = some (.inl none, PH old bs (n + 3) (va_up (va_up (va_up S n (.inl (2, [.inr (some (bs + (n + 1))), .inr (some (bs + (n + 2))), .inl 0, .inl 0]))) (n + 1) (.inl (5, [.inl 0, .inr (some sE.1), .inl 0]))) (n + 2) (.inr (0, 41, .inl (fun k => if 0 ≤ k ∧ k < 41 then -1 else 0)))), (bs + (n + 3), c - 1 - 1, s - 3 - 41)) := by
  have hF : ∀ (S : Nat → HC) (z : Z3), S (n + 2) = .inr (0, 41, .inl (fun _ => 0)) → f_R_fill bs sE (PH old bs (n + 1 + 1 + 1) S) z (bs + (n + 1 + 1)) (-1) = _ := fun S z h => R_fill_H (sE := sE) (z := z) (x := -1) (j := n + 2) (n := n + 3) (by omega) (by omega) h
  have gR1 : ∀ (S : Nat → HC) (q : Nat), S n = .inl (2, [.inr (some (bs + (n + 1))), .inr (some q), .inl 0, .inl 0]) → gR (PH old bs (n + 1 + 1 + 1) S) (bs + n) 2 1 = some q := fun S q h => gR_H (by omega) (by rw [h]; rfl)
  simp only [f_L_ctor, f_A_ctor, f_AL_ctor, f_AC_ctor, nO_H (show 1 ≤ c by omega) (show 3 ≤ s by omega), bn_s, PH_new, nZ_H, cV_s, nA41, nO_H (show 1 ≤ c - 1 by omega) (show 41 ≤ s - 3 by omega), tn41, pV_M (show n < n + 1 + 1 by omega), pV_M (show n + 1 < n + 1 + 1 by omega), pV_M (show n < n + 1 + 1 + 1 by omega), vau_e, vau_n (show n ≠ n + 1 by omega), vau_n (show n ≠ n + 1 + 1 by omega), hS, dfl_2, dfl_5, pc_, List.length, List.set, Option.map, if_true, and_self]
  trace_state
  sorry
end CT1
