/-! the model's constructor -/
def mC (bs : Nat) : HC := .inl (6, [.inl 0, .inr (some (bs + 35)), .inr (some (bs + 36)), .inr (some (bs + 37)), .inr (some (bs + 38)), .inr (some (bs + 39)), .inr (some (bs + 40)), .inr (some (bs + 41)), .inr (some (bs + 42)), .inr (some (bs + 43)), .inr (some (bs + 44)), .inr (some (bs + 45)), .inr (some (bs + 46)), .inr (some (bs + 47)), .inr (some (bs + 48)), .inr (some (bs + 49)), .inl 0, .inr (some (bs + 50)), .inr (some (bs + 51)), .inr (some (bs + 52)), .inr (some (bs + 53)), .inr (some (bs + 54)), .inl 0, .inl 0])
/-- the model's cells behind the broker's -/
def SM (bs : Nat) (S : Nat → HC) : Nat → HC := fun j => if j < 34 then S j else if j = 34 then mC bs else if j < 41 then .inr (0, 2080, .inl (fun _ => 0)) else if j < 49 then .inr (0, 4, .inl (fun _ => 0)) else if j = 49 then .inr (0, 32, .inl (fun _ => 0)) else if j = 50 then .inr (0, 2, .inl (fun _ => 0)) else if j = 51 then .inr (1, 8, .inl (fun _ => 0)) else .inr (0, 8, .inl (fun _ => 0))
section CT3
variable {old : HH} {bs : Nat} {S : Nat → HC} {sE : Nat × Nat}
theorem dfl_6 : dfl 6 = [.inl 0, .inr none, .inr none, .inr none, .inr none, .inr none, .inr none, .inr none, .inr none, .inr none, .inr none, .inr none, .inr none, .inr none, .inr none, .inr none, .inl 0, .inr none, .inr none, .inr none, .inr none, .inr none, .inl 0, .inl 0] := rfl
theorem tn2080 : ((2080 : Int32).toNatClampNeg) = 2080 := rfl
theorem tn32 : ((32 : Int32).toNatClampNeg) = 32 := rfl
theorem nA2080 : nA 2080 2080 = some () := rfl
theorem nA32 : nA 32 32 = some () := rfl
theorem M183 {z : Z3} (h34 : S 34 = mC bs) : ∀ (d fuel i : Nat) (f g : Nat → Int32), i + d = 8 → d < fuel → f_M_ctor_L183 bs sE fuel (PH old bs 55 (va_up (va_up S 53 (.inr (0, 8, .inl f))) 54 (.inr (0, 8, .inl g)))) z (bs + 34) (kI i) = some (.inl none, PH old bs 55 (va_up (va_up S 53 (.inr (0, 8, .inl (fun k => if i ≤ k ∧ k < 8 then -1 else f k)))) 54 (.inr (0, 8, .inl (fun k => if i ≤ k ∧ k < 8 then -1 else g k)))), z) := by
  intro d
  induction d with
  | zero =>
    intro fuel i f g hi hf
    obtain ⟨m, rfl⟩ : ∃ m, fuel = m + 1 := ⟨fuel - 1, by omega⟩
    have c : (8 : Int32) ≤ kI i := (kI_le (a := 8) (by omega) (by omega)).mpr (by omega)
    have e : ∀ f : Nat → Int32, (fun k => if i ≤ k ∧ k < 8 then -1 else f k) = f := fun f => by
      funext k
      rw [if_neg (by omega)]
    simp only [f_M_ctor_L183, fb_M_ctor_L183, if_pos c]
    rw [e, e]
  | succ d ih =>
    intro fuel i f g hi hf
    obtain ⟨m, rfl⟩ : ∃ m, fuel = m + 1 := ⟨fuel - 1, by omega⟩
    have c : ¬ (8 : Int32) ≤ kI i := fun h => by have := (kI_le (a := 8) (by omega) (by omega)).mp h; omega
    have g20 : ∀ S : Nat → HC, S 34 = mC bs → gR (PH old bs 55 S) (bs + 34) 6 20 = some (bs + 53) := fun S h => gR_H (by omega) (by rw [h]; rfl)
    have g21 : ∀ S : Nat → HC, S 34 = mC bs → gR (PH old bs 55 S) (bs + 34) 6 21 = some (bs + 54) := fun S h => gR_H (by omega) (by rw [h]; rfl)
    have a53 : ∀ (S : Nat → HC) (f : Nat → Int32), S 53 = .inr (0, 8, .inl f) → aIs bs (PH old bs 55 S) (bs + 53) 0 (kI i) (-1) = some (PH old bs 55 (va_up S 53 (.inr (0, 8, .inl (upd f i (-1)))))) := fun S f h => aIs_H (by omega) (by rw [h]; simp only [ai_]; rw [if_pos ⟨trivial, by omega, by omega⟩])
    have a54 : ∀ (S : Nat → HC) (f : Nat → Int32), S 54 = .inr (0, 8, .inl f) → aIs bs (PH old bs 55 S) (bs + 54) 0 (kI i) (-1) = some (PH old bs 55 (va_up S 54 (.inr (0, 8, .inl (upd f i (-1)))))) := fun S f h => aIs_H (by omega) (by rw [h]; simp only [ai_]; rw [if_pos ⟨trivial, by omega, by omega⟩])
    have e1 : va_up (va_up (va_up (va_up S 53 (.inr (0, 8, .inl f))) 54 (.inr (0, 8, .inl g))) 53 (.inr (0, 8, .inl (upd f i (-1))))) 54 (.inr (0, 8, .inl (upd g i (-1)))) = va_up (va_up S 53 (.inr (0, 8, .inl (upd f i (-1))))) 54 (.inr (0, 8, .inl (upd g i (-1)))) := by
      funext j
      simp only [va_up]
      by_cases h54 : j = 54
      · simp [h54]
      · by_cases h53 : j = 53
        · simp [h53]
        · simp [h53, h54]
    have e2 : ∀ f : Nat → Int32, (fun k => if i + 1 ≤ k ∧ k < 8 then -1 else upd f i (-1) k) = (fun k => if i ≤ k ∧ k < 8 then -1 else f k) := fun f => by
      funext k
      unfold upd
      by_cases h2 : i + 1 ≤ k ∧ k < 8
      · rw [if_pos h2, if_pos (by omega)]
      · rw [if_neg h2]
        by_cases h3 : k = i
        · rw [if_pos h3, if_pos (by omega)]
        · rw [if_neg h3, if_neg (by omega)]
    simp only [f_M_ctor_L183, fb_M_ctor_L183, if_neg c]
    rw [g20 _ (by simp [va_up, h34])]
    simp only [bn_s]
    rw [a53 _ f (by simp [va_up])]
    simp only [bn_s]
    rw [g21 _ (by simp [va_up, h34])]
    simp only [bn_s]
    rw [a54 _ g (by simp [va_up])]
    simp only [bn_s, kI_add1]
    rw [e1, ih m (i + 1) _ _ (by omega) (by omega), e2, e2]
theorem M163 {z : Z3} (h34 : S 34 = mC bs) : ∀ (d fuel i : Nat) (f : Nat → Int32), i + d = 4 → d < fuel → f_M_ctor_L163 bs sE fuel (PH old bs 55 (va_up S 44 (.inr (0, 4, .inl f)))) z (bs + 34) (kI i) = f_M_ctor_L183 bs sE FU (PH old bs 55 (va_up S 44 (.inr (0, 4, .inl (fun k => if i ≤ k ∧ k < 4 then -1 else f k))))) z (bs + 34) 0 := by
  intro d
  induction d with
  | zero =>
    intro fuel i f hi hf
    obtain ⟨m, rfl⟩ : ∃ m, fuel = m + 1 := ⟨fuel - 1, by omega⟩
    have e : ∀ f : Nat → Int32, (fun k => if i ≤ k ∧ k < 4 then -1 else f k) = f := fun f => by
      funext k
      rw [if_neg (by omega)]
    simp only [f_M_ctor_L163, fb_M_ctor_L163, if_pos (k4l (show 4 ≤ i by omega) (by omega))]
    rw [e]
  | succ d ih =>
    intro fuel i f hi hf
    obtain ⟨m, rfl⟩ : ∃ m, fuel = m + 1 := ⟨fuel - 1, by omega⟩
    have g20 : ∀ S : Nat → HC, S 34 = mC bs → gR (PH old bs 55 S) (bs + 34) 6 10 = some (bs + 44) := fun S h => gR_H (by omega) (by rw [h]; rfl)
    have a53 : ∀ (S : Nat → HC) (f : Nat → Int32), S 44 = .inr (0, 4, .inl f) → aIs bs (PH old bs 55 S) (bs + 44) 0 (kI i) (-1) = some (PH old bs 55 (va_up S 44 (.inr (0, 4, .inl (upd f i (-1)))))) := fun S f h => aIs_H (by omega) (by rw [h]; simp only [ai_]; rw [if_pos ⟨trivial, by omega, by omega⟩])
    have e2 : ∀ f : Nat → Int32, (fun k => if i + 1 ≤ k ∧ k < 4 then -1 else upd f i (-1) k) = (fun k => if i ≤ k ∧ k < 4 then -1 else f k) := fun f => by
      funext k
      unfold upd
      by_cases h2 : i + 1 ≤ k ∧ k < 4
      · rw [if_pos h2, if_pos (by omega)]
      · rw [if_neg h2]
        by_cases h3 : k = i
        · rw [if_pos h3, if_pos (by omega)]
        · rw [if_neg h3, if_neg (by omega)]
    simp only [f_M_ctor_L163, fb_M_ctor_L163, if_neg (k4n (show i < 4 by omega))]
    rw [g20 _ (by simp [va_up, h34])]
    simp only [bn_s]
    rw [a53 _ f (by simp [va_up])]
    simp only [bn_s, kI_add1, vau_s]
    rw [ih m (i + 1) _ (by omega) (by omega), e2]
def neg1 (n k : Nat) : Int32 := if 0 ≤ k ∧ k < n then -1 else 0
def SN (bs : Nat) (S : Nat → HC) : Nat → HC := va_up (va_up (va_up (SM bs S) 44 (.inr (0, 4, .inl (neg1 4)))) 53 (.inr (0, 8, .inl (neg1 8)))) 54 (.inr (0, 8, .inl (neg1 8)))
theorem M_end_H {z : Z3} : f_M_ctor_L163 bs sE FU (PH old bs 55 (SM bs S)) z (bs + 34) 0 = some (.inl none, PH old bs 55 (SN bs S), z) := by
  have e44 : va_up (SM bs S) 44 (.inr (0, 4, .inl (fun _ => 0))) = SM bs S := by
    funext j
    unfold va_up
    by_cases h : j = 44
    · subst h; rfl
    · rw [if_neg h]
  have k1 := M163 (old := old) (bs := bs) (S := SM bs S) (sE := sE) (z := z) rfl 4 FU 0 (fun _ => 0) (by omega) (by show _ < 1000; omega)
  rw [e44] at k1
  have e53 : ∀ x : HC, va_up (va_up (va_up (SM bs S) 44 x) 53 (.inr (0, 8, .inl (fun _ => 0)))) 54 (.inr (0, 8, .inl (fun _ => 0))) = va_up (SM bs S) 44 x := fun x => by
    funext j
    simp only [va_up]
    by_cases h : j = 54
    · subst h; rfl
    · rw [if_neg h]
      by_cases h : j = 53
      · subst h; rfl
      · rw [if_neg h]
  have k2 := M183 (old := old) (bs := bs) (S := va_up (SM bs S) 44 (.inr (0, 4, .inl (fun k => if 0 ≤ k ∧ k < 4 then -1 else 0)))) (sE := sE) (z := z) rfl 8 FU 0 (fun _ => 0) (fun _ => 0) (by omega) (by show _ < 1000; omega)
  rw [e53] at k2
  exact Eq.trans k1 k2
def AR (j : Nat) : HC := if j < 41 then .inr (0, 2080, .inl (fun _ => 0)) else if j < 49 then .inr (0, 4, .inl (fun _ => 0)) else if j = 49 then .inr (0, 32, .inl (fun _ => 0)) else if j = 50 then .inr (0, 2, .inl (fun _ => 0)) else if j = 51 then .inr (1, 8, .inl (fun _ => 0)) else .inr (0, 8, .inl (fun _ => 0))
def QM (S : Nat → HC) (fs : List HV) : Nat → HC := fun j => if j < 34 then S j else if j = 34 then .inl (6, fs) else AR j
theorem st_ {n k N c s : Nat} {fs : List HV} {X : HC} {NA : Option Unit} {REST : HH → Z3 → Option RS} (hA : NA = some ()) (hn : 34 < n) (hX : X = AR n) (hk : k < fs.length) (hc : 1 ≤ c) (hs : N ≤ s) : (NA.bind fun _ => (nO (bs + n, c, s) N).bind fun _ => (some (va_up (PH old bs n (QM S fs)) ((bs + n, c, s) : Z3).1 (some X))).bind fun h1 => (some (nZ (bs + n, c, s) N)).bind fun z2 => (pV bs h1 (bs + 34) 6 k (.inr (some ((bs + n, c, s) : Z3).1))).bind fun h3 => REST h3 z2) = REST (PH old bs (n + 1) (QM S (fs.set k (.inr (some (bs + n)))))) (bs + (n + 1), c - 1, s - N) := by
  have e1 : PH old bs (n + 1) (va_up (QM S fs) n X) = PH old bs (n + 1) (QM S fs) := PH_c fun j hj => by
    unfold va_up
    by_cases h : j = n
    · rw [if_pos h, hX, h]
      unfold QM
      rw [if_neg (by omega), if_neg (by omega)]
    · rw [if_neg h]
  have e2 : pc_ (QM S fs 34) 6 k (.inr (some (bs + n))) = some (.inl (6, fs.set k (.inr (some (bs + n))))) := by
    have : QM S fs 34 = .inl (6, fs) := by simp [QM]
    rw [this]
    exact pc_in hk
  have e3 : PH old bs (n + 1) (va_up (QM S fs) 34 (.inl (6, fs.set k (.inr (some (bs + n)))))) = PH old bs (n + 1) (QM S (fs.set k (.inr (some (bs + n))))) := PH_c fun j hj => by
    unfold va_up QM
    by_cases h : j = 34
    · rw [if_pos h, if_neg (by omega), if_pos h]
    · rw [if_neg h, if_neg h, if_neg h]
  simp only [hA, bn_s, nO_H hc hs, PH_new, nZ_H, e1, pV_H (show 34 < n + 1 by omega) e2, e3]
theorem M_ctor_H (hS : S 34 = .inl (6, dfl 6)) : f_M_ctor bs sE (PH old bs 35 S) (bs + 35, 600989, 7292700) (bs + 34) = some (.inl none, PH old bs 55 (SN bs S), (bs + 55, 600969, 7280122)) := by
  have e0 : PH old bs 35 S = PH old bs 35 (QM S (dfl 6)) := PH_c fun j hj => by
    unfold QM
    by_cases h : j < 34
    · rw [if_pos h]
    · rw [if_neg h, if_pos (by omega), show j = 34 by omega, hS]
  rw [e0]
  unfold f_M_ctor
  refine Eq.trans (st_ nA2080 (by omega) rfl (by simp [dfl_6]) (by omega) (by omega)) ?_
  refine Eq.trans (st_ nA2080 (by omega) rfl (by simp [dfl_6]) (by omega) (by omega)) ?_
  refine Eq.trans (st_ nA2080 (by omega) rfl (by simp [dfl_6]) (by omega) (by omega)) ?_
  refine Eq.trans (st_ nA2080 (by omega) rfl (by simp [dfl_6]) (by omega) (by omega)) ?_
  refine Eq.trans (st_ nA2080 (by omega) rfl (by simp [dfl_6]) (by omega) (by omega)) ?_
  refine Eq.trans (st_ nA2080 (by omega) rfl (by simp [dfl_6]) (by omega) (by omega)) ?_
  refine Eq.trans (st_ nA4 (by omega) rfl (by simp [dfl_6]) (by omega) (by omega)) ?_
  refine Eq.trans (st_ nA4 (by omega) rfl (by simp [dfl_6]) (by omega) (by omega)) ?_
  refine Eq.trans (st_ nA4 (by omega) rfl (by simp [dfl_6]) (by omega) (by omega)) ?_
  refine Eq.trans (st_ nA4 (by omega) rfl (by simp [dfl_6]) (by omega) (by omega)) ?_
  refine Eq.trans (st_ nA4 (by omega) rfl (by simp [dfl_6]) (by omega) (by omega)) ?_
  refine Eq.trans (st_ nA4 (by omega) rfl (by simp [dfl_6]) (by omega) (by omega)) ?_
  refine Eq.trans (st_ nA4 (by omega) rfl (by simp [dfl_6]) (by omega) (by omega)) ?_
  refine Eq.trans (st_ nA4 (by omega) rfl (by simp [dfl_6]) (by omega) (by omega)) ?_
  refine Eq.trans (st_ nA32 (by omega) rfl (by simp [dfl_6]) (by omega) (by omega)) ?_
  refine Eq.trans (st_ nA2 (by omega) rfl (by simp [dfl_6]) (by omega) (by omega)) ?_
  refine Eq.trans (st_ nA8 (by omega) rfl (by simp [dfl_6]) (by omega) (by omega)) ?_
  refine Eq.trans (st_ nA8 (by omega) rfl (by simp [dfl_6]) (by omega) (by omega)) ?_
  refine Eq.trans (st_ nA8 (by omega) rfl (by simp [dfl_6]) (by omega) (by omega)) ?_
  refine Eq.trans (st_ nA8 (by omega) rfl (by simp [dfl_6]) (by omega) (by omega)) ?_
  refine Eq.trans (congrArg (fun h => f_M_ctor_L163 bs sE FU h _ (bs + 34) 0) (PH_c (S' := SM bs S) fun j hj => ?_)) (M_end_H (old := old) (bs := bs) (S := S) (sE := sE) (z := (bs + 55, 600969, 7280122)))
  unfold QM SM AR
  by_cases h : j < 34
  · rw [if_pos h, if_pos h]
  · rw [if_neg h, if_neg h]
    by_cases h34 : j = 34
    · rw [if_pos h34, if_pos h34]
      simp only [dfl_6, mC, List.set_cons_succ, List.set_cons_zero]
    · rw [if_neg h34, if_neg h34]
end CT3
