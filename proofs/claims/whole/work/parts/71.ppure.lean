/-! PURE: the law comes to 1 on every script -/
section PU9
variable {bs s1 : Nat}
theorem PH_HB {old : HH} : PH old bs 56 (SF bs s1) = HB old bs r0 (fun _ => s1) 0 (fun _ => none) := by
  funext a
  unfold PH HB
  by_cases h1 : a < bs
  · rw [if_pos h1, if_pos h1]
  rw [if_neg h1, if_neg h1]
  by_cases h2 : a < bs + 56
  · rw [if_pos h2, if_pos h2, SF_SC (by omega)]
  · rw [if_neg h2, if_neg h2]
theorem r0_IP {n : Nat} (hn : n < 4) : IP 0 0 n (r0 4 n) (r0 5 n) (r0 20 10) (r0 20 11) (r0 20 12) (r0 20 13) (r0 20 14) (r0 20 15) := by
  rw [r0_m10, r0_m11, r0_m12, r0_m13, r0_m14, r0_m15, r0_5]
  have e : neg1 4 n = -1 := ng hn
  refine ⟨rfl, ?_, Or.inl e, fun _ => rfl, fun h => absurd e h, fun _ => ⟨rfl, rfl, fun j hj => ng hj⟩, ?_, rfl, ⟨0, by omega, rfl⟩, rfl, ⟨0, by omega, rfl⟩⟩
  · rw [e]
    rfl
  · rw [e]
    intro h
    rcases h with h | h | h <;> exact absurd h (by decide)
theorem r0_IG {g : Nat} (hg : g < 2) : IG 0 g (r0 6 g) (r0 7 g) (r0 8 g) (r0 9 g) (r0 10 g) (r0 20 17) (r0 20 18) (r0 20 19) (r0 20 20) (r0 20 21) := by
  rw [r0_m17, r0_m18, r0_m19, r0_m20, r0_m21, r0_7, r0_8, r0_9, r0_10]
  refine ⟨rfl, fun m hm => ⟨rfl, Or.inl rfl, rfl, ⟨0, by omega, rfl⟩, ?_, ?_, Or.inl (ng (by omega))⟩⟩
  · have hne : ∀ i, i < 4 → ¬ neg1 8 (4 * g + i) = kI m := fun i hi h => by
      rw [ng (by omega)] at h
      have := kI_nm1 (show m < 2147483648 by omega)
      rw [← h] at this
      simp at this
    unfold msk
    rw [if_neg (hne 0 (by omega)), if_neg (hne 1 (by omega)), if_neg (hne 2 (by omega)), if_neg (hne 3 (by omega))]
    rfl
  · rw [ng hm, ng (by omega)]
theorem r0_IL {p zz T : Nat} (hp : p < 4) : IL bs s1 T (fun _ => none) zz s1 p 0 0 (r0 2 p) (r0 1 p) (r0 3 p) (r0 20 1) (r0 20 2) (r0 20 3) (r0 20 4) (r0 20 5) (r0 20 6) (r0 20 7) (r0 20 8) (r0 20 9) := by
  refine ⟨by omega, by omega, rfl, rfl, rfl, rfl, rfl, Or.inl ⟨rfl, rfl⟩, fun i hi => by omega, fun q hq => Or.inl ⟨ng (by omega), fun i hi => by omega⟩, fun i j _ hj => by omega⟩
theorem INV_0 (hs : s1 < bs) {c s : Nat} (hc : 600924 ≤ c) (hs' : 7273034 ≤ s) : INV bs s1 0 r0 (fun _ => s1) (fun _ => none) (bs + 56, c, s) := by
  refine ⟨⟨Nat.le_refl _, show 601024 ≤ c + 100 + 4 * 0 by omega, show 7293034 ≤ s + 20000 + 2000 * 0 by omega⟩, fun _ _ _ _ _ _ => hs, 0, 0, ⟨by omega, by omega, rfl, rfl, rfl, rfl, rfl⟩, fun n hn => r0_IP hn, fun g hg => r0_IG hg, fun p hp => ⟨0, 0, r0_IL hp⟩⟩
theorem z1 : nZ (bs, 601024, 7293034) 6 = (bs + 1, 601023, 7293028) := by simp [nZ]
theorem z2 : nZ (bs + 34, 600990, 7292724) 24 = (bs + 35, 600989, 7292700) := by simp [nZ, Nat.add_assoc]
theorem z3 : nZ (bs + 55, 600969, 7280122) 1 = (bs + 56, 600968, 7280121) := by simp [nZ, Nat.add_assoc]
theorem b1 {old : HH} {S : Nat → HC} {sE : Nat × Nat} (hS : S 0 = .inl (4, dfl 4)) : f_B_ctor bs sE (PH old bs 1 S) (bs + 1, 601023, 7293028) bs = some (.inl none, PH old bs 34 (SB bs sE.1), (bs + 34, 600990, 7292724)) := by
  have B := B_ctor_H (old := old) (bs := bs) (S := S) (sE := sE) (c := 601023) (s := 7293028) hS (by omega) (by omega)
  simpa using B
theorem pure_ok : PURE := by
  intro bs b sE mi L n8 xs hL hb hsE hne h8
  generalize ho : h0 b L xs sE n8 = old
  have o1 : ∀ a, bs ≤ a → old a = none := fun a ha => by
    rw [← ho]
    unfold h0 va_up
    rw [if_neg (by omega), if_neg (by omega)]
  have o2 : old b = some (.inr (7, L, .inl xs)) := by
    rw [← ho]
    unfold h0 va_up
    rw [if_pos rfl]
  have o3 : old sE = some (.inr (8, n8, .inr (.inr (fun _ => none)))) := by
    rw [← ho]
    unfold h0 va_up
    rw [if_neg (by omega), if_pos rfl]
  have e0 : old = PH old bs 0 (fun _ => .inl (4, [])) := by
    funext a
    unfold PH
    by_cases h : a < bs
    · rw [if_pos h]
    · rw [if_neg h, if_neg (by omega)]
      exact o1 a (by omega)
  have OL : OLD old bs (sE, mi).1 := ⟨hsE, n8, _, o3, h8⟩
  have M := M_ctor_H (old := old) (bs := bs) (S := va_up (SB bs sE) 34 (.inl (6, dfl 6))) (sE := (sE, mi)) vau_e
  obtain ⟨h', z', LW⟩ := law_L (bs := bs) (sE := (sE, mi)) OL hb o2 hL 512 FU 0 r0 (fun _ => sE) 0 (fun _ => none) (bs + 56, 600968, 7280121) (by omega) (by show _ < 1000; omega) (INV_0 hsE (by omega) (by omega))
  refine ⟨h', z', ?_⟩
  rw [← PH_HB] at LW
  have n1 : va_up old bs (some (.inl (4, dfl 4))) = PH old bs 1 (va_up (fun _ => .inl (4, [])) 0 (.inl (4, dfl 4))) := by
    have := PH_new (old := old) (bs := bs) (n := 0) (S := fun _ => .inl (4, [])) (c := .inl (4, dfl 4))
    rw [← e0] at this
    exact this
  have B' := b1 (bs := bs) (old := old) (S := va_up (fun _ => .inl (4, [])) 0 (.inl (4, dfl 4))) (sE := (sE, mi)) vau_e
  have e1 : (nO (bs, 601024, 7293034) 6) = some () := nO_H (by omega) (by omega)
  have e2 : nZ (bs, 601024, 7293034) 6 = (bs + 1, 601023, 7293028) := z1
  have e3 : (nO (bs + 34, 600990, 7292724) 24) = some () := nO_H (by omega) (by omega)
  have e4 : nZ (bs + 34, 600990, 7292724) 24 = (bs + 35, 600989, 7292700) := z2
  have e5 : (nO (bs + 55, 600969, 7280122) 1) = some () := nO_H (by omega) (by omega)
  have e6 : nZ (bs + 55, 600969, 7280122) 1 = (bs + 56, 600968, 7280121) := z3
  have e7 : nA 1 1 = some () := rfl
  have n2 : va_up (PH old bs 34 (SB bs sE)) (bs + 34) (some (.inl (6, dfl 6))) = PH old bs 35 (va_up (SB bs sE) 34 (.inl (6, dfl 6))) := PH_new
  have n3 : va_up (PH old bs 55 (SN bs (va_up (SB bs sE) 34 (.inl (6, dfl 6))))) (bs + 55) (some (.inr (2, (1 : Int32).toNatClampNeg, .inr (.inl (fun _ => 0))))) = PH old bs 56 (SF bs sE) := PH_new
  simp only [f_W_law, e1, bn_s, e2, n1, B', cV_s, e3, n2, e4, M, e7, e5, n3, e6]
  exact LW
end PU9
