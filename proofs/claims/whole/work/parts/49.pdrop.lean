/-! what the second disk does not hold is dropped -/
section DR1
variable {old : HH} {bs : Nat} {r0 : RH} {ed : Nat → Nat} {o : Int64} {sE : Nat × Nat} {z : Z3} {T zz p hi a : Nat}
theorem dn_lt {m : Nat} (h : m < 100000) : dn m < kI m := by
  cases m with
  | zero => decide
  | succ m => rw [dn_s]; exact (kI_lt (by omega) (by omega)).mpr (by omega)
theorem L_drop_L {x : Int32} (hp : p < 4) : ∀ (d fuel : Nat) (r : RH) (D : HH), hi + d ≤ 513 → d < fuel → (∀ m, r 20 m = r0 20 m) → r 2 p 2 = kI (hi + d) → r 1 p 3 = kI hi → LD bs sE.1 D z.1 (ed p) (hi + d) (fun i => eC r0 (520 * p + i)) → (∀ i, i < hi + d → ER (r0 20 1) (r0 20 5) (r0 20 6) (520 * p + i)) → MKI (r 3 p) (r0 20 1) (r0 20 6) (520 * p) (hi + d) →
    ∃ (r' : RH) (D' : HH), f_L_dropUncopied_L17 bs sE fuel (HB old bs r ed o D) z (aL bs p) x (dn (hi + d)) = some (.inl (some (.int x)), HB old bs r' ed o D', z) ∧ (∀ f m i, ¬ (f = 2 ∧ m = p) → ¬ (f = 3 ∧ m = p) → r' f m i = r f m i) ∧ r' 2 p 2 = kI hi ∧ LD bs sE.1 D' z.1 (ed p) hi (fun i => eC r0 (520 * p + i)) ∧ MKI (r' 3 p) (r0 20 1) (r0 20 6) (520 * p) hi ∧ ∀ e m c, (e = ed p → e < bs) → LD bs sE.1 D z.1 e m c → LD bs sE.1 D' z.1 e m c := by
  intro d
  induction d with
  | zero =>
    intro fuel r D hn hf hr h2 h3 hL hE hM
    obtain ⟨f, rfl⟩ : ∃ f, fuel = f + 1 := ⟨fuel - 1, by omega⟩
    refine ⟨r, D, ?_, fun _ _ _ _ _ => rfl, h2, hL, hM, fun _ _ _ _ h => h⟩
    have c : dn hi < kI hi := dn_lt (by omega)
    simp only [f_L_dropUncopied_L17, fb_L_dropUncopied_L17, gI_L3 hp, h3, bn_s, Nat.add_zero, if_pos c]
  | succ d ih =>
    intro fuel r D hn hf hr h2 h3 hL hE hM
    obtain ⟨f, rfl⟩ : ∃ f, fuel = f + 1 := ⟨fuel - 1, by omega⟩
    have hc : ∀ i, (fun i => eC r0 (520 * p + i)) i = eC r (520 * p + i) := fun i => by simp only [eC, hr]
    obtain ⟨a, D1, g1, g2, g3, g4⟩ := A_remove (j := 0) (old := old) (o := o) (r := r) (n := hi + d) hp (by omega) h2 hL hc
    have g2' := g2 (up3 (up3 r 2 p 0 (r 2 p 0 + 1)) 2 p 2 (kI (hi + d)))
    obtain ⟨hk, ⟨u, u1, u2, u3⟩, -⟩ := hE (hi + d) (by omega)
    have c : ¬ kI (hi + d) < kI hi := by rw [kI_lt (by omega) (by omega)]; omega
    rw [show hi + (d + 1) = hi + d + 1 by omega, dn_s]
    have hr1 : ∀ m, (up3 (up3 r 2 p 0 (r 2 p 0 + 1)) 2 p 2 (kI (hi + d))) 20 m = r0 20 m := fun m => by rw [← hr m]; simp [up3_r]
    have k3 : (up3 (up3 r 2 p 0 (r 2 p 0 + 1)) 2 p 2 (kI (hi + d))) 3 p = r 3 p := by simp [up3_r]
    by_cases hmk : r0 20 1 (520 * p + (hi + d)) = 2 ∨ r0 20 1 (520 * p + (hi + d)) = 3
    · obtain ⟨r', D', i1, i2, i3, i4, i5, i6⟩ := ih f (up3 (up3 (up3 r 2 p 0 (r 2 p 0 + 1)) 2 p 2 (kI (hi + d))) 3 p u (-1)) D1 (by omega) (by omega) (fun m => by rw [← hr m]; simp [up3_r]) (by simp [up3]) (by simp [up3]; exact h3) g3 (fun i hi => hE i (by omega)) (by
        have e3 : (up3 (up3 (up3 r 2 p 0 (r 2 p 0 + 1)) 2 p 2 (kI (hi + d))) 3 p u (-1)) 3 p = upd (r 3 p) u (-1) := by simp [up3_r]
        rw [e3]
        intro q hq
        by_cases e : q = u
        · subst e
          refine Or.inl ⟨by simp [upd], fun i hi' hm he => ?_⟩
          rcases hM q hq with ⟨_, b2⟩ | ⟨j, b1, b2, b3, b4, b5⟩
          · exact b2 i (by omega) hm he
          · have := b5 i (by omega) hm he
            have := b5 (hi + d) (by omega) hmk u2
            omega
        · have e' : upd (r 3 p) u (-1) q = r 3 p q := by simp [upd, e]
          rw [e']
          rcases hM q hq with ⟨b1, b2⟩ | ⟨j, b1, b2, b3, b4, b5⟩
          · exact Or.inl ⟨b1, fun i hi => b2 i (by omega)⟩
          · refine Or.inr ⟨j, ?_, b2, b3, b4, fun i hi => b5 i (by omega)⟩
            have : j ≠ hi + d := fun h => by
              subst h
              exact e ((kI_eq (by omega) (by omega)).mp (b4.symm.trans u2))
            omega)
      refine ⟨r', D', ?_, fun f m i q1 q2 => ?_, i3, i4, i5, fun e m c q hl => i6 e m c q (g4 e m c q hl)⟩
      · have hd : decide (¬ (r0 20 1 (520 * p + (hi + d)) = 2 ∨ r0 20 1 (520 * p + (hi + d)) = 3)) = false := by simp [hmk]
        simp only [f_L_dropUncopied_L17, fb_L_dropUncopied_L17, gI_L3 hp, h3, bn_s, if_neg c, gR_L0 hp, oK_A hp, g1, cR_s, e_oK g2', E_isData g2', cI_s, bI_0, hd, if_true, gR_L1 hp, e_1 g2', u2, aIs_MK hp (show u < 41 by omega), dn_m1 (show hi + d < 100000 by omega)]
        exact i1
      · rw [i2 f m i q1 q2]
        simp only [up3]
        repeat (rw [if_neg (by omega)])
    · obtain ⟨r', D', i1, i2, i3, i4, i5, i6⟩ := ih f (up3 (up3 r 2 p 0 (r 2 p 0 + 1)) 2 p 2 (kI (hi + d))) D1 (by omega) (by omega) hr1 (by simp [up3]) (by simp [up3]; exact h3) g3 (fun i hi => hE i (by omega)) (by
        rw [k3]
        intro q hq
        rcases hM q hq with ⟨b1, b2⟩ | ⟨j, b1, b2, b3, b4, b5⟩
        · exact Or.inl ⟨b1, fun i hi => b2 i (by omega)⟩
        · refine Or.inr ⟨j, ?_, b2, b3, b4, fun i hi => b5 i (by omega)⟩
          have : j ≠ hi + d := fun h => by
            subst h
            exact hmk b3
          omega)
      refine ⟨r', D', ?_, fun f m i q1 q2 => ?_, i3, i4, i5, fun e m c q hl => i6 e m c q (g4 e m c q hl)⟩
      · have hd : decide (¬ (r0 20 1 (520 * p + (hi + d)) = 2 ∨ r0 20 1 (520 * p + (hi + d)) = 3)) = true := by simp [hmk]
        simp only [f_L_dropUncopied_L17, fb_L_dropUncopied_L17, gI_L3 hp, h3, bn_s, if_neg c, gR_L0 hp, oK_A hp, g1, cR_s, e_oK g2', E_isData g2', cI_s, bI_0, hd, Bool.true_eq_false, if_false, dn_m1 (show hi + d < 100000 by omega)]
        exact i1
      · rw [i2 f m i q1 q2]
        simp only [up3]
        repeat (rw [if_neg (by omega)])
theorem L_drop {r : RH} {D : HH} {n : Nat} (hp : p < 4) (hT : T ≤ 513) (hL : LG bs sE.1 T r ed D z.1 p n hi) : ∃ (r' : RH) (D' : HH), f_L_dropUncopied bs sE (HB old bs r ed o D) z (aL bs p) = some (.inl (some (.int (kI n - kI hi))), HB old bs r' ed o D', z) ∧ (∀ f m i, ¬ (f = 2 ∧ m = p) → ¬ (f = 3 ∧ m = p) → r' f m i = r f m i) ∧ r' 2 p 2 = kI hi ∧ LD bs sE.1 D' z.1 (ed p) hi (fun i => eC r (520 * p + i)) ∧ MKI (r' 3 p) (r 20 1) (r 20 6) (520 * p) hi ∧ ∀ e m c, (e = ed p → e < bs) → LD bs sE.1 D z.1 e m c → LD bs sE.1 D' z.1 e m c := by
  obtain ⟨a1, a2, a3, a4, a5, a6, a7, a8, a9, a10, a11⟩ := hL
  have e : n = hi + (n - hi) := by omega
  simp only [f_L_dropUncopied, oK_L hp, bn_s, L_length hp, cI_s, gI_L3 hp, a3, a5, dn_sub (show n < 100000 by omega)]
  have := L_drop_L (old := old) (o := o) (r0 := r) (x := kI n - kI hi) hp (n - hi) FU r D (by omega) (by show _ < 1000; omega) (fun _ => rfl) (by rw [← e]; exact a3) a5 (by rw [← e]; exact a8) (by rw [← e]; exact a9) (by rw [← e]; exact a10)
  rw [← e] at this
  exact this
end DR1
