/-! the class's logs, written -/
def edu (ed : Nat → Nat) (p x : Nat) : Nat → Nat := fun q => if q = p then x else ed q
theorem vau_s {α : Type} {f : Nat → α} {k : Nat} {v w : α} : va_up (va_up f k v) k w = va_up f k w := by
  funext j
  unfold va_up
  by_cases h : j = k <;> simp [h]
theorem vau_e {α : Type} {f : Nat → α} {k : Nat} {v : α} : va_up f k v k = v := by simp [va_up]
theorem vau_n {α : Type} {f : Nat → α} {k j : Nat} {v : α} (h : j ≠ k) : va_up f k v j = f j := by simp [va_up, h]
section PU1
variable {old : HH} {bs : Nat} {r : RH} {ed : Nat → Nat} {o : Int64} {D : HH} {sE : Nat × Nat} {z : Z3} {T zz p n hi a : Nat}
theorem SC_ed {x j : Nat} (h : j ≠ 5 + 3 * p) : SC bs r (edu ed p x) o j = SC bs r ed o j := by
  unfold SC
  by_cases h16 : j < 16
  · by_cases e1 : (j - 4) % 3 = 1
    · by_cases h4 : 4 ≤ j
      · have : (j - 4) / 3 ≠ p := by omega
        simp [cAL, edu, this]
      · have : j = 0 ∨ j = 1 ∨ j = 2 ∨ j = 3 := by omega
        rcases this with rfl | rfl | rfl | rfl <;> simp
    · simp [e1]
  · simp [h16]
theorem pV_A1 {x : Nat} (hp : p < 4) : pV bs (HB old bs r ed o D) (aAL bs p) 5 1 (.inr (some x)) = some (HB old bs r (edu ed p x) o D) := by
  rw [pV_o (HB_AL hp) (by simp) (by unfold aAL; omega)]
  congr 1
  funext b
  unfold va_up
  by_cases hb : b = aAL bs p
  · rw [if_pos hb, hb, HB_AL hp]
    simp [cAL, edu]
  · rw [if_neg hb]
    unfold HB
    by_cases h1 : b < bs
    · rw [if_pos h1, if_pos h1]
    rw [if_neg h1, if_neg h1]
    by_cases h2 : b < bs + 56
    · rw [if_pos h2, if_pos h2, SC_ed]
      unfold aAL at hb
      omega
    · rw [if_neg h2, if_neg h2]
theorem pV_D {ci k : Nat} {fs : List HV} {v : HV} (ha : bs + 56 ≤ a) (hk : k < fs.length) : pV bs (HB old bs r ed o (va_up D a (some (.inl (ci, fs))))) a ci k v = some (HB old bs r ed o (va_up D a (some (.inl (ci, fs.set k v))))) := by
  have e : HB old bs r ed o (va_up D a (some (.inl (ci, fs)))) a = some (.inl (ci, fs)) := by rw [HB_D ha, vau_e]
  rw [pV_o e hk (by omega), HB_upD ha, vau_s]
theorem E_ctor {fs : List HV} {x1 x2 x3 x4 x5 x6 : Int32} (ha : bs + 56 ≤ a) (hf : fs.length = 6) : f_E_ctor bs sE (HB old bs r ed o (va_up D a (some (.inl (0, fs))))) z a x1 x2 x3 x4 x5 x6 = some (.inl none, HB old bs r ed o (va_up D a (some (.inl (0, [.inl x1, .inl x2, .inl x3, .inl x4, .inl x5, .inl x6])))), z) := by
  obtain ⟨f0, f1, f2, f3, f4, f5, rfl⟩ : ∃ f0 f1 f2 f3 f4 f5, fs = [f0, f1, f2, f3, f4, f5] := by
    match fs, hf with
    | [f0, f1, f2, f3, f4, f5], _ => exact ⟨f0, f1, f2, f3, f4, f5, rfl⟩
  unfold f_E_ctor
  rw [pV_D ha (by simp)]
  simp only [bn_s, List.set]
  rw [pV_D ha (by simp)]
  simp only [bn_s, List.set]
  rw [pV_D ha (by simp)]
  simp only [bn_s, List.set]
  rw [pV_D ha (by simp)]
  simp only [bn_s, List.set]
  rw [pV_D ha (by simp)]
  simp only [bn_s, List.set]
  rw [pV_D ha (by simp)]
  simp only [bn_s, List.set]
theorem dfl_0 : (dfl 0).length = 6 := rfl
theorem E_ofPlain {x : Int32} (hz : RO z) (ha : bs + 56 ≤ z.1) : f_E_ofPlain bs sE (HB old bs r ed o D) z x = some (.inl (some (.ref z.1)), HB old bs r ed o (va_up D z.1 (some (.inl (0, [.inl 0, .inl 0, .inl (-1), .inl (-1), .inl (-1), .inl x])))), nZ z 6) := by
  simp only [f_E_ofPlain, nO_r (show 1 ≤ z.2.1 by unfold RO at hz; omega) (show 6 ≤ z.2.2 by unfold RO at hz; omega), bn_s, HB_upD ha, E_ctor ha dfl_0, cV_s]
theorem E_ofMarker {x y : Int32} (hz : RO z) (ha : bs + 56 ≤ z.1) : f_E_ofMarker bs sE (HB old bs r ed o D) z x y = some (.inl (some (.ref z.1)), HB old bs r ed o (va_up D z.1 (some (.inl (0, [.inl (if y = 0 then 2 else 1), .inl x, .inl (-1), .inl (-1), .inl (-1), .inl 0])))), nZ z 6) := by
  simp only [f_E_ofMarker, nO_r (show 1 ≤ z.2.1 by unfold RO at hz; omega) (show 6 ≤ z.2.2 by unfold RO at hz; omega), bn_s, HB_upD ha, E_ctor ha dfl_0, cV_s]
  by_cases h : y = 0 <;> simp [h]
theorem E_ofProducer {w : Nat} {x y : Int32} (hw : w < 4) (hz : RO z) (ha : bs + 56 ≤ z.1) : f_E_ofProducer bs sE (HB old bs r ed o D) z (aP bs w) x y = some (.inl (some (.ref z.1)), HB old bs r ed o (va_up D z.1 (some (.inl (0, [.inl 0, .inl (r 4 w 3), .inl (r 4 w 0), .inl (r 4 w 2), .inl x, .inl y])))), nZ z 6) := by
  simp only [f_E_ofProducer, nO_r (show 1 ≤ z.2.1 by unfold RO at hz; omega) (show 6 ≤ z.2.2 by unfold RO at hz; omega), bn_s, HB_upD ha, gI_P3 hw, gI_P0 hw, gI_P2 hw, E_ctor ha dfl_0, cV_s]
/-- what ArrayList finds in its empty array -/
def OLD (old : HH) (bs s1 : Nat) : Prop := s1 < bs ∧ ∃ n8 f8, old s1 = some (.inr (8, n8, .inr (.inr f8))) ∧ Int32.ofNat n8 = 0
/-- what a put leaves: the list longer by one, the other lists as they were -/
def PUT (bs s1 : Nat) (ed ed' : Nat → Nat) (D D' : HH) (z z' : Z3) (p n : Nat) (x : HC) : Prop :=
  z.1 ≤ z'.1 ∧ z.2.1 ≤ z'.2.1 + 1 ∧ z.2.2 ≤ z'.2.2 + 600 ∧ IE bs ed' ∧ (∀ q, q ≠ p → ed' q = ed q) ∧
  (∀ e m c, (e = ed p → e < bs) → LD bs s1 D z.1 e m c → LD bs s1 D' z'.1 e m c) ∧ ∀ c, LD bs s1 D z.1 (ed p) n c → LD bs s1 D' z'.1 (ed' p) (n + 1) (fun i => if i = n then x else c i)
theorem caps_le {c : Nat} (h : c ∈ caps) : 10 ≤ c ∧ c ≤ 549 := by
  simp only [caps, List.mem_cons, List.not_mem_nil, or_false] at h
  omega
theorem caps_up {c : Nat} (h : c ∈ caps) (hc : c ≤ 513) : ∃ c', c' ∈ caps ∧ c < c' ∧ ∀ h z, f_S_newLength bs sE h z (kI c) (kI (c + 1) - kI c) (kI c >>> (1 &&& 31)) = some (.inl (some (.int (kI c'))), h, z) := by
  simp only [caps, List.mem_cons, List.not_mem_nil, or_false] at h
  have e : kI (c + 1) - kI c = 1 := by
    rw [kI_sub (by omega), show c + 1 - c = 1 by omega]
    rfl
  rw [e]
  unfold f_S_newLength
  rcases h with rfl | rfl | rfl | rfl | rfl | rfl | rfl | rfl | rfl | rfl | rfl
  · exact ⟨15, by decide, by decide, fun h z => rfl⟩
  · exact ⟨22, by decide, by decide, fun h z => rfl⟩
  · exact ⟨33, by decide, by decide, fun h z => rfl⟩
  · exact ⟨49, by decide, by decide, fun h z => rfl⟩
  · exact ⟨73, by decide, by decide, fun h z => rfl⟩
  · exact ⟨109, by decide, by decide, fun h z => rfl⟩
  · exact ⟨163, by decide, by decide, fun h z => rfl⟩
  · exact ⟨244, by decide, by decide, fun h z => rfl⟩
  · exact ⟨366, by decide, by decide, fun h z => rfl⟩
  · exact ⟨549, by decide, by decide, fun h z => rfl⟩
  · omega
theorem nA_k {k N : Nat} (h1 : k ≤ N) (h2 : N ≤ 5000) : nA (kI k) N = some () := by
  unfold nA
  rw [if_pos]
  refine ⟨?_, ?_, h2⟩
  · rw [kI_nl0 (by omega)]; exact id
  · rw [kI_clamp (by omega)]; exact h1
theorem aQs_D {cap i : Nat} {e : Nat} {f : Nat → Option Nat} {x : Option Nat} (he : bs + 56 ≤ e) (hc : cap ≤ 5000) (hi' : i < cap) (hD : D e = some (.inr (3, cap, .inr (.inr f)))) : aQs bs (HB old bs r ed o D) e 3 (kI i) x = some (HB old bs r ed o (va_up D e (some (.inr (3, cap, .inr (.inr (va_up f i x))))))) := by
  have h : HB old bs r ed o D e = some (.inr (3, cap, .inr (.inr f))) := by rw [HB_D he]; exact hD
  rw [aQs_o h (by omega) hi' hc (by omega), HB_upD he]
theorem A_add3B {cap : Nat} {e : Nat} {f : Nat → Option Nat} {fs : List HV} (hp : p < 4) (he : bs + 56 ≤ e) (hc : cap ≤ 5000) (hi' : n < cap) (hD : D e = some (.inr (3, cap, .inr (.inr f)))) (ha : bs + 56 ≤ a) (hDa : D a = some (.inl (0, fs))) : f_A_add3_B11 bs sE (HB old bs r ed o D) z (aAL bs p) a e (kI n) = some (.inl none, HB old bs (up3 r 2 p 2 (kI (n + 1))) ed o (va_up D e (some (.inr (3, cap, .inr (.inr (va_up f n (some a))))))), z) := by
  have h1 : HB old bs r ed o D a = some (.inl (0, fs)) := by rw [HB_D ha]; exact hDa
  simp only [f_A_add3_B11, oK_o h1, bn_s, aQs_D he hc hi' hD, kI_add1, pV_A2 hp]
theorem LD_D {D' : HH} {zz' e n x : Nat} {s1 : Nat} {c : Nat → HC} (hz : zz ≤ zz') (hD : ∀ b, b < zz → b ≠ x → D' b = D b) (hx : ∀ b fs, D b = some (.inl (0, fs)) → b < zz → b ≠ x) (hex : e = x → e < bs) (h : LD bs s1 D zz e n c) : LD bs s1 D' zz' e n c := by
  rcases h with h | ⟨cap, f, h1, h2, h3, h4, h5, h6⟩
  · exact Or.inl h
  · refine Or.inr ⟨cap, f, h1, h2, h3, by omega, ?_, fun i hi => ?_⟩
    · rw [hD e h4 (fun q => by have := hex q; omega)]
      exact h5
    · obtain ⟨a, fs, b1, b2, b3, b4, b5⟩ := h6 i hi
      refine ⟨a, fs, b1, b2, by omega, ?_, b5⟩
      rw [hD a b3 (hx a fs b4 b3)]
      exact b4
theorem IE_edu (hE : IE bs ed) (hM : ∀ q, q < 4 → ed q < z.1) : IE bs (edu ed p z.1) := by
  intro p' q hp' hq hne
  unfold edu
  have := hM p' hp'
  have := hM q hq
  by_cases e1 : p' = p
  · rw [if_pos e1, if_neg (by omega)]
    intro h
    omega
  · rw [if_neg e1]
    by_cases e2 : q = p
    · rw [if_pos e2]
      intro h
      omega
    · rw [if_neg e2]
      exact hE p' q hp' hq hne
theorem A_add {c0 : Nat → HC} {fs : List HV} (hp : p < 4) (hz : RO z) (hO : OLD old bs sE.1) (hE : IE bs ed) (hM : ∀ q, q < 4 → ed q < z.1) (hn : n ≤ 513) (h2 : r 2 p 2 = kI n) (hzb : bs + 56 ≤ z.1) (hL : LD bs sE.1 D z.1 (ed p) n c0) (ha : bs + 56 ≤ a) (ha2 : a < z.1) (hDa : D a = some (.inl (0, fs))) :
    ∃ ed' D' z', f_A_add bs sE (HB old bs r ed o D) z (aAL bs p) a = some (.inl (some (.int 1)), HB old bs (up3 (up3 r 2 p 0 (r 2 p 0 + 1)) 2 p 2 (kI (n + 1))) ed' o D', z') ∧ PUT bs sE.1 ed ed' D D' z z' p n (.inl (0, fs)) := by
  obtain ⟨o1, n8, f8, o2, o3⟩ := hO
  have hz1 : 1 ≤ z.2.1 := by unfold RO at hz; omega
  have hz2 : 600 ≤ z.2.2 := by unfold RO at hz; omega
  have k2 : ∀ x, up3 r 2 p 0 x 2 p 2 = kI n := fun x => by rw [← h2]; simp [up3]
  rcases hL with ⟨rfl, he⟩ | ⟨cap, f, h1, hc, h3, h4, h5, h6⟩
  · have hN : ∀ r ed D, aN (HB old bs r ed o D) sE.1 = some 0 := fun r ed D => by
      have : HB old bs r ed o D sE.1 = some (.inr (8, n8, .inr (.inr f8))) := by rw [HB_old o1]; exact o2
      rw [aN_o this (by omega), o3]
    have hA : va_up D z.1 (some (.inr (3, 10, .inr (.inr (fun _ => none))))) a = some (.inl (0, fs)) := by
      rw [vau_n (by omega)]; exact hDa
    refine ⟨edu ed p z.1, va_up D z.1 (some (.inr (3, 10, .inr (.inr (va_up (fun _ => none) 0 (some a)))))), nZ z 600, ?_, ?_⟩
    · have c1 : ¬ (10 : Int32) < kI 0 + 1 := by decide
      simp only [f_A_add, gI_A0 hp, pV_A0 hp, gR_A1 hp, gI_A2 hp, oK_A hp, bn_s, he, k2, f_A_add3, hN, if_pos kI_0, f_A_grow, f_A_grow1, Int32.lt_irrefl, if_false, if_true, if_neg c1, show nA 10 600 = some () from nA_k (k := 10) (by omega) (by omega), nO_r hz1 hz2, HB_upD hzb, pV_A1 hp, cR_s]
      rw [show ((10 : Int32).toNatClampNeg) = 10 from rfl, A_add3B (cap := 10) (f := fun _ => none) (fs := fs) hp hzb (by omega) (by omega) vau_e ha hA]
      simp only [cV_s, bz_1, bn_s, vau_s]
    · refine ⟨by simp [nZ], by simp [nZ]; omega, by simp [nZ]; omega, ?_, fun q hq => by simp [edu, hq], ?_, ?_⟩
      · intro p' q hp' hq hne
        exact IE_edu hE hM p' q hp' hq hne
      · intro e m c hep hl
        refine LD_D (x := z.1) (by simp [nZ]) (fun b hb _ => vau_n (by omega)) (fun b fs _ hb => by omega) (fun q => ?_) hl
        subst q
        rcases hl with ⟨_, q⟩ | ⟨cap, f, h1, hc, h3, h4, _⟩
        · omega
        · omega
      · intro c hl
        refine Or.inr ⟨10, _, by decide, by omega, by simp [edu]; exact hzb, by simp [edu, nZ], by simp [edu, vau_e]; rfl, fun i hi => ?_⟩
        have : i = 0 := by omega
        subst this
        exact ⟨a, fs, by simp [vau_e], ha, by simp [nZ]; omega, by rw [vau_n (by omega)]; exact hDa, by simp⟩
  · obtain ⟨hc1, hc2⟩ := caps_le h1
    have hH : ∀ r D', D' (ed p) = D (ed p) → HB old bs r ed o D' (ed p) = some (.inr (3, cap, .inr (.inr f))) := fun r D' q => by rw [HB_D h3, q]; exact h5
    have hN : ∀ r D', D' (ed p) = D (ed p) → aN (HB old bs r ed o D') (ed p) = some (kI cap) := fun r D' q => aN_o (hH r D' q) (by omega)
    by_cases hnc : n < cap
    · refine ⟨ed, va_up D (ed p) (some (.inr (3, cap, .inr (.inr (va_up f n (some a)))))), z, ?_, by omega, by omega, by omega, hE, fun _ _ => rfl, ?_, ?_⟩
      · have c1 : ¬ kI n = kI cap := fun q => by have := (kI_eq (by omega) (by omega)).mp q; omega
        simp only [f_A_add, gI_A0 hp, pV_A0 hp, gR_A1 hp, gI_A2 hp, oK_A hp, bn_s, k2, f_A_add3, hN _ D rfl, if_neg c1, A_add3B hp h3 (by omega) hnc h5 ha hDa, cV_s, bz_1]
      · intro e m c hep hl
        refine LD_D (x := ed p) (by omega) (fun b _ hb => vau_n hb) (fun b fs' hb _ q => ?_) hep hl
        rw [q, h5] at hb
        cases hb
      · intro c hl
        rcases hl with ⟨q1, q2⟩ | ⟨cap', f', g1, gc, g3, g4, g5, g6⟩
        · omega
        rw [h5] at g5
        cases g5
        refine Or.inr ⟨cap, _, h1, by omega, h3, h4, vau_e, fun i hi => ?_⟩
        have hne : ∀ b fs', D b = some (.inl (0, fs')) → b ≠ ed p := fun b fs' hb q => by rw [q, h5] at hb; cases hb
        by_cases e : i = n
        · subst e
          exact ⟨a, fs, vau_e, ha, ha2, by rw [vau_n (hne a fs hDa)]; exact hDa, by simp⟩
        · obtain ⟨b, fs', b1, b2, b3, b4, b5⟩ := g6 i (by omega)
          exact ⟨b, fs', by rw [vau_n e]; exact b1, b2, b3, by rw [vau_n (hne b fs' b4)]; exact b4, by simp [e]; exact b5⟩
    · have hnc : n = cap := by omega
      subst hnc
      obtain ⟨cap', k1, k2', k3⟩ := caps_up (bs := bs) (sE := sE) h1 hn
      obtain ⟨hd1, hd2⟩ := caps_le k1
      have hA : ∀ x, va_up D z.1 x a = some (.inl (0, fs)) := fun x => by rw [vau_n (by omega)]; exact hDa
      have hB : ∀ x, va_up D z.1 x (ed p) = D (ed p) := fun x => vau_n (by omega)
      have hK : ∀ r, aK3 (HB old bs r ed o D) (ed p) = some () := fun r => by simp [aK3, hH r D rfl]
      have hC : ∀ r, aCp bs (HB old bs r ed o (va_up D z.1 (some (.inr (3, cap', .inr (.inr (fun _ => none))))))) (ed p) 0 z.1 0 (kI n) = some (HB old bs r ed o (va_up D z.1 (some (.inr (3, cap', .inr (.inr (va_cpy f (fun _ => none) 0 0 n))))))) := by
        intro r
        have e2 : HB old bs r ed o (va_up D z.1 (some (.inr (3, cap', .inr (.inr (fun _ => none)))))) z.1 = some (.inr (3, cap', .inr (.inr (fun _ => none)))) := by rw [HB_D hzb, vau_e]
        unfold aCp
        rw [hH r _ (hB _), e2]
        simp only
        rw [if_pos, HB_upD hzb, vau_s]
        · rw [show (0 : Int32).toNatClampNeg = 0 from rfl, kI_clamp (by omega)]
        · rw [show (0 : Int32).toNatClampNeg = 0 from rfl, kI_clamp (by omega), kI_nl0 (by omega)]
          refine ⟨by decide, by decide, id, by omega, by omega, ?_, by omega⟩
          rw [List.all_eq_true]
          intro i hi
          have hi := List.mem_range.mp hi
          obtain ⟨b, fs', b1, b2, b3, b4, b5⟩ := h6 i hi
          rw [Nat.zero_add, b1]
          have : HB old bs r ed o (va_up D z.1 (some (.inr (3, cap', .inr (.inr (fun _ => none)))))) b = some (.inl (0, fs')) := by rw [HB_D b2, vau_n (by omega)]; exact b4
          simp [entOk, oK_o this]
      have cc : ¬ kI cap' < kI n := by rw [kI_lt (by omega) (by omega)]; omega
      have cp : (0 : Int32) < kI n := (kI_lt (a := 0) (by omega) (by omega)).mpr (by omega)
      have nA' : nA (kI cap') 600 = some () := nA_k (by omega) (by omega)
      have hP : ∀ r, f_R_copyOf bs sE (HB old bs r ed o D) z (ed p) (kI cap') = some (.inl (some (.ref z.1)), HB old bs r ed o (va_up D z.1 (some (.inr (3, cap', .inr (.inr (va_cpy f (fun _ => none) 0 0 n)))))), nZ z 600) := by
        intro r
        simp only [f_R_copyOf, f_R_copyOf3, hK, bn_s, if_true, nA', nO_r hz1 hz2, HB_upD hzb, kI_clamp (show cap' < 2147483648 by omega), hN r _ (hB _), if_neg cc, hC, cR_s]
      refine ⟨edu ed p z.1, va_up D z.1 (some (.inr (3, cap', .inr (.inr (va_up (va_cpy f (fun _ => none) 0 0 n) n (some a)))))), nZ z 600, ?_, ?_⟩
      · simp only [f_A_add, gI_A0 hp, pV_A0 hp, gR_A1 hp, gI_A2 hp, oK_A hp, bn_s, k2, f_A_add3, hN _ D rfl, if_true, f_A_grow, f_A_grow1, if_pos cp, f_A_grow1_B20, kI_add1, k3, cI_s, hP, pV_A1 hp, cR_s]
        rw [A_add3B (cap := cap') (fs := fs) hp hzb (by omega) k2' vau_e ha (hA _)]
        simp only [cV_s, bz_1, bn_s, vau_s]
      · refine ⟨by simp [nZ], by simp [nZ]; omega, by simp [nZ]; omega, IE_edu hE hM, fun q hq => by simp [edu, hq], ?_, ?_⟩
        · intro e m c hep hl
          refine LD_D (x := z.1) (by simp [nZ]) (fun b hb _ => vau_n (by omega)) (fun b fs _ hb => by omega) (fun q => ?_) hl
          subst q
          rcases hl with ⟨_, q⟩ | ⟨cap, f, h1, hc, h3, h4, _⟩
          · omega
          · omega
        · intro c hl
          rcases hl with ⟨q1, q2⟩ | ⟨cap2, f', g1, gc, g3, g4, g5, g6⟩
          · omega
          rw [h5] at g5
          cases g5
          refine Or.inr ⟨cap', _, k1, by omega, by simp [edu]; exact hzb, by simp [edu, nZ], by simp [edu, vau_e]; rfl, fun i hi => ?_⟩
          by_cases e : i = n
          · subst e
            exact ⟨a, fs, vau_e, ha, by simp [nZ]; omega, hA _, by simp⟩
          · obtain ⟨b, fs', b1, b2, b3, b4, b5⟩ := g6 i (by omega)
            refine ⟨b, fs', ?_, b2, by simp [nZ]; omega, by rw [vau_n (by omega)]; exact b4, by simp [e]; exact b5⟩
            rw [vau_n e]
            unfold va_cpy
            rw [if_pos (by omega), show 0 + (i - 0) = i by omega]
            exact b1
theorem L_put {c0 : Nat → HC} {fs : List HV} (hp : p < 4) (hz : RO z) (hO : OLD old bs sE.1) (hE : IE bs ed) (hM : ∀ q, q < 4 → ed q < z.1) (hn : n ≤ 513) (h2 : r 2 p 2 = kI n) (hzb : bs + 56 ≤ z.1) (hL : LD bs sE.1 D z.1 (ed p) n c0) (ha : bs + 56 ≤ a) (ha2 : a < z.1) (hDa : D a = some (.inl (0, fs))) :
    ∃ ed' D' z', f_L_put bs sE (HB old bs r ed o D) z (aL bs p) a = some (.inl (some (.int (kI n))), HB old bs (up3 (up3 r 2 p 0 (r 2 p 0 + 1)) 2 p 2 (kI (n + 1))) ed' o D', z') ∧ PUT bs sE.1 ed ed' D D' z z' p n (.inl (0, fs)) := by
  obtain ⟨ed', D', z', h1, h3⟩ := A_add (o := o) hp hz hO hE hM hn h2 hzb hL ha ha2 hDa
  refine ⟨ed', D', z', ?_, h3⟩
  have e : up3 (up3 r 2 p 0 (r 2 p 0 + 1)) 2 p 2 (kI (n + 1)) 2 p 2 = kI (n + 1) := by simp [up3]
  simp only [f_L_put, gR_L0 hp, oK_A hp, bn_s, h1, cI_s, oK_L hp, L_length hp, e, kI_sub1 (show 1 ≤ n + 1 by omega), Nat.add_sub_cancel]
/-- fields of a log's list that a put or a drop may change -/
def EQL (p : Nat) (r r' : RH) : Prop := ∀ f m i, ¬ (f = 2 ∧ m = p) → r' f m i = r f m i
/-- the last record goes -/
theorem A_remove {c0 : Nat → HC} {j : Nat} (hp : p < 4) (hn : n ≤ 513) (h2 : r 2 p 2 = kI (n + 1)) (hL : LD bs sE.1 D z.1 (ed p) (n + 1) c0) (hc : ∀ i, c0 i = eC r (520 * p + i)) :
    ∃ a D', f_A_remove bs sE (HB old bs r ed o D) z (aAL bs p) (kI n) = some (.inl (some (.ref a)), HB old bs (up3 (up3 r 2 p 0 (r 2 p 0 + 1)) 2 p 2 (kI n)) ed o D', z) ∧ (∀ r, HB old bs r ed o D' a = some (c0 n)) ∧ LD bs sE.1 D' z.1 (ed p) n c0 ∧ ∀ e m c, (e = ed p → e < bs) → LD bs sE.1 D z.1 e m c → LD bs sE.1 D' z.1 e m c := by
  rcases hL with ⟨h, _⟩ | ⟨cap, f, h1, h2', h3, h4, h5, h6⟩
  · omega
  obtain ⟨hc1, hc2⟩ := caps_le h1
  obtain ⟨a, fs, b1, b2, b3, b4, b5⟩ := h6 n (by omega)
  have hne : ∀ b fs', D b = some (.inl (0, fs')) → b ≠ ed p := fun b fs' hb q => by rw [q, h5] at hb; cases hb
  have e : ∀ r, HB old bs r ed o D (ed p) = some (.inr (3, cap, .inr (.inr f))) := fun r => by rw [HB_D h3]; exact h5
  have e2 := fun r => aR_o (i := n) (e r) (by omega) (by omega) (by omega) b1
  refine ⟨a, va_up D (ed p) (some (.inr (3, cap, .inr (.inr (va_up f n none))))), ?_, fun r => ?_, ?_, ?_⟩
  · have c1 : ¬ kI n < 0 := by rw [kI_nl0 (by omega)]; exact id
    have c2 : kI n < kI (n + 1) := (kI_lt (by omega) (by omega)).mpr (by omega)
    have c3 : kI n ≤ kI n := (kI_le (by omega) (by omega)).mpr (by omega)
    have k2 : ∀ x, up3 r 2 p 0 x 2 p 2 = kI (n + 1) := fun x => by rw [← h2]; simp [up3]
    simp only [f_A_remove, f_O_checkIndex, f_PC_checkIndex, f_A_fastRemove, gI_A2 hp, h2, if_neg c1, if_pos c2, cI_s, cI_x, cR_s, cR_x, cV_s, cV_x, cX_s, cX_x, bn_s, bz_0, bz_1, bz_b, bI_0, bI_1, oK_A hp, gR_A1 hp, e2, gI_A0 hp, pV_A0 hp, pV_A2 hp, k2, kI_sub1 (show 1 ≤ n + 1 by omega), Nat.add_sub_cancel, if_pos c3, aQs_D h3 (by omega) (show n < cap by omega) h5]
  · rw [HB_D b2, vau_n (hne a fs b4), b4, b5]
  · refine Or.inr ⟨cap, _, h1, by omega, h3, h4, vau_e, fun i hi => ?_⟩
    obtain ⟨b, fs', d1, d2, d3, d4, d5⟩ := h6 i (by omega)
    exact ⟨b, fs', by rw [vau_n (by omega)]; exact d1, d2, d3, by rw [vau_n (hne b fs' d4)]; exact d4, d5⟩
  · intro e m c hep hl
    exact LD_D (x := ed p) (by omega) (fun b _ hb => vau_n hb) (fun b fs' hb _ => hne b fs' hb) hep hl
end PU1
