theorem hv_set (fs : List HV) (k : Nat) (v : HV) : (fs.set k v).map hv_v = (fs.map hv_v).set k (hv_v v) := by rw [List.map_set]
theorem ws_ok {Cn : String} {T : u_T} {N : Nat} : ∀ w ∈ u_ws Cn T N, okw w = true := by
  intro w hw
  unfold u_ws u_lay at hw
  obtain ⟨j, -, rfl⟩ := List.mem_map.mp hw
  split <;> rfl
theorem ws_ts {s : State} (hT : TW s) {ci : Nat} {Cn : String} {T : u_T} {N : Nat} (hc : ccl[ci]? = some (Cn, T, N)) {args : Array Value} : ∀ w ∈ u_ws Cn T N, w.before args s = true := fun w hw => hT.use (ccl_in _ (mem_ccl hc) w hw) (ws_ok w hw)
theorem old_arr {s : State} {cA : ClassId} {ty : FieldType} {cell : Cell} (h : ArrOfT s cA ty) (hc : cell.cls = cA) (hv : ∀ q, cell.vm ≠ .statics q) : s.isArrayOf cell ty := by
  obtain ⟨-, k, hk, h3⟩ := h 0 (fun _ => .null)
  exact ⟨hv, k, by rw [hc]; exact hk, h3⟩
theorem aN_78 {h : HH} {a k n : Nat} {f : HA} {x : Int32} (e : aN h a = some x) (ha : h a = some (.inr (k, n, f))) (h7 : 7 ≤ k) : k = 7 ∨ k = 8 := by
  unfold aN at e
  rw [ha] at e
  dsimp only at e
  split at e
  · omega
  · cases e
section RW2
variable {G : EN} {p : Program} {l : Launch} {e : Env} {R : Room} {s : State} {m : MethodId} {args : Array Value} {below : List Frame} {meth : Method} {c : Code} {H : Heap} {locs : List Loc} {cells slots : Nat} {Q : State → Prop}
variable {cc : ByteArray} {pc nL : Nat} {own : String} {ls : Array Slot} {rest : List Value} {h : HH} {z : Z3} {a : Nat}
theorem ST.put {H1 : Heap} {x : HC} {k : Nat} (hs : ST G R s h z H locs cells slots) (z1 : H1.size = H.size) (oq : ∀ q : Nat, q ≠ a → H1[q]? = H[q]?) (ha : G.2.2.1 ≤ a) (hc : hp_at G a x H1) : ST G R s (va_up h a (some x)) z H1 (locs ++ [⟨a, k⟩]) cells slots :=
  ⟨hs.1.up oq hc, z1.trans hs.2.1, hs.2.2.1.put z1 oq ha, hs.2.2.2⟩
theorem r_putV (C : CX G p l s m meth c cc nL own) (hs : ST G R s h z H locs cells slots) {index ci k : Nat} {ty : FieldType} (hF : FLP own index ci k ty) {v : HV} (hn : narrow ty (hv_v v) = hv_v v) (hfit : fits ty (hv_v v) = true) (hdg : decode cc pc = .ok (.putfield index, 3)) {β : Type} {K : HH → Option β} {r : β} (hf : (pV G.2.2.1 h a ci k v).bind K = some r)
    (kk : ∀ (h1 : HH) (H1 : Heap) (locs1 : List Loc), K h1 = some r → ST G R s h1 z H1 locs1 cells slots → W p l e R s m args below meth c H1 locs1 cells slots Q (F0 m (pc + 3) ls rest)) : W p l e R s m args below meth c H locs cells slots Q (F0 m pc ls (hv_v v :: .ref a :: rest)) := by
  obtain ⟨h1, hp1, hf⟩ := bd hf
  obtain ⟨fs, ha, hkl, hba, rfl⟩ := pV_at hp1
  obtain ⟨hx, hb, -, hown, -, hG, hbs, -⟩ := C
  obtain ⟨hT, hK, -⟩ := hG.here hbs
  obtain ⟨⟨Cn, T, N, hc, hk, hl⟩, hF2⟩ := hF
  obtain ⟨hfin, hd⟩ := hF2 Cn T N hc
  have hin : ∀ w ∈ u_ws Cn T N, w ∈ (u_ws Cn T N) := fun w hw => hw
  have hts : ∀ w ∈ u_ws Cn T N, w.before args s = true := ws_ts hT hc
  have hap := va_apart (own := own) hts hin _ (ccl_ty _ (mem_ccl hc)) (ccl_nm _ (mem_ccl hc)) hK hc
  obtain ⟨r0, h10, cell, q1, q2, q3, q4⟩ : va_at G.1 ccl (a, .inr (ci, fs.map hv_v)) H := hs.1 a _ ha
  have hr : r0 = (Cn, T, N) := Option.some.inj (h10.symm.trans hc)
  subst hr
  obtain ⟨hS, hfc, kC, hkC, hkind⟩ := hK.1 ci _ hc
  obtain ⟨cf, kf, fi, f, hi, hsl⟩ := hS k hk
  have hlay := hts _ (hin _ (u_in_lay hk))
  unfold u_lay at hlay
  rw [if_neg (by rw [hfin]; decide)] at hlay
  have hst := (u_facts hfc hkC (u_lays hts hin hk) hi).1
  have h6 := u_store hfc hkC hkind hlay hi hd hn hfit
  have fin : ∀ H' : Heap, H'[a]? = some (cell.setSlot f.slot (hv_v v)) → H'.size = H.size → (∀ q, q ≠ a → H'[q]? = H[q]?) → W p l e R s m args below meth c H' (locs ++ [⟨a, f.slot⟩]) cells slots Q (F0 m (pc + 3) ls rest) := by
    intro H' e1 e2 e3
    refine kk _ H' _ hf (hs.put e2 e3 hba ?_)
    show va_at G.1 ccl (a, .inr (ci, (fs.set k v).map hv_v)) H'
    rw [hv_set]
    rw [hsl] at e1
    exact ⟨_, hc, t_OB.to (V := updV (vp_V (fs.map hv_v)) k (hv_v v)) ⟨_, e1, q2, q3, t_set q4 hap hk (hv_v v)⟩ (fun j _ => vp_updV_set (by rw [List.length_map]; exact hkl) (hv_v v) j)⟩
  rcases hl with hl | ⟨host, hl⟩ | ⟨ref, hl, hl2⟩
  · exact W.putK hx hb (f := f) ⟨hown, hT.use hl rfl, ⟨_, _, _, hi⟩, hst⟩ (by rw [q2]; exact h6) q1 q3 (by rw [hsl]; exact k2_hasslot (q4 k hk)) rfl rfl hdg fin
  · exact va_WputK hx hb (f := f) hown (hT.use hl rfl) hi hst (by rw [q2]; exact h6) q1 q3 (by rw [hsl]; exact k2_hasslot (q4 k hk)) rfl rfl hdg fin
  · exact W.putK hx hb (f := f) ⟨hown, hT.use hl rfl, ⟨_, _, _, cond_sf (args := args) (hT.use hl2 rfl) _ hi⟩, hst⟩ (by rw [q2]; exact h6) q1 q3 (by rw [hsl]; exact k2_hasslot (q4 k hk)) rfl rfl hdg fin
theorem r_putF (C : CX G p l s m meth c cc nL own) (hs : ST G R s h z H locs cells slots) (hin2 : meth.name = "<init>") {index ci k : Nat} {ty : FieldType} (hF : FLF own index ci k ty) {v : HV} (hn : narrow ty (hv_v v) = hv_v v) (hfit : fits ty (hv_v v) = true) (hdg : decode cc pc = .ok (.putfield index, 3)) {β : Type} {K : HH → Option β} {r : β} (hf : (pV G.2.2.1 h a ci k v).bind K = some r)
    (kk : ∀ (h1 : HH) (H1 : Heap) (locs1 : List Loc), K h1 = some r → ST G R s h1 z H1 locs1 cells slots → W p l e R s m args below meth c H1 locs1 cells slots Q (F0 m (pc + 3) ls rest)) : W p l e R s m args below meth c H locs cells slots Q (F0 m pc ls (hv_v v :: .ref a :: rest)) := by
  obtain ⟨h1, hp1, hf⟩ := bd hf
  obtain ⟨fs, ha, hkl, hba, rfl⟩ := pV_at hp1
  obtain ⟨hx, hb, -, hown, -, hG, hbs, -⟩ := C
  obtain ⟨hT, hK, -⟩ := hG.here hbs
  obtain ⟨r0, hc, cell, q1, q2, q3, q4⟩ : va_at G.1 ccl (a, .inr (ci, fs.map hv_v)) H := hs.1 a _ ha
  obtain ⟨Cn, T, N⟩ := r0
  obtain ⟨hk, hfin, hdecl, hd, hl⟩ := hF Cn T N hc
  have hin : ∀ w ∈ u_ws Cn T N, w ∈ (u_ws Cn T N) := fun w hw => hw
  have hts : ∀ w ∈ u_ws Cn T N, w.before args s = true := ws_ts hT hc
  have hap := va_apart (own := own) hts hin _ (ccl_ty _ (mem_ccl hc)) (ccl_nm _ (mem_ccl hc)) hK hc
  obtain ⟨hS, hfc, kC, hkC, hkind⟩ := hK.1 ci _ hc
  obtain ⟨cf, kf, fi, f, hi, hsl⟩ := hS k hk
  have hlay := hts _ (hin _ (u_in_lay hk))
  unfold u_lay at hlay
  rw [if_pos hfin] at hlay
  have hst := (u_facts hfc hkC (u_lays hts hin hk) hi).1
  have hcf : m.cls = cf := by
    obtain ⟨_, _, c', _, _, _, -, -, hf', -, -, -, hown2, -⟩ := Cond.laysFinal_spec hlay
    have e1 : c' = cf := by have := hi.symm.trans hf'; simp at this; exact this.1.symm
    rw [hdecl] at hown2
    rw [← e1]; exact Option.some.inj (hown.symm.trans hown2)
  have h6 := u_fits hfc hkC hkind (Or.inr hlay) hi hd hn hfit
  refine W.putFinK hx hb hown (hT.use hl rfl) hi hst hcf hin2 (by rw [q2]; exact h6) q1 q3 (by rw [hsl]; exact k2_hasslot (q4 k hk)) rfl rfl hdg fun H' e1 e2 e3 => ?_
  refine kk _ H' _ hf (hs.put e2 e3 hba ?_)
  show va_at G.1 ccl (a, .inr (ci, (fs.set k v).map hv_v)) H'
  rw [hv_set]
  rw [hsl] at e1
  exact ⟨_, hc, t_OB.to (V := updV (vp_V (fs.map hv_v)) k (hv_v v)) ⟨_, e1, q2, q3, t_set q4 hap hk (hv_v v)⟩ (fun j _ => vp_updV_set (by rw [List.length_map]; exact hkl) (hv_v v) j)⟩
theorem r_iald (C : CX G p l s m meth c cc nL own) (hs : ST G R s h z H locs cells slots) {i : Int32} (hdg : decode cc pc = .ok (.iaload, 1)) {β : Type} {K : Int32 → Option β} {r : β} (hf : (aI h a 0 i).bind K = some r)
    (kk : ∀ v, K v = some r → W p l e R s m args below meth c H locs cells slots Q (F0 m (pc + 1) ls (.int v :: rest))) : W p l e R s m args below meth c H locs cells slots Q (F0 m pc ls (.int i :: .ref a :: rest)) := by
  obtain ⟨v, h1, hf⟩ := bd hf
  obtain ⟨n, f, ha, hin, rfl⟩ := aI_at h1
  obtain ⟨hx, hb, -, hown, -, hG, hbs, -⟩ := C
  obtain ⟨hT, hK, -⟩ := hG.here hbs
  exact va_iald hx hb hK (vP1 (hp_ex (hs.1 a _ ha) (by decide))) 0 0 rfl (tyl_at (by decide)) hin hdg (kk _ hf)
theorem r_zald (C : CX G p l s m meth c cc nL own) (hs : ST G R s h z H locs cells slots) {i : Int32} (hdg : decode cc pc = .ok (.baload, 1)) {β : Type} {K : Int32 → Option β} {r : β} (hf : (aI h a 1 i).bind K = some r)
    (kk : ∀ v, K v = some r → W p l e R s m args below meth c H locs cells slots Q (F0 m (pc + 1) ls (.int v :: rest))) : W p l e R s m args below meth c H locs cells slots Q (F0 m pc ls (.int i :: .ref a :: rest)) := by
  obtain ⟨v, h1, hf⟩ := bd hf
  obtain ⟨n, f, ha, hin, rfl⟩ := aI_at h1
  obtain ⟨hx, hb, -, hown, -, hG, hbs, -⟩ := C
  obtain ⟨hT, hK, -⟩ := hG.here hbs
  exact va_zald hx hb hK (vP1 (hp_ex (hs.1 a _ ha) (by decide))) 0 1 rfl (tyl_at (by decide)) hin hdg (kk _ hf)
theorem r_lald (C : CX G p l s m meth c cc nL own) (hs : ST G R s h z H locs cells slots) {i : Int32} (hdg : decode cc pc = .ok (.laload, 1)) {β : Type} {K : Int64 → Option β} {r : β} (hf : (aJ h a 2 i).bind K = some r)
    (kk : ∀ v, K v = some r → W p l e R s m args below meth c H locs cells slots Q (F0 m (pc + 1) ls (.long v :: rest))) : W p l e R s m args below meth c H locs cells slots Q (F0 m pc ls (.int i :: .ref a :: rest)) := by
  obtain ⟨v, h1, hf⟩ := bd hf
  obtain ⟨n, f, ha, hin, rfl⟩ := aJ_at h1
  obtain ⟨hx, hb, -, hown, -, hG, hbs, -⟩ := C
  obtain ⟨hT, hK, -⟩ := hG.here hbs
  exact va_lald hx hb hK (vP1 (hp_ex (hs.1 a _ ha) (by decide))) 0 2 rfl (tyl_at (by decide)) hin hdg (kk _ hf)
theorem r_aaldQ (C : CX G p l s m meth c cc nL own) (hs : ST G R s h z H locs cells slots) {i : Int32} {kd : Nat} (hkd : 3 ≤ kd) (hdg : decode cc pc = .ok (.aaload, 1)) {x : Option Nat} (hf : aQ h a kd i = some x)
    (kk : W p l e R s m args below meth c H locs cells slots Q (F0 m (pc + 1) ls (va_rf x :: rest))) : W p l e R s m args below meth c H locs cells slots Q (F0 m pc ls (.int i :: .ref a :: rest)) := by
  obtain ⟨n, f, ha, hin, rfl, h7⟩ := aQ_at hf
  obtain ⟨hx, hb, -, hown, -, hG, hbs, -⟩ := C
  obtain ⟨hT, hK, -⟩ := hG.here hbs
  obtain ⟨Cn, hCn⟩ : ∃ Cn, tyk kd = .object Cn := by
    rcases (show kd = 3 ∨ kd = 4 ∨ kd = 5 ∨ kd = 6 by omega) with rfl | rfl | rfl | rfl <;> exact ⟨_, rfl⟩
  exact va_aldq hx hb hK (vP1 (hp_ex (hs.1 a _ ha) h7)) 0 kd rfl (by rw [tyl_at h7, hCn]) hin hdg kk
theorem r_aald (C : CX G p l s m meth c cc nL own) (hs : ST G R s h z H locs cells slots) {i : Int32} {kd : Nat} (hkd : 3 ≤ kd) (hdg : decode cc pc = .ok (.aaload, 1)) {β : Type} {K : Nat → Option β} {r : β} (hf : (aR h a kd i).bind K = some r)
    (kk : ∀ v, K v = some r → W p l e R s m args below meth c H locs cells slots Q (F0 m (pc + 1) ls (.ref v :: rest))) : W p l e R s m args below meth c H locs cells slots Q (F0 m pc ls (.int i :: .ref a :: rest)) := by
  obtain ⟨v, h1, hf⟩ := bd hf
  exact r_aaldQ C hs hkd hdg (aR_at h1) (kk v hf)
theorem r_alen (C : CX G p l s m meth c cc nL own) (hs : ST G R s h z H locs cells slots) (hdg : decode cc pc = .ok (.arraylength, 1)) {β : Type} {K : Int32 → Option β} {r : β} (hf : (aN h a).bind K = some r)
    (kk : ∀ v, K v = some r → W p l e R s m args below meth c H locs cells slots Q (F0 m (pc + 1) ls (.int v :: rest))) : W p l e R s m args below meth c H locs cells slots Q (F0 m pc ls (.ref a :: rest)) := by
  obtain ⟨v, h1, hf⟩ := bd hf
  obtain ⟨k, n, f, ha, rfl⟩ := aN_at h1
  obtain ⟨hx, hb, -, hown, -, hG, hbs, -⟩ := C
  obtain ⟨hT, hK, -⟩ := hG.here hbs
  rcases hs.1 a _ ha with h9 | ⟨h0, cell, g1, g2, g3, g4, g5, -⟩
  · refine va_alen hx hb hK (vP1 h9.2) 0 k rfl (tyl_at h9.1) ?_ hdg (kk _ hf)
    rcases f with f | f | f <;> rfl
  · obtain ⟨-, -, -, -, -, -, hA7, hA8⟩ := hG.here hbs
    have hk78 : k = 7 ∨ k = 8 := aN_78 h1 ha h0
    rcases hk78 with rfl | rfl
    · exact W.alen (ty := .int) hx hb g1 (old_arr hA7 g2 g3) (by rw [g5]) rfl rfl hdg (kk _ hf)
    · exact W.alen (ty := .object "java/lang/Object") hx hb g1 (old_arr hA8 g2 g3) (by rw [g5]) rfl rfl hdg (kk _ hf)
/-- a read of the script -/
theorem r_iald7 (C : CX G p l s m meth c cc nL own) (hs : ST G R s h z H locs cells slots) {i : Int32} (hdg : decode cc pc = .ok (.iaload, 1)) {β : Type} {K : Int32 → Option β} {r : β} (hf : (aI h a 7 i).bind K = some r)
    (kk : ∀ v, K v = some r → W p l e R s m args below meth c H locs cells slots Q (F0 m (pc + 1) ls (.int v :: rest))) : W p l e R s m args below meth c H locs cells slots Q (F0 m pc ls (.int i :: .ref a :: rest)) := by
  obtain ⟨v, h1, hf⟩ := bd hf
  obtain ⟨n, f, ha, hin, rfl⟩ := aI_at h1
  obtain ⟨hx, hb, -, hown, -, hG, hbs, -⟩ := C
  obtain ⟨-, -, -, -, -, -, hA7, hA8⟩ := hG.here hbs
  rcases hs.1 a _ ha with h9 | ⟨h0, cell, g1, g2, g3, g4, g5, g6⟩
  · exact absurd h9.1 (by decide)
  · have hlt : i.toNatClampNeg < n := Nat.not_le.mp fun q => hin (Or.inr q)
    exact W.iald hx hb g1 (old_arr hA7 g2 g3) g4 (by rw [g5]; exact hin) (g6 f rfl _ hlt) rfl rfl hdg (kk _ hf)
end RW2
