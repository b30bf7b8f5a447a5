/-! The heap as a mathematical value: cells by their addresses; a field is an int or a reference (maybe null). -/
abbrev HV : Type := Int32 ⊕ Option Nat
abbrev HA : Type := (Nat → Int32) ⊕ ((Nat → Int64) ⊕ (Nat → Option Nat))
abbrev HC : Type := (Nat × List HV) ⊕ (Nat × Nat × HA)
abbrev HH : Type := Nat → Option HC
def hv_v : HV → Value
  | .inl x => .int x
  | .inr r => va_rf r
def ha_a (n : Nat) : HA → vp_A
  | .inl f => (n, .inl f)
  | .inr (.inl f) => (n, .inr (.inl f))
  | .inr (.inr f) => (n, .inr (.inr (.inr (.inr f))))
/-- words that stay when the tables grow warmer -/
def okw (w : Cond) : Bool := match w with
  | .fieldLinkNest .. => true
  | .methodLinkNest .. => true
  | .castable .. => true
  | .declares .. => true
  | .privateMethod .. => true
  | .stringRef .. => true
  | .arrayOver (.object _) => true
  | w => goodWord w
theorem okw_move {w : Cond} (hw : okw w = true) {s U : State} (hW : s.WarmedH U.vm) {a a' : Array Value} (h : w.before a s = true) : w.before a' U = true := by
  unfold okw at hw
  split at hw
  · exact va_Nw.use rfl (va_Nw.warmF hW (va_Nw.of rfl h))
  · exact va_Nw.use rfl (va_Nw.warmM hW (va_Nw.of rfl h))
  · exact va_Nw.use rfl (va_Nw.warmC hW (va_Nw.of rfl h))
  · exact va_Nw.use rfl (va_Nw.warmD hW (va_Nw.of rfl h))
  · exact va_tabs rfl (rfl : (s.setVm U.vm).vm = U.vm) (by rw [Cond.privateMethod_setVm hW.alike]; exact h)
  · have h1 := Cond.stringRef_warmed (args := a) hW h
    simp only [Cond.before, Cond.holds, Cond.value, State.names, State.poolOf?, State.resolvedAt?, State.vm_setVm] at h1 ⊢
    exact h1
  · exact va_AO.use (va_AO.moved hW.alike (va_AO.of h))
  · exact word_at hW (good_of_word hw) h
def TW (U : State) : Prop := ∀ w ∈ lw_tbl, okw w = true → w.before #[] U = true
theorem TW.use {s : State} (h : TW s) {w : Cond} (hm : w ∈ lw_tbl) (hw : okw w = true) {args : Array Value} : w.before args s = true := okw_move hw (State.WarmedH.refl s) (h w hm hw)
theorem TW.move {s U : State} (h : TW s) (hW : s.WarmedH U.vm) : TW U := fun w hm hw => okw_move hw hW (h w hm hw)
/-! the classes of the objects: their fields in the order of the slots -/
def q_Entry : u_T := fun k => match k with
  | 0 => ("FencedBroker$Entry", "kind", "I", true)
  | 1 => ("FencedBroker$Entry", "transaction", "I", true)
  | 2 => ("FencedBroker$Entry", "name", "I", true)
  | 3 => ("FencedBroker$Entry", "age", "I", true)
  | 4 => ("FencedBroker$Entry", "sequence", "I", true)
  | _ => ("FencedBroker$Entry", "value", "I", true)
def q_Group : u_T := fun k => match k with
  | 0 => ("FencedBroker$Group", "generation", "I", false)
  | 1 => ("FencedBroker$Group", "members", "[Z", true)
  | 2 => ("FencedBroker$Group", "heardAt", "[I", true)
  | 3 => ("FencedBroker$Group", "owned", "[I", true)
  | _ => ("FencedBroker$Group", "committed", "[I", true)
def q_Log : u_T := fun k => match k with
  | 0 => ("FencedBroker$Log", "entries", "Ljava/util/ArrayList;", true)
  | 1 => ("FencedBroker$Log", "markerAt", "[I", true)
  | 2 => ("FencedBroker$Log", "start", "I", false)
  | _ => ("FencedBroker$Log", "high", "I", false)
def q_Producer : u_T := fun k => match k with
  | 0 => ("FencedBroker$Producer", "name", "I", true)
  | 1 => ("FencedBroker$Producer", "state", "I", false)
  | 2 => ("FencedBroker$Producer", "age", "I", false)
  | 3 => ("FencedBroker$Producer", "transaction", "I", false)
  | 4 => ("FencedBroker$Producer", "begunAt", "I", false)
  | 5 => ("FencedBroker$Producer", "touched", "I", false)
  | _ => ("FencedBroker$Producer", "pending", "[I", true)
def q_Broker : u_T := fun k => match k with
  | 0 => ("FencedBroker", "logs", "[LFencedBroker$Log;", true)
  | 1 => ("FencedBroker", "producers", "[LFencedBroker$Producer;", true)
  | 2 => ("FencedBroker", "groups", "[LFencedBroker$Group;", true)
  | 3 => ("FencedBroker", "transactions", "I", false)
  | 4 => ("FencedBroker", "time", "I", false)
  | _ => ("FencedBroker", "lastValue", "I", false)
def q_List : u_T := fun k => match k with
  | 0 => ("java/util/AbstractList", "modCount", "I", false)
  | 1 => ("java/util/ArrayList", "elementData", "[Ljava/lang/Object;", false)
  | _ => ("java/util/ArrayList", "size", "I", false)
def q_Model : u_T := fun k => match k with
  | 0 => ("FencedBrokerModel", "failed", "I", false)
  | 1 => ("FencedBrokerModel", "kind", "[I", true)
  | 2 => ("FencedBrokerModel", "value", "[I", true)
  | 3 => ("FencedBrokerModel", "by", "[I", true)
  | 4 => ("FencedBrokerModel", "byAge", "[I", true)
  | 5 => ("FencedBrokerModel", "sequence", "[I", true)
  | 6 => ("FencedBrokerModel", "transaction", "[I", true)
  | 7 => ("FencedBrokerModel", "length", "[I", true)
  | 8 => ("FencedBrokerModel", "start", "[I", true)
  | 9 => ("FencedBrokerModel", "high", "[I", true)
  | 10 => ("FencedBrokerModel", "status", "[I", true)
  | 11 => ("FencedBrokerModel", "age", "[I", true)
  | 12 => ("FencedBrokerModel", "current", "[I", true)
  | 13 => ("FencedBrokerModel", "touched", "[I", true)
  | 14 => ("FencedBrokerModel", "begun", "[I", true)
  | 15 => ("FencedBrokerModel", "pending", "[I", true)
  | 16 => ("FencedBrokerModel", "transactions", "I", false)
  | 17 => ("FencedBrokerModel", "generation", "[I", true)
  | 18 => ("FencedBrokerModel", "member", "[Z", true)
  | 19 => ("FencedBrokerModel", "heard", "[I", true)
  | 20 => ("FencedBrokerModel", "holder", "[I", true)
  | 21 => ("FencedBrokerModel", "committed", "[I", true)
  | 22 => ("FencedBrokerModel", "time", "I", false)
  | _ => ("FencedBrokerModel", "last", "I", false)
def ccl : List vw_C := [("FencedBroker$Entry", q_Entry, 6), ("FencedBroker$Group", q_Group, 5), ("FencedBroker$Log", q_Log, 4), ("FencedBroker$Producer", q_Producer, 7), ("FencedBroker", q_Broker, 6), ("java/util/ArrayList", q_List, 3), ("FencedBrokerModel", q_Model, 24)]
theorem ccl_in : ∀ q ∈ ccl, ∀ w ∈ u_ws q.1 q.2.1 q.2.2, w ∈ lw_tbl := by decide +kernel
theorem ccl_nm : ∀ q ∈ ccl, ∀ a, a < q.2.2 → ∀ b, b < q.2.2 → a ≠ b → (q.2.1 a).2.1 ≠ (q.2.1 b).2.1 := by decide +kernel
def tyk (k : Nat) : FieldType := match k with
  | 0 => .int
  | 1 => .boolean
  | 2 => .long
  | 3 => .object "java/lang/Object"
  | 4 => .object "FencedBroker$Log"
  | 5 => .object "FencedBroker$Producer"
  | _ => .object "FencedBroker$Group"
/-- what stays fixed: the classes' numbers, the arrays' classes, from where on cells may be written, ArrayList's empty array, the Class object of Object[] -/
abbrev EN : Type := va_G × (Nat → ClassId) × Nat × (Nat × Nat)
def tyl (G : EN) : List (ClassId × FieldType) := (List.range 7).map (fun k => (G.2.1 k, tyk k))
def AG (G : EN) : Nat → Prop := fun q => G.2.2.1 ≤ q
/-- an array that was there before: the script (7), ArrayList's empty one (8): read only -/
def hp_old (G : EN) (a k n : Nat) (x : HA) (H : Heap) : Prop := ∃ cell : Cell, H[a]? = some cell ∧ cell.cls = G.2.1 k ∧ (∀ q, cell.vm ≠ .statics q) ∧ cell.vm ≠ .unknown ∧ cell.slots.size = n ∧ ∀ f, x = .inl f → ∀ j, j < n → cell.slots[j]? = some (.int (f j))
def hp_at (G : EN) (a : Nat) (c : HC) (H : Heap) : Prop := match c with
  | .inl (ci, fs) => va_at G.1 ccl (a, .inr (ci, fs.map hv_v)) H
  | .inr (k, n, x) => (k < 7 ∧ va_at G.1 ccl (a, .inl (G.2.1 k, ha_a n x)) H) ∨ (7 ≤ k ∧ hp_old G a k n x H)
def HP (G : EN) (h : HH) (H : Heap) : Prop := ∀ (a : Nat) (c : HC), h a = some c → hp_at G a c H
theorem hp_at.kept {G : EN} {a : Nat} {c : HC} {H H1 : Heap} (h : hp_at G a c H) (hq : H1[a]? = H[a]?) : hp_at G a c H1 := by
  rcases c with ⟨ci, fs⟩ | ⟨k, n, x⟩
  · exact va_at.kept (q := (a, .inr (ci, fs.map hv_v))) h hq
  · rcases h with h | ⟨h0, cell, h1, h2⟩
    · exact Or.inl ⟨h.1, va_at.kept (q := (a, .inl (G.2.1 k, ha_a n x))) h.2 hq⟩
    · exact Or.inr ⟨h0, cell, by rw [hq]; exact h1, h2⟩
theorem hp_at.lt {G : EN} {a : Nat} {c : HC} {H : Heap} (h : hp_at G a c H) : a < H.size := by
  rcases c with ⟨ci, fs⟩ | ⟨k, n, x⟩
  · exact va_at.lt (q := (a, .inr (ci, fs.map hv_v))) h
  · rcases h with h | ⟨h0, cell, h1, h2⟩
    · exact va_at.lt (q := (a, .inl (G.2.1 k, ha_a n x))) h.2
    · exact (Array.getElem?_eq_some_iff.mp h1).1
theorem hp_ex {G : EN} {a k n : Nat} {x : HA} {H : Heap} (h : hp_at G a (.inr (k, n, x)) H) (hk : k < 7) : va_at G.1 ccl (a, .inl (G.2.1 k, ha_a n x)) H := by
  rcases h with h | h
  · exact h.2
  · exact absurd h.1 (by omega)
theorem HP.up {G : EN} {h : HH} {H H1 : Heap} {a : Nat} {c : HC} (hh : HP G h H) (hq : ∀ q : Nat, q ≠ a → H1[q]? = H[q]?) (hc : hp_at G a c H1) : HP G (va_up h a (some c)) H1 := by
  intro b d hb
  by_cases e : b = a
  · subst e
    simp [va_up] at hb
    subst hb
    exact hc
  · simp [va_up, e] at hb
    exact (hh b d hb).kept (hq b e)
theorem HP.push {G : EN} {h : HH} {H H1 : Heap} {z : Nat} {c : HC} (hh : HP G h H) (hz : H.size = z) (hq : ∀ q : Nat, q < z → H1[q]? = H[q]?) (hc : hp_at G z c H1) : HP G (va_up h z (some c)) H1 := by
  intro b d hb
  by_cases e : b = z
  · subst e
    simp [va_up] at hb
    subst hb
    exact hc
  · simp [va_up, e] at hb
    exact (hh b d hb).kept (hq b (by have := (hh b d hb).lt; omega))
/-- a later state: the tables warmer, the old cells as they were -/
def Later (bs : Nat) (U V : State) : Prop := U.WarmedH V.vm ∧ bs ≤ V.heap.size ∧ ∀ q : Nat, q < bs → V.heap[q]? = U.heap[q]?
/-- the words on heap cells that a 'throw' needs -/
def thr_ws : List Cond := [.isRef (.static "java/lang/Throwable" "UNASSIGNED_STACK" "[Ljava/lang/StackTraceElement;"), .isRef (.static "java/lang/Throwable" "SUPPRESSED_SENTINEL" "Ljava/util/List;"), .laysStatic "java/lang/Throwable" "UNASSIGNED_STACK" "[Ljava/lang/StackTraceElement;", .laysStatic "java/lang/Throwable" "SUPPRESSED_SENTINEL" "Ljava/util/List;"]
def exL : List String := ["java/lang/IllegalArgumentException", "java/lang/IllegalStateException", "java/util/NoSuchElementException", "java/lang/UnsupportedOperationException", "java/lang/IndexOutOfBoundsException"]
def GX (G : EN) (V : State) : Prop := TW V ∧ va_K G.1 ccl (tyl G) V ∧ va_Z "java/util/ArrayList" "DEFAULTCAPACITY_EMPTY_ELEMENTDATA" "[Ljava/lang/Object;" (.ref G.2.2.2.1) (AG G) V V.heap ∧ va_Mi "[Ljava/lang/Object;" G.2.2.2.2 V ∧ (∀ w ∈ thr_ws, w.before #[] V = true) ∧ (∀ E ∈ exL, ∀ E2 ∈ exL, E ≠ E2 → va_Nc E E2 V) ∧ ArrOfT V (G.2.1 7) .int ∧ ArrOfT V (G.2.1 8) (.object "java/lang/Object")
def GW (G : EN) (U : State) : Prop := ∀ V : State, Later G.2.2.1 U V → GX G V
theorem Later.trans {bs : Nat} {U V X : State} (h : Later bs U V) (h2 : Later bs V X) : Later bs U X := ⟨State.WarmedH.trans h.1 h2.1, h2.2.1, fun q hq => (h2.2.2 q hq).trans (h.2.2 q hq)⟩
theorem GW.move {G : EN} {U V : State} (h : GW G U) (hl : Later G.2.2.1 U V) : GW G V := fun X hX => h X (hl.trans hX)
