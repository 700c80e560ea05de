/-! THE FLAT WORLD: cells by number (in the order of their making), a memory of ints, of longs, of references -/
abbrev AV : Type := Int32 ⊕ (Int64 ⊕ Option Nat)
abbrev vi (x : Int32) : AV := Sum.inl x
abbrev vl (x : Int64) : AV := Sum.inr (Sum.inl x)
abbrev vq (r : Option Nat) : AV := Sum.inr (Sum.inr r)
abbrev vr (k : Nat) : AV := Sum.inr (Sum.inr (some k))
abbrev Mm : Type := Nat × (Nat → Nat → Int32) × (Nat → Nat → Int64) × (Nat → Nat → Option Nat)
abbrev ZZ : Type := MethodName × ByteArray × Nat × Option FieldType × String
/-- launch, classes' numbers, slots, array classes, the first address, special addresses, the script's length and ints -/
abbrev GG : Type := Launch × (Nat → ClassId) × (Nat → Nat → Nat) × (Nat → ClassId) × Nat × (Nat → Nat) × Nat × (Nat → Int32)
abbrev gl (G : GG) : Launch := G.1
abbrev gC (G : GG) : Nat → ClassId := G.2.1
abbrev gI (G : GG) : Nat → Nat → Nat := G.2.2.1
abbrev gY (G : GG) : Nat → ClassId := G.2.2.2.1
abbrev gB (G : GG) : Nat := G.2.2.2.2.1
abbrev gS (G : GG) : Nat → Nat := G.2.2.2.2.2.1
abbrev gL (G : GG) : Nat := G.2.2.2.2.2.2.1
abbrev gX (G : GG) : Nat → Int32 := G.2.2.2.2.2.2.2
def gA (G : GG) : Nat → Prop := fun q => gB G ≤ q
def ad (G : GG) (k : Nat) : Nat := if k < 1000 then gB G + k else gS G (k - 1000)
def cv (G : GG) (v : AV) : Value := match v with
  | .inl x => .int x
  | .inr (.inl x) => .long x
  | .inr (.inr r) => va_rf (r.map (ad G))
theorem ad_lt {G : GG} {k : Nat} (h : k < 1000) : ad G k = gB G + k := if_pos h
def fvl (G : GG) (M : Mm) (k i kd : Nat) : Value := if kd = 0 then .int (M.2.1 k i) else if kd = 1 then .long (M.2.2.1 k i) else va_rf ((M.2.2.2 k i).map (ad G))
def fls (G : GG) (M : Mm) (k c : Nat) : List Value := (List.range (fk c).length).map (fun i => fvl G M k i ((fk c).getD i 0))
def cel (G : GG) (M : Mm) (k : Nat) : va_E :=
  if (sh k).1 < 13 then .inr ((sh k).1, fls G M k (sh k).1)
  else if (sh k).1 = 13 then .inl (gY G 0, (sh k).2, .inl (M.2.1 k))
  else if (sh k).1 = 14 then .inl (gY G 1, (sh k).2, .inr (.inl (M.2.2.1 k)))
  else if (sh k).1 = 15 then .inl (gY G 2, (sh k).2, .inl (M.2.1 k))
  else .inl (gY G ((sh k).1 - 13), (sh k).2, .inr (.inr (.inr (.inr (fun i => (M.2.2.2 k i).map (ad G))))))
def wsG (G : GG) (M : Mm) : va_W := (List.range M.1).map (fun k => (gB G + k, cel G M k))
theorem wsG_at {G : GG} {M : Mm} {k : Nat} (h : k < M.1) : (wsG G M)[k]? = some (gB G + k, cel G M k) := by
  simp [wsG, h]
theorem wsG_lt {G : GG} {M : Mm} {k : Nat} {q : Nat × va_E} (h : (wsG G M)[k]? = some q) : k < M.1 ∧ q = (gB G + k, cel G M k) := by
  have h1 : k < M.1 := by
    have := (List.getElem?_eq_some_iff.mp h).1
    simpa [wsG] using this
  refine ⟨h1, ?_⟩
  rw [wsG_at h1] at h
  exact (Option.some.inj h).symm
theorem wsG_D (G : GG) (M : Mm) : va_D (gA G) (wsG G M) := by
  refine ⟨fun i j p q hp hq he => ?_, fun k q hq => ?_⟩
  · obtain ⟨_, rfl⟩ := wsG_lt hp
    obtain ⟨_, rfl⟩ := wsG_lt hq
    dsimp only at he
    omega
  · obtain ⟨_, rfl⟩ := wsG_lt hq
    exact Nat.le_add_right _ _
theorem wsG_set {G : GG} {M M' : Mm} {k : Nat} {e : va_E} (hk : k < M.1) (hn : M'.1 = M.1) (he : cel G M' k = e) (ho : ∀ j, j ≠ k → cel G M' j = cel G M j) : (wsG G M).set k (gB G + k, e) = wsG G M' := by
  apply List.ext_getElem?
  intro j
  rw [List.getElem?_set]
  by_cases hj : k = j
  · subst hj
    rw [if_pos rfl, if_pos (by simpa [wsG] using hk), wsG_at (by omega), he]
  · rw [if_neg hj]
    by_cases hl : j < M.1
    · rw [wsG_at hl, wsG_at (by omega), ho j (fun q => hj q.symm)]
    · rw [List.getElem?_eq_none (by simp [wsG]; omega), List.getElem?_eq_none (by simp [wsG]; omega)]
theorem wsG_push {G : GG} {M M' : Mm} {e : va_E} (hn : M'.1 = M.1 + 1) (he : cel G M' M.1 = e) (ho : ∀ j, j < M.1 → cel G M' j = cel G M j) : wsG G M ++ [(gB G + M.1, e)] = wsG G M' := by
  apply List.ext_getElem?
  intro j
  have hz : (wsG G M).length = M.1 := by simp [wsG]
  by_cases hl : j < M.1
  · rw [List.getElem?_append_left (by omega), wsG_at hl, wsG_at (by omega), ho j hl]
  · rw [List.getElem?_append_right (by omega), hz]
    by_cases h2 : j = M.1
    · subst h2
      rw [Nat.sub_self, wsG_at (by omega), he]
      rfl
    · rw [List.getElem?_eq_none (by simp; omega), List.getElem?_eq_none (by simp [wsG]; omega)]
theorem fls_at {G : GG} {M : Mm} {k c i : Nat} (hi : i < (fk c).length) : (fls G M k c)[i]? = some (fvl G M k i ((fk c).getD i 0)) := by
  simp [fls, hi]
theorem fls_len {G : GG} {M : Mm} {k c : Nat} : (fls G M k c).length = (fk c).length := by simp [fls]
theorem fls_set {G : GG} {M M' : Mm} {k c i : Nat} {v : Value} (hi : i < (fk c).length) (hv : fvl G M' k i ((fk c).getD i 0) = v) (ho : ∀ j, j ≠ i → ∀ kd, fvl G M' k j kd = fvl G M k j kd) : (fls G M k c).set i v = fls G M' k c := by
  apply List.ext_getElem?
  intro j
  rw [List.getElem?_set]
  by_cases hj : i = j
  · subst hj
    rw [if_pos rfl, if_pos (by rw [fls_len]; exact hi), fls_at hi, hv]
  · rw [if_neg hj]
    by_cases hl : j < (fk c).length
    · rw [fls_at hl, fls_at hl, ho j (fun q => hj q.symm)]
    · rw [List.getElem?_eq_none (by rw [fls_len]; omega), List.getElem?_eq_none (by rw [fls_len]; omega)]
theorem cel_obj {G : GG} {M : Mm} {k c N : Nat} (hs : sh k = (c, N)) (hc : c < 13) : cel G M k = .inr (c, fls G M k c) := by
  unfold cel
  rw [hs]
  exact if_pos hc
theorem cel_int {G : GG} {M : Mm} {k N : Nat} (hs : sh k = (13, N)) : cel G M k = .inl (gY G 0, N, .inl (M.2.1 k)) := by
  unfold cel; rw [hs]; rfl
theorem cel_long {G : GG} {M : Mm} {k N : Nat} (hs : sh k = (14, N)) : cel G M k = .inl (gY G 1, N, .inr (.inl (M.2.2.1 k))) := by
  unfold cel; rw [hs]; rfl
theorem cel_bool {G : GG} {M : Mm} {k N : Nat} (hs : sh k = (15, N)) : cel G M k = .inl (gY G 2, N, .inl (M.2.1 k)) := by
  unfold cel; rw [hs]; rfl
theorem cel_ref {G : GG} {M : Mm} {k c N : Nat} (hs : sh k = (c, N)) (hc : 15 < c) : cel G M k = .inl (gY G (c - 13), N, .inr (.inr (.inr (.inr (fun i => (M.2.2.2 k i).map (ad G)))))) := by
  unfold cel; rw [hs]
  dsimp only
  rw [if_neg (by omega), if_neg (by omega), if_neg (by omega), if_neg (by omega)]
theorem cel_congr {G : GG} {M M' : Mm} {k : Nat} (h1 : M'.2.1 k = M.2.1 k) (h2 : M'.2.2.1 k = M.2.2.1 k) (h3 : M'.2.2.2 k = M.2.2.2 k) : cel G M' k = cel G M k := by
  unfold cel fls fvl
  simp only [h1, h2, h3]
/-- memory rows -/
def sr {α : Type} (I : Nat → Nat → α) (k : Nat) (f : Nat → α) : Nat → Nat → α := fun j => if j = k then f else I j
theorem sr_eq {α : Type} {I : Nat → Nat → α} {k : Nat} {f : Nat → α} : sr I k f k = f := if_pos rfl
theorem sr_ne {α : Type} {I : Nat → Nat → α} {k j : Nat} {f : Nat → α} (h : j ≠ k) : sr I k f j = I j := if_neg h
def up {α : Type} (f : Nat → α) (i : Nat) (x : α) : Nat → α := fun j => if j = i then x else f j
theorem up_eq {α : Type} {f : Nat → α} {i : Nat} {x : α} : up f i x i = x := if_pos rfl
theorem up_ne {α : Type} {f : Nat → α} {i j : Nat} {x : α} (h : j ≠ i) : up f i x j = f j := if_neg h
def actsF : Nat → Int32 := fun j => match j with | 0 => 43 | 1 => 45 | 2 => 42 | _ => 109
def movesF : Nat → Int32 := fun j => match j with | 0 => 0 | 1 => 100 | 2 => 200 | 3 => 201 | 4 => 202 | 5 => 211 | 6 => 212 | 7 => 301 | 8 => 302 | 9 => 310 | 10 => 312 | 11 => 400 | 12 => 401 | 13 => 411 | 14 => 501 | 15 => 502 | _ => 512
def highF : Nat → Int64 := fun j => match j with | 0 => -71777214294589696 | 1 => -281470681808896 | _ => -4294967296
def lowF : Nat → Int64 := fun j => match j with | 0 => -6148914691236517206 | 1 => -3689348814741910324 | _ => -1085102592571150096
def isNest (w : Cond) : Bool := match w with
  | .fieldLinkNest .. => true
  | .methodLinkNest .. => true
  | _ => false
def BIG : List Cond := lw_tbl.filter goodWord
def NST : List Cond := lw_tbl.filter isNest
def tysG (G : GG) : List (ClassId × FieldType) := [(gY G 0, .int), (gY G 1, .long), (gY G 2, .boolean), (gY G 3, .object "FewerSteps$Desk"), (gY G 4, .object "FewerSteps$Rows"), (gY G 5, .object "FewerSteps$Rule")]
def ST (G : GG) (U : State) : Prop :=
  (va_Z "FewerSteps" "ACTS" "[I" (.ref (gS G 1)) (gA G) U U.heap ∧ va_T .int (gS G 1) 4 (fun j => .int (actsF j)) (gA G) U U.heap) ∧
  (va_Z "FewerSteps$Search" "MOVES" "[I" (.ref (gS G 2)) (gA G) U U.heap ∧ va_T .int (gS G 2) 17 (fun j => .int (movesF j)) (gA G) U U.heap) ∧
  (va_Z "FewerSteps$Rows" "HIGH_DIGIT" "[J" (.ref (gS G 3)) (gA G) U U.heap ∧ va_T .long (gS G 3) 3 (fun j => .long (highF j)) (gA G) U U.heap) ∧
  (va_Z "FewerSteps$Rows" "LOW_DIGIT" "[J" (.ref (gS G 4)) (gA G) U U.heap ∧ va_T .long (gS G 4) 3 (fun j => .long (lowF j)) (gA G) U U.heap) ∧
  (va_X (gS G 0) (gL G) (gX G) U U.heap ∧ gS G 0 < gB G)
def KU (G : GG) (U : State) : Prop := va_K (gC G, gI G) vwCl (tysG G) U ∧ (∀ w ∈ NST, va_Nw w U) ∧ (va_AO "FewerSteps$Desk" U ∧ va_AO "FewerSteps$Rows" U ∧ va_AO "FewerSteps$Rule" U) ∧ ST G U ∧ gB G ≤ U.heap.size
theorem nest_moved {w : Cond} (hw : isNest w = true) {s U : State} (hW : s.WarmedH U.vm) (h : va_Nw w s) : va_Nw w U := by
  cases w <;> simp [isNest] at hw
  · exact va_Nw.warmM hW h
  · exact va_Nw.warmF hW h
theorem KU_moved {G : GG} {s U : State} (hW : s.WarmedH U.vm) (hz : s.heap.size ≤ U.heap.size) (hh : ∀ q : Nat, q < s.heap.size → ¬ gA G q → U.heap[q]? = s.heap[q]?) (h : KU G s) : KU G U := by
  obtain ⟨h1, h2, ⟨h3, h4, h5⟩, ⟨⟨a1, b1⟩, ⟨a2, b2⟩, ⟨a3, b3⟩, ⟨a4, b4⟩, hx, hx2⟩, hB⟩ := h
  have al := hW.alike
  refine ⟨va_K.moved al h1, fun w hw => nest_moved (List.mem_filter.mp hw).2 hW (h2 w hw), ⟨h3.moved al, h4.moved al, h5.moved al⟩, ⟨⟨(a1.moved al).kept hh, (b1.moved al).kept hh⟩, ⟨(a2.moved al).kept hh, (b2.moved al).kept hh⟩, ⟨(a3.moved al).kept hh, (b3.moved al).kept hh⟩, ⟨(a4.moved al).kept hh, (b4.moved al).kept hh⟩, (hx.moved al).kept (hh _ (Nat.lt_of_lt_of_le hx2 hB) (by unfold gA; omega)), hx2⟩, Nat.le_trans hB hz⟩
theorem KU_calling {G : GG} {U : State} {g : JFrame} {mk : MethodId} {a : Array Value} (h : KU G U) : KU G (U.calling g mk a) :=
  KU_moved (s := U) (U := U.calling g mk a) (State.WarmedH.refl U) (Nat.le_refl _) (fun _ _ _ => rfl) h
