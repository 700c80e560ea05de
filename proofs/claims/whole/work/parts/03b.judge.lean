/-! THE JUDGEMENTS: X (a frame of a method runs to its end with Q), Y (a method's contract) -/
def wz (z : ZZ) : List Cond := Cond.code z.1 z.2.1 z.2.2.1 z.2.2.2.1 :: BIG
def rmz (d mc ms : Nat) : Room := { frames := d, cells := mc, slots := ms, locals := 64 * d }
def WU (G : GG) (M : Mm) (U : State) : Prop := KU G U ∧ va_P (gC G, gI G) vwCl (wsG G M) U.heap ∧ U.heap.size = gB G + M.1 ∧ M.1 ≤ 1000
def QQ (G : GG) (n : Nat) (Q : Option AV → Mm → Prop) : Array Value → State → Outcome → State → Prop := fun _ st oc t => (∃ (r : Option AV) (M' : Mm), oc = .returned (r.map (cv G)) ∧ Q r M' ∧ M'.1 = n ∧ WU G M' t) ∧ va_F (gA G) st t
def Y (G : GG) (d : Nat) (z : ZZ) (av : List AV) (M : Mm) (mc ms : Nat) (Q : Option AV → Mm → Prop) : Prop :=
  Met (gl G) z.1 (wz z) (rmz d mc ms) (va_Pc (av.map (cv G)) (WU G M)) (QQ G (M.1 + mc) Q) mc ms (gA G)
def CX (G : GG) (z : ZZ) (p : Program) (s : State) (m : MethodId) (args : Array Value) (meth : Method) (c : Code) : Prop :=
  p.tables.exec = Jvm.exec ∧ c.code = z.2.1 ∧ meth.sig.returnType = z.2.2.2.1 ∧ meth.locks = false ∧ c.maxLocals = z.2.2.1 ∧ s.vm.findClass z.2.2.2.2 = some m.cls ∧ (∀ w ∈ wz z, w.before args s = true) ∧ meth.name = z.1.name ∧ KU G s
def HX (G : GG) (M : Mm) (s : State) (H : Heap) (locs : List Loc) (cells : Nat) : Prop :=
  va_P (gC G, gI G) vwCl (wsG G M) H ∧ s.heap.size + cells = gB G + M.1 ∧ M.1 ≤ 1000 ∧ va_S (gA G) s.heap H locs
def LX (G : GG) (z : ZZ) (lv : List (Nat × AV)) (ls : Array Slot) : Prop := lv_has ls z.2.2.1 (lv.map (fun q => (q.1, cv G q.2)))
def X (G : GG) (d : Nat) (z : ZZ) (pc : Nat) (lv : List (Nat × AV)) (st : List AV) (M : Mm) (rc rs : Nat) (Q : Option AV → Mm → Prop) : Prop :=
  ∀ (p : Program) (e : Env) (s : State) (m : MethodId) (args : Array Value) (below : List Frame) (meth : Method) (c : Code) (H : Heap) (locs : List Loc) (ls : Array Slot) (cells slots : Nat),
    CX G z p s m args meth c → HX G M s H locs cells → LX G z lv ls →
    W p (gl G) e (rmz d (cells + rc) (slots + rs)) s m args below meth c H locs cells slots (MQ below (QQ G (M.1 + rc) Q) args s (cells + rc) (slots + rs) (gA G)) (F0 m pc ls (st.map (cv G)))
section XR
variable {G : GG} {d : Nat} {z : ZZ} {pc : Nat} {lv : List (Nat × AV)} {st : List AV} {M : Mm} {rc rs : Nat} {Q : Option AV → Mm → Prop}
def lk (lv : List (Nat × AV)) (i : Nat) : Option AV := match lv with
  | [] => none
  | q :: r => if q.1 = i then some q.2 else lk r i
def lst (lv : List (Nat × AV)) (i : Nat) (v : AV) : List (Nat × AV) := match lv with
  | [] => [(i, v)]
  | q :: r => if q.1 = i then (i, v) :: r else q :: lst r i v
theorem lk_mem {lv : List (Nat × AV)} {i : Nat} {v : AV} (h : lk lv i = some v) : (i, v) ∈ lv := by
  induction lv with
  | nil => cases h
  | cons q r ih =>
    unfold lk at h
    by_cases hq : q.1 = i
    · rw [if_pos hq] at h
      cases h
      subst hq
      exact List.mem_cons_self
    · rw [if_neg hq] at h
      exact List.mem_cons_of_mem _ (ih h)
theorem LX_at {ls : Array Slot} (h : LX G z lv ls) {i : Nat} {v : AV} (hk : lk lv i = some v) : ls[i]? = some (.val (cv G v)) :=
  h.2.2 (i, cv G v) (List.mem_map.mpr ⟨(i, v), lk_mem hk, rfl⟩)
theorem LX_size {ls : Array Slot} (h : LX G z lv ls) : ls.size = z.2.2.1 := h.1
/-- the known locals' numbers are all unlike, no long stands ahead of a stored one -/
def lok (lv : List (Nat × AV)) : Bool := match lv with
  | [] => true
  | q :: r => r.all (fun p => !(p.1 == q.1)) && lok r
def isL (v : AV) : Bool := match v with
  | .inr (.inl _) => true
  | _ => false
theorem cat_isL (v : AV) : (cv G v).category = (if isL v then 2 else 1) := by
  rcases v with x | x | r
  · rfl
  · rfl
  · cases r <;> rfl
theorem lst_mem {lv : List (Nat × AV)} {i : Nat} {v : AV} (hok : lok lv = true) : ∀ q ∈ lst lv i v, q = (i, v) ∨ (q ∈ lv ∧ q.1 ≠ i) := by
  induction lv with
  | nil =>
    intro q hq
    exact Or.inl (List.mem_singleton.mp hq)
  | cons a r ih =>
    intro q hq
    simp only [lok, Bool.and_eq_true] at hok
    unfold lst at hq
    by_cases ha : a.1 = i
    · rw [if_pos ha] at hq
      rcases List.mem_cons.mp hq with h | h
      · exact Or.inl h
      · refine Or.inr ⟨List.mem_cons_of_mem _ h, fun e => ?_⟩
        have := List.all_eq_true.mp hok.1 q h
        rw [e, ← ha] at this
        simp at this
    · rw [if_neg ha] at hq
      rcases List.mem_cons.mp hq with h | h
      · subst h
        exact Or.inr ⟨List.mem_cons_self, ha⟩
      · rcases ih hok.2 q h with h | h
        · exact Or.inl h
        · exact Or.inr ⟨List.mem_cons_of_mem _ h.1, h.2⟩
/-- a store of one slot: no long of the list begins just ahead of it -/
theorem LX_st1 {ls : Array Slot} {i : Nat} {v : AV} (hok : lok lv = true) (hnl : lv.all (fun q => !(q.1 + 1 == i && isL q.2)) = true)
    (h : lv_has ls z.2.2.1 ((i, cv G v) :: (lv.map (fun q => (q.1, cv G q.2))).filter (fun q => !(q.1 == i) && !(q.1 + 1 == i && q.2.category == 2)))) : LX G z (lst lv i v) ls := by
  refine ⟨h.1, h.2.1, fun q hq => ?_⟩
  obtain ⟨a, ha, rfl⟩ := List.mem_map.mp hq
  rcases lst_mem hok a ha with e | ⟨h1, h2⟩
  · rw [e]
    exact h.2.2 _ List.mem_cons_self
  · refine h.2.2 _ (List.mem_cons_of_mem _ (List.mem_filter.mpr ⟨List.mem_map.mpr ⟨a, h1, rfl⟩, ?_⟩))
    have h3 := List.all_eq_true.mp hnl a h1
    simp only [cat_isL]
    cases hl : isL a.2 <;> simp [hl] at h3 ⊢
    · exact h2
    · exact ⟨h2, h3⟩
theorem LX_st2 {ls : Array Slot} {i : Nat} {v : AV} (hok : lok lv = true) (hnl : lv.all (fun q => !(q.1 == i + 1) && !(q.1 + 1 == i && isL q.2)) = true)
    (h : lv_has ls z.2.2.1 ((i, cv G v) :: (lv.map (fun q => (q.1, cv G q.2))).filter (fun q => !(q.1 == i) && (!(q.1 == i + 1) && !(q.1 + 1 == i && q.2.category == 2))))) : LX G z (lst lv i v) ls := by
  refine ⟨h.1, h.2.1, fun q hq => ?_⟩
  obtain ⟨a, ha, rfl⟩ := List.mem_map.mp hq
  rcases lst_mem hok a ha with e | ⟨h1, h2⟩
  · rw [e]
    exact h.2.2 _ List.mem_cons_self
  · refine h.2.2 _ (List.mem_cons_of_mem _ (List.mem_filter.mpr ⟨List.mem_map.mpr ⟨a, h1, rfl⟩, ?_⟩))
    have h3 := List.all_eq_true.mp hnl a h1
    simp only [cat_isL]
    cases hl : isL a.2 <;> simp [hl] at h3 ⊢
    · exact ⟨h2, h3⟩
    · exact ⟨h2, h3⟩
/-- the heap's size is known -/
theorem W_size {p : Program} {e : Env} {s : State} {m : MethodId} {args : Array Value} {below : List Frame} {meth : Method} {c : Code} {H : Heap} {locs : List Loc} {cells slots : Nat} {R : Room} {Qw : State → Prop} {g : JFrame}
    (hH : HX G M s H locs cells) (hB : gB G ≤ s.heap.size) (k : H.size = gB G + M.1 → W p (gl G) e R s m args below meth c H locs cells slots Qw g) : W p (gl G) e R s m args below meth c H locs cells slots Qw g := by
  intro T hT Xx
  have h1 := Xx.heapSize
  rw [hT] at h1
  have h2 : gB G + M.1 ≤ H.size := by
    by_cases h0 : M.1 = 0
    · have := hH.2.2.2.1
      have := hH.2.1
      omega
    · have hl : M.1 - 1 < M.1 := by omega
      have := (hH.1 _ _ (wsG_at hl)).lt
      dsimp only at this
      omega
  have := hH.2.1
  exact k (by omega) T hT Xx
theorem weak {lv' : List (Nat × AV)} (hs : ∀ q ∈ lv', q ∈ lv) (h : X G d z pc lv' st M rc rs Q) : X G d z pc lv st M rc rs Q := by
  intro p e s m args below meth c H locs ls cells slots hC hH hl
  refine h p e s m args below meth c H locs ls cells slots hC hH ⟨hl.1, hl.2.1, fun q hq => ?_⟩
  obtain ⟨a, ha, rfl⟩ := List.mem_map.mp hq
  exact hl.2.2 _ (List.mem_map.mpr ⟨a, hs a ha, rfl⟩)
/-! constants, locals, arithmetic -/
theorem X_iconst {n : Int} (hd : decode z.2.1 pc = .ok (.iconst n, 1)) {v : Int32} (hv : Int32.ofInt n = v) (h : X G d z (pc + 1) lv (vi v :: st) M rc rs Q) : X G d z pc lv st M rc rs Q :=
  fun p e s m args below meth c H locs ls cells slots hC hH hl => lv_iconst hC.1 hC.2.1 hd hv (h p e s m args below meth c H locs ls cells slots hC hH hl)
theorem X_bipush {n : Int} (hd : decode z.2.1 pc = .ok (.bipush n, 2)) {v : Int32} (hv : (Int8.ofInt n).toInt32 = v) (h : X G d z (pc + 2) lv (vi v :: st) M rc rs Q) : X G d z pc lv st M rc rs Q :=
  fun p e s m args below meth c H locs ls cells slots hC hH hl => lv_bipush hC.1 hC.2.1 hd hv (h p e s m args below meth c H locs ls cells slots hC hH hl)
theorem X_sipush {n : Int} (hd : decode z.2.1 pc = .ok (.sipush n, 3)) {v : Int32} (hv : (Int16.ofInt n).toInt32 = v) (h : X G d z (pc + 3) lv (vi v :: st) M rc rs Q) : X G d z pc lv st M rc rs Q :=
  fun p e s m args below meth c H locs ls cells slots hC hH hl => lv_sipush hC.1 hC.2.1 hd hv (h p e s m args below meth c H locs ls cells slots hC hH hl)
theorem X_lconst {n : Fin 2} (hd : decode z.2.1 pc = .ok (.lconst n, 1)) {v : Int64} (hv : Int64.ofNat (n : Nat) = v) (h : X G d z (pc + 1) lv (vl v :: st) M rc rs Q) : X G d z pc lv st M rc rs Q :=
  fun p e s m args below meth c H locs ls cells slots hC hH hl => lv_lconst hC.1 hC.2.1 hd hv (h p e s m args below meth c H locs ls cells slots hC hH hl)
theorem X_ldc {idx : Nat} {v : Int32} (hd : decode z.2.1 pc = .ok (.ldc idx, 2)) (hw : Cond.constant z.2.2.2.2 idx v ∈ BIG) (h : X G d z (pc + 2) lv (vi v :: st) M rc rs Q) : X G d z pc lv st M rc rs Q :=
  fun p e s m args below meth c H locs ls cells slots hC hH hl => lv_ldc hC.1 hC.2.1 hC.2.2.2.2.2.1 (hC.2.2.2.2.2.2.1 _ (List.mem_cons_of_mem _ hw)) hd (h p e s m args below meth c H locs ls cells slots hC hH hl)
theorem X_ldcw {idx : Nat} {v : Int32} (hd : decode z.2.1 pc = .ok (.ldc_w idx, 3)) (hw : Cond.constant z.2.2.2.2 idx v ∈ BIG) (h : X G d z (pc + 3) lv (vi v :: st) M rc rs Q) : X G d z pc lv st M rc rs Q :=
  fun p e s m args below meth c H locs ls cells slots hC hH hl => lv_ldcw hC.1 hC.2.1 hC.2.2.2.2.2.1 (hC.2.2.2.2.2.2.1 _ (List.mem_cons_of_mem _ hw)) hd (h p e s m args below meth c H locs ls cells slots hC hH hl)
theorem X_ldc2 {idx : Nat} {v : Int64} (hd : decode z.2.1 pc = .ok (.ldc2_w idx, 3)) (hw : Cond.constantLong z.2.2.2.2 idx v ∈ BIG) (h : X G d z (pc + 3) lv (vl v :: st) M rc rs Q) : X G d z pc lv st M rc rs Q :=
  fun p e s m args below meth c H locs ls cells slots hC hH hl => lv_ldc2 hC.1 hC.2.1 hC.2.2.2.2.2.1 (hC.2.2.2.2.2.2.1 _ (List.mem_cons_of_mem _ hw)) hd (h p e s m args below meth c H locs ls cells slots hC hH hl)
theorem X_iload_n {k : Fin 4} {x : Int32} (hd : decode z.2.1 pc = .ok (.iload_n k, 1)) (hk : lk lv (k : Nat) = some (vi x)) (h : X G d z (pc + 1) lv (vi x :: st) M rc rs Q) : X G d z pc lv st M rc rs Q :=
  fun p e s m args below meth c H locs ls cells slots hC hH hl => lv_iload_n hC.1 hC.2.1 hd rfl (LX_at hl hk) (h p e s m args below meth c H locs ls cells slots hC hH hl)
theorem X_iload {i : Nat} {x : Int32} (hd : decode z.2.1 pc = .ok (.iload i, 2)) (hk : lk lv i = some (vi x)) (h : X G d z (pc + 2) lv (vi x :: st) M rc rs Q) : X G d z pc lv st M rc rs Q :=
  fun p e s m args below meth c H locs ls cells slots hC hH hl => lv_iload hC.1 hC.2.1 hd (LX_at hl hk) (h p e s m args below meth c H locs ls cells slots hC hH hl)
theorem X_lload_n {k : Fin 4} {x : Int64} (hd : decode z.2.1 pc = .ok (.lload_n k, 1)) (hk : lk lv (k : Nat) = some (vl x)) (h : X G d z (pc + 1) lv (vl x :: st) M rc rs Q) : X G d z pc lv st M rc rs Q :=
  fun p e s m args below meth c H locs ls cells slots hC hH hl => lv_lload_n hC.1 hC.2.1 hd rfl (LX_at hl hk) (h p e s m args below meth c H locs ls cells slots hC hH hl)
theorem X_lload {i : Nat} {x : Int64} (hd : decode z.2.1 pc = .ok (.lload i, 2)) (hk : lk lv i = some (vl x)) (h : X G d z (pc + 2) lv (vl x :: st) M rc rs Q) : X G d z pc lv st M rc rs Q :=
  fun p e s m args below meth c H locs ls cells slots hC hH hl => lv_lload hC.1 hC.2.1 hd (LX_at hl hk) (h p e s m args below meth c H locs ls cells slots hC hH hl)
theorem X_aload_n {k : Fin 4} {x : Nat} (hd : decode z.2.1 pc = .ok (.aload_n k, 1)) (hk : lk lv (k : Nat) = some (vr x)) (h : X G d z (pc + 1) lv (vr x :: st) M rc rs Q) : X G d z pc lv st M rc rs Q :=
  fun p e s m args below meth c H locs ls cells slots hC hH hl => lv_aload_n hC.1 hC.2.1 hd rfl (LX_at hl hk) (h p e s m args below meth c H locs ls cells slots hC hH hl)
theorem X_aload {i : Nat} {x : Nat} (hd : decode z.2.1 pc = .ok (.aload i, 2)) (hk : lk lv i = some (vr x)) (h : X G d z (pc + 2) lv (vr x :: st) M rc rs Q) : X G d z pc lv st M rc rs Q :=
  fun p e s m args below meth c H locs ls cells slots hC hH hl => lv_aload hC.1 hC.2.1 hd (LX_at hl hk) (h p e s m args below meth c H locs ls cells slots hC hH hl)
/-- which stores are lawful for a list of locals -/
def sok1 (lv : List (Nat × AV)) (i n : Nat) : Bool := lok lv && lv.all (fun q => !(q.1 + 1 == i && isL q.2)) && decide (i < n)
def sok2 (lv : List (Nat × AV)) (i n : Nat) : Bool := lok lv && lv.all (fun q => !(q.1 == i + 1) && !(q.1 + 1 == i && isL q.2)) && decide (i + 1 < n)
theorem sok1_ {i n : Nat} (h : sok1 lv i n = true) : lok lv = true ∧ lv.all (fun q => !(q.1 + 1 == i && isL q.2)) = true ∧ i < n := by
  simp only [sok1, Bool.and_eq_true, decide_eq_true_eq] at h
  exact ⟨h.1.1, h.1.2, h.2⟩
theorem sok2_ {i n : Nat} (h : sok2 lv i n = true) : lok lv = true ∧ lv.all (fun q => !(q.1 == i + 1) && !(q.1 + 1 == i && isL q.2)) = true ∧ i + 1 < n := by
  simp only [sok2, Bool.and_eq_true, decide_eq_true_eq] at h
  exact ⟨h.1.1, h.1.2, h.2⟩
theorem X_istore_n {k : Fin 4} {x : Int32} (hd : decode z.2.1 pc = .ok (.istore_n k, 1)) (ho : sok1 lv (k : Nat) z.2.2.1 = true) {lv' : List (Nat × AV)} (hl' : lst lv (k : Nat) (vi x) = lv') (h : X G d z (pc + 1) lv' st M rc rs Q) : X G d z pc lv (vi x :: st) M rc rs Q :=
  fun p e s m args below meth c H locs ls cells slots hC hH hl => lv_istore_n hC.1 hC.2.1 hd rfl hl (sok1_ ho).2.2 rfl (fun ls' hl2 => h p e s m args below meth c H locs ls' cells slots hC hH (hl' ▸ LX_st1 (v := vi x) (sok1_ ho).1 (sok1_ ho).2.1 hl2))
theorem X_istore {i : Nat} {x : Int32} (hd : decode z.2.1 pc = .ok (.istore i, 2)) (ho : sok1 lv i z.2.2.1 = true) {lv' : List (Nat × AV)} (hl' : lst lv i (vi x) = lv') (h : X G d z (pc + 2) lv' st M rc rs Q) : X G d z pc lv (vi x :: st) M rc rs Q :=
  fun p e s m args below meth c H locs ls cells slots hC hH hl => lv_istore hC.1 hC.2.1 hd hl (sok1_ ho).2.2 rfl (fun ls' hl2 => h p e s m args below meth c H locs ls' cells slots hC hH (hl' ▸ LX_st1 (v := vi x) (sok1_ ho).1 (sok1_ ho).2.1 hl2))
theorem X_astore_n {k : Fin 4} {x : Nat} (hd : decode z.2.1 pc = .ok (.astore_n k, 1)) (ho : sok1 lv (k : Nat) z.2.2.1 = true) {lv' : List (Nat × AV)} (hl' : lst lv (k : Nat) (vr x) = lv') (h : X G d z (pc + 1) lv' st M rc rs Q) : X G d z pc lv (vr x :: st) M rc rs Q :=
  fun p e s m args below meth c H locs ls cells slots hC hH hl => lv_astore_n hC.1 hC.2.1 hd rfl hl (sok1_ ho).2.2 rfl (fun ls' hl2 => h p e s m args below meth c H locs ls' cells slots hC hH (hl' ▸ LX_st1 (v := vr x) (sok1_ ho).1 (sok1_ ho).2.1 hl2))
theorem X_astore {i : Nat} {x : Nat} (hd : decode z.2.1 pc = .ok (.astore i, 2)) (ho : sok1 lv i z.2.2.1 = true) {lv' : List (Nat × AV)} (hl' : lst lv i (vr x) = lv') (h : X G d z (pc + 2) lv' st M rc rs Q) : X G d z pc lv (vr x :: st) M rc rs Q :=
  fun p e s m args below meth c H locs ls cells slots hC hH hl => lv_astore hC.1 hC.2.1 hd hl (sok1_ ho).2.2 rfl (fun ls' hl2 => h p e s m args below meth c H locs ls' cells slots hC hH (hl' ▸ LX_st1 (v := vr x) (sok1_ ho).1 (sok1_ ho).2.1 hl2))
theorem X_lstore_n {k : Fin 4} {x : Int64} (hd : decode z.2.1 pc = .ok (.lstore_n k, 1)) (ho : sok2 lv (k : Nat) z.2.2.1 = true) {lv' : List (Nat × AV)} (hl' : lst lv (k : Nat) (vl x) = lv') (h : X G d z (pc + 1) lv' st M rc rs Q) : X G d z pc lv (vl x :: st) M rc rs Q :=
  fun p e s m args below meth c H locs ls cells slots hC hH hl => lv_lstore_n hC.1 hC.2.1 hd rfl hl (sok2_ ho).2.2 rfl (fun ls' hl2 => h p e s m args below meth c H locs ls' cells slots hC hH (hl' ▸ LX_st2 (v := vl x) (sok2_ ho).1 (sok2_ ho).2.1 hl2))
theorem X_lstore {i : Nat} {x : Int64} (hd : decode z.2.1 pc = .ok (.lstore i, 2)) (ho : sok2 lv i z.2.2.1 = true) {lv' : List (Nat × AV)} (hl' : lst lv i (vl x) = lv') (h : X G d z (pc + 2) lv' st M rc rs Q) : X G d z pc lv (vl x :: st) M rc rs Q :=
  fun p e s m args below meth c H locs ls cells slots hC hH hl => lv_lstore hC.1 hC.2.1 hd hl (sok2_ ho).2.2 rfl (fun ls' hl2 => h p e s m args below meth c H locs ls' cells slots hC hH (hl' ▸ LX_st2 (v := vl x) (sok2_ ho).1 (sok2_ ho).2.1 hl2))
theorem X_iinc {i : Nat} {n : Int} {x v : Int32} (hd : decode z.2.1 pc = .ok (.iinc i n, 3)) (hk : lk lv i = some (vi x)) (hv : x + Int32.ofInt n = v) (ho : sok1 lv i z.2.2.1 = true) {lv' : List (Nat × AV)} (hl' : lst lv i (vi v) = lv') (h : X G d z (pc + 3) lv' st M rc rs Q) : X G d z pc lv st M rc rs Q := by
  intro p e s m args below meth c H locs ls cells slots hC hH hl
  obtain ⟨k, hk2⟩ := List.mem_iff_getElem?.mp (List.mem_map.mpr ⟨(i, vi x), lk_mem hk, rfl⟩ : (i, cv G (vi x)) ∈ lv.map (fun q => (q.1, cv G q.2)))
  exact lv_iinc hC.1 hC.2.1 hd hl hk2 hv (sok1_ ho).2.2 rfl (fun ls' hl2 => h p e s m args below meth c H locs ls' cells slots hC hH (hl' ▸ LX_st1 (v := vi v) (sok1_ ho).1 (sok1_ ho).2.1 hl2))
end XR
