def qi (Q : Int32 → Mm → Prop) : Option AV → Mm → Prop := fun r M => ∃ x, r = some (vi x) ∧ Q x M
def ql (Q : Int64 → Mm → Prop) : Option AV → Mm → Prop := fun r M => ∃ x, r = some (vl x) ∧ Q x M
def qv (Q : Mm → Prop) : Option AV → Mm → Prop := fun r M => r = none ∧ Q M
/-- what a call's words say: the callee, how many parameters -/
def CK (own : String) (idx : Nat) (z' : ZZ) (np : Nat) : Prop := goodWord (Cond.code z'.1 z'.2.1 z'.2.2.1 z'.2.2.2.1) = true ∧ Cond.code z'.1 z'.2.1 z'.2.2.1 z'.2.2.2.1 ∈ BIG ∧ Cond.initialized z'.1.cls ∈ BIG ∧
  (Cond.methodLink own idx z'.1 ∈ BIG ∨ ∃ host, Cond.methodLinkNest own idx z'.1 host ∈ NST) ∧ (z'.1.cls ≠ "java/lang/invoke/MethodHandle" ∧ z'.1.cls ≠ "java/lang/invoke/VarHandle" ∧ (parseMethodDescriptor z'.1.desc).map (fun d => d.parameters.length) = some np) ∧ z'.2.2.1 ≤ 45
def CKV (own : String) (idx : Nat) (z' : ZZ) (c np : Nat) : Prop := CK own idx z' np ∧ Cond.instanceMethod z'.1 ∈ BIG ∧ Cond.selects z'.1.cls z'.1 z'.1 ∈ BIG ∧ ∃ (T : u_T) (N : Nat), vwCl[c]? = some (z'.1.cls, T, N) ∧ c < 13
def CKS (own : String) (idx : Nat) (z' : ZZ) (np : Nat) : Prop := CK own idx z' np ∧ Cond.static z'.1 ∈ BIG
def CKI (own : String) (idx : Nat) (z' : ZZ) (np : Nat) : Prop := CK own idx z' np ∧ Cond.instanceMethod z'.1 ∈ BIG ∧ z'.1.name = "<init>" ∧ z'.2.2.2.1 = none
theorem big_good {w : Cond} (h : w ∈ BIG) : goodWord w = true := (List.mem_filter.mp h).2
theorem wz_good {z z' : ZZ} (h : Cond.code z'.1 z'.2.1 z'.2.2.1 z'.2.2.2.1 ∈ BIG) : GoodIn (wz z) (wz z') := by
  intro w hw
  rcases List.mem_cons.mp hw with e | hw
  · subst e
    exact ⟨List.mem_cons_of_mem _ h, good_of_word (big_good h)⟩
  · exact ⟨List.mem_cons_of_mem _ hw, good_of_word (big_good hw)⟩
section XC
variable {G : GG} {d : Nat} {z : ZZ} {pc : Nat} {lv : List (Nat × AV)} {st : List AV} {M : Mm} {rc rs : Nat} {Q : Option AV → Mm → Prop}
theorem WU_blind {av : List AV} : FrameBlind (va_Pc (av.map (cv G)) (WU G M)) := by
  intro a U g mk h
  obtain ⟨h1, h2, h3, h4, h5⟩ := h
  exact ⟨h1, KU_calling h2, h3, h4, h5⟩
/-- behind a call -/
theorem x_back {p : Program} {e : Env} {s : State} {m : MethodId} {args : Array Value} {below : List Frame} {meth : Method} {c : Code} {H : Heap} {locs : List Loc} {ls : Array Slot} {cells slots mc ms n' : Nat} {Rm : Room} {st0 rest : List Value} {a : Array Value} {Q' : Option AV → Mm → Prop} {Qw : State → Prop}
    (hr : va_Run p (gl G) e Rm s m args below meth c H locs cells slots mc ms (F0 m pc ls st0) rest (QQ G n' Q' a) (gA G)) (hS : va_S (gA G) s.heap H locs)
    (kk : ∀ (r : Option AV) (M' : Mm) (t : State) (H1 : Heap) (locs1 : List Loc), t.heap = H1 → Q' r M' → M'.1 = n' → WU G M' t → va_S (gA G) s.heap H1 locs1 → W p (gl G) e Rm s m args below meth c H1 locs1 (cells + mc) (slots + ms) Qw (F0 m (pc + 3) ls ((r.map (cv G)).toList ++ rest))) : W p (gl G) e Rm s m args below meth c H locs cells slots Qw (F0 m pc ls st0) := by
  intro T hT Xx
  obtain ⟨v, st₀, t, T', L, h0, X', hL, e1, e2, ⟨⟨r, M', hv, hp, hn, hb⟩, hz, hk⟩, sx⟩ := hr T hT Xx
  cases hv
  rw [h0] at hz hk
  obtain ⟨t2, a1, b1⟩ := kk r M' t T'.heap (locs ++ L) e1.symm hp hn hb
    ⟨Nat.le_trans hS.1 (by rw [e1]; exact hz), fun q h1 h2 => by rw [e1, hk q (Nat.lt_of_lt_of_le h1 hS.1) h2]; exact hS.2.1 q h1 h2, fun q hq => by
      rcases List.mem_append.mp hq with h | h
      · exact hS.2.2 q h
      · exact hL q h⟩ T' rfl X'
  exact ⟨t2, sx t2 a1, b1⟩
theorem x_room {mc ms mc' ms' ml : Nat} (h1 : 1 ≤ d) (h2 : ml ≤ 45) : (rmz (d - 1) mc' ms').frames + 1 ≤ (rmz d mc ms).frames ∧ 8 + (ml + 11) + (rmz (d - 1) mc' ms').locals ≤ (rmz d mc ms).locals := by
  refine ⟨show d - 1 + 1 ≤ d by omega, show 8 + (ml + 11) + 64 * (d - 1) ≤ 64 * d by omega⟩
/-- the callee's start, out of the caller's heap -/
theorem x_pre {p : Program} {s : State} {m : MethodId} {args : Array Value} {meth : Method} {c : Code} {H : Heap} {locs : List Loc} {cells : Nat} {av : List AV} (hC : CX G z p s m args meth c) (hH : HX G M s H locs cells) (hz : H.size = gB G + M.1) :
    ∀ U : State, U.heap = H → s.WarmedH U.vm → va_Pc (av.map (cv G)) (WU G M) (av.map (cv G)).toArray U := by
  intro U hU hW
  refine ⟨rfl, KU_moved hW (by rw [hU]; exact hH.2.2.2.1) (fun q h1 h2 => by rw [hU]; exact hH.2.2.2.2.1 q h1 h2) hC.2.2.2.2.2.2.2.2, by rw [hU]; exact hH.1, by rw [hU]; exact hz, hH.2.2.1⟩
/-- a call's continuation -/
theorem x_cont {p : Program} {e : Env} {s : State} {m : MethodId} {args : Array Value} {below : List Frame} {meth : Method} {c : Code} {ls : Array Slot} {cells slots mc ms : Nat} {H1 : Heap} {locs1 : List Loc} {r : Option AV} {M' : Mm} {t : State}
    (hC : CX G z p s m args meth c) (hl : LX G z lv ls) (hcel : s.heap.size + cells = gB G + M.1) (ht : t.heap = H1) (hn : M'.1 = M.1 + mc) (hb : WU G M' t) (hS : va_S (gA G) s.heap H1 locs1) (h : X G d z (pc + 3) lv (r.toList ++ st) M' rc rs Q) :
    W p (gl G) e (rmz d (cells + (mc + rc)) (slots + (ms + rs))) s m args below meth c H1 locs1 (cells + mc) (slots + ms) (MQ below (QQ G (M.1 + (mc + rc)) Q) args s (cells + (mc + rc)) (slots + (ms + rs)) (gA G)) (F0 m (pc + 3) ls ((r.map (cv G)).toList ++ st.map (cv G))) := by
  have K := h p e s m args below meth c H1 locs1 ls (cells + mc) (slots + ms) hC ⟨by rw [← ht]; exact hb.2.1, by omega, hb.2.2.2, hS⟩ hl
  rw [Nat.add_assoc cells, Nat.add_assoc slots, hn, Nat.add_assoc M.1] at K
  have e1 : (r.map (cv G)).toList ++ st.map (cv G) = (r.toList ++ st).map (cv G) := by cases r <;> rfl
  rw [e1]
  exact K
theorem X_callV {idx c np k N mc ms : Nat} {z' : ZZ} {As stk : List AV} {Q' : Option AV → Mm → Prop} (hd : decode z.2.1 pc = .ok (.invokevirtual idx, 3)) (hck : CKV z.2.2.2.2 idx z' c np) (hnp : As.length = np) (hstk : stk = As.reverse ++ vr k :: st) (hs : sh k = (c, N)) (hk : k < M.1) (hd1 : 1 ≤ d) (hst : (st.map catA).sum ≤ 8)
    (hY : Y G (d - 1) z' (vr k :: As) M mc ms Q') (h : ∀ r M', Q' r M' → X G d z (pc + 3) lv (r.toList ++ st) M' rc rs Q) : X G d z pc lv stk M (mc + rc) (ms + rs) Q := by
  intro p e s m args below meth co H locs ls cells slots hC hH hl
  obtain ⟨⟨g0, g1, g2, g3, g4, g5⟩, g6, g7, T, N', g8, g9⟩ := hck
  have hts := hC.2.2.2.2.2.2.1
  have ok : ∀ {w : Cond}, w ∈ BIG → w.before args s = true := fun hw => hts _ (List.mem_cons_of_mem _ hw)
  have hk9 : k < 1000 := Nat.lt_of_lt_of_le hk hH.2.2.1
  refine W_size hH hC.2.2.2.2.2.2.2.2.2.2.2.2 (fun hz => ?_)
  have hrecv : ∃ cell : Cell, H[ad G k]? = some cell ∧ cell.vm.isStatics = false ∧ s.vm.findClass z'.1.cls = some cell.cls := by
    rw [ad_lt hk9]
    exact va_recv (q := (z'.1.cls, T, N')) hC.2.2.2.2.2.2.2.2.1 hH.1 g8 (q0 := k) (fs := fls G M k c) (by rw [wsG_at hk, cel_obj hs g9])
  have hstack : (F0 m pc ls (stk.map (cv G))).stack = (As.map (cv G)).reverse ++ .ref (ad G k) :: st.map (cv G) := by
    show stk.map (cv G) = _
    rw [hstk, List.map_append, List.map_reverse]
    rfl
  have hroom := lv_room (m := m) (pc := pc) (ls := ls) (rest := stk.map (cv G)) (st := st.map (cv G)) (by rw [cat_sum]; exact hst)
  have hpre : PreV s H z'.1.cls (ad G k) (va_Pc ((vr k :: As).map (cv G)) (WU G M)) (As.map (cv G)) := ⟨WU_blind, hrecv, x_pre (av := vr k :: As) hC hH hz⟩
  have S : CallFix p m co z.2.1 z.2.2.1 s args (wz z) z.2.2.2.2 := ⟨hC.1, hC.2.1, hC.2.2.2.2.1, hC.2.2.2.2.2.1, hts⟩
  have hf : cells + mc ≤ (rmz d (cells + (mc + rc)) (slots + (ms + rs))).cells ∧ slots + ms ≤ (rmz d (cells + (mc + rc)) (slots + (ms + rs))).slots := ⟨show _ ≤ cells + (mc + rc) by omega, show _ ≤ slots + (ms + rs) by omega⟩
  have hrun : va_Run p (gl G) e (rmz d (cells + (mc + rc)) (slots + (ms + rs))) s m args below meth co H locs cells slots mc ms (F0 m pc ls (stk.map (cv G))) (st.map (cv G)) (QQ G (M.1 + mc) Q' (Value.ref (ad G k) :: As.map (cv G)).toArray) (gA G) := by
    rcases g3 with q | ⟨host, q⟩
    · exact va_runV S hY ⟨callB_of np hts (wz_good g1) rfl rfl rfl (ok g2) (ok q) g4 (x_room hd1 g5), ok g6, ok g7⟩ hpre rfl (by rw [List.length_map]; exact hnp) hl.1 hstack hroom hd hf
    · exact va_runVN S hY ⟨va_cnB np hts (wz_good g1) rfl rfl rfl (hC.2.2.2.2.2.2.2.2.2.1 _ q) (ok g2) g4 (x_room hd1 g5), ok g6, ok g7⟩ hpre rfl (by rw [List.length_map]; exact hnp) hl.1 hstack hroom hd hf
  exact x_back hrun hH.2.2.2 (fun r M' t H1 locs1 ht hq hn hb hS => x_cont hC hl hH.2.1 ht hn hb hS (h r M' hq))
theorem X_callS {idx np mc ms : Nat} {z' : ZZ} {As stk : List AV} {Q' : Option AV → Mm → Prop} (hd : decode z.2.1 pc = .ok (.invokestatic idx, 3)) (hck : CKS z.2.2.2.2 idx z' np) (hnp : As.length = np) (hstk : stk = As.reverse ++ st) (hd1 : 1 ≤ d) (hst : (st.map catA).sum ≤ 8)
    (hY : Y G (d - 1) z' As M mc ms Q') (h : ∀ r M', Q' r M' → X G d z (pc + 3) lv (r.toList ++ st) M' rc rs Q) : X G d z pc lv stk M (mc + rc) (ms + rs) Q := by
  intro p e s m args below meth co H locs ls cells slots hC hH hl
  obtain ⟨⟨g0, g1, g2, g3, g4, g5⟩, g6⟩ := hck
  have hts := hC.2.2.2.2.2.2.1
  have ok : ∀ {w : Cond}, w ∈ BIG → w.before args s = true := fun hw => hts _ (List.mem_cons_of_mem _ hw)
  refine W_size hH hC.2.2.2.2.2.2.2.2.2.2.2.2 (fun hz => ?_)
  have hstack : (F0 m pc ls (stk.map (cv G))).stack = (As.map (cv G)).reverse ++ st.map (cv G) := by
    show stk.map (cv G) = _
    rw [hstk, List.map_append, List.map_reverse]
  have hroom := lv_room (m := m) (pc := pc) (ls := ls) (rest := stk.map (cv G)) (st := st.map (cv G)) (by rw [cat_sum]; exact hst)
  have hpre : PreS s H (va_Pc (As.map (cv G)) (WU G M)) (As.map (cv G)) := ⟨WU_blind, x_pre (av := As) hC hH hz⟩
  have S : CallFix p m co z.2.1 z.2.2.1 s args (wz z) z.2.2.2.2 := ⟨hC.1, hC.2.1, hC.2.2.2.2.1, hC.2.2.2.2.2.1, hts⟩
  have hf : cells + mc ≤ (rmz d (cells + (mc + rc)) (slots + (ms + rs))).cells ∧ slots + ms ≤ (rmz d (cells + (mc + rc)) (slots + (ms + rs))).slots := ⟨show _ ≤ cells + (mc + rc) by omega, show _ ≤ slots + (ms + rs) by omega⟩
  have hrun : va_Run p (gl G) e (rmz d (cells + (mc + rc)) (slots + (ms + rs))) s m args below meth co H locs cells slots mc ms (F0 m pc ls (stk.map (cv G))) (st.map (cv G)) (QQ G (M.1 + mc) Q' (As.map (cv G)).toArray) (gA G) := by
    rcases g3 with q | ⟨host, q⟩
    · exact va_runS S hY ⟨callB_of np hts (wz_good g1) rfl rfl rfl (ok g2) (ok q) g4 (x_room hd1 g5), ok g6⟩ hpre rfl (by rw [List.length_map]; exact hnp) hl.1 hstack hroom hd hf
    · exact va_runSN S hY ⟨va_cnB np hts (wz_good g1) rfl rfl rfl (hC.2.2.2.2.2.2.2.2.2.1 _ q) (ok g2) g4 (x_room hd1 g5), ok g6, trivial⟩ hpre rfl (by rw [List.length_map]; exact hnp) hl.1 hstack hroom hd hf
  exact x_back hrun hH.2.2.2 (fun r M' t H1 locs1 ht hq hn hb hS => x_cont hC hl hH.2.1 ht hn hb hS (h r M' hq))
theorem X_callI {idx np k mc ms : Nat} {z' : ZZ} {As stk : List AV} {Q' : Option AV → Mm → Prop} (hd : decode z.2.1 pc = .ok (.invokespecial idx, 3)) (hck : CKI z.2.2.2.2 idx z' np) (hnp : As.length = np) (hstk : stk = As.reverse ++ vr k :: st) (hd1 : 1 ≤ d) (hst : (st.map catA).sum ≤ 8)
    (hY : Y G (d - 1) z' (vr k :: As) M mc ms Q') (h : ∀ r M', Q' r M' → X G d z (pc + 3) lv (r.toList ++ st) M' rc rs Q) : X G d z pc lv stk M (mc + rc) (ms + rs) Q := by
  intro p e s m args below meth co H locs ls cells slots hC hH hl
  obtain ⟨⟨g0, g1, g2, g3, g4, g5⟩, g6, g7, g8⟩ := hck
  have hts := hC.2.2.2.2.2.2.1
  have ok : ∀ {w : Cond}, w ∈ BIG → w.before args s = true := fun hw => hts _ (List.mem_cons_of_mem _ hw)
  refine W_size hH hC.2.2.2.2.2.2.2.2.2.2.2.2 (fun hz => ?_)
  have hstack : (F0 m pc ls (stk.map (cv G))).stack = (As.map (cv G)).reverse ++ .ref (ad G k) :: st.map (cv G) := by
    show stk.map (cv G) = _
    rw [hstk, List.map_append, List.map_reverse]
    rfl
  have hroom := lv_room (m := m) (pc := pc) (ls := ls) (rest := stk.map (cv G)) (st := st.map (cv G)) (by rw [cat_sum]; exact hst)
  have hpre : PreS s H (va_Pc ((vr k :: As).map (cv G)) (WU G M)) (.ref (ad G k) :: As.map (cv G)) := ⟨WU_blind, x_pre (av := vr k :: As) hC hH hz⟩
  have S : CallFix p m co z.2.1 z.2.2.1 s args (wz z) z.2.2.2.2 := ⟨hC.1, hC.2.1, hC.2.2.2.2.1, hC.2.2.2.2.2.1, hts⟩
  have hf : cells + mc ≤ (rmz d (cells + (mc + rc)) (slots + (ms + rs))).cells ∧ slots + ms ≤ (rmz d (cells + (mc + rc)) (slots + (ms + rs))).slots := ⟨show _ ≤ cells + (mc + rc) by omega, show _ ≤ slots + (ms + rs) by omega⟩
  have hw9 : wz z' = Cond.code z'.1 z'.2.1 z'.2.2.1 none :: BIG := by unfold wz; rw [g8]
  have hrun : va_Run p (gl G) e (rmz d (cells + (mc + rc)) (slots + (ms + rs))) s m args below meth co H locs cells slots mc ms (F0 m pc ls (stk.map (cv G))) (st.map (cv G)) (QQ G (M.1 + mc) Q' (Value.ref (ad G k) :: As.map (cv G)).toArray) (gA G) := by
    rcases g3 with q | ⟨host, q⟩
    · exact va_runI S hY ⟨callB_of np hts (wz_good g1) hw9 rfl rfl (ok g2) (ok q) g4 (x_room hd1 g5), g7, ok g6⟩ hpre rfl (by rw [List.length_map]; exact hnp) hl.1 hstack hroom hd hf
    · exact va_runIN S hY ⟨va_cnB np hts (wz_good g1) hw9 rfl rfl (hC.2.2.2.2.2.2.2.2.2.1 _ q) (ok g2) g4 (x_room hd1 g5), g7, ok g6⟩ hpre rfl (by rw [List.length_map]; exact hnp) hl.1 hstack hroom hd hf
  exact x_back hrun hH.2.2.2 (fun r M' t H1 locs1 ht hq hn hb hS => x_cont hC hl hH.2.1 ht hn hb hS (h r M' hq))
/-! calls that make nothing, by what they answer -/
theorem X_cVi {idx c np k N : Nat} {z' : ZZ} {As stk : List AV} (hd : decode z.2.1 pc = .ok (.invokevirtual idx, 3)) (hck : CKV z.2.2.2.2 idx z' c np) (hnp : As.length = np) (hstk : stk = As.reverse ++ vr k :: st) (hs : sh k = (c, N)) (hk : k < M.1) (hd1 : 1 ≤ d) (hst : (st.map catA).sum ≤ 8)
    (hY : Y G (d - 1) z' (vr k :: As) M 0 0 (qi (fun x M' => X G d z (pc + 3) lv (vi x :: st) M' rc rs Q))) : X G d z pc lv stk M rc rs Q := by
  have := X_callV (rc := rc) (rs := rs) hd hck hnp hstk hs hk hd1 hst hY (fun r M' hq => by obtain ⟨x, rfl, hx⟩ := hq; exact hx)
  rwa [Nat.zero_add, Nat.zero_add] at this
theorem X_cVl {idx c np k N : Nat} {z' : ZZ} {As stk : List AV} (hd : decode z.2.1 pc = .ok (.invokevirtual idx, 3)) (hck : CKV z.2.2.2.2 idx z' c np) (hnp : As.length = np) (hstk : stk = As.reverse ++ vr k :: st) (hs : sh k = (c, N)) (hk : k < M.1) (hd1 : 1 ≤ d) (hst : (st.map catA).sum ≤ 8)
    (hY : Y G (d - 1) z' (vr k :: As) M 0 0 (ql (fun x M' => X G d z (pc + 3) lv (vl x :: st) M' rc rs Q))) : X G d z pc lv stk M rc rs Q := by
  have := X_callV (rc := rc) (rs := rs) hd hck hnp hstk hs hk hd1 hst hY (fun r M' hq => by obtain ⟨x, rfl, hx⟩ := hq; exact hx)
  rwa [Nat.zero_add, Nat.zero_add] at this
theorem X_cVv {idx c np k N : Nat} {z' : ZZ} {As stk : List AV} (hd : decode z.2.1 pc = .ok (.invokevirtual idx, 3)) (hck : CKV z.2.2.2.2 idx z' c np) (hnp : As.length = np) (hstk : stk = As.reverse ++ vr k :: st) (hs : sh k = (c, N)) (hk : k < M.1) (hd1 : 1 ≤ d) (hst : (st.map catA).sum ≤ 8)
    (hY : Y G (d - 1) z' (vr k :: As) M 0 0 (qv (fun M' => X G d z (pc + 3) lv st M' rc rs Q))) : X G d z pc lv stk M rc rs Q := by
  have := X_callV (rc := rc) (rs := rs) hd hck hnp hstk hs hk hd1 hst hY (fun r M' hq => by obtain ⟨rfl, hx⟩ := hq; exact hx)
  rwa [Nat.zero_add, Nat.zero_add] at this
theorem X_cSi {idx np : Nat} {z' : ZZ} {As stk : List AV} (hd : decode z.2.1 pc = .ok (.invokestatic idx, 3)) (hck : CKS z.2.2.2.2 idx z' np) (hnp : As.length = np) (hstk : stk = As.reverse ++ st) (hd1 : 1 ≤ d) (hst : (st.map catA).sum ≤ 8)
    (hY : Y G (d - 1) z' As M 0 0 (qi (fun x M' => X G d z (pc + 3) lv (vi x :: st) M' rc rs Q))) : X G d z pc lv stk M rc rs Q := by
  have := X_callS (rc := rc) (rs := rs) hd hck hnp hstk hd1 hst hY (fun r M' hq => by obtain ⟨x, rfl, hx⟩ := hq; exact hx)
  rwa [Nat.zero_add, Nat.zero_add] at this
theorem X_cSv {idx np : Nat} {z' : ZZ} {As stk : List AV} (hd : decode z.2.1 pc = .ok (.invokestatic idx, 3)) (hck : CKS z.2.2.2.2 idx z' np) (hnp : As.length = np) (hstk : stk = As.reverse ++ st) (hd1 : 1 ≤ d) (hst : (st.map catA).sum ≤ 8)
    (hY : Y G (d - 1) z' As M 0 0 (qv (fun M' => X G d z (pc + 3) lv st M' rc rs Q))) : X G d z pc lv stk M rc rs Q := by
  have := X_callS (rc := rc) (rs := rs) hd hck hnp hstk hd1 hst hY (fun r M' hq => by obtain ⟨rfl, hx⟩ := hq; exact hx)
  rwa [Nat.zero_add, Nat.zero_add] at this
theorem X_cI {idx np k mc ms : Nat} {z' : ZZ} {As stk : List AV} (hd : decode z.2.1 pc = .ok (.invokespecial idx, 3)) (hck : CKI z.2.2.2.2 idx z' np) (hnp : As.length = np) (hstk : stk = As.reverse ++ vr k :: st) (hd1 : 1 ≤ d) (hst : (st.map catA).sum ≤ 8)
    (hY : Y G (d - 1) z' (vr k :: As) M mc ms (qv (fun M' => X G d z (pc + 3) lv st M' rc rs Q))) : X G d z pc lv stk M (rc + mc) (rs + ms) Q := by
  have := X_callI (rc := rc) (rs := rs) hd hck hnp hstk hd1 hst hY (fun r M' hq => by obtain ⟨rfl, hx⟩ := hq; exact hx)
  rwa [Nat.add_comm mc, Nat.add_comm ms] at this
end XC
