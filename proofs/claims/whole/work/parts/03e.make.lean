def GN (own : String) (idx c : Nat) : Prop := ∃ (C : String) (T : u_T) (N : Nat) (ty0 : Nat → FieldType), vwCl[c]? = some (C, T, N) ∧ (fk c).length = N ∧ c < 13 ∧ (∀ w ∈ u_ws C T N, w ∈ BIG) ∧ (∀ k, k < N → parseFieldDescriptor (T k).2.2.1 = some (ty0 k)) ∧
  Cond.classLink own idx C ∈ BIG ∧ Cond.instantiable C N ∈ BIG ∧ Cond.initialized C ∈ BIG ∧ (∀ j, j < N → defaultValue (ty0 j) = (if (fk c).getD j 0 = 0 then .int 0 else if (fk c).getD j 0 = 1 then .long 0 else .null))
section XN
variable {G : GG} {d : Nat} {z : ZZ} {pc : Nat} {lv : List (Nat × AV)} {st : List AV} {n : Nat} {I : Nat → Nat → Int32} {J : Nat → Nat → Int64} {R : Nat → Nat → Option Nat} {rc rs : Nat} {Q : Option AV → Mm → Prop}
abbrev Mz (n : Nat) (I : Nat → Nat → Int32) (J : Nat → Nat → Int64) (R : Nat → Nat → Option Nat) : Mm := (n + 1, sr I n (fun _ => 0), sr J n (fun _ => 0), sr R n (fun _ => none))
/-- where a new cell lies -/
theorem new_at {s : State} {H H1 : Heap} {locs locs1 : List Loc} {cells q : Nat} {e : va_E} {p : Program} {en : Env} {Rm : Room} {m : MethodId} {args : Array Value} {below : List Frame} {meth : Method} {c : Code} {slots : Nat} {T : State}
    (hH : HX G (n, I, J, R) s H locs cells) (h1 : va_P (gC G, gI G) vwCl (wsG G (n, I, J, R) ++ [(q, e)]) H1) (h2 : va_D (gA G) (wsG G (n, I, J, R) ++ [(q, e)])) (hT : T.heap = H1) (Xx : Stand p (gl G) en Rm s m args below meth c T locs1 (cells + 1) slots) : q = gB G + n := by
  have hz : (wsG G (n, I, J, R)).length = n := by simp [wsG]
  have hq : (wsG G (n, I, J, R) ++ [(q, e)])[n]? = some (q, e) := by
    rw [List.getElem?_append_right (by omega), hz, Nat.sub_self]; rfl
  have a1 := (h1 n _ hq).lt
  have a2 := Xx.heapSize
  have a3 : gB G ≤ q := h2.2 n _ hq
  have a4 := hH.2.1
  rw [hT] at a2
  dsimp only at a1 a4
  have a5 : ¬ q < gB G + n := by
    intro hlt
    have hk : q - gB G < n := by omega
    have hk2 : (wsG G (n, I, J, R) ++ [(q, e)])[q - gB G]? = some (gB G + (q - gB G), cel G (n, I, J, R) (q - gB G)) := by
      rw [List.getElem?_append_left (by omega)]
      exact wsG_at (M := (n, I, J, R)) hk
    have := h2.1 _ _ _ _ hk2 hq (by dsimp only; omega)
    omega
  omega
theorem X_new {idx c N : Nat} (hd : decode z.2.1 pc = .ok (.new idx, 3)) (hg : GN z.2.2.2.2 idx c) (hs : sh n = (c, N)) (hN : (fk c).length = N) (hn : n < 1000) (h : X G d z (pc + 3) lv (vr n :: st) (Mz n I J R) rc rs Q) : X G d z pc lv st (n, I, J, R) (rc + 1) (rs + N) Q := by
  intro p e s m args below meth co H locs ls cells slots hC hH hl
  obtain ⟨C, T, N', ty0, g1, g2, g3, g4, g5, g6, g7, g8, g9⟩ := hg
  obtain rfl : N = N' := hN.symm.trans g2
  have hts := hC.2.2.2.2.2.2.1
  have hin : ∀ w ∈ u_ws C T N, w ∈ wz z := fun w hw => List.mem_cons_of_mem _ (g4 w hw)
  have hA : ∀ q, s.heap.size ≤ q → gA G q := fun q hq => Nat.le_trans hC.2.2.2.2.2.2.2.2.2.2.2.2 hq
  refine va_new (fs := fls G (Mz n I J R) n c) hC.1 hC.2.1 hts hin ty0 g5 hC.2.2.2.2.2.1 (hts _ (List.mem_cons_of_mem _ g6)) (hts _ (List.mem_cons_of_mem _ g7)) (hts _ (List.mem_cons_of_mem _ g8)) hC.2.2.2.2.2.2.2.2.1 hH.1 (wsG_D _ _) hH.2.2.2 hA g1 (fun j hj => ?_) (show cells + 1 ≤ cells + (rc + 1) by omega) (show slots + N ≤ slots + (rs + N) by omega) hd (fun q H1 a1 a2 a3 => ?_)
  · unfold vp_V
    rw [List.getD_eq_getElem?_getD, fls_at (by omega), g9 j hj]
    simp [fvl, sr]
    split
    · rfl
    · split <;> rfl
  · intro T' hT' Xx
    have hq := new_at hH a1 a2 hT' Xx
    subst hq
    rw [wsG_push (M := (n, I, J, R)) (M' := Mz n I J R) rfl (cel_obj hs g3) (fun j hj => cel_congr (sr_ne (Nat.ne_of_lt hj)) (sr_ne (Nat.ne_of_lt hj)) (sr_ne (Nat.ne_of_lt hj)))] at a1
    have K := h p e s m args below meth co H1 locs ls (cells + 1) (slots + N) hC ⟨a1, by have := hH.2.1; dsimp only at this ⊢; omega, hn, a3⟩ hl
    have e1 : cells + 1 + rc = cells + (rc + 1) := by omega
    have e2 : slots + N + rs = slots + (rs + N) := by omega
    have e3 : n + 1 + rc = n + (rc + 1) := by omega
    dsimp only at K
    rw [e1, e2, e3] at K
    have e4 : (cv G (vr n)) = .ref (gB G + n) := by show va_rf (some (ad G n)) = _; rw [ad_lt hn]; rfl
    rw [List.map_cons, e4] at K
    exact K T' hT' Xx
/-- the class of an array, by its type -/
theorem arr_cls {s : State} {cA cB : ClassId} {ty : FieldType} (h1 : va_RA s cA ty) (h2 : va_RA s cB ty) : cA = cB := by
  cases ty with
  | object C =>
    obtain ⟨_, _, _, _, _, e1⟩ := h1
    obtain ⟨_, _, _, _, _, e2⟩ := h2
    exact Option.some.inj (e1.symm.trans e2)
  | _ => exact Option.some.inj (Eq.trans (Eq.symm h1) h2)
theorem X_newa {x : Int32} {N c t : Nat} {at_ : ArrayType} {ty : FieldType} {a0 : vp_A} (hd : decode z.2.1 pc = .ok (.newarray at_, 2)) (harr : Cond.arrayClass (newarray.typeOf at_) ∈ BIG) (hty : newarray.typeOf at_ = ty) (ht : (tysG G)[t]? = some (gY G t, ty))
    (ha : ∀ cA : ClassId, vp_cell cA a0 = arrV cA N (fun _ => defaultValue ty)) (hc : cel G (Mz n I J R) n = .inl (gY G t, a0)) (hx : x = nI N) (hN : N ≤ 65536) (hn : n < 1000) (hb : N * componentBytes ty ≤ 536870912)
    (h : X G d z (pc + 2) lv (vr n :: st) (Mz n I J R) rc rs Q) : X G d z pc lv (vi x :: st) (n, I, J, R) (rc + 1) (rs + N) Q := by
  intro p e s m args below meth co H locs ls cells slots hC hH hl
  have hts := hC.2.2.2.2.2.2.1
  have hA : ∀ q, s.heap.size ≤ q → gA G q := fun q hq => Nat.le_trans hC.2.2.2.2.2.2.2.2.2.2.2.2 hq
  subst hx
  refine va_newa (n := nI N) (N' := N) (a0 := a0) hC.1 hC.2.1 (hts _ (List.mem_cons_of_mem _ harr)) hty hC.2.2.2.2.2.2.2.2.1 hH.1 (wsG_D _ _) hH.2.2.2 hA ha (nI_pos (by omega)) (nI_clamp (by omega)) hb (show cells + 1 ≤ cells + (rc + 1) by omega) (show slots + N ≤ slots + (rs + N) by omega) hd (fun q cA H1 hK1 a1 a2 a3 => ?_)
  intro T' hT' Xx
  have hq := new_at hH a1 a2 hT' Xx
  subst hq
  have hcA : cA = gY G t := by
    have h1 := (hK1.2 (tysG G).length (cA, ty) (by rw [List.getElem?_append_right (Nat.le_refl _), Nat.sub_self]; rfl)).2
    exact arr_cls h1 (hC.2.2.2.2.2.2.2.2.1.2 t _ ht).2
  subst hcA
  rw [wsG_push (M := (n, I, J, R)) (M' := Mz n I J R) rfl hc (fun j hj => cel_congr (sr_ne (Nat.ne_of_lt hj)) (sr_ne (Nat.ne_of_lt hj)) (sr_ne (Nat.ne_of_lt hj)))] at a1
  have K := h p e s m args below meth co H1 locs ls (cells + 1) (slots + N) hC ⟨a1, by have := hH.2.1; dsimp only at this ⊢; omega, hn, a3⟩ hl
  have e1 : cells + 1 + rc = cells + (rc + 1) := by omega
  have e2 : slots + N + rs = slots + (rs + N) := by omega
  have e3 : n + 1 + rc = n + (rc + 1) := by omega
  dsimp only at K
  rw [e1, e2, e3] at K
  have e4 : (cv G (vr n)) = .ref (gB G + n) := by show va_rf (some (ad G n)) = _; rw [ad_lt hn]; rfl
  rw [List.map_cons, e4] at K
  exact K T' hT' Xx
theorem X_newI {x : Int32} {N : Nat} (hd : decode z.2.1 pc = .ok (.newarray .int, 2)) (harr : Cond.arrayClass .int ∈ BIG) (hs : sh n = (13, N)) (hx : x = nI N) (hN : N ≤ 65536) (hn : n < 1000) (h : X G d z (pc + 2) lv (vr n :: st) (Mz n I J R) rc rs Q) : X G d z pc lv (vi x :: st) (n, I, J, R) (rc + 1) (rs + N) Q :=
  X_newa (c := 13) (t := 0) (ty := .int) (a0 := (N, .inl (fun _ => 0))) hd harr rfl rfl (fun cA => rfl) (by rw [cel_int hs]; dsimp only; rw [sr_eq]) hx hN hn (by show N * 4 ≤ _; omega) h
theorem X_newZ {x : Int32} {N : Nat} (hd : decode z.2.1 pc = .ok (.newarray .boolean, 2)) (harr : Cond.arrayClass .boolean ∈ BIG) (hs : sh n = (15, N)) (hx : x = nI N) (hN : N ≤ 65536) (hn : n < 1000) (h : X G d z (pc + 2) lv (vr n :: st) (Mz n I J R) rc rs Q) : X G d z pc lv (vi x :: st) (n, I, J, R) (rc + 1) (rs + N) Q :=
  X_newa (c := 15) (t := 2) (ty := .boolean) (a0 := (N, .inl (fun _ => 0))) hd harr rfl rfl (fun cA => rfl) (by rw [cel_bool hs]; dsimp only; rw [sr_eq]) hx hN hn (by show N * 1 ≤ _; omega) h
theorem X_newJ {x : Int32} {N : Nat} (hd : decode z.2.1 pc = .ok (.newarray .long, 2)) (harr : Cond.arrayClass .long ∈ BIG) (hs : sh n = (14, N)) (hx : x = nI N) (hN : N ≤ 65536) (hn : n < 1000) (h : X G d z (pc + 2) lv (vr n :: st) (Mz n I J R) rc rs Q) : X G d z pc lv (vi x :: st) (n, I, J, R) (rc + 1) (rs + N) Q :=
  X_newa (c := 14) (t := 1) (ty := .long) (a0 := (N, .inr (.inl (fun _ => 0)))) hd harr rfl rfl (fun cA => rfl) (by rw [cel_long hs]; dsimp only; rw [sr_eq]) hx hN hn (by show N * 8 ≤ _; omega) h
theorem X_newq {x : Int32} {idx N c : Nat} {C : String} (hd : decode z.2.1 pc = .ok (.anewarray idx, 3)) (hl1 : Cond.classLink z.2.2.2.2 idx C ∈ BIG) (hao : ∀ U : State, KU G U → va_AO C U) (hs : sh n = (c, N)) (hc : 15 < c) (ht : (tysG G)[c - 13]? = some (gY G (c - 13), .object C)) (hx : x = nI N) (hN : N ≤ 65536) (hn : n < 1000)
    (h : X G d z (pc + 3) lv (vr n :: st) (Mz n I J R) rc rs Q) : X G d z pc lv (vi x :: st) (n, I, J, R) (rc + 1) (rs + N) Q := by
  intro p e s m args below meth co H locs ls cells slots hC hH hl
  have hts := hC.2.2.2.2.2.2.1
  have hA : ∀ q, s.heap.size ≤ q → gA G q := fun q hq => Nat.le_trans hC.2.2.2.2.2.2.2.2.2.2.2.2 hq
  subst hx
  refine va_newq (n := nI N) (N' := N) hC.1 hC.2.1 hC.2.2.2.2.2.1 (hts _ (List.mem_cons_of_mem _ hl1)) (hao s hC.2.2.2.2.2.2.2.2) hC.2.2.2.2.2.2.2.2.1 hH.1 (wsG_D _ _) hH.2.2.2 hA (nI_pos (by omega)) (nI_clamp (by omega)) (by omega) (show cells + 1 ≤ cells + (rc + 1) by omega) (show slots + N ≤ slots + (rs + N) by omega) hd (fun q cA H1 hK1 a1 a2 a3 => ?_)
  intro T' hT' Xx
  have hq := new_at hH a1 a2 hT' Xx
  subst hq
  have hcA : cA = gY G (c - 13) := by
    have h1 := (hK1.2 (tysG G).length (cA, .object C) (by rw [List.getElem?_append_right (Nat.le_refl _), Nat.sub_self]; rfl)).2
    exact arr_cls h1 (hC.2.2.2.2.2.2.2.2.1.2 (c - 13) _ ht).2
  subst hcA
  rw [wsG_push (M := (n, I, J, R)) (M' := Mz n I J R) rfl (by rw [cel_ref hs hc]; dsimp only; rw [sr_eq]; rfl) (fun j hj => cel_congr (sr_ne (Nat.ne_of_lt hj)) (sr_ne (Nat.ne_of_lt hj)) (sr_ne (Nat.ne_of_lt hj)))] at a1
  have K := h p e s m args below meth co H1 locs ls (cells + 1) (slots + N) hC ⟨a1, by have := hH.2.1; dsimp only at this ⊢; omega, hn, a3⟩ hl
  have e1 : cells + 1 + rc = cells + (rc + 1) := by omega
  have e2 : slots + N + rs = slots + (rs + N) := by omega
  have e3 : n + 1 + rc = n + (rc + 1) := by omega
  dsimp only at K
  rw [e1, e2, e3] at K
  have e4 : (cv G (vr n)) = .ref (gB G + n) := by show va_rf (some (ad G n)) = _; rw [ad_lt hn]; rfl
  rw [List.map_cons, e4] at K
  exact K T' hT' Xx
/-- a reference into a row of references: c the row's kind, c2 the object's class -/
theorem X_aast {k N a c c2 N2 v : Nat} {x : Int32} {C : String} {T : u_T} {Nc : Nat} (hd : decode z.2.1 pc = .ok (.aastore, 1)) (hs : sh k = (c, N)) (hc : 15 < c) (ht : (tysG G)[c - 13]? = some (gY G (c - 13), .object C)) (hk : k < n) (hv : v < n) (hs2 : sh v = (c2, N2)) (hc2 : c2 < 13) (hcl : vwCl[c2]? = some (C, T, Nc)) (hx : x = nI a) (ha : a < N) (hN : N < 2 ^ 31)
    (h : X G d z (pc + 1) lv st (n, I, J, sr R k (up (R k) a (some v))) rc rs Q) : X G d z pc lv (vr v :: vi x :: vr k :: st) (n, I, J, R) rc rs Q := by
  intro p e s m args below meth co H locs ls cells slots hC hH hl
  subst hx
  have hk9 : k < 1000 := Nat.lt_of_lt_of_le hk hH.2.2.1
  have hv9 : v < 1000 := Nat.lt_of_lt_of_le hv hH.2.2.1
  have he : (wsG G (n, I, J, R))[k]? = some (gB G + k, .inl (gY G (c - 13), N, .inr (.inr (.inr (.inr (fun i => (R k i).map (ad G))))))) := by rw [wsG_at hk, cel_ref hs hc]
  have hev : (wsG G (n, I, J, R))[v]? = some (gB G + v, .inr (c2, fls G (n, I, J, R) v c2)) := by rw [wsG_at hv, cel_obj hs2 hc2]
  show W _ _ _ _ _ _ _ _ _ _ _ _ _ _ _ (F0 m pc ls (.ref (ad G v) :: .int (nI a) :: .ref (ad G k) :: st.map (cv G)))
  rw [ad_lt hk9, ad_lt hv9]
  refine va_astq hC.1 hC.2.1 hC.2.2.2.2.2.2.2.2.1 hH.1 (wsG_D _ _) hH.2.2.2 k (c - 13) v c2 he ht hev hcl (vp_in_nI ha hN) hd (fun H1 locs1 a1 a2 a3 => ?_)
  have e1 : (va_up (fun i => (R k i).map (ad G)) (nI a).toNatClampNeg (some (gB G + v))) = (fun i => (sr R k (up (R k) a (some v)) k i).map (ad G)) := by
    funext i
    rw [nI_clamp (by omega), sr_eq]
    by_cases hi : i = a
    · subst hi
      rw [up_eq]
      simp [va_up, ad_lt hv9]
    · rw [up_ne hi]
      simp [va_up, hi]
  have e2 : (wsG G (n, I, J, R)).set k (gB G + k, .inl (gY G (c - 13), N, .inr (.inr (.inr (.inr (fun i => (sr R k (up (R k) a (some v)) k i).map (ad G))))))) = wsG G (n, I, J, sr R k (up (R k) a (some v))) := wsG_set hk rfl (by rw [cel_ref hs hc]) (fun j hj => cel_congr rfl rfl (sr_ne hj))
  rw [e1, e2] at a1
  exact h p e s m args below meth co H1 locs1 ls cells slots hC ⟨a1, hH.2.1, hH.2.2.1, a3⟩ hl
def catA (v : AV) : Nat := if isL v then 2 else 1
theorem cat_sum (st : List AV) : ((st.map (cv G)).map fun v => v.category).sum = (st.map catA).sum := by
  induction st with
  | nil => rfl
  | cons v r ih => simp only [List.map_cons, List.sum_cons, ih, cat_isL, catA]
theorem X_objInit {idx a : Nat} (hd : decode z.2.1 pc = .ok (.invokespecial idx, 3)) (h1 : Cond.methodLink z.2.2.2.2 idx objectInit ∈ BIG) (h2 : Cond.instanceMethod objectInit ∈ BIG) (h3 : Cond.code objectInit ⟨#[0xb1]⟩ 1 none ∈ BIG) (hd1 : 1 ≤ d) (hst : (st.map catA).sum ≤ 8) (h : X G d z (pc + 3) lv st (n, I, J, R) rc rs Q) : X G d z pc lv (vr a :: st) (n, I, J, R) rc rs Q := by
  intro p e s m args below meth co H locs ls cells slots hC hH hl
  have hts := hC.2.2.2.2.2.2.1
  have K := h p e s m args below meth co H locs ls cells slots hC hH hl
  refine W.objInit (a := ad G a) (rest := st.map (cv G)) hC.1 hC.2.1 hC.2.2.2.2.2.1 (hts _ (List.mem_cons_of_mem _ h1)) (hts _ (List.mem_cons_of_mem _ h2)) (hts _ (List.mem_cons_of_mem _ h3)) rfl (by rw [hC.2.2.2.2.1]; exact hl.1) rfl hd hd1 ?_ K
  have := lv_room (m := m) (pc := pc) (ls := ls) (rest := (vr a :: st).map (cv G)) (st := st.map (cv G)) (by rw [cat_sum]; exact hst)
  have e9 : (rmz d (cells + rc) (slots + rs)).locals = 64 * d := rfl
  rw [e9]
  omega
theorem X_copyI {idx k0 k1 n0 n1 sp dp l : Nat} {x1 x2 x3 : Int32} (hd : decode z.2.1 pc = .ok (.invokestatic idx, 3)) (h1 : Cond.methodLink z.2.2.2.2 idx arraycopyName ∈ BIG) (h2 : Cond.native arraycopyName ∈ BIG) (h3 : Cond.static arraycopyName ∈ BIG) (h4 : Cond.initialized "java/lang/System" ∈ BIG)
    (hs0 : sh k0 = (13, n0)) (hs1 : sh k1 = (13, n1)) (hk0 : k0 < n) (hk1 : k1 < n) (e1 : x1 = nI sp) (e2 : x2 = nI dp) (e3 : x3 = nI l) (hb0 : sp + l ≤ n0) (hb1 : dp + l ≤ n1) (hn0 : n0 ≤ 65536) (hn1 : n1 ≤ 65536) (hd1 : 2 ≤ d) (hst : (st.map catA).sum ≤ 8)
    (h : X G d z (pc + 3) lv st (n, sr I k1 (va_cpy (I k0) (I k1) sp dp l), J, R) rc rs Q) : X G d z pc lv (vi x3 :: vi x2 :: vr k1 :: vi x1 :: vr k0 :: st) (n, I, J, R) rc rs Q := by
  intro p e s m args below meth co H locs ls cells slots hC hH hl
  have hts := hC.2.2.2.2.2.2.1
  subst e1; subst e2; subst e3
  have he0 : (wsG G (n, I, J, R))[k0]? = some (gB G + k0, .inl (gY G 0, n0, .inl (I k0))) := by rw [wsG_at hk0, cel_int hs0]
  have he1 : (wsG G (n, I, J, R))[k1]? = some (gB G + k1, .inl (gY G 0, n1, .inl (I k1))) := by rw [wsG_at hk1, cel_int hs1]
  show W _ _ _ _ _ _ _ _ _ _ _ _ _ _ _ (F0 m pc ls (.int (nI l) :: .int (nI dp) :: .ref (ad G k1) :: .int (nI sp) :: .ref (ad G k0) :: st.map (cv G)))
  rw [ad_lt (Nat.lt_of_lt_of_le hk0 hH.2.2.1), ad_lt (Nat.lt_of_lt_of_le hk1 hH.2.2.1)]
  have c1 : (nI sp).toNatClampNeg = sp := nI_clamp (by omega)
  have c2 : (nI dp).toNatClampNeg = dp := nI_clamp (by omega)
  have c3 : (nI l).toNatClampNeg = l := nI_clamp (by omega)
  refine va_copyi hC.1 hC.2.1 (by rw [hC.2.2.2.2.1]; exact hl.1.symm) hC.2.2.2.2.2.1 (hts _ (List.mem_cons_of_mem _ h1)) (hts _ (List.mem_cons_of_mem _ h2)) (hts _ (List.mem_cons_of_mem _ h3)) (hts _ (List.mem_cons_of_mem _ h4)) hC.2.2.2.2.2.2.2.2.1 hH.1 (wsG_D _ _) hH.2.2.2 k0 k1 0 0 he0 he1 rfl rfl rfl (nI_pos (by omega)) (nI_pos (by omega)) (nI_pos (by omega)) (by rw [c1, c3]; exact hb0) (by rw [c2, c3]; exact hb1) (fun i _ => rfl) (show 1 ≤ d by omega) ?_ hd (fun H1 locs1 a1 a2 a3 => ?_)
  · have e9 : (rmz d (cells + rc) (slots + rs)).locals = 64 * d := rfl
    rw [e9, cat_sum]
    have : nativeFrameWords "java/lang/System" "arraycopy" 5 + 11 ≤ 120 := by decide +kernel
    omega
  · rw [c1, c2, c3] at a1
    have e4 : (wsG G (n, I, J, R)).set k1 (gB G + k1, .inl (gY G 0, n1, .inl (va_cpy (I k0) (I k1) sp dp l))) = wsG G (n, sr I k1 (va_cpy (I k0) (I k1) sp dp l), J, R) := wsG_set hk1 rfl (by rw [cel_int hs1]; dsimp only; rw [sr_eq]) (fun j hj => cel_congr (sr_ne hj) rfl rfl)
    rw [e4] at a1
    exact h p e s m args below meth co H1 locs1 ls cells slots hC ⟨a1, hH.2.1, hH.2.2.1, a3⟩ hl
theorem X_copyL {idx k0 k1 n0 n1 sp dp l : Nat} {x1 x2 x3 : Int32} (hd : decode z.2.1 pc = .ok (.invokestatic idx, 3)) (h1 : Cond.methodLink z.2.2.2.2 idx arraycopyName ∈ BIG) (h2 : Cond.native arraycopyName ∈ BIG) (h3 : Cond.static arraycopyName ∈ BIG) (h4 : Cond.initialized "java/lang/System" ∈ BIG)
    (hs0 : sh k0 = (14, n0)) (hs1 : sh k1 = (14, n1)) (hk0 : k0 < n) (hk1 : k1 < n) (e1 : x1 = nI sp) (e2 : x2 = nI dp) (e3 : x3 = nI l) (hb0 : sp + l ≤ n0) (hb1 : dp + l ≤ n1) (hn0 : n0 ≤ 65536) (hn1 : n1 ≤ 65536) (hd1 : 2 ≤ d) (hst : (st.map catA).sum ≤ 8)
    (h : X G d z (pc + 3) lv st (n, I, sr J k1 (va_cpy (J k0) (J k1) sp dp l), R) rc rs Q) : X G d z pc lv (vi x3 :: vi x2 :: vr k1 :: vi x1 :: vr k0 :: st) (n, I, J, R) rc rs Q := by
  intro p e s m args below meth co H locs ls cells slots hC hH hl
  have hts := hC.2.2.2.2.2.2.1
  subst e1; subst e2; subst e3
  have he0 : (wsG G (n, I, J, R))[k0]? = some (gB G + k0, .inl (gY G 1, n0, .inr (.inl (J k0)))) := by rw [wsG_at hk0, cel_long hs0]
  have he1 : (wsG G (n, I, J, R))[k1]? = some (gB G + k1, .inl (gY G 1, n1, .inr (.inl (J k1)))) := by rw [wsG_at hk1, cel_long hs1]
  show W _ _ _ _ _ _ _ _ _ _ _ _ _ _ _ (F0 m pc ls (.int (nI l) :: .int (nI dp) :: .ref (ad G k1) :: .int (nI sp) :: .ref (ad G k0) :: st.map (cv G)))
  rw [ad_lt (Nat.lt_of_lt_of_le hk0 hH.2.2.1), ad_lt (Nat.lt_of_lt_of_le hk1 hH.2.2.1)]
  have c1 : (nI sp).toNatClampNeg = sp := nI_clamp (by omega)
  have c2 : (nI dp).toNatClampNeg = dp := nI_clamp (by omega)
  have c3 : (nI l).toNatClampNeg = l := nI_clamp (by omega)
  refine va_copyl hC.1 hC.2.1 (by rw [hC.2.2.2.2.1]; exact hl.1.symm) hC.2.2.2.2.2.1 (hts _ (List.mem_cons_of_mem _ h1)) (hts _ (List.mem_cons_of_mem _ h2)) (hts _ (List.mem_cons_of_mem _ h3)) (hts _ (List.mem_cons_of_mem _ h4)) hC.2.2.2.2.2.2.2.2.1 hH.1 (wsG_D _ _) hH.2.2.2 k0 k1 1 1 he0 he1 rfl rfl rfl (nI_pos (by omega)) (nI_pos (by omega)) (nI_pos (by omega)) (by rw [c1, c3]; exact hb0) (by rw [c2, c3]; exact hb1) (fun i _ => rfl) (show 1 ≤ d by omega) ?_ hd (fun H1 locs1 a1 a2 a3 => ?_)
  · have e9 : (rmz d (cells + rc) (slots + rs)).locals = 64 * d := rfl
    rw [e9, cat_sum]
    have : nativeFrameWords "java/lang/System" "arraycopy" 5 + 11 ≤ 120 := by decide +kernel
    omega
  · rw [c1, c2, c3] at a1
    have e4 : (wsG G (n, I, J, R)).set k1 (gB G + k1, .inl (gY G 1, n1, .inr (.inl (va_cpy (J k0) (J k1) sp dp l)))) = wsG G (n, I, sr J k1 (va_cpy (J k0) (J k1) sp dp l), R) := wsG_set hk1 rfl (by rw [cel_long hs1]; dsimp only; rw [sr_eq]) (fun j hj => cel_congr rfl (sr_ne hj) rfl)
    rw [e4] at a1
    exact h p e s m args below meth co H1 locs1 ls cells slots hC ⟨a1, hH.2.1, hH.2.2.1, a3⟩ hl
end XN
