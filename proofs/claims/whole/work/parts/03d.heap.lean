/-- a field link: class number c, field i, its type, whether it is final -/
def GF (own : String) (idx c i : Nat) (ty : FieldType) (fin nest : Bool) : Prop := ∃ (C : String) (T : u_T) (N : Nat) (ty0 : Nat → FieldType), vwCl[c]? = some (C, T, N) ∧ i < N ∧ (fk c).length = N ∧ c < 13 ∧ (∀ w ∈ u_ws C T N, w ∈ BIG) ∧ (∀ k, k < N → parseFieldDescriptor (T k).2.2.1 = some (ty0 k)) ∧ (∀ a, a < N → ∀ b, b < N → a ≠ b → (T a).2.1 ≠ (T b).2.1) ∧ (T i).1 = C ∧ ty0 i = ty ∧ (T i).2.2.2 = fin ∧ (nest = false → C = own) ∧
  ((nest = false ∧ Cond.fieldLink own idx C (T i).2.1 (T i).2.2.1 ∈ BIG) ∨ (nest = true ∧ ∃ host, Cond.fieldLinkNest own idx C (T i).2.1 (T i).2.2.1 host ∈ NST))
section XH
variable {G : GG} {d : Nat} {z : ZZ} {pc : Nat} {lv : List (Nat × AV)} {st : List AV} {n : Nat} {I : Nat → Nat → Int32} {J : Nat → Nat → Int64} {R : Nat → Nat → Option Nat} {rc rs : Nat} {Q : Option AV → Mm → Prop}
theorem X_getv {idx c i k N : Nat} {ty : FieldType} {fin nest : Bool} {v : AV} (hd : decode z.2.1 pc = .ok (.getfield idx, 3)) (hg : GF z.2.2.2.2 idx c i ty fin nest) (hs : sh k = (c, N)) (hk : k < n) (hv : cv G v = fvl G (n, I, J, R) k i ((fk c).getD i 0)) (h : X G d z (pc + 3) lv (v :: st) (n, I, J, R) rc rs Q) : X G d z pc lv (vr k :: st) (n, I, J, R) rc rs Q := by
  intro p e s m args below meth co H locs ls cells slots hC hH hl
  obtain ⟨C, T, N', ty0, g1, g2, g3, g4, g5, g6, g7, g8, g9, g10, g11, g12⟩ := hg
  have he : (wsG G (n, I, J, R))[k]? = some (gB G + k, .inr (c, fls G (n, I, J, R) k c)) := by rw [wsG_at hk, cel_obj hs g4]
  have hf : (fls G (n, I, J, R) k c)[i]? = some (cv G v) := by rw [fls_at (by omega), hv]
  have hts := hC.2.2.2.2.2.2.1
  have hin : ∀ w ∈ u_ws C T N', w ∈ wz z := fun w hw => List.mem_cons_of_mem _ (g5 w hw)
  have hk9 : k < 1000 := Nat.lt_of_lt_of_le hk hH.2.2.1
  have K := h p e s m args below meth co H locs ls cells slots hC hH hl
  show W _ _ _ _ _ _ _ _ _ _ _ _ _ _ _ (F0 m pc ls (.ref (ad G k) :: st.map (cv G)))
  rw [ad_lt hk9]
  rcases g12 with ⟨q0, q⟩ | ⟨q0, host, q⟩
  · exact va_get hC.1 hC.2.1 hts hin hC.2.2.2.2.2.1 hC.2.2.2.2.2.2.2.2.1 hH.1 k he g1 i g2 (hts _ (List.mem_cons_of_mem _ q)) (fun x hx => by rw [g8] at hx; exact hx) hf hd K
  · exact va_getN hC.1 hC.2.1 hts hin hC.2.2.2.2.2.1 hC.2.2.2.2.2.2.2.2.1 hH.1 k he g1 i g2 (va_Nw.use rfl (hC.2.2.2.2.2.2.2.2.2.1 _ q)) (fun x hx => by rw [g8] at hx; exact hx) hf hd K
theorem X_getI {idx c i k N : Nat} {ty : FieldType} {fin nest : Bool} (hd : decode z.2.1 pc = .ok (.getfield idx, 3)) (hg : GF z.2.2.2.2 idx c i ty fin nest) (hs : sh k = (c, N)) (hk : k < n) (hf : (fk c).getD i 0 = 0) (h : X G d z (pc + 3) lv (vi (I k i) :: st) (n, I, J, R) rc rs Q) : X G d z pc lv (vr k :: st) (n, I, J, R) rc rs Q :=
  X_getv hd hg hs hk (by rw [hf]; rfl) h
theorem X_getJ {idx c i k N : Nat} {ty : FieldType} {fin nest : Bool} (hd : decode z.2.1 pc = .ok (.getfield idx, 3)) (hg : GF z.2.2.2.2 idx c i ty fin nest) (hs : sh k = (c, N)) (hk : k < n) (hf : (fk c).getD i 0 = 1) (h : X G d z (pc + 3) lv (vl (J k i) :: st) (n, I, J, R) rc rs Q) : X G d z pc lv (vr k :: st) (n, I, J, R) rc rs Q :=
  X_getv hd hg hs hk (by rw [hf]; rfl) h
theorem X_getR {idx c i k N : Nat} {ty : FieldType} {fin nest : Bool} {r : Nat} (hd : decode z.2.1 pc = .ok (.getfield idx, 3)) (hg : GF z.2.2.2.2 idx c i ty fin nest) (hs : sh k = (c, N)) (hk : k < n) (hf : (fk c).getD i 0 = 2) (hr : R k i = some r) (h : X G d z (pc + 3) lv (vr r :: st) (n, I, J, R) rc rs Q) : X G d z pc lv (vr k :: st) (n, I, J, R) rc rs Q :=
  X_getv hd hg hs hk (by rw [hf]; show va_rf ((some r).map (ad G)) = va_rf ((R k i).map (ad G)); rw [hr]) h
/-- a write of a field, in general -/
theorem X_putv {idx c i k N : Nat} {ty : FieldType} {fin nest : Bool} {v : AV} {M' : Mm} (hd : decode z.2.1 pc = .ok (.putfield idx, 3)) (hg : GF z.2.2.2.2 idx c i ty fin nest) (hfin : fin = false ∨ (z.1.name = "<init>" ∧ nest = false)) (hs : sh k = (c, N)) (hk : k < n) (hn : narrow ty (cv G v) = cv G v) (hfit : fits ty (cv G v) = true)
    (hM : M'.1 = n) (hv : fvl G M' k i ((fk c).getD i 0) = cv G v) (ho : ∀ j, j ≠ i → ∀ kd, fvl G M' k j kd = fvl G (n, I, J, R) k j kd) (hother : ∀ j, j ≠ k → cel G M' j = cel G (n, I, J, R) j)
    (h : X G d z (pc + 3) lv st M' rc rs Q) : X G d z pc lv (v :: vr k :: st) (n, I, J, R) rc rs Q := by
  intro p e s m args below meth co H locs ls cells slots hC hH hl
  obtain ⟨C, T, N', ty0, g1, g2, g3, g4, g5, g6, g7, g8, g9, g10, g11, g12⟩ := hg
  have he : (wsG G (n, I, J, R))[k]? = some (gB G + k, .inr (c, fls G (n, I, J, R) k c)) := by rw [wsG_at hk, cel_obj hs g4]
  have hts := hC.2.2.2.2.2.2.1
  have hin : ∀ w ∈ u_ws C T N', w ∈ wz z := fun w hw => List.mem_cons_of_mem _ (g5 w hw)
  have hk9 : k < 1000 := Nat.lt_of_lt_of_le hk hH.2.2.1
  have hl1 : i < (fls G (n, I, J, R) k c).length := by rw [fls_len]; omega
  have e1 : (fls G (n, I, J, R) k c).set i (cv G v) = fls G M' k c := fls_set (by omega) hv ho
  have e2 : (wsG G (n, I, J, R)).set k (gB G + k, .inr (c, fls G M' k c)) = wsG G M' := wsG_set hk hM (cel_obj hs g4) hother
  have hd2 : parseFieldDescriptor (T i).2.2.1 = some ty := by rw [← g9]; exact g6 i g2
  have K : ∀ (H1 : Heap) (locs1 : List Loc), va_P (gC G, gI G) vwCl ((wsG G (n, I, J, R)).set k (gB G + k, .inr (c, (fls G (n, I, J, R) k c).set i (cv G v)))) H1 → va_D (gA G) ((wsG G (n, I, J, R)).set k (gB G + k, .inr (c, (fls G (n, I, J, R) k c).set i (cv G v)))) → va_S (gA G) s.heap H1 locs1 → W p (gl G) e (rmz d (cells + rc) (slots + rs)) s m args below meth co H1 locs1 cells slots (MQ below (QQ G (n + rc) Q) args s (cells + rc) (slots + rs) (gA G)) (F0 m (pc + 3) ls (st.map (cv G))) := by
    intro H1 locs1 a1 a2 a3
    rw [e1, e2] at a1
    have K := h p e s m args below meth co H1 locs1 ls cells slots hC ⟨a1, by rw [hM]; exact hH.2.1, by rw [hM]; exact hH.2.2.1, a3⟩ hl
    rw [hM] at K
    exact K
  show W _ _ _ _ _ _ _ _ _ _ _ _ _ _ _ (F0 m pc ls (cv G v :: .ref (ad G k) :: st.map (cv G)))
  rw [ad_lt hk9]
  cases fin with
  | false =>
    rcases g12 with ⟨q0, q⟩ | ⟨q0, host, q⟩
    · exact va_put hC.1 hC.2.1 hts hin ty0 g6 g7 hC.2.2.2.2.2.1 hC.2.2.2.2.2.2.2.2.1 hH.1 (wsG_D _ _) hH.2.2.2 k he g1 i g2 (hts _ (List.mem_cons_of_mem _ q)) (fun x hx => by rw [g8] at hx; exact hx) g10 hd2 hn hfit hl1 hd K
    · exact va_putN hC.1 hC.2.1 hts hin ty0 g6 g7 hC.2.2.2.2.2.1 hC.2.2.2.2.2.2.2.2.1 hH.1 (wsG_D _ _) hH.2.2.2 k he g1 i g2 (va_Nw.use rfl (hC.2.2.2.2.2.2.2.2.2.1 _ q)) (fun x hx => by rw [g8] at hx; exact hx) g10 hd2 hn hfit hl1 hd K
  | true =>
    have hini : z.1.name = "<init>" ∧ nest = false := by
      rcases hfin with q | q
      · cases q
      · exact q
    have hown : (T i).1 = z.2.2.2.2 := g8.trans (g11 hini.2)
    rcases g12 with ⟨q0, q⟩ | ⟨q0, host, q⟩
    · exact va_putF hC.1 hC.2.1 hts hin ty0 g6 g7 hC.2.2.2.2.2.1 hC.2.2.2.2.2.2.2.2.1 hH.1 (wsG_D _ _) hH.2.2.2 k he g1 i g2 (hts _ (List.mem_cons_of_mem _ q)) (fun x hx => by rw [g8] at hx; exact hx) g10 (hC.2.2.2.2.2.2.2.1.trans hini.1) hown hd2 hn hfit hl1 hd K
    · rw [hini.2] at q0
      cases q0
theorem X_putI {idx c i k N : Nat} {fin nest : Bool} {x : Int32} (hd : decode z.2.1 pc = .ok (.putfield idx, 3)) (hg : GF z.2.2.2.2 idx c i .int fin nest) (hfin : fin = false ∨ (z.1.name = "<init>" ∧ nest = false)) (hs : sh k = (c, N)) (hk : k < n) (hf : (fk c).getD i 0 = 0)
    (h : X G d z (pc + 3) lv st (n, sr I k (up (I k) i x), J, R) rc rs Q) : X G d z pc lv (vi x :: vr k :: st) (n, I, J, R) rc rs Q :=
  X_putv (M' := (n, sr I k (up (I k) i x), J, R)) hd hg hfin hs hk rfl rfl rfl (by rw [hf]; simp [fvl, sr, up, cv]) (fun j hj kd => by simp [fvl, sr, up, hj]) (fun j hj => cel_congr (sr_ne hj) rfl rfl) h
theorem nar01 {x : Int32} (h : x = 0 ∨ x = 1) : narrow .boolean (.int x) = .int x ∧ fits .boolean (.int x) = true ∧ vp_nar .boolean x = x := by
  rcases h with rfl | rfl <;> exact ⟨rfl, rfl, rfl⟩
theorem X_putZ {idx c i k N : Nat} {fin nest : Bool} {x : Int32} (hd : decode z.2.1 pc = .ok (.putfield idx, 3)) (hg : GF z.2.2.2.2 idx c i .boolean fin nest) (hfin : fin = false ∨ (z.1.name = "<init>" ∧ nest = false)) (hs : sh k = (c, N)) (hk : k < n) (hf : (fk c).getD i 0 = 0) (hx : x = 0 ∨ x = 1)
    (h : X G d z (pc + 3) lv st (n, sr I k (up (I k) i x), J, R) rc rs Q) : X G d z pc lv (vi x :: vr k :: st) (n, I, J, R) rc rs Q :=
  X_putv (M' := (n, sr I k (up (I k) i x), J, R)) hd hg hfin hs hk (nar01 hx).1 (nar01 hx).2.1 rfl (by rw [hf]; simp [fvl, sr, up, cv]) (fun j hj kd => by simp [fvl, sr, up, hj]) (fun j hj => cel_congr (sr_ne hj) rfl rfl) h
theorem X_putJ {idx c i k N : Nat} {fin nest : Bool} {x : Int64} (hd : decode z.2.1 pc = .ok (.putfield idx, 3)) (hg : GF z.2.2.2.2 idx c i .long fin nest) (hfin : fin = false ∨ (z.1.name = "<init>" ∧ nest = false)) (hs : sh k = (c, N)) (hk : k < n) (hf : (fk c).getD i 0 = 1)
    (h : X G d z (pc + 3) lv st (n, I, sr J k (up (J k) i x), R) rc rs Q) : X G d z pc lv (vl x :: vr k :: st) (n, I, J, R) rc rs Q :=
  X_putv (M' := (n, I, sr J k (up (J k) i x), R)) hd hg hfin hs hk rfl rfl rfl (by rw [hf]; simp [fvl, sr, up, cv]) (fun j hj kd => by simp [fvl, sr, up, hj]) (fun j hj => cel_congr rfl (sr_ne hj) rfl) h
def refTy (ty : FieldType) : Bool := match ty with
  | .object _ => true
  | .array _ => true
  | _ => false
theorem X_putR {idx c i k N : Nat} {ty : FieldType} {fin nest : Bool} {r : Nat} (hd : decode z.2.1 pc = .ok (.putfield idx, 3)) (hg : GF z.2.2.2.2 idx c i ty fin nest) (hfin : fin = false ∨ (z.1.name = "<init>" ∧ nest = false)) (hs : sh k = (c, N)) (hk : k < n) (hf : (fk c).getD i 0 = 2) (ht : refTy ty = true)
    (h : X G d z (pc + 3) lv st (n, I, J, sr R k (up (R k) i (some r))) rc rs Q) : X G d z pc lv (vr r :: vr k :: st) (n, I, J, R) rc rs Q :=
  X_putv (M' := (n, I, J, sr R k (up (R k) i (some r)))) hd hg hfin hs hk (by cases ty <;> first | rfl | cases ht) (by cases ty <;> first | rfl | cases ht) rfl (by rw [hf]; simp [fvl, sr, up, cv]) (fun j hj kd => by simp [fvl, sr, up, hj]) (fun j hj => cel_congr rfl rfl (sr_ne hj)) h
/-! arrays -/
theorem X_iald {k N a : Nat} {x : Int32} (hd : decode z.2.1 pc = .ok (.iaload, 1)) (hs : sh k = (13, N)) (hk : k < n) (hx : x = nI a) (ha : a < N) (hN : N < 2 ^ 31) (h : X G d z (pc + 1) lv (vi (I k a) :: st) (n, I, J, R) rc rs Q) : X G d z pc lv (vi x :: vr k :: st) (n, I, J, R) rc rs Q := by
  intro p e s m args below meth co H locs ls cells slots hC hH hl
  subst hx
  have he : (wsG G (n, I, J, R))[k]? = some (gB G + k, .inl (gY G 0, N, .inl (I k))) := by rw [wsG_at hk, cel_int hs]
  have K := h p e s m args below meth co H locs ls cells slots hC hH hl
  show W _ _ _ _ _ _ _ _ _ _ _ _ _ _ _ (F0 m pc ls (.int (nI a) :: .ref (ad G k) :: st.map (cv G)))
  rw [ad_lt (Nat.lt_of_lt_of_le hk hH.2.2.1)]
  refine va_iald hC.1 hC.2.1 hC.2.2.2.2.2.2.2.2.1 hH.1 k 0 he rfl (vp_in_nI ha hN) hd ?_
  rw [nI_clamp (by omega)]
  exact K
theorem X_zald {k N a : Nat} {x : Int32} (hd : decode z.2.1 pc = .ok (.baload, 1)) (hs : sh k = (15, N)) (hk : k < n) (hx : x = nI a) (ha : a < N) (hN : N < 2 ^ 31) (h : X G d z (pc + 1) lv (vi (I k a) :: st) (n, I, J, R) rc rs Q) : X G d z pc lv (vi x :: vr k :: st) (n, I, J, R) rc rs Q := by
  intro p e s m args below meth co H locs ls cells slots hC hH hl
  subst hx
  have he : (wsG G (n, I, J, R))[k]? = some (gB G + k, .inl (gY G 2, N, .inl (I k))) := by rw [wsG_at hk, cel_bool hs]
  have K := h p e s m args below meth co H locs ls cells slots hC hH hl
  show W _ _ _ _ _ _ _ _ _ _ _ _ _ _ _ (F0 m pc ls (.int (nI a) :: .ref (ad G k) :: st.map (cv G)))
  rw [ad_lt (Nat.lt_of_lt_of_le hk hH.2.2.1)]
  refine va_zald hC.1 hC.2.1 hC.2.2.2.2.2.2.2.2.1 hH.1 k 2 he rfl (vp_in_nI ha hN) hd ?_
  rw [nI_clamp (by omega)]
  exact K
theorem X_lald {k N a : Nat} {x : Int32} (hd : decode z.2.1 pc = .ok (.laload, 1)) (hs : sh k = (14, N)) (hk : k < n) (hx : x = nI a) (ha : a < N) (hN : N < 2 ^ 31) (h : X G d z (pc + 1) lv (vl (J k a) :: st) (n, I, J, R) rc rs Q) : X G d z pc lv (vi x :: vr k :: st) (n, I, J, R) rc rs Q := by
  intro p e s m args below meth co H locs ls cells slots hC hH hl
  subst hx
  have he : (wsG G (n, I, J, R))[k]? = some (gB G + k, .inl (gY G 1, N, .inr (.inl (J k)))) := by rw [wsG_at hk, cel_long hs]
  have K := h p e s m args below meth co H locs ls cells slots hC hH hl
  show W _ _ _ _ _ _ _ _ _ _ _ _ _ _ _ (F0 m pc ls (.int (nI a) :: .ref (ad G k) :: st.map (cv G)))
  rw [ad_lt (Nat.lt_of_lt_of_le hk hH.2.2.1)]
  refine va_lald hC.1 hC.2.1 hC.2.2.2.2.2.2.2.2.1 hH.1 k 1 he rfl (vp_in_nI ha hN) hd ?_
  rw [nI_clamp (by omega)]
  exact K
theorem tys_ref {c : Nat} (h1 : 15 < c) (h2 : c < 19) : ∃ C, (tysG G)[c - 13]? = some (gY G (c - 13), .object C) := by
  rcases (by omega : c = 16 ∨ c = 17 ∨ c = 18) with rfl | rfl | rfl <;> exact ⟨_, rfl⟩
theorem X_aald {k N a c r : Nat} {x : Int32} (hd : decode z.2.1 pc = .ok (.aaload, 1)) (hs : sh k = (c, N)) (hc : 15 < c ∧ c < 19) (hk : k < n) (hx : x = nI a) (ha : a < N) (hN : N < 2 ^ 31) (hr : R k a = some r) (h : X G d z (pc + 1) lv (vr r :: st) (n, I, J, R) rc rs Q) : X G d z pc lv (vi x :: vr k :: st) (n, I, J, R) rc rs Q := by
  intro p e s m args below meth co H locs ls cells slots hC hH hl
  subst hx
  have he : (wsG G (n, I, J, R))[k]? = some (gB G + k, .inl (gY G (c - 13), N, .inr (.inr (.inr (.inr (fun i => (R k i).map (ad G))))))) := by rw [wsG_at hk, cel_ref hs hc.1]
  obtain ⟨C, hC9⟩ := tys_ref (G := G) hc.1 hc.2
  have K := h p e s m args below meth co H locs ls cells slots hC hH hl
  show W _ _ _ _ _ _ _ _ _ _ _ _ _ _ _ (F0 m pc ls (.int (nI a) :: .ref (ad G k) :: st.map (cv G)))
  rw [ad_lt (Nat.lt_of_lt_of_le hk hH.2.2.1)]
  refine va_aldq hC.1 hC.2.1 hC.2.2.2.2.2.2.2.2.1 hH.1 k (c - 13) he hC9 (vp_in_nI ha hN) hd ?_
  rw [nI_clamp (by omega)]
  dsimp only
  rw [hr]
  exact K
theorem upd_up {f : Nat → Int32} {i : Nat} {x : Int32} : upd f i x = up f i x := rfl
theorem updL_up {f : Nat → Int64} {i : Nat} {x : Int64} : vp_updL f i x = up f i x := rfl
theorem X_iast {k N a : Nat} {x v : Int32} (hd : decode z.2.1 pc = .ok (.iastore, 1)) (hs : sh k = (13, N)) (hk : k < n) (hx : x = nI a) (ha : a < N) (hN : N < 2 ^ 31) (h : X G d z (pc + 1) lv st (n, sr I k (up (I k) a v), J, R) rc rs Q) : X G d z pc lv (vi v :: vi x :: vr k :: st) (n, I, J, R) rc rs Q := by
  intro p e s m args below meth co H locs ls cells slots hC hH hl
  subst hx
  have he : (wsG G (n, I, J, R))[k]? = some (gB G + k, .inl (gY G 0, N, .inl (I k))) := by rw [wsG_at hk, cel_int hs]
  show W _ _ _ _ _ _ _ _ _ _ _ _ _ _ _ (F0 m pc ls (.int v :: .int (nI a) :: .ref (ad G k) :: st.map (cv G)))
  rw [ad_lt (Nat.lt_of_lt_of_le hk hH.2.2.1)]
  refine va_iast hC.1 hC.2.1 hC.2.2.2.2.2.2.2.2.1 hH.1 (wsG_D _ _) hH.2.2.2 k 0 he rfl (vp_in_nI ha hN) hd (fun H1 locs1 a1 a2 a3 => ?_)
  have e2 : (wsG G (n, I, J, R)).set k (gB G + k, .inl (gY G 0, N, .inl (up (I k) a v))) = wsG G (n, sr I k (up (I k) a v), J, R) := wsG_set hk rfl (by rw [cel_int hs]; dsimp only; rw [sr_eq]) (fun j hj => cel_congr (sr_ne hj) rfl rfl)
  rw [nI_clamp (by omega), upd_up, e2] at a1
  exact h p e s m args below meth co H1 locs1 ls cells slots hC ⟨a1, hH.2.1, hH.2.2.1, a3⟩ hl
theorem X_zast {k N a : Nat} {x v : Int32} (hd : decode z.2.1 pc = .ok (.bastore, 1)) (hs : sh k = (15, N)) (hk : k < n) (hx : x = nI a) (ha : a < N) (hN : N < 2 ^ 31) (hv : v = 0 ∨ v = 1) (h : X G d z (pc + 1) lv st (n, sr I k (up (I k) a v), J, R) rc rs Q) : X G d z pc lv (vi v :: vi x :: vr k :: st) (n, I, J, R) rc rs Q := by
  intro p e s m args below meth co H locs ls cells slots hC hH hl
  subst hx
  have he : (wsG G (n, I, J, R))[k]? = some (gB G + k, .inl (gY G 2, N, .inl (I k))) := by rw [wsG_at hk, cel_bool hs]
  show W _ _ _ _ _ _ _ _ _ _ _ _ _ _ _ (F0 m pc ls (.int v :: .int (nI a) :: .ref (ad G k) :: st.map (cv G)))
  rw [ad_lt (Nat.lt_of_lt_of_le hk hH.2.2.1)]
  refine va_zast hC.1 hC.2.1 hC.2.2.2.2.2.2.2.2.1 hH.1 (wsG_D _ _) hH.2.2.2 k 2 he rfl (vp_in_nI ha hN) hd (fun H1 locs1 a1 a2 a3 => ?_)
  have e2 : (wsG G (n, I, J, R)).set k (gB G + k, .inl (gY G 2, N, .inl (up (I k) a v))) = wsG G (n, sr I k (up (I k) a v), J, R) := wsG_set hk rfl (by rw [cel_bool hs]; dsimp only; rw [sr_eq]) (fun j hj => cel_congr (sr_ne hj) rfl rfl)
  rw [nI_clamp (by omega), (nar01 hv).2.2, upd_up, e2] at a1
  exact h p e s m args below meth co H1 locs1 ls cells slots hC ⟨a1, hH.2.1, hH.2.2.1, a3⟩ hl
theorem X_last {k N a : Nat} {x : Int32} {v : Int64} (hd : decode z.2.1 pc = .ok (.lastore, 1)) (hs : sh k = (14, N)) (hk : k < n) (hx : x = nI a) (ha : a < N) (hN : N < 2 ^ 31) (h : X G d z (pc + 1) lv st (n, I, sr J k (up (J k) a v), R) rc rs Q) : X G d z pc lv (vl v :: vi x :: vr k :: st) (n, I, J, R) rc rs Q := by
  intro p e s m args below meth co H locs ls cells slots hC hH hl
  subst hx
  have he : (wsG G (n, I, J, R))[k]? = some (gB G + k, .inl (gY G 1, N, .inr (.inl (J k)))) := by rw [wsG_at hk, cel_long hs]
  show W _ _ _ _ _ _ _ _ _ _ _ _ _ _ _ (F0 m pc ls (.long v :: .int (nI a) :: .ref (ad G k) :: st.map (cv G)))
  rw [ad_lt (Nat.lt_of_lt_of_le hk hH.2.2.1)]
  refine va_last hC.1 hC.2.1 hC.2.2.2.2.2.2.2.2.1 hH.1 (wsG_D _ _) hH.2.2.2 k 1 he rfl (vp_in_nI ha hN) hd (fun H1 locs1 a1 a2 a3 => ?_)
  have e2 : (wsG G (n, I, J, R)).set k (gB G + k, .inl (gY G 1, N, .inr (.inl (up (J k) a v)))) = wsG G (n, I, sr J k (up (J k) a v), R) := wsG_set hk rfl (by rw [cel_long hs]; dsimp only; rw [sr_eq]) (fun j hj => cel_congr rfl (sr_ne hj) rfl)
  rw [nI_clamp (by omega), updL_up, e2] at a1
  exact h p e s m args below meth co H1 locs1 ls cells slots hC ⟨a1, hH.2.1, hH.2.2.1, a3⟩ hl
theorem X_alen {k N c : Nat} (hd : decode z.2.1 pc = .ok (.arraylength, 1)) (hs : sh k = (c, N)) (hc : c = 13 ∨ c = 14) (hk : k < n) (h : X G d z (pc + 1) lv (vi (nI N) :: st) (n, I, J, R) rc rs Q) : X G d z pc lv (vr k :: st) (n, I, J, R) rc rs Q := by
  intro p e s m args below meth co H locs ls cells slots hC hH hl
  have K := h p e s m args below meth co H locs ls cells slots hC hH hl
  show W _ _ _ _ _ _ _ _ _ _ _ _ _ _ _ (F0 m pc ls (.ref (ad G k) :: st.map (cv G)))
  rw [ad_lt (Nat.lt_of_lt_of_le hk hH.2.2.1)]
  rcases hc with rfl | rfl
  · exact va_alen hC.1 hC.2.1 hC.2.2.2.2.2.2.2.2.1 hH.1 k 0 (x := (N, .inl (I k))) (by rw [wsG_at hk, cel_int hs]) rfl rfl hd K
  · exact va_alen hC.1 hC.2.1 hC.2.2.2.2.2.2.2.2.1 hH.1 k 1 (x := (N, .inr (.inl (J k)))) (by rw [wsG_at hk, cel_long hs]) rfl rfl hd K
/-! the script and the static rows -/
theorem X_sld {a : Nat} {x : Int32} (hd : decode z.2.1 pc = .ok (.iaload, 1)) (hx : x = nI a) (ha : a < gL G) (hN : gL G < 2 ^ 31) (h : X G d z (pc + 1) lv (vi (gX G a) :: st) (n, I, J, R) rc rs Q) : X G d z pc lv (vi x :: vr 1000 :: st) (n, I, J, R) rc rs Q := by
  intro p e s m args below meth co H locs ls cells slots hC hH hl
  subst hx
  have K := h p e s m args below meth co H locs ls cells slots hC hH hl
  show W _ _ _ _ _ _ _ _ _ _ _ _ _ _ _ (F0 m pc ls (.int (nI a) :: .ref (gS G 0) :: st.map (cv G)))
  have hST := hC.2.2.2.2.2.2.2.2.2.2.2.1.2.2.2.2
  have hB := hC.2.2.2.2.2.2.2.2.2.2.2.2
  refine va_sld hC.1 hC.2.1 hST.1 (Nat.lt_of_lt_of_le hST.2 hB) (A := gA G) (by have := hST.2; unfold gA; omega) hH.2.2.2 (vp_in_nI ha hN) hd ?_
  rw [nI_clamp (by omega)]
  exact K
theorem X_slen (hd : decode z.2.1 pc = .ok (.arraylength, 1)) (h : X G d z (pc + 1) lv (vi (nI (gL G)) :: st) (n, I, J, R) rc rs Q) : X G d z pc lv (vr 1000 :: st) (n, I, J, R) rc rs Q := by
  intro p e s m args below meth co H locs ls cells slots hC hH hl
  have K := h p e s m args below meth co H locs ls cells slots hC hH hl
  show W _ _ _ _ _ _ _ _ _ _ _ _ _ _ _ (F0 m pc ls (.ref (gS G 0) :: st.map (cv G)))
  have hST := hC.2.2.2.2.2.2.2.2.2.2.2.1.2.2.2.2
  have hB := hC.2.2.2.2.2.2.2.2.2.2.2.2
  exact va_slen hC.1 hC.2.1 hST.1 (Nat.lt_of_lt_of_le hST.2 hB) (A := gA G) (by have := hST.2; unfold gA; omega) hH.2.2.2 hd K
theorem X_ildA {a : Nat} {x : Int32} (hd : decode z.2.1 pc = .ok (.iaload, 1)) (hx : x = nI a) (ha : a < 4) (h : X G d z (pc + 1) lv (vi (actsF a) :: st) (n, I, J, R) rc rs Q) : X G d z pc lv (vi x :: vr 1001 :: st) (n, I, J, R) rc rs Q := by
  intro p e s m args below meth co H locs ls cells slots hC hH hl
  subst hx
  have K := h p e s m args below meth co H locs ls cells slots hC hH hl
  show W _ _ _ _ _ _ _ _ _ _ _ _ _ _ _ (F0 m pc ls (.int (nI a) :: .ref (gS G 1) :: st.map (cv G)))
  exact va_ti hC.1 hC.2.1 hC.2.2.2.2.2.2.2.2.2.2.2.1.1.2 hH.2.2.2 (vp_in_nI ha (by omega)) (by rw [nI_clamp (by omega)]; rfl) hd K
theorem X_ildM {a : Nat} {x : Int32} (hd : decode z.2.1 pc = .ok (.iaload, 1)) (hx : x = nI a) (ha : a < 17) (h : X G d z (pc + 1) lv (vi (movesF a) :: st) (n, I, J, R) rc rs Q) : X G d z pc lv (vi x :: vr 1002 :: st) (n, I, J, R) rc rs Q := by
  intro p e s m args below meth co H locs ls cells slots hC hH hl
  subst hx
  have K := h p e s m args below meth co H locs ls cells slots hC hH hl
  show W _ _ _ _ _ _ _ _ _ _ _ _ _ _ _ (F0 m pc ls (.int (nI a) :: .ref (gS G 2) :: st.map (cv G)))
  exact va_ti hC.1 hC.2.1 hC.2.2.2.2.2.2.2.2.2.2.2.1.2.1.2 hH.2.2.2 (vp_in_nI ha (by omega)) (by rw [nI_clamp (by omega)]; rfl) hd K
theorem X_lldH {a : Nat} {x : Int32} (hd : decode z.2.1 pc = .ok (.laload, 1)) (hx : x = nI a) (ha : a < 3) (h : X G d z (pc + 1) lv (vl (highF a) :: st) (n, I, J, R) rc rs Q) : X G d z pc lv (vi x :: vr 1003 :: st) (n, I, J, R) rc rs Q := by
  intro p e s m args below meth co H locs ls cells slots hC hH hl
  subst hx
  have K := h p e s m args below meth co H locs ls cells slots hC hH hl
  show W _ _ _ _ _ _ _ _ _ _ _ _ _ _ _ (F0 m pc ls (.int (nI a) :: .ref (gS G 3) :: st.map (cv G)))
  exact va_tl hC.1 hC.2.1 hC.2.2.2.2.2.2.2.2.2.2.2.1.2.2.1.2 hH.2.2.2 (vp_in_nI ha (by omega)) (by rw [nI_clamp (by omega)]; rfl) hd K
theorem X_lldL {a : Nat} {x : Int32} (hd : decode z.2.1 pc = .ok (.laload, 1)) (hx : x = nI a) (ha : a < 3) (h : X G d z (pc + 1) lv (vl (lowF a) :: st) (n, I, J, R) rc rs Q) : X G d z pc lv (vi x :: vr 1004 :: st) (n, I, J, R) rc rs Q := by
  intro p e s m args below meth co H locs ls cells slots hC hH hl
  subst hx
  have K := h p e s m args below meth co H locs ls cells slots hC hH hl
  show W _ _ _ _ _ _ _ _ _ _ _ _ _ _ _ (F0 m pc ls (.int (nI a) :: .ref (gS G 4) :: st.map (cv G)))
  exact va_tl hC.1 hC.2.1 hC.2.2.2.2.2.2.2.2.2.2.2.1.2.2.2.1.2 hH.2.2.2 (vp_in_nI ha (by omega)) (by rw [nI_clamp (by omega)]; rfl) hd K
theorem X_alenA (hd : decode z.2.1 pc = .ok (.arraylength, 1)) (h : X G d z (pc + 1) lv (vi (nI 4) :: st) (n, I, J, R) rc rs Q) : X G d z pc lv (vr 1001 :: st) (n, I, J, R) rc rs Q := by
  intro p e s m args below meth co H locs ls cells slots hC hH hl
  have K := h p e s m args below meth co H locs ls cells slots hC hH hl
  show W _ _ _ _ _ _ _ _ _ _ _ _ _ _ _ (F0 m pc ls (.ref (gS G 1) :: st.map (cv G)))
  exact va_tlen hC.1 hC.2.1 hC.2.2.2.2.2.2.2.2.2.2.2.1.1.2 hH.2.2.2 rfl hd K
theorem X_alenM (hd : decode z.2.1 pc = .ok (.arraylength, 1)) (h : X G d z (pc + 1) lv (vi (nI 17) :: st) (n, I, J, R) rc rs Q) : X G d z pc lv (vr 1002 :: st) (n, I, J, R) rc rs Q := by
  intro p e s m args below meth co H locs ls cells slots hC hH hl
  have K := h p e s m args below meth co H locs ls cells slots hC hH hl
  show W _ _ _ _ _ _ _ _ _ _ _ _ _ _ _ (F0 m pc ls (.ref (gS G 2) :: st.map (cv G)))
  exact va_tlen hC.1 hC.2.1 hC.2.2.2.2.2.2.2.2.2.2.2.1.2.1.2 hH.2.2.2 rfl hd K
def GS (own : String) (idx : Nat) (C nm de : String) : Prop := Cond.fieldLink own idx C nm de ∈ BIG ∨ ∃ host, Cond.fieldLinkNest own idx C nm de host ∈ NST
theorem X_gets {idx : Nat} {C nm de : String} {a : Nat} (hd : decode z.2.1 pc = .ok (.getstatic idx, 3)) (hg : GS z.2.2.2.2 idx C nm de) (hZ : ∀ U : State, ST G U → va_Z C nm de (.ref (ad G a)) (gA G) U U.heap) (h : X G d z (pc + 3) lv (vr a :: st) (n, I, J, R) rc rs Q) : X G d z pc lv st (n, I, J, R) rc rs Q := by
  intro p e s m args below meth co H locs ls cells slots hC hH hl
  have K := h p e s m args below meth co H locs ls cells slots hC hH hl
  rcases hg with q | ⟨host, q⟩
  · exact va_gets hC.1 hC.2.1 (hZ s hC.2.2.2.2.2.2.2.2.2.2.2.1) hH.2.2.2 hC.2.2.2.2.2.1 (hC.2.2.2.2.2.2.1 _ (List.mem_cons_of_mem _ q)) (fun x hx => hx) hd K
  · exact va_getsN hC.1 hC.2.1 (hZ s hC.2.2.2.2.2.2.2.2.2.2.2.1) hH.2.2.2 hC.2.2.2.2.2.1 (va_Nw.use rfl (hC.2.2.2.2.2.2.2.2.2.1 _ q)) (fun x hx => hx) hd K
theorem hzA (U : State) (h : ST G U) : va_Z "FewerSteps" "ACTS" "[I" (.ref (ad G 1001)) (gA G) U U.heap := h.1.1
theorem hzM (U : State) (h : ST G U) : va_Z "FewerSteps$Search" "MOVES" "[I" (.ref (ad G 1002)) (gA G) U U.heap := h.2.1.1
theorem hzH (U : State) (h : ST G U) : va_Z "FewerSteps$Rows" "HIGH_DIGIT" "[J" (.ref (ad G 1003)) (gA G) U U.heap := h.2.2.1.1
theorem hzL (U : State) (h : ST G U) : va_Z "FewerSteps$Rows" "LOW_DIGIT" "[J" (.ref (ad G 1004)) (gA G) U U.heap := h.2.2.2.1.1
end XH
