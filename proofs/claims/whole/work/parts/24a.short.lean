/-! the shortest code over a and b: choices, what they make -/
def dg (v r : Nat) : Nat := if r = 0 then v / 8 else v % 8
def kto (k : Nat) : Nat := k / 26
def kwh (k : Nat) : Nat := if k % 26 < 2 then k % 26 else 2 + (k % 26 - 2) / 6
def ko1 (k : Nat) : Nat := if k % 26 < 2 then (if k % 26 = 1 then 1 - k / 26 else 0) else (k % 26 - 2) / 3 % 2
def ko2 (k : Nat) : Nat := if k % 26 < 2 then 0 else (k % 26 - 2) % 3
def sgn (w : Nat) : Nat := if w = 2 then 43 else if w = 3 then 45 else if w = 4 then 42 else 109
def kval (k v : Nat) : Nat := if kwh k = 0 then 0 else if kwh k = 1 then dg v (ko1 k) else av (sgn (kwh k)) (dg v (ko1 k)) (if ko2 k = 2 then 1 else dg v (ko2 k))
def dsm (k v : Nat) : Nat := if kto k = 0 then 8 * kval k v + v % 8 else v / 8 * 8 + kval k v
def Tn (k : Nat) : Nat := 1000 * kto k + 100 * kwh k + 10 * ko1 k + ko2 k
theorem dg_lt {v r : Nat} (h : v < 64) : dg v r < 8 := by unfold dg; split <;> omega
theorem kval_lt {k v : Nat} (h : v < 64) : kval k v < 8 := by
  unfold kval
  split
  · decide
  · split
    · exact dg_lt h
    · exact av_lt (dg_lt h)
theorem dsm_lt {k v : Nat} (h : v < 64) : dsm k v < 64 := by
  have := kval_lt (k := k) h
  unfold dsm
  split <;> omega
theorem dsm_t {k v : Nat} (h : v < 64) (hk : k < 52) : dg (dsm k v) (kto k) = kval k v ∧ dg (dsm k v) (1 - kto k) = dg v (1 - kto k) := by
  have := kval_lt (k := k) h
  have : kto k < 2 := by unfold kto; omega
  unfold dsm
  rcases (by omega : kto k = 0 ∨ kto k = 1) with e | e
  · rw [e]
    rw [if_pos rfl]
    refine ⟨?_, ?_⟩
    · show (8 * kval k v + v % 8) / 8 = _; omega
    · show (8 * kval k v + v % 8) % 8 = v % 8; omega
  · rw [e]
    rw [if_neg (by decide)]
    refine ⟨?_, ?_⟩
    · show (v / 8 * 8 + kval k v) % 8 = _; omega
    · show (v / 8 * 8 + kval k v) / 8 = v / 8; omega
def lay (x : Nat → Nat) : Nat → Nat → Nat
  | 0, v => v
  | j + 1, v => dsm (x j) (lay x j v)
theorem lay_lt {x : Nat → Nat} {v : Nat} (h : v < 64) : ∀ j, lay x j v < 64
  | 0 => h
  | j + 1 => dsm_lt (lay_lt h j)
theorem lay_cg {x y : Nat → Nat} {v : Nat} : ∀ j, (∀ i, i < j → x i = y i) → lay x j v = lay y j v
  | 0, _ => rfl
  | j + 1, h => by
    show dsm (x j) (lay x j v) = dsm (y j) (lay y j v)
    rw [h j (Nat.lt_succ_self j), lay_cg j (fun i hi => h i (by omega))]
def okS (W : Nat) (du : Nat → Nat) (x : Nat → Nat) (st : Nat) : Prop := ∀ r, r < 2 → W.testBit r = true → ∀ v, v < 64 → dg (lay x st v) r = dg (du v) r
theorem okS_cg {W : Nat} {du x y : Nat → Nat} {st : Nat} (h : ∀ i, i < st → x i = y i) (ho : okS W du x st) : okS W du y st := fun r hr hW v hv => by rw [← lay_cg st h]; exact ho r hr hW v hv
def kept (k : Nat) : Bool := decide (k % 26 ∉ [5, 8, 12, 16, 17, 19, 20, 23, 24])
def er (k : Nat) : Nat := 26 * (k / 26) + (if k % 26 = 5 then 3 else if k % 26 = 8 then 0 else if k % 26 = 12 then 0 else if k % 26 = 17 then 15 else if k % 26 = 23 then 21 else 1)
theorem er_all : ∀ k, k < 52 → kept k = true ∨ (∀ v, v < 64 → dsm k v = v) ∨ (er k < k ∧ ∀ v, v < 64 → dsm (er k) v = dsm k v) := by decide +kernel
/-- one sequence is no later than another one -/
def lxl (st : Nat) (x y : Nat → Nat) : Prop := (∀ i, i < st → x i = y i) ∨ ∃ j, j < st ∧ (∀ i, i < j → x i = y i) ∧ x j < y j
def D52 (st : Nat) (x : Nat → Nat) : Prop := ∀ i, i < st → x i < 52
def FST (st : Nat) (P : (Nat → Nat) → Prop) (x : Nat → Nat) : Prop := D52 st x ∧ P x ∧ ∀ y, D52 st y → P y → lxl st x y
theorem lxl_anti {st : Nat} {x y : Nat → Nat} (h1 : lxl st x y) (h2 : lxl st y x) : ∀ i, i < st → x i = y i := by
  rcases h1 with h | ⟨j, j1, j2, j3⟩
  · exact h
  · rcases h2 with h | ⟨k, k1, k2, k3⟩
    · exact fun i hi => (h i hi).symm
    · exfalso
      rcases Nat.lt_trichotomy j k with q | q | q
      · have := k2 j q; omega
      · rw [q] at j3; omega
      · have := j2 k q; omega
def accS (W : Nat) (du x : Nat → Nat) (st : Nat) : Prop := (∀ i, i < st → kept (x i) = true) ∧ okS W du x st ∧ W.testBit (kto (x (st - 1))) = true
theorem lay_rep {x : Nat → Nat} {j k' : Nat} (h : ∀ v, v < 64 → dsm k' v = dsm (x j) v) {v : Nat} (hv : v < 64) : ∀ i, lay (up x j k') i v = lay x i v
  | 0 => rfl
  | i + 1 => by
    show dsm (up x j k' i) (lay (up x j k') i v) = dsm (x i) (lay x i v)
    rw [lay_rep h hv i]
    by_cases e : i = j
    · rw [e, up_eq]; exact h _ (lay_lt hv j)
    · rw [up_ne e]
def del (x : Nat → Nat) (j : Nat) : Nat → Nat := fun i => if i < j then x i else x (i + 1)
theorem lay_del {x : Nat → Nat} {j : Nat} (h : ∀ v, v < 64 → dsm (x j) v = v) {v : Nat} (hv : v < 64) : ∀ i, j ≤ i → lay (del x j) i v = lay x (i + 1) v
  | 0, hi => by
    obtain rfl : j = 0 := by omega
    exact (h v hv).symm
  | i + 1, hi => by
    by_cases e : j = i + 1
    · have e1 : lay (del x j) (i + 1) v = lay x (i + 1) v := lay_cg (i + 1) (fun q hq => if_pos (by omega))
      rw [e1]
      show _ = dsm (x (i + 1)) (lay x (i + 1) v)
      rw [← e, h _ (lay_lt hv j)]
    · show dsm (del x j i) (lay (del x j) i v) = dsm (x (i + 1)) (lay x (i + 1) v)
      rw [lay_del h hv i (by omega), show del x j i = x (i + 1) from if_neg (by omega)]
/-- the first one that does is one that the class tries -/
theorem first_acc {W st : Nat} {du x : Nat → Nat} (hst : 1 ≤ st) (hmin : ∀ y, D52 (st - 1) y → ¬ okS W du y (st - 1)) (h : FST st (fun x => okS W du x st) x) : accS W du x st := by
  obtain ⟨h1, h2, h3⟩ := h
  have hk : ∀ i, i < st → kept (x i) = true := by
    intro j hj
    rcases er_all (x j) (h1 j hj) with q | q | ⟨q1, q2⟩
    · exact q
    · exfalso
      refine hmin (del x j) (fun i hi => ?_) (fun r hr hW v hv => ?_)
      · unfold del
        split
        · exact h1 i (by omega)
        · exact h1 (i + 1) (by omega)
      · rw [lay_del q hv (st - 1) (by omega), show st - 1 + 1 = st by omega]
        exact h2 r hr hW v hv
    · exfalso
      have hl := h3 (up x j (er (x j))) (fun i hi => by
        by_cases e : i = j
        · rw [e, up_eq]; have := h1 j hj; omega
        · rw [up_ne e]; exact h1 i hi) (fun r hr hW v hv => by rw [lay_rep q2 hv st]; exact h2 r hr hW v hv)
      rcases hl with hl | ⟨i, i1, i2, i3⟩
      · have := hl j hj
        rw [up_eq] at this; omega
      · rcases Nat.lt_trichotomy i j with z | z | z
        · rw [up_ne (by omega)] at i3; omega
        · rw [z, up_eq] at i3; omega
        · have := i2 j z
          rw [up_eq] at this; omega
  refine ⟨hk, h2, ?_⟩
  cases hb : W.testBit (kto (x (st - 1)))
  · exfalso
    refine hmin x (fun i hi => h1 i (by omega)) (fun r hr hW v hv => ?_)
    have hne : r ≠ kto (x (st - 1)) := fun q => by rw [q, hb] at hW; exact absurd hW (by decide)
    have hk2 : kto (x (st - 1)) < 2 := by have := h1 (st - 1) (by omega); unfold kto; omega
    have e := (dsm_t (lay_lt (x := x) hv (st - 1)) (h1 (st - 1) (by omega))).2
    rw [show 1 - kto (x (st - 1)) = r by omega] at e
    rw [← e]
    have := h2 r hr hW v hv
    rw [show st = st - 1 + 1 by omega] at this
    exact this
  · rfl
/-! numbers of sequences -/
def dig (st e : Nat) : Nat → Nat := fun j => e / 52 ^ (st - 1 - j) % 52
theorem dig_52 (st e : Nat) : D52 st (dig st e) := fun _ _ => Nat.mod_lt _ (by decide)
theorem dig_lex {st e e' : Nat} (hst : st ≤ 3) (he : e' < 52 ^ st) (h : e < e') : lxl st (dig st e) (dig st e') := by
  rcases (by omega : st = 0 ∨ st = 1 ∨ st = 2 ∨ st = 3) with rfl | rfl | rfl | rfl
  · exact Or.inl (fun i hi => absurd hi (Nat.not_lt_zero i))
  · have he : e' < 52 := he
    refine Or.inr ⟨0, by decide, fun i hi => absurd hi (Nat.not_lt_zero i), ?_⟩
    show e / 1 % 52 < e' / 1 % 52
    omega
  · have he : e' < 2704 := he
    by_cases q : e / 52 = e' / 52
    · refine Or.inr ⟨1, by decide, fun i hi => ?_, ?_⟩
      · obtain rfl : i = 0 := by omega
        show e / 52 % 52 = e' / 52 % 52
        rw [q]
      · show e / 1 % 52 < e' / 1 % 52
        omega
    · refine Or.inr ⟨0, by decide, fun i hi => absurd hi (Nat.not_lt_zero i), ?_⟩
      show e / 52 % 52 < e' / 52 % 52
      omega
  · have he : e' < 140608 := he
    by_cases q : e / 2704 = e' / 2704
    · by_cases q2 : e / 52 % 52 = e' / 52 % 52
      · refine Or.inr ⟨2, by decide, fun i hi => ?_, ?_⟩
        · rcases (by omega : i = 0 ∨ i = 1) with rfl | rfl
          · show e / 2704 % 52 = e' / 2704 % 52
            rw [q]
          · exact q2
        · show e / 1 % 52 < e' / 1 % 52
          omega
      · refine Or.inr ⟨1, by decide, fun i hi => ?_, ?_⟩
        · obtain rfl : i = 0 := by omega
          show e / 2704 % 52 = e' / 2704 % 52
          rw [q]
        · show e / 52 % 52 < e' / 52 % 52
          omega
    · refine Or.inr ⟨0, by decide, fun i hi => absurd hi (Nat.not_lt_zero i), ?_⟩
      show e / 2704 % 52 < e' / 2704 % 52
      omega
theorem dig_of {st : Nat} (hst : st ≤ 3) {x : Nat → Nat} (hx : D52 st x) : ∃ e, e < 52 ^ st ∧ ∀ i, i < st → dig st e i = x i := by
  rcases (by omega : st = 0 ∨ st = 1 ∨ st = 2 ∨ st = 3) with rfl | rfl | rfl | rfl
  · exact ⟨0, by decide, fun i hi => absurd hi (Nat.not_lt_zero i)⟩
  · have a := hx 0 (by decide)
    refine ⟨x 0, a, fun i hi => ?_⟩
    obtain rfl : i = 0 := by omega
    show x 0 / 1 % 52 = x 0
    omega
  · have a := hx 0 (by decide)
    have b := hx 1 (by decide)
    refine ⟨x 0 * 52 + x 1, by show _ < 2704; omega, fun i hi => ?_⟩
    rcases (by omega : i = 0 ∨ i = 1) with rfl | rfl
    · show (x 0 * 52 + x 1) / 52 % 52 = x 0; omega
    · show (x 0 * 52 + x 1) / 1 % 52 = x 1; omega
  · have a := hx 0 (by decide)
    have b := hx 1 (by decide)
    have c := hx 2 (by decide)
    refine ⟨(x 0 * 52 + x 1) * 52 + x 2, by show _ < 140608; omega, fun i hi => ?_⟩
    rcases (by omega : i = 0 ∨ i = 1 ∨ i = 2) with rfl | rfl | rfl
    · show ((x 0 * 52 + x 1) * 52 + x 2) / 2704 % 52 = x 0; omega
    · show ((x 0 * 52 + x 1) * 52 + x 2) / 52 % 52 = x 1; omega
    · show ((x 0 * 52 + x 1) * 52 + x 2) / 1 % 52 = x 2; omega
theorem dig_last {st e : Nat} (hst : st ≤ 3) (he : e < 52 ^ st) (h : ∀ i, i < st → dig st e i = 51) : e + 1 = 52 ^ st := by
  rcases (by omega : st = 0 ∨ st = 1 ∨ st = 2 ∨ st = 3) with rfl | rfl | rfl | rfl
  · have he : e < 1 := he
    show e + 1 = 1; omega
  · have he : e < 52 := he
    have a : e / 1 % 52 = 51 := h 0 (by decide)
    show e + 1 = 52; omega
  · have he : e < 2704 := he
    have a : e / 52 % 52 = 51 := h 0 (by decide)
    have b : e / 1 % 52 = 51 := h 1 (by decide)
    show e + 1 = 2704; omega
  · have he : e < 140608 := he
    have a : e / 2704 % 52 = 51 := h 0 (by decide)
    have b : e / 52 % 52 = 51 := h 1 (by decide)
    have c : e / 1 % 52 = 51 := h 2 (by decide)
    show e + 1 = 140608; omega
theorem dig_inc {st e k : Nat} (hst : st ≤ 3) (he : e < 52 ^ st) (hk : k < st) (hne : dig st e k ≠ 51) (h : ∀ i, k < i → i < st → dig st e i = 51) : e + 1 < 52 ^ st ∧ ∀ i, i < st → dig st (e + 1) i = if i < k then dig st e i else if i = k then dig st e k + 1 else 0 := by
  rcases (by omega : st = 1 ∨ st = 2 ∨ st = 3) with rfl | rfl | rfl
  · have he : e < 52 := he
    obtain rfl : k = 0 := by omega
    have a : ¬ e / 1 % 52 = 51 := hne
    refine ⟨by show e + 1 < 52; omega, fun i hi => ?_⟩
    obtain rfl : i = 0 := by omega
    show (e + 1) / 1 % 52 = e / 1 % 52 + 1
    omega
  · have he : e < 2704 := he
    rcases (by omega : k = 0 ∨ k = 1) with rfl | rfl
    · have a : ¬ e / 52 % 52 = 51 := hne
      have b : e / 1 % 52 = 51 := h 1 (by decide) (by decide)
      refine ⟨by show e + 1 < 2704; omega, fun i hi => ?_⟩
      rcases (by omega : i = 0 ∨ i = 1) with rfl | rfl
      · show (e + 1) / 52 % 52 = e / 52 % 52 + 1; omega
      · show (e + 1) / 1 % 52 = 0; omega
    · have a : ¬ e / 1 % 52 = 51 := hne
      refine ⟨by show e + 1 < 2704; omega, fun i hi => ?_⟩
      rcases (by omega : i = 0 ∨ i = 1) with rfl | rfl
      · show (e + 1) / 52 % 52 = e / 52 % 52; omega
      · show (e + 1) / 1 % 52 = e / 1 % 52 + 1; omega
  · have he : e < 140608 := he
    rcases (by omega : k = 0 ∨ k = 1 ∨ k = 2) with rfl | rfl | rfl
    · have a : ¬ e / 2704 % 52 = 51 := hne
      have b : e / 52 % 52 = 51 := h 1 (by decide) (by decide)
      have c : e / 1 % 52 = 51 := h 2 (by decide) (by decide)
      refine ⟨by show e + 1 < 140608; omega, fun i hi => ?_⟩
      rcases (by omega : i = 0 ∨ i = 1 ∨ i = 2) with rfl | rfl | rfl
      · show (e + 1) / 2704 % 52 = e / 2704 % 52 + 1; omega
      · show (e + 1) / 52 % 52 = 0; omega
      · show (e + 1) / 1 % 52 = 0; omega
    · have a : ¬ e / 52 % 52 = 51 := hne
      have c : e / 1 % 52 = 51 := h 2 (by decide) (by decide)
      refine ⟨by show e + 1 < 140608; omega, fun i hi => ?_⟩
      rcases (by omega : i = 0 ∨ i = 1 ∨ i = 2) with rfl | rfl | rfl
      · show (e + 1) / 2704 % 52 = e / 2704 % 52; omega
      · show (e + 1) / 52 % 52 = e / 52 % 52 + 1; omega
      · show (e + 1) / 1 % 52 = 0; omega
    · have a : ¬ e / 1 % 52 = 51 := hne
      refine ⟨by show e + 1 < 140608; omega, fun i hi => ?_⟩
      rcases (by omega : i = 0 ∨ i = 1 ∨ i = 2) with rfl | rfl | rfl
      · show (e + 1) / 2704 % 52 = e / 2704 % 52; omega
      · show (e + 1) / 52 % 52 = e / 52 % 52; omega
      · show (e + 1) / 1 % 52 = e / 1 % 52 + 1; omega
/-! the answer, by numbers of sequences -/
def okB (W : Nat) (du x : Nat → Nat) (st : Nat) : Nat → Bool
  | 0 => true
  | v + 1 => okB W du x st v && ((!W.testBit 0 || decide (lay x st v / 8 = du v / 8)) && (!W.testBit 1 || decide (lay x st v % 8 = du v % 8)))
theorem okB_iff {W : Nat} {du x : Nat → Nat} {st : Nat} : ∀ m, okB W du x st m = true ↔ ∀ r, r < 2 → W.testBit r = true → ∀ v, v < m → dg (lay x st v) r = dg (du v) r
  | 0 => ⟨fun _ r _ _ v h => absurd h (Nat.not_lt_zero v), fun _ => rfl⟩
  | m + 1 => by
    unfold okB
    rw [Bool.and_eq_true, Bool.and_eq_true, okB_iff m, Bool.or_eq_true, Bool.or_eq_true, decide_eq_true_iff, decide_eq_true_iff]
    constructor
    · rintro ⟨h1, h2, h3⟩ r hr hW v hv
      by_cases q : v = m
      · rw [q]
        rcases (by omega : r = 0 ∨ r = 1) with rfl | rfl
        · exact h2.resolve_left (by rw [hW]; decide)
        · exact h3.resolve_left (by rw [hW]; decide)
      · exact h1 r hr hW v (by omega)
    · intro h
      refine ⟨fun r hr hW v hv => h r hr hW v (by omega), ?_, ?_⟩
      · cases z : W.testBit 0
        · exact Or.inl rfl
        · exact Or.inr (h 0 (by decide) z m (Nat.lt_succ_self m))
      · cases z : W.testBit 1
        · exact Or.inl rfl
        · exact Or.inr (h 1 (by decide) z m (Nat.lt_succ_self m))
def tryE (W : Nat) (du : Nat → Nat) (st : Nat) : Option Nat := ffR (fun e => okB W du (dig st e) st 64) (52 ^ st)
theorem ffR_no {p : Nat → Bool} : ∀ m, ffR p m = none → ∀ q, q < m → p q = false := by
  intro m h q hq
  cases z : p q
  · rfl
  · obtain ⟨j, j1, j2, j3⟩ := least m ⟨q, hq, z⟩
    rw [ffR_some j2 j3 m j1] at h
    exact absurd h (by simp)
theorem tryE_some {W : Nat} {du : Nat → Nat} {st e : Nat} (hst : st ≤ 3) (h : tryE W du st = some e) : FST st (fun x => okS W du x st) (dig st e) := by
  obtain ⟨h1, h2⟩ := ffR_is _ h
  refine ⟨dig_52 st e, (okB_iff 64).mp h1, fun y hy ho => ?_⟩
  obtain ⟨e', a, b⟩ := dig_of hst hy
  have ok' : okB W du (dig st e') st 64 = true := (okB_iff 64).mpr (okS_cg (fun i hi => (b i hi).symm) ho)
  have hle : e ≤ e' := by
    rcases Nat.lt_or_ge e' e with q | q
    · rw [h2 e' q] at ok'; exact absurd ok' (by decide)
    · exact q
  have hl : lxl st (dig st e) (dig st e') := by
    by_cases q : e = e'
    · rw [q]; exact Or.inl (fun _ _ => rfl)
    · exact dig_lex hst a (by omega)
  rcases hl with hl | ⟨j, j1, j2, j3⟩
  · exact Or.inl (fun i hi => (hl i hi).trans (b i hi))
  · exact Or.inr ⟨j, j1, fun i hi => (j2 i hi).trans (b i (by omega)), by rw [← b j j1]; exact j3⟩
theorem tryE_none {W : Nat} {du : Nat → Nat} {st : Nat} (hst : st ≤ 3) (h : tryE W du st = none) : ∀ y, D52 st y → ¬ okS W du y st := by
  intro y hy ho
  obtain ⟨e', a, b⟩ := dig_of hst hy
  have ok' : okB W du (dig st e') st 64 = true := (okB_iff 64).mpr (okS_cg (fun i hi => (b i hi).symm) ho)
  rw [ffR_no _ h e' a] at ok'
  exact absurd ok' (by decide)
theorem ffR_cg {p q : Nat → Bool} : ∀ m, (∀ i, i < m → p i = q i) → ffR p m = ffR q m
  | 0, _ => rfl
  | m + 1, h => by
    show (match ffR p m with | some r => some r | none => if p m = true then some m else none) = (match ffR q m with | some r => some r | none => if q m = true then some m else none)
    rw [ffR_cg m (fun i hi => h i (by omega)), h m (Nat.lt_succ_self m)]
theorem okB_cg {W : Nat} {du du' x : Nat → Nat} {st : Nat} : ∀ m, (∀ v, v < m → dg (du v) 0 = dg (du' v) 0 ∧ dg (du v) 1 = dg (du' v) 1) → okB W du x st m = okB W du' x st m
  | 0, _ => rfl
  | m + 1, h => by
    obtain ⟨a, b⟩ := h m (Nat.lt_succ_self m)
    have a : du m / 8 = du' m / 8 := a
    have b : du m % 8 = du' m % 8 := b
    unfold okB
    rw [okB_cg m (fun v hv => h v (by omega)), a, b]
theorem tryE_cg {W : Nat} {du du' : Nat → Nat} {st : Nat} (h : ∀ v, v < 64 → dg (du v) 0 = dg (du' v) 0 ∧ dg (du v) 1 = dg (du' v) 1) : tryE W du st = tryE W du' st := ffR_cg _ (fun e _ => okB_cg 64 h)
/-- the least length, from the st-th on -/
def shrF (W : Nat) (du : Nat → Nat) : Nat → Nat → Option (Nat × Nat)
  | 0, _ => none
  | k + 1, st => match tryE W du st with
    | some e => some (st, e)
    | none => shrF W du k (st + 1)
def shr (W : Nat) (du : Nat → Nat) : Option (Nat × Nat) := shrF W du 4 0
theorem shrF_cg {W : Nat} {du du' : Nat → Nat} (h : ∀ v, v < 64 → dg (du v) 0 = dg (du' v) 0 ∧ dg (du v) 1 = dg (du' v) 1) : ∀ k st, shrF W du k st = shrF W du' k st
  | 0, _ => rfl
  | k + 1, st => by
    show (match tryE W du st with | some e => some (st, e) | none => shrF W du k (st + 1)) = (match tryE W du' st with | some e => some (st, e) | none => shrF W du' k (st + 1))
    rw [tryE_cg h, shrF_cg h k (st + 1)]
