/-! the class's search -/
def vec (v : Nat) : Nat → Nat := fun r => if r = 0 then v / 8 else if r = 1 then v % 8 else 0
theorem vec8 {v : Nat} (h : v < 64) : R8 (vec v) := by
  intro r hr
  unfold vec
  split
  · omega
  · split <;> omega
theorem vec_dg {v r : Nat} (hr : r < 2) : vec v r = dg v r := by
  rcases (by omega : r = 0 ∨ r = 1) with rfl | rfl <;> rfl
def fo {A : Type} (f : Nat → Option A) : Nat → Option A
  | 0 => none
  | n + 1 => match fo f n with
    | some a => some a
    | none => f n
theorem fo_n {A : Type} {f : Nat → Option A} {K : Nat} (h : fo f K = none) : ∀ j, (∀ k, K ≤ k → k < K + j → f k = none) → fo f (K + j) = none
  | 0, _ => h
  | j + 1, h2 => by
    show (match fo f (K + j) with | some a => some a | none => f (K + j)) = none
    rw [fo_n h j (fun k a b => h2 k a (by omega))]
    exact h2 (K + j) (by omega) (by omega)
theorem fo_hit {A : Type} {f : Nat → Option A} {K : Nat} {x : A} (h : fo f K = none) (hx : f K = some x) : ∀ j, fo f (K + 1 + j) = some x
  | 0 => by
    show (match fo f K with | some a => some a | none => f K) = some x
    rw [h]; exact hx
  | j + 1 => by
    show (match fo f (K + 1 + j) with | some a => some a | none => f (K + 1 + j)) = some x
    rw [fo_hit h hx j]
theorem fo_no {A : Type} {f : Nat → Option A} : ∀ n, fo f n = none → ∀ i, i < n → f i = none
  | 0, _, i, h => absurd h (Nat.not_lt_zero i)
  | n + 1, h, i, hi => by
    have e : fo f (n + 1) = (match fo f n with | some a => some a | none => f n) := rfl
    rw [e] at h
    rcases q : fo f n with _ | y
    · rw [q] at h
      by_cases z : i = n
      · rw [z]; exact h
      · exact fo_no n q i (by omega)
    · rw [q] at h; exact absurd h (by simp)
theorem fo_some {A : Type} {f : Nat → Option A} {x : A} : ∀ n, fo f n = some x → ∃ k, k < n ∧ f k = some x ∧ ∀ i, i < k → f i = none
  | 0, h => absurd h (by simp [fo])
  | n + 1, h => by
    have e : fo f (n + 1) = (match fo f n with | some a => some a | none => f n) := rfl
    rw [e] at h
    rcases q : fo f n with _ | y
    · rw [q] at h
      refine ⟨n, Nat.lt_succ_self n, h, ?_⟩
      exact fo_no n q
    · rw [q] at h
      obtain ⟨k, a, b, c⟩ := fo_some n (q.trans h)
      exact ⟨k, by omega, b, c⟩
def alB (p : Nat → Bool) : Nat → Bool
  | 0 => true
  | n + 1 => alB p n && p n
theorem alB_iff {p : Nat → Bool} : ∀ n, alB p n = true ↔ ∀ v, v < n → p v = true
  | 0 => ⟨fun _ v h => absurd h (Nat.not_lt_zero v), fun _ => rfl⟩
  | n + 1 => by
    unfold alB
    rw [Bool.and_eq_true, alB_iff n]
    constructor
    · rintro ⟨h1, h2⟩ v hv
      by_cases q : v = n
      · rw [q]; exact h2
      · exact h1 v (by omega)
    · intro h
      exact ⟨fun v hv => h v (by omega), h n (Nat.lt_succ_self n)⟩
def lst1 (W : Nat) (du o : Nat → Nat) (dep k : Nat) : Bool := W.testBit (kto k) && ((!W.testBit (1 - kto k) || alB (fun v => decide (dg (lay o dep v) (1 - kto k) = dg (du v) (1 - kto k))) 64) && alB (fun v => decide (kval k (lay o dep v) = dg (du v) (kto k))) 64)
theorem lst1_ex {W : Nat} {du o : Nat → Nat} {dep k : Nat} : lst1 W du o dep k = true ↔ (W.testBit (kto k) = true ∧ (W.testBit (1 - kto k) = false ∨ ∀ v, v < 64 → dg (lay o dep v) (1 - kto k) = dg (du v) (1 - kto k)) ∧ ∀ v, v < 64 → kval k (lay o dep v) = dg (du v) (kto k)) := by
  unfold lst1
  rw [Bool.and_eq_true, Bool.and_eq_true, Bool.or_eq_true, alB_iff, alB_iff]
  simp only [decide_eq_true_iff, Bool.not_eq_true']
def srch (W : Nat) (du : Nat → Nat) : Nat → (Nat → Nat) → Nat → Option (Nat → Nat)
  | 0, o, dep => fo (fun k => if kept k = true then (if lst1 W du o dep k = true then some (up o dep k) else none) else none) 52
  | r + 1, o, dep => fo (fun k => if kept k = true then srch W du r (up o dep k) (dep + 1) else none) 52
def srK (W : Nat) (du : Nat → Nat) (r : Nat) (o : Nat → Nat) (dep k : Nat) : Option (Nat → Nat) := match r with
  | 0 => if lst1 W du o dep k = true then some (up o dep k) else none
  | r + 1 => srch W du r (up o dep k) (dep + 1)
theorem srch_fo {W : Nat} {du : Nat → Nat} {r : Nat} {o : Nat → Nat} {dep : Nat} : srch W du r o dep = fo (fun k => if kept k = true then srK W du r o dep k else none) 52 := by
  cases r <;> rfl
/-- what the search finds is the first that it tries and that does -/
def TLe (st dep : Nat) (x y : Nat → Nat) : Prop := (∀ i, i < st → x i = y i) ∨ ∃ j, dep ≤ j ∧ j < st ∧ (∀ i, i < j → x i = y i) ∧ x j < y j
theorem lst1_iff {W : Nat} {du o : Nat → Nat} {dep k : Nat} (hk : k < 52) : lst1 W du o dep k = true ↔ (okS W du (up o dep k) (dep + 1) ∧ W.testBit (kto k) = true) := by
  have hk2 : kto k < 2 := by unfold kto; omega
  rw [lst1_ex]
  have e : ∀ v, lay (up o dep k) (dep + 1) v = dsm k (lay o dep v) := fun v => by
    show dsm (up o dep k dep) (lay (up o dep k) dep v) = _
    rw [up_eq, lay_cg dep (fun i hi => up_ne (by omega))]
  constructor
  · rintro ⟨h1, h2, h3⟩
    refine ⟨fun r hr hW v hv => ?_, h1⟩
    obtain ⟨t1, t2⟩ := dsm_t (lay_lt (x := o) hv dep) hk
    rw [e]
    by_cases q : r = kto k
    · rw [q, t1]; exact h3 v hv
    · have : r = 1 - kto k := by omega
      rw [this, t2]; exact h2.resolve_left (by rw [← this, hW]; decide) v hv
  · rintro ⟨h1, h2⟩
    refine ⟨h2, ?_, fun v hv => ?_⟩
    · cases hW : W.testBit (1 - kto k)
      · exact Or.inl rfl
      · refine Or.inr (fun v hv => ?_)
        obtain ⟨t1, t2⟩ := dsm_t (lay_lt (x := o) hv dep) hk
        rw [← t2, ← e]; exact h1 _ (by omega) hW v hv
    · obtain ⟨t1, t2⟩ := dsm_t (lay_lt (x := o) hv dep) hk
      rw [← t1, ← e]; exact h1 _ hk2 h2 v hv
theorem srch_is {W : Nat} {du : Nat → Nat} : ∀ (r dep : Nat) (o : Nat → Nat), (∀ x, srch W du r o dep = some x → (∀ i, i < dep → x i = o i) ∧ (∀ i, dep ≤ i → i < dep + (r + 1) → x i < 52 ∧ kept (x i) = true) ∧ okS W du x (dep + (r + 1)) ∧ W.testBit (kto (x (dep + r))) = true ∧ ∀ y, (∀ i, i < dep → y i = o i) → (∀ i, dep ≤ i → i < dep + (r + 1) → y i < 52 ∧ kept (y i) = true) → okS W du y (dep + (r + 1)) → W.testBit (kto (y (dep + r))) = true → TLe (dep + (r + 1)) dep x y) ∧ (srch W du r o dep = none → ∀ y, (∀ i, i < dep → y i = o i) → (∀ i, dep ≤ i → i < dep + (r + 1) → y i < 52 ∧ kept (y i) = true) → okS W du y (dep + (r + 1)) → W.testBit (kto (y (dep + r))) = true → False) := by
  intro r
  induction r with
  | zero =>
    intro dep o
    have val : ∀ y, (∀ i, i < dep → y i = o i) → (∀ i, dep ≤ i → i < dep + 1 → y i < 52 ∧ kept (y i) = true) → okS W du y (dep + 1) → W.testBit (kto (y dep)) = true → (if kept (y dep) = true then (if lst1 W du o dep (y dep) = true then some (up o dep (y dep)) else none) else none) = some (up o dep (y dep)) := by
      intro y h1 h2 h3 h4
      obtain ⟨a, b⟩ := h2 dep (Nat.le_refl _) (Nat.lt_succ_self _)
      rw [if_pos b, if_pos]
      rw [lst1_iff a]
      refine ⟨okS_cg (fun i hi => ?_) h3, h4⟩
      by_cases e : i = dep
      · rw [e, up_eq]
      · rw [up_ne e]; exact h1 i (by omega)
    refine ⟨fun x hx => ?_, fun hn y h1 h2 h3 h4 => ?_⟩
    · obtain ⟨k, hk, h, hno⟩ := fo_some 52 hx
      by_cases kk : kept k = true
      · rw [if_pos kk] at h
        by_cases ll : lst1 W du o dep k = true
        · rw [if_pos ll] at h
          obtain rfl := Option.some.inj h
          obtain ⟨o1, o2⟩ := (lst1_iff hk).mp ll
          refine ⟨fun i hi => up_ne (by omega), fun i a b => ?_, o1, by rw [Nat.add_zero, up_eq]; exact o2, fun y h1 h2 h3 h4 => ?_⟩
          · obtain rfl : i = dep := by omega
            rw [up_eq]; exact ⟨hk, kk⟩
          · rcases Nat.lt_trichotomy k (y dep) with q | q | q
            · exact Or.inr ⟨dep, Nat.le_refl _, by omega, fun i hi => by rw [up_ne (by omega)]; exact (h1 i hi).symm, by rw [up_eq]; exact q⟩
            · refine Or.inl (fun i hi => ?_)
              by_cases e : i = dep
              · rw [e, up_eq]; exact q
              · rw [up_ne e]; exact (h1 i (by omega)).symm
            · have := hno (y dep) q
              rw [val y h1 h2 h3 h4] at this
              exact absurd this (by simp)
        · rw [if_neg ll] at h; exact absurd h (by simp)
      · rw [if_neg kk] at h; exact absurd h (by simp)
    · have := fo_no 52 hn (y dep) (h2 dep (Nat.le_refl _) (Nat.lt_succ_self _)).1
      rw [val y h1 h2 h3 h4] at this
      exact absurd this (by simp)
  | succ r ih =>
    intro dep o
    refine ⟨fun x hx => ?_, fun hn y h1 h2 h3 h4 => ?_⟩
    · obtain ⟨k, hk, h, hno⟩ := fo_some 52 hx
      by_cases kk : kept k = true
      · rw [if_pos kk] at h
        obtain ⟨a1, a2, a3, a4, a5⟩ := (ih (dep + 1) (up o dep k)).1 x h
        have xd : x dep = k := by rw [a1 dep (by omega), up_eq]
        rw [show dep + 1 + (r + 1) = dep + (r + 1 + 1) by omega] at a2 a3 a5
        rw [show dep + 1 + r = dep + (r + 1) by omega] at a4 a5
        refine ⟨fun i hi => by rw [a1 i (by omega), up_ne (by omega)], fun i b1 b2 => ?_, a3, a4, fun y h1 h2 h3 h4 => ?_⟩
        · by_cases e : i = dep
          · rw [e, xd]; exact ⟨hk, kk⟩
          · exact a2 i (by omega) b2
        · rcases Nat.lt_trichotomy k (y dep) with q | q | q
          · exact Or.inr ⟨dep, Nat.le_refl _, by omega, fun i hi => by rw [a1 i (by omega), up_ne (by omega)]; exact (h1 i hi).symm, by rw [xd]; exact q⟩
          · rcases a5 y (fun i hi => by
              by_cases e : i = dep
              · rw [e, up_eq]; exact q.symm
              · rw [up_ne e]; exact h1 i (by omega)) (fun i b1 b2 => h2 i (by omega) b2) h3 h4 with z | ⟨j, j1, j2⟩
            · exact Or.inl z
            · exact Or.inr ⟨j, by omega, j2⟩
          · have := hno (y dep) q
            rw [if_pos (h2 dep (Nat.le_refl _) (by omega)).2] at this
            exact ((ih (dep + 1) (up o dep (y dep))).2 this y (fun i hi => by
              by_cases e : i = dep
              · rw [e, up_eq]
              · rw [up_ne e]; exact h1 i (by omega)) (fun i b1 b2 => h2 i (by omega) (by omega)) (by rw [show dep + 1 + (r + 1) = dep + (r + 1 + 1) by omega]; exact h3) (by rw [show dep + 1 + r = dep + (r + 1) by omega]; exact h4)).elim
      · rw [if_neg kk] at h; exact absurd h (by simp)
    · have hy := h2 dep (Nat.le_refl _) (by omega)
      have := fo_no 52 hn (y dep) hy.1
      rw [if_pos hy.2] at this
      exact (ih (dep + 1) (up o dep (y dep))).2 this y (fun i hi => by
        by_cases e : i = dep
        · rw [e, up_eq]
        · rw [up_ne e]; exact h1 i (by omega)) (fun i b1 b2 => h2 i (by omega) (by omega)) (by rw [show dep + 1 + (r + 1) = dep + (r + 1 + 1) by omega]; exact h3) (by rw [show dep + 1 + r = dep + (r + 1) by omega]; exact h4)
/-- both searches find the same -/
theorem srch_tryE {W : Nat} {du : Nat → Nat} {r : Nat} (hr : r + 1 ≤ 3) (hmin : ∀ y, D52 r y → ¬ okS W du y r) {o : Nat → Nat} : (∀ e, tryE W du (r + 1) = some e → ∃ x, srch W du r o 0 = some x ∧ ∀ i, i < r + 1 → x i = dig (r + 1) e i) ∧ (tryE W du (r + 1) = none → srch W du r o 0 = none) := by
  obtain ⟨s1, s2⟩ := srch_is (W := W) (du := du) r 0 o
  simp only [Nat.zero_add] at s1 s2
  refine ⟨fun e he => ?_, fun hn => ?_⟩
  · have hf := tryE_some hr he
    have ha := first_acc (W := W) (du := du) (by omega) (by rw [Nat.add_sub_cancel]; exact hmin) hf
    rcases q : srch W du r o 0 with _ | x
    · exact (s2 q (dig (r + 1) e) (fun i hi => absurd hi (Nat.not_lt_zero i)) (fun i _ hi => ⟨dig_52 _ e i hi, ha.1 i hi⟩) ha.2.1 (by have := ha.2.2; rw [Nat.add_sub_cancel] at this; exact this)).elim
    · refine ⟨x, rfl, ?_⟩
      obtain ⟨_, a2, a3, a4, a5⟩ := s1 x q
      have l1 : lxl (r + 1) x (dig (r + 1) e) := by
        rcases a5 (dig (r + 1) e) (fun i hi => absurd hi (Nat.not_lt_zero i)) (fun i _ hi => ⟨dig_52 _ e i hi, ha.1 i hi⟩) ha.2.1 (by have := ha.2.2; rw [Nat.add_sub_cancel] at this; exact this) with z | ⟨j, _, j2⟩
        · exact Or.inl z
        · exact Or.inr ⟨j, j2⟩
      exact lxl_anti l1 (hf.2.2 x (fun i hi => (a2 i (Nat.zero_le i) hi).1) a3)
  · rcases q : srch W du r o 0 with _ | x
    · rfl
    · obtain ⟨_, a2, a3, _, _⟩ := s1 x q
      exact absurd a3 (tryE_none hr hn x (fun i hi => (a2 i (Nat.zero_le i) hi).1))
def rsM (m : Nat) : Nat := [0, 1, 2, 3, 4, 6, 7, 9, 10, 11, 13, 14, 15, 18, 21, 22, 25, 26].getD m 26
def mvN (m : Nat) : Nat := [0, 100, 200, 201, 202, 211, 212, 301, 302, 310, 312, 400, 401, 411, 501, 502, 512].getD m 512
theorem mvN_is : ∀ m, m < 17 → movesF m = nI (mvN m) ∧ mvN m < 600 := by decide +kernel
def f1o (to mv : Nat) : Nat := if mv / 100 = 0 then 10 else if mv / 100 = 1 then 1 - to else mv / 10 % 10
def f2o (mv : Nat) : Nat := if mv % 10 = 2 then 11 else mv % 10
def sgo (mv : Nat) : Nat := if mv / 100 < 2 then 99 else sgn (mv / 100)
theorem mv_1 : ∀ to, to < 2 → ∀ m, m < 17 → 26 * to + rsM m < 52 ∧ kto (26 * to + rsM m) = to ∧ kept (26 * to + rsM m) = true ∧ mvN m / 100 < 6 := by decide +kernel
theorem mv_2 : ∀ to, to < 2 → ∀ m, m < 17 → Tn (26 * to + rsM m) = 1000 * to + mvN m + (if mvN m / 100 = 1 then 10 * f1o to (mvN m) else 0) := by decide +kernel
theorem mv_3 : ∀ to, to < 2 → ∀ m, m < 17 → (f1o to (mvN m) < 4 ∨ f1o to (mvN m) = 10) ∧ (f2o (mvN m) < 4 ∨ f2o (mvN m) = 11) := by decide +kernel
theorem mv_4 : ∀ to, to < 2 → ∀ m, m < 17 → ∀ k, k < 52 → (decide (k ≤ 26 * to + rsM m) || decide (26 * to + rsM (m + 1) ≤ k) || !kept k) = true := by decide +kernel
theorem mv_5 : ∀ m, m < 17 → mvN m / 100 < 2 ∨ actsF (mvN m / 100 - 2) = enc (sgn (mvN m / 100)) := by decide +kernel
theorem mv_val : ∀ to, to < 2 → ∀ m, m < 17 → ∀ v, v < 64 → av (sgo (mvN m)) (opv (vec v) (f1o to (mvN m))) (opv (vec v) (f2o (mvN m))) = kval (26 * to + rsM m) v := by decide +kernel
