/-! all orders, by numbers -/
def itr {A : Type} (f : Nat → A → A) : Nat → A → A
  | 0, x => x
  | k + 1, x => f k (itr f k x)
def eR (r : Nat → Nat) (a k : Nat) : Nat := if k < a then r k else r (k + 1)
/-- a leaf for each order that begins with o, below dep, and goes on with the numbers r 0 < .. < r (m - 1) -/
def fq {A : Type} (leaf : (Nat → Nat) → A → A) : Nat → Nat → (Nat → Nat) → (Nat → Nat) → A → A
  | 0, dep, o, _, acc => leaf (fun q => if q < dep then o q else 0) acc
  | m + 1, dep, o, r, acc => itr (fun a x => fq leaf m (dep + 1) (up o dep (r a)) (eR r a) x) (m + 1) acc
def OA (o : Nat → Nat) (dep : Nat) (r : Nat → Nat) (m q : Nat) : Nat := if q < dep then o q else if q < dep + m then r (q - dep) else 0
def OD (o : Nat → Nat) (dep : Nat) (r : Nat → Nat) (m q : Nat) : Nat := if q < dep then o q else if q < dep + m then r (m - 1 - (q - dep)) else 0
def SI (r : Nat → Nat) (m : Nat) : Prop := ∀ i j, i < j → j < m → r i < r j
theorem SI_eR {r : Nat → Nat} {m a : Nat} (h : SI r (m + 1)) : SI (eR r a) m := by
  intro i j hij hj
  unfold eR
  by_cases h1 : i < a
  · rw [if_pos h1]
    by_cases h2 : j < a
    · rw [if_pos h2]; exact h i j hij (by omega)
    · rw [if_neg h2]; exact h i (j + 1) (by omega) (by omega)
  · rw [if_neg h1, if_neg (by omega)]; exact h (i + 1) (j + 1) (by omega) (by omega)
theorem eR_in {r : Nat → Nat} {m a k n : Nat} (h : ∀ k, k < m + 1 → r k < n) (hk : k < m) : eR r a k < n := by
  unfold eR
  split
  · exact h k (by omega)
  · exact h (k + 1) (by omega)
theorem OA_0 {o r : Nat → Nat} {dep m : Nat} : OA (up o dep (r 0)) (dep + 1) (eR r 0) m = OA o dep r (m + 1) := by
  funext q
  unfold OA
  by_cases h1 : q < dep
  · rw [if_pos h1, if_pos (by omega), up_ne (by omega)]
  · by_cases h2 : q = dep
    · subst h2
      rw [if_neg h1, if_pos (by omega), if_pos (by omega), up_eq, Nat.sub_self]
    · rw [if_neg h1, if_neg (by omega)]
      by_cases h3 : q < dep + 1 + m
      · rw [if_pos h3, if_pos (by omega)]
        unfold eR
        rw [if_neg (by omega)]
        congr 1
        omega
      · rw [if_neg h3, if_neg (by omega)]
theorem OD_m {o r : Nat → Nat} {dep m : Nat} : OD (up o dep (r m)) (dep + 1) (eR r m) m = OD o dep r (m + 1) := by
  funext q
  unfold OD
  by_cases h1 : q < dep
  · rw [if_pos h1, if_pos (by omega), up_ne (by omega)]
  · by_cases h2 : q = dep
    · subst h2
      rw [if_neg h1, if_pos (by omega), if_pos (by omega), up_eq]
      congr 1
      omega
    · rw [if_neg h1, if_neg (by omega)]
      by_cases h3 : q < dep + 1 + m
      · rw [if_pos h3, if_pos (by omega)]
        unfold eR
        rw [if_pos (by omega)]
        congr 1
        omega
      · rw [if_neg h3, if_neg (by omega)]
theorem OAD_0 {o r : Nat → Nat} {dep : Nat} : OA o dep r 0 = OD o dep r 0 := by
  funext q
  unfold OA OD
  by_cases h1 : q < dep
  · rw [if_pos h1, if_pos h1]
  · rw [if_neg h1, if_neg h1, if_neg (by omega), if_neg (by omega)]
theorem OA_lf {o r : Nat → Nat} {dep : Nat} : OA o dep r 0 = fun q => if q < dep then o q else 0 := by
  funext q
  unfold OA
  by_cases h1 : q < dep
  · rw [if_pos h1, if_pos h1]
  · rw [if_neg h1, if_neg (by omega), if_neg h1]
/-- no number stands twice -/
def PJ (o : Nat → Nat) (dep : Nat) (r : Nat → Nat) (m : Nat) : Prop := (∀ q q', q < dep → q' < dep → o q = o q' → q = q') ∧ ∀ q k, q < dep → k < m → o q ≠ r k
theorem SI_ne {r : Nat → Nat} {m i j : Nat} (h : SI r m) (hi : i < m) (hj : j < m) (hij : i ≠ j) : r i ≠ r j := by
  rcases Nat.lt_or_ge i j with q | q
  · have := h i j q hj; omega
  · have := h j i (by omega) hi; omega
theorem PJ_stp {o r : Nat → Nat} {dep m a : Nat} (h : PJ o dep r (m + 1)) (hr : SI r (m + 1)) (ha : a ≤ m) : PJ (up o dep (r a)) (dep + 1) (eR r a) m := by
  refine ⟨fun q q' hq hq' he => ?_, fun q k hq hk => ?_⟩
  · by_cases h1 : q = dep
    · by_cases h2 : q' = dep
      · omega
      · rw [h1, up_eq, up_ne h2] at he
        exact absurd he.symm (h.2 q' a (by omega) (by omega))
    · by_cases h2 : q' = dep
      · rw [h2, up_eq, up_ne h1] at he
        exact absurd he (h.2 q a (by omega) (by omega))
      · rw [up_ne h1, up_ne h2] at he
        exact h.1 q q' (by omega) (by omega) he
  · unfold eR
    by_cases h1 : q = dep
    · rw [h1, up_eq]
      by_cases h2 : k < a
      · rw [if_pos h2]; exact SI_ne hr (by omega) (by omega) (by omega)
      · rw [if_neg h2]; exact SI_ne hr (by omega) (by omega) (by omega)
    · rw [up_ne h1]
      by_cases h2 : k < a
      · rw [if_pos h2]; exact h.2 q k (by omega) (by omega)
      · rw [if_neg h2]; exact h.2 q (k + 1) (by omega) (by omega)
/-- a loop that visits an order and goes on to the next one visits all of them -/
theorem enum {A : Type} {leaf : (Nat → Nat) → A → A} {n : Nat} {H N : (Nat → Nat) → A → Prop} (h1 : ∀ x acc, (∀ q, q < n → x q < n) → (∀ q q', q < n → q' < n → x q = x q' → q = q') → N x (leaf x acc) → H x acc)
    (h2 : ∀ o dep r m a acc, dep + 1 + m = n → a < m → SI r (m + 1) → (∀ q, q < dep → o q < n) → (∀ k, k < m + 1 → r k < n) → H (OA (up o dep (r (a + 1))) (dep + 1) (eR r (a + 1)) m) acc → N (OD (up o dep (r a)) (dep + 1) (eR r a) m) acc) :
    ∀ (m dep : Nat) (o r : Nat → Nat) (acc : A), dep + m = n → SI r m → PJ o dep r m → (∀ q, q < dep → o q < n) → (∀ k, k < m → r k < n) → N (OD o dep r m) (fq leaf m dep o r acc) → H (OA o dep r m) acc := by
  intro m
  induction m with
  | zero =>
    intro dep o r acc hn hr hp ho hk hN
    refine h1 _ _ (fun q hq => ?_) (fun q q' hq hq' he => ?_) ?_
    · rw [OA_lf]
      show (if q < dep then o q else 0) < n
      rw [if_pos (by omega)]; exact ho q (by omega)
    · rw [OA_lf] at he
      change (if q < dep then o q else 0) = (if q' < dep then o q' else 0) at he
      rw [if_pos (by omega), if_pos (by omega)] at he
      exact hp.1 q q' (by omega) (by omega) he
    · rw [OAD_0]
      unfold fq at hN
      rw [← OA_lf (r := r), OAD_0] at hN
      exact hN
  | succ m ih =>
    intro dep o r acc hn hr hp ho hk hN
    have ho' : ∀ a, a ≤ m → ∀ q, q < dep + 1 → up o dep (r a) q < n := fun a ha q hq => by
      by_cases hqd : q = dep
      · rw [hqd, up_eq]; exact hk a (by omega)
      · rw [up_ne hqd]; exact ho q (by omega)
    have go : ∀ (j a : Nat), j = m - a → a ≤ m → H (OA (up o dep (r a)) (dep + 1) (eR r a) m) (itr (fun a x => fq leaf m (dep + 1) (up o dep (r a)) (eR r a) x) a acc) := by
      intro j
      induction j with
      | zero =>
        intro a hj ha
        obtain rfl : a = m := by omega
        refine ih (dep + 1) _ _ _ (by omega) (SI_eR hr) (PJ_stp hp hr ha) (ho' a (Nat.le_refl a)) (fun k h => eR_in hk h) ?_
        rw [OD_m]
        exact hN
      | succ j ihj =>
        intro a hj ha
        refine ih (dep + 1) _ _ _ (by omega) (SI_eR hr) (PJ_stp hp hr ha) (ho' a ha) (fun k h => eR_in hk h) ?_
        exact h2 o dep r m a _ (by omega) (by omega) hr ho hk (ihj (a + 1) (by omega) (by omega))
    have := go m 0 rfl (Nat.zero_le m)
    rw [OA_0] at this
    exact this
/-- if no leaf changes it, nothing does -/
theorem fq_same {A : Type} {leaf : (Nat → Nat) → A → A} {acc : A} : ∀ (m dep : Nat) (o r : Nat → Nat), (∀ x, (∀ q, q < dep → x q = o q) → leaf x acc = acc) → fq leaf m dep o r acc = acc
  | 0, dep, o, r, h => h _ (fun q hq => if_pos hq)
  | m + 1, dep, o, r, h => by
    unfold fq
    generalize m + 1 = k
    induction k with
    | zero => rfl
    | succ k ih =>
      show fq leaf m (dep + 1) (up o dep (r k)) (eR r k) (itr _ k acc) = acc
      rw [ih]
      exact fq_same m (dep + 1) _ _ (fun x hx => h x (fun q hq => by rw [hx q (by omega), up_ne (by omega)]))
/-! lawful orders, the best of them -/
def pbt (o : Nat → Nat) : Nat → Nat
  | 0 => 0
  | k + 1 => pbt o k ||| 2 ^ o k
def lwb (A o : Nat → Nat) : Nat → Bool
  | 0 => true
  | k + 1 => lwb A o k && decide (sdf (A (o k)) (pbt o k) = 0)
theorem pbt_bit {o : Nat → Nat} {j : Nat} : ∀ k, (pbt o k).testBit j = true ↔ ∃ k', k' < k ∧ o k' = j
  | 0 => by
    unfold pbt
    rw [Nat.zero_testBit]
    exact ⟨fun h => absurd h (by decide), fun ⟨k', h, _⟩ => absurd h (Nat.not_lt_zero k')⟩
  | k + 1 => by
    show (pbt o k ||| 2 ^ o k).testBit j = true ↔ _
    rw [Nat.testBit_or, Nat.testBit_two_pow, Bool.or_eq_true, pbt_bit k, decide_eq_true_iff]
    constructor
    · rintro (⟨k', h1, h2⟩ | h)
      · exact ⟨k', by omega, h2⟩
      · exact ⟨k, Nat.lt_succ_self k, h⟩
    · rintro ⟨k', h1, h2⟩
      by_cases h : k' = k
      · subst h; exact Or.inr h2
      · exact Or.inl ⟨k', by omega, h2⟩
theorem pbt_lt {o : Nat → Nat} {n : Nat} : ∀ k, (∀ j, j < k → o j < n) → pbt o k < 2 ^ n
  | 0, _ => Nat.two_pow_pos n
  | k + 1, h => Nat.or_lt_two_pow (pbt_lt k (fun j hj => h j (by omega))) (Nat.pow_lt_pow_right (by decide) (h k (Nat.lt_succ_self k)))
theorem pbt_cg {o o' : Nat → Nat} : ∀ k, (∀ j, j < k → o j = o' j) → pbt o k = pbt o' k
  | 0, _ => rfl
  | k + 1, h => by
    show pbt o k ||| 2 ^ o k = pbt o' k ||| 2 ^ o' k
    rw [pbt_cg k (fun j hj => h j (by omega)), h k (Nat.lt_succ_self k)]
theorem lwb_cg {A o o' : Nat → Nat} : ∀ k, (∀ j, j < k → o j = o' j) → lwb A o k = lwb A o' k
  | 0, _ => rfl
  | k + 1, h => by
    show (lwb A o k && decide (sdf (A (o k)) (pbt o k) = 0)) = (lwb A o' k && decide (sdf (A (o' k)) (pbt o' k) = 0))
    rw [lwb_cg k (fun j hj => h j (by omega)), pbt_cg k (fun j hj => h j (by omega)), h k (Nat.lt_succ_self k)]
theorem lwb_le {A o : Nat → Nat} {k : Nat} : ∀ j, lwb A o (k + j) = true → lwb A o k = true
  | 0, h => h
  | j + 1, h => by
    have : (lwb A o (k + j) && decide (sdf (A (o (k + j))) (pbt o (k + j)) = 0)) = true := h
    rw [Bool.and_eq_true] at this
    exact lwb_le j this.1
theorem lwb_at {A o : Nat → Nat} {n k : Nat} (h : lwb A o n = true) (hk : k < n) : sdf (A (o k)) (pbt o k) = 0 := by
  have : lwb A o (k + 1) = true := lwb_le (n - (k + 1)) (by rw [show k + 1 + (n - (k + 1)) = n by omega]; exact h)
  have : (lwb A o k && decide (sdf (A (o k)) (pbt o k) = 0)) = true := this
  rw [Bool.and_eq_true, decide_eq_true_iff] at this
  exact this.2
theorem lwb_Lwf {A o : Nat → Nat} {n : Nat} (hA : ∀ i, A i < 2 ^ 32) (h : lwb A o n = true) : Lwf A o n := by
  intro k hk j hj
  have h0 := lwb_at h hk
  have h32 : j < 32 := by
    rcases Nat.lt_or_ge j 32 with q | q
    · exact q
    · have := Nat.testBit_lt_two_pow (Nat.lt_of_lt_of_le (hA (o k)) (Nat.pow_le_pow_right (by decide) q))
      rw [this] at hj; exact absurd hj (by decide)
  refine (pbt_bit k).mp ?_
  have := sdf_bit (a := A (o k)) (b := pbt o k) h32
  rw [h0, Nat.zero_testBit, hj, Bool.true_and] at this
  cases hb : (pbt o k).testBit j
  · rw [hb] at this; exact absurd this (by decide)
  · rfl
abbrev BO : Type := Option (Nat × (Nat → Nat))
def lf (A : Nat → Nat) (cost : (Nat → Nat) → Nat) (n : Nat) (x : Nat → Nat) (acc : BO) : BO := if lwb A x n = true then (match acc with
  | none => some (cost x, x)
  | some p => if cost x < p.1 then some (cost x, x) else some p) else acc
theorem lf_no {A : Nat → Nat} {cost : (Nat → Nat) → Nat} {n : Nat} {x : Nat → Nat} {acc : BO} (h : ¬ lwb A x n = true) : lf A cost n x acc = acc := if_neg h
theorem lf_none {A : Nat → Nat} {cost : (Nat → Nat) → Nat} {n : Nat} {x : Nat → Nat} (h : lwb A x n = true) : lf A cost n x none = some (cost x, x) := if_pos h
theorem lf_lt {A : Nat → Nat} {cost : (Nat → Nat) → Nat} {n : Nat} {x : Nat → Nat} {p : Nat × (Nat → Nat)} (h : lwb A x n = true) (hl : cost x < p.1) : lf A cost n x (some p) = some (cost x, x) := by
  unfold lf; rw [if_pos h]; exact if_pos hl
theorem lf_ge {A : Nat → Nat} {cost : (Nat → Nat) → Nat} {n : Nat} {x : Nat → Nat} {p : Nat × (Nat → Nat)} (hl : ¬ cost x < p.1) : lf A cost n x (some p) = some p := by
  unfold lf
  by_cases h : lwb A x n = true
  · rw [if_pos h]; exact if_neg hl
  · rw [if_neg h]
theorem lf_some {A : Nat → Nat} {cost : (Nat → Nat) → Nat} {n : Nat} {x : Nat → Nat} {p : Nat × (Nat → Nat)} : ∃ p', lf A cost n x (some p) = some p' := by
  by_cases h : lwb A x n = true
  · by_cases hl : cost x < p.1
    · exact ⟨_, lf_lt h hl⟩
    · exact ⟨_, lf_ge hl⟩
  · exact ⟨_, lf_no h⟩
theorem fq_keep {A : Nat → Nat} {cost : (Nat → Nat) → Nat} {n : Nat} : ∀ (m dep : Nat) (o r : Nat → Nat) (p : Nat × (Nat → Nat)), ∃ p', fq (lf A cost n) m dep o r (some p) = some p'
  | 0, _, _, _, _ => lf_some
  | m + 1, dep, o, r, p => by
    unfold fq
    generalize m + 1 = k
    induction k with
    | zero => exact ⟨p, rfl⟩
    | succ k ih =>
      obtain ⟨p', h⟩ := ih
      show ∃ p', fq (lf A cost n) m (dep + 1) (up o dep (r k)) (eR r k) (itr _ k (some p)) = some p'
      rw [h]
      exact fq_keep m (dep + 1) _ _ p'
theorem fq_first {A : Nat → Nat} {cost : (Nat → Nat) → Nat} {n : Nat} : ∀ (m dep : Nat) (o r : Nat → Nat) (acc : BO), lwb A (OA o dep r m) n = true → ∃ p', fq (lf A cost n) m dep o r acc = some p'
  | 0, dep, o, r, acc, h => by
    rw [OA_lf] at h
    unfold fq
    cases acc with
    | none => exact ⟨_, lf_none h⟩
    | some p => exact lf_some
  | m + 1, dep, o, r, acc, h => by
    unfold fq
    rw [← OA_0] at h
    obtain ⟨p0, h0⟩ := fq_first (cost := cost) m (dep + 1) (up o dep (r 0)) (eR r 0) acc h
    have : ∀ k, ∃ p', itr (fun a x => fq (lf A cost n) m (dep + 1) (up o dep (r a)) (eR r a) x) (k + 1) acc = some p' := by
      intro k
      induction k with
      | zero => exact ⟨p0, h0⟩
      | succ k ih =>
        obtain ⟨p', hp⟩ := ih
        show ∃ p', fq (lf A cost n) m (dep + 1) (up o dep (r (k + 1))) (eR r (k + 1)) (itr _ (k + 1) acc) = some p'
        rw [hp]
        exact fq_keep m (dep + 1) _ _ p'
    exact this m
theorem lwb_id {A : Nat → Nat} (hA : ∀ i, A i < 2 ^ i) {n : Nat} (hn : n ≤ 32) : ∀ k, k ≤ n → lwb A (OA (fun _ => 0) 0 (fun q => q) n) k = true
  | 0, _ => rfl
  | k + 1, hk => by
    have e : ∀ q, q < n → OA (fun _ => 0) 0 (fun q => q) n q = q := fun q hq => by
      unfold OA
      rw [if_neg (Nat.not_lt_zero q), if_pos (by omega)]
      rfl
    show (lwb A _ k && decide (sdf (A (OA (fun _ => 0) 0 (fun q => q) n k)) (pbt _ k) = 0)) = true
    rw [lwb_id hA hn k (by omega), Bool.true_and, decide_eq_true_iff, e k (by omega)]
    apply Nat.eq_of_testBit_eq
    intro j
    rw [Nat.zero_testBit]
    by_cases hj : j < 32
    · rw [sdf_bit hj]
      by_cases hjk : j < k
      · rw [(pbt_bit k).mpr ⟨j, hjk, e j (by omega)⟩, Bool.not_true, Bool.and_false]
      · rw [Nat.testBit_lt_two_pow (Nat.lt_of_lt_of_le (hA k) (Nat.pow_le_pow_right (by decide) (by omega))), Bool.false_and]
    · have h1 : A k < 2 ^ j := Nat.lt_of_lt_of_le (hA k) (Nat.pow_le_pow_right (by decide) (by omega))
      exact Nat.testBit_lt_two_pow (Nat.lt_of_le_of_lt (sdf_le _ _) h1)
