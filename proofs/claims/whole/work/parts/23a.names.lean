/-! rules: names of registers -/
def tkn (N : Nat → Nat) (v : Nat) : Bool := decide (N 0 = v ∨ N 1 = v ∨ N 2 = v ∨ N 3 = v)
theorem tkn_iff {N : Nat → Nat} {v : Nat} : tkn N v = true ↔ ∃ r, r < 4 ∧ N r = v := by
  unfold tkn
  rw [decide_eq_true_iff]
  constructor
  · rintro (h | h | h | h)
    · exact ⟨0, by decide, h⟩
    · exact ⟨1, by decide, h⟩
    · exact ⟨2, by decide, h⟩
    · exact ⟨3, by decide, h⟩
  · rintro ⟨r, h1, h2⟩
    rcases (by omega : r = 0 ∨ r = 1 ∨ r = 2 ∨ r = 3) with rfl | rfl | rfl | rfl
    · exact Or.inl h2
    · exact Or.inr (Or.inl h2)
    · exact Or.inr (Or.inr (Or.inl h2))
    · exact Or.inr (Or.inr (Or.inr h2))
def tkb (N : Nat → Nat) : Nat := bts (tkn N) 4
theorem tkb_bit {N : Nat → Nat} {v : Nat} (hv : v < 4) : (tkb N).testBit v = tkn N v := bts_bit _ 4 v hv
theorem tkb_lt (N : Nat → Nat) : tkb N < 16 := bts_lt _ 4
theorem tkn_up {N : Nat → Nat} {m v x : Nat} (hm : m < 4) (h : N m = 99) (hx : x < 4) : tkn (up N m v) x = true ↔ (x = v ∨ tkn N x = true) := by
  rw [tkn_iff, tkn_iff]
  constructor
  · rintro ⟨r, h1, h2⟩
    by_cases q : r = m
    · rw [q, up_eq] at h2; exact Or.inl h2.symm
    · rw [up_ne q] at h2; exact Or.inr ⟨r, h1, h2⟩
  · rintro (h1 | ⟨r, h1, h2⟩)
    · exact ⟨m, hm, by rw [up_eq]; exact h1.symm⟩
    · refine ⟨r, h1, ?_⟩
      rw [up_ne (fun q => by rw [q, h] at h2; omega)]; exact h2
theorem tkb_up {N : Nat → Nat} {m v : Nat} (hm : m < 4) (h : N m = 99) (hv : v < 4) : tkb (up N m v) = tkb N ||| 2 ^ v := by
  refine eq16 (tkb_lt _) (or16 (tkb_lt _) (pow4 hv)) (fun x hx => ?_)
  rw [tkb_bit hx, Nat.testBit_or, tkb_bit hx, Nat.testBit_two_pow]
  apply Bool.eq_iff_iff.mpr
  rw [tkn_up hm h hx, Bool.or_eq_true, decide_eq_true_iff]
  constructor
  · rintro (q | q)
    · exact Or.inr q.symm
    · exact Or.inl q
  · rintro (q | q)
    · exact Or.inr q
    · exact Or.inl q.symm
def nmU (N : Nat → Nat) (m v : Nat) : Nat → Nat := if N m = 99 ∧ tkn N v = false then up N m v else N
def nm1 (N : Nat → Nat) (m v : Nat) : Option (Nat → Nat) := if m < 4 ∧ v < 4 then (if nmU N m v m = v then some (nmU N m v) else none) else if m = v then some N else none
def mstN (N : Nat → Nat) (l x : Nat → Nat) : Option (Nat → Nat) := if l 1 = x 1 then (match nm1 N (l 0) (x 0) with
  | none => none
  | some N1 => match nm1 N1 (l 2) (x 2) with
    | none => none
    | some N2 => nm1 N2 (l 3) (x 3)) else none
def mat (l c : Nat → Nat → Nat) (a : Nat) : Nat → Option (Nat → Nat)
  | 0 => some (fun _ => 99)
  | k + 1 => match mat l c a k with
    | none => none
    | some N => mstN N (l k) (c (a + k))
theorem mat_s {l c : Nat → Nat → Nat} {a k : Nat} {N : Nat → Nat} (h : mat l c a k = some N) : mat l c a (k + 1) = mstN N (l k) (c (a + k)) := by
  show (match mat l c a k with | none => none | some N => mstN N (l k) (c (a + k))) = _
  rw [h]
theorem mat_n {l c : Nat → Nat → Nat} {a k : Nat} (h : mat l c a k = none) : ∀ j, mat l c a (k + j) = none
  | 0 => h
  | j + 1 => by
    show (match mat l c a (k + j) with | none => none | some N => mstN N (l (k + j)) (c (a + (k + j)))) = none
    rw [mat_n h j]
def NV (N : Nat → Nat) : Prop := ∀ r, r < 4 → N r = 99 ∨ N r < 4
theorem nm1_v {N N' : Nat → Nat} {m v : Nat} (hN : NV N) (h : nm1 N m v = some N') : NV N' := by
  unfold nm1 at h
  by_cases q : m < 4 ∧ v < 4
  · rw [if_pos q] at h
    by_cases z : nmU N m v m = v
    · rw [if_pos z] at h
      rw [← Option.some.inj h]
      unfold nmU
      split
      · intro r hr
        by_cases e : r = m
        · rw [e, up_eq]; exact Or.inr q.2
        · rw [up_ne e]; exact hN r hr
      · exact hN
    · rw [if_neg z] at h; exact absurd h (by simp)
  · rw [if_neg q] at h
    by_cases z : m = v
    · rw [if_pos z] at h; rw [← Option.some.inj h]; exact hN
    · rw [if_neg z] at h; exact absurd h (by simp)
theorem mstN_v {N N' : Nat → Nat} {l x : Nat → Nat} (hN : NV N) (h : mstN N l x = some N') : NV N' := by
  unfold mstN at h
  by_cases q : l 1 = x 1
  · rw [if_pos q] at h
    rcases h1 : nm1 N (l 0) (x 0) with _ | N1
    · rw [h1] at h; exact absurd h (by simp)
    · rw [h1] at h
      dsimp only at h
      rcases h2 : nm1 N1 (l 2) (x 2) with _ | N2
      · rw [h2] at h; exact absurd h (by simp)
      · rw [h2] at h
        exact nm1_v (nm1_v (nm1_v hN h1) h2) h
  · rw [if_neg q] at h; exact absurd h (by simp)
theorem mat_v {l c : Nat → Nat → Nat} {a : Nat} : ∀ k N, mat l c a k = some N → NV N
  | 0, N, h => by
    rw [← Option.some.inj (show some (fun _ => 99) = some N from h)]
    exact fun r _ => Or.inl rfl
  | k + 1, N, h => by
    rcases q : mat l c a k with _ | N1
    · rw [mat_n (k := k) q 1] at h; exact absurd h (by simp)
    · rw [mat_s q] at h
      exact mstN_v (mat_v k N1 q) h
/-! names of registers that come up in the right side alone -/
def inG (g : Nat → Nat → Nat) (r : Nat) : Nat → Bool
  | 0 => false
  | k + 1 => inG g r k || decide (g k 0 = r ∨ g k 2 = r ∨ g k 3 = r)
theorem inG_iff {g : Nat → Nat → Nat} {r : Nat} : ∀ n, inG g r n = true ↔ ∃ k, k < n ∧ (g k 0 = r ∨ g k 2 = r ∨ g k 3 = r)
  | 0 => ⟨fun h => absurd h (by simp [inG]), fun ⟨k, h, _⟩ => absurd h (Nat.not_lt_zero k)⟩
  | n + 1 => by
    unfold inG
    rw [Bool.or_eq_true, decide_eq_true_iff, inG_iff n]
    constructor
    · rintro (⟨k, h1, h2⟩ | h)
      · exact ⟨k, by omega, h2⟩
      · exact ⟨n, Nat.lt_succ_self n, h⟩
    · rintro ⟨k, h1, h2⟩
      by_cases q : k = n
      · rw [q] at h2; exact Or.inr h2
      · exact Or.inl ⟨k, by omega, h2⟩
/-- the least name that is free -/
def frn (N : Nat → Nat) : Nat := if tkn N 0 = false then 0 else if tkn N 1 = false then 1 else if tkn N 2 = false then 2 else 3
theorem frn_lt (N : Nat → Nat) : frn N < 4 := by
  unfold frn
  split
  · decide
  · split
    · decide
    · split <;> decide
theorem frn_below {N : Nat → Nat} {i : Nat} (h : i < frn N) : tkn N i = true := by
  unfold frn at h
  have nt : ∀ {b : Bool}, ¬ b = false → b = true := fun {b} h => by cases b <;> first | rfl | exact absurd rfl h
  by_cases h0 : tkn N 0 = false
  · rw [if_pos h0] at h; omega
  · rw [if_neg h0] at h
    by_cases h1 : tkn N 1 = false
    · rw [if_pos h1] at h
      obtain rfl : i = 0 := by omega
      exact nt h0
    · rw [if_neg h1] at h
      by_cases h2 : tkn N 2 = false
      · rw [if_pos h2] at h
        rcases (by omega : i = 0 ∨ i = 1) with rfl | rfl
        · exact nt h0
        · exact nt h1
      · rw [if_neg h2] at h
        rcases (by omega : i = 0 ∨ i = 1 ∨ i = 2) with rfl | rfl | rfl
        · exact nt h0
        · exact nt h1
        · exact nt h2
theorem frn_free {N : Nat → Nat} {m : Nat} (hm : m < 4) (h : N m = 99) : tkn N (frn N) = false := by
  by_cases all : ∀ v, v < 4 → ∃ r, r < 4 ∧ N r = v
  · exfalso
    have ch : ∀ v, ∃ r, v < 4 → (r < 4 ∧ N r = v) := fun v => by
      by_cases hv : v < 4
      · obtain ⟨r, hr⟩ := all v hv
        exact ⟨r, fun _ => hr⟩
      · exact ⟨0, fun q => absurd q hv⟩
    obtain ⟨f, hf⟩ := Classical.axiomOfChoice ch
    obtain ⟨v, hv, e⟩ := inj_surj 4 f (fun v hv => (hf v hv).1) (fun v v' h1 h2 q => by rw [← (hf v h1).2, q, (hf v' h2).2]) m hm
    have := (hf v hv).2
    rw [e, h] at this
    omega
  · have ⟨v, hv⟩ : ∃ v, v < 4 ∧ tkn N v = false := by
      by_cases q : ∃ v, v < 4 ∧ tkn N v = false
      · exact q
      · exact absurd (fun v hv => by
          have : tkn N v = true := by
            cases z : tkn N v
            · exact absurd ⟨v, hv, z⟩ q
            · rfl
          exact tkn_iff.mp this) all
    unfold frn
    by_cases h0 : tkn N 0 = false
    · rw [if_pos h0]; exact h0
    · rw [if_neg h0]
      by_cases h1 : tkn N 1 = false
      · rw [if_pos h1]; exact h1
      · rw [if_neg h1]
        by_cases h2 : tkn N 2 = false
        · rw [if_pos h2]; exact h2
        · rw [if_neg h2]
          rcases (by omega : v = 0 ∨ v = 1 ∨ v = 2 ∨ v = 3) with rfl | rfl | rfl | rfl
          · exact absurd hv.2 h0
          · exact absurd hv.2 h1
          · exact absurd hv.2 h2
          · exact hv.2
def rsN (g : Nat → Nat → Nat) (gn : Nat) (N : Nat → Nat) : Nat → Nat → Nat
  | 0 => N
  | r + 1 => if inG g r gn = true ∧ rsN g gn N r r = 99 then up (rsN g gn N r) r (frn (rsN g gn N r)) else rsN g gn N r
theorem rsN_v {g : Nat → Nat → Nat} {gn : Nat} {N : Nat → Nat} (hN : NV N) : ∀ r, NV (rsN g gn N r)
  | 0 => hN
  | r + 1 => by
    have ih := rsN_v (g := g) (gn := gn) hN r
    unfold rsN
    split
    · intro q hq
      by_cases e : q = r
      · rw [e, up_eq]; exact Or.inr (frn_lt _)
      · rw [up_ne e]; exact ih q hq
    · exact ih
theorem rsN_ne {g : Nat → Nat → Nat} {gn : Nat} {N : Nat → Nat} {q r : Nat} (h : rsN g gn N r q ≠ 99) : ∀ k, rsN g gn N (r + k) q ≠ 99
  | 0 => h
  | k + 1 => by
    have ih := rsN_ne h k
    show (if inG g (r + k) gn = true ∧ rsN g gn N (r + k) (r + k) = 99 then up (rsN g gn N (r + k)) (r + k) (frn (rsN g gn N (r + k))) else rsN g gn N (r + k)) q ≠ 99
    split
    · by_cases e : q = r + k
      · rw [e, up_eq]; have := frn_lt (rsN g gn N (r + k)); omega
      · rw [up_ne e]; exact ih
    · exact ih
/-- every register of the right side has a name then -/
theorem rsN_all {g : Nat → Nat → Nat} {gn : Nat} {N : Nat → Nat} (hN : NV N) {q : Nat} (hq : q < 4) (hg : inG g q gn = true) : rsN g gn N 4 q < 4 := by
  have h1 : rsN g gn N (q + 1) q ≠ 99 := by
    show (if inG g q gn = true ∧ rsN g gn N q q = 99 then up (rsN g gn N q) q (frn (rsN g gn N q)) else rsN g gn N q) q ≠ 99
    by_cases z : rsN g gn N q q = 99
    · rw [if_pos ⟨hg, z⟩, up_eq]; have := frn_lt (rsN g gn N q); omega
    · rw [if_neg (fun y => z y.2)]; exact z
  have h2 := rsN_ne h1 (3 - q)
  rw [show q + 1 + (3 - q) = 4 by omega] at h2
  exact (rsN_v hN 4 q hq).resolve_left h2
def cld (N : Nat → Nat) (v : Nat) : Nat := if v < 4 then N v else v
def rcs (N : Nat → Nat) (s : Nat → Nat) : Nat → Nat := fun w => if w = 1 then s 1 else cld N (s w)
theorem rcs_v {g : Nat → Nat → Nat} {gn : Nat} {N : Nat → Nat} (hN : NV N) (hv : VC gn g) {k : Nat} (hk : k < gn) : VS (rcs (rsN g gn N 4) (g k)) := by
  obtain ⟨v0, v2, v3⟩ := hv.2 k hk
  have a : ∀ q, q < 4 → (g k 0 = q ∨ g k 2 = q ∨ g k 3 = q) → rsN g gn N 4 q < 4 := fun q hq h => rsN_all hN hq ((inG_iff gn).mpr ⟨k, hk, h⟩)
  have o : ∀ w, (w = 2 ∨ w = 3) → opd (g k w) → opd (cld (rsN g gn N 4) (g k w)) := fun w hw h => by
    unfold cld
    by_cases z : g k w < 4
    · rw [if_pos z]
      refine Or.inl (a (g k w) z ?_)
      rcases hw with rfl | rfl
      · exact Or.inr (Or.inl rfl)
      · exact Or.inr (Or.inr rfl)
    · rw [if_neg z]; exact h
  refine ⟨?_, ?_, ?_⟩
  · show cld (rsN g gn N 4) (g k 0) < 4
    unfold cld
    rw [if_pos v0]
    exact a _ v0 (Or.inl rfl)
  · exact o 2 (Or.inl rfl) v2
  · rcases v3 with ⟨h1, h3⟩ | ⟨h1, h3⟩
    · refine Or.inl ⟨h1, ?_⟩
      show cld (rsN g gn N 4) (g k 3) = 99
      unfold cld
      rw [if_neg (by omega)]; exact h3
    · exact Or.inr ⟨h1, o 3 (Or.inr rfl) h3⟩
/-- the code with the right side in place of the left one -/
def rpl (c g : Nat → Nat → Nat) (a ln gn : Nat) (N : Nat → Nat) : Nat → Nat → Nat := fun i => if i < a then c i else if i < a + gn then rcs N (g (i - a)) else c (i - gn + ln)
theorem rpl_v {c g : Nat → Nat → Nat} {n a ln gn : Nat} {N : Nat → Nat} (hN : NV N) (hv : VC n c) (hg : VC gn g) (ha : a + ln ≤ n) (h12 : n - ln + gn ≤ 12) : VC (n - ln + gn) (rpl c g a ln gn (rsN g gn N 4)) := by
  refine ⟨h12, fun i hi => ?_⟩
  unfold rpl
  by_cases h1 : i < a
  · rw [if_pos h1]; exact hv.2 i (by omega)
  · rw [if_neg h1]
    by_cases h2 : i < a + gn
    · rw [if_pos h2]; exact rcs_v hN hg (by omega)
    · rw [if_neg h2]; exact hv.2 _ (by omega)
def fitP (c : Nat → Nat → Nat) (n : Nat) (l : Nat → Nat → Nat) (ln a : Nat) : Bool := decide (a + ln ≤ n) && (mat l c a ln).isSome
def ffit (c : Nat → Nat → Nat) (n : Nat) (R : CC × CC) : Option Nat := ffR (fitP c n R.1.2 R.1.1) n
theorem ffR_is {p : Nat → Bool} {r : Nat} : ∀ m, ffR p m = some r → p r = true ∧ ∀ q, q < r → p q = false
  | 0, h => absurd h (by simp [ffR])
  | m + 1, h => by
    have e : ffR p (m + 1) = (match ffR p m with | some r => some r | none => if p m = true then some m else none) := rfl
    rw [e] at h
    rcases q : ffR p m with _ | z
    · rw [q] at h
      dsimp only at h
      by_cases w : p m = true
      · rw [if_pos w] at h
        obtain rfl := Option.some.inj h
        refine ⟨w, fun i hi => ?_⟩
        cases y : p i
        · rfl
        · obtain ⟨j, j1, j2, j3⟩ := least m ⟨i, hi, y⟩
          rw [ffR_some j2 j3 m j1] at q
          exact absurd q (by simp)
      · rw [if_neg w] at h; exact absurd h (by simp)
    · rw [q] at h
      dsimp only at h
      exact ffR_is m (q.trans h)
/-- the code after a rule was put in at a step -/
def rplD (D : DD) (R : CC × CC) (a : Nat) : CC := match mat R.1.2 (dC D).2 a R.1.1 with
  | none => dC D
  | some N => ((dC D).1 - R.1.1 + R.2.1, rpl (dC D).2 R.2.2 a R.1.1 R.2.1 (rsN R.2.2 R.2.1 N 4))
def sp_fits (s : SS) (x : Int32) : Int32 := if x < 0 ∨ nI (dN s.2.1) ≤ x then -1 else fuI (ffit (dC s.2.1).2 (dC s.2.1).1 (dR s.2.1 x.toNatClampNeg))
def sp_replace (s : SS) (x : Int32) : Int32 × SS := if x < 0 ∨ nI (dN s.2.1) ≤ x then (-1, s) else match ffit (dC s.2.1).2 (dC s.2.1).1 (dR s.2.1 x.toNatClampNeg) with
  | none => (-3, s)
  | some a => if 12 < (dC s.2.1).1 - (dR s.2.1 x.toNatClampNeg).1.1 + (dR s.2.1 x.toNatClampNeg).2.1 then (-4, s) else (nI (rplD s.2.1 (dR s.2.1 x.toNatClampNeg) a).1, setC s (rplD s.2.1 (dR s.2.1 x.toNatClampNeg) a))
/-- the first rule that fits, from the n-th on backwards -/
def frl (D : DD) : Nat → Option (Nat × Nat)
  | 0 => none
  | n + 1 => match frl D n with
    | some p => some p
    | none => match ffit (dC D).2 (dC D).1 (dR D n) with
      | none => none
      | some a => some (n, a)
def go1 (s : SS) : Option SS := match frl s.2.1 (dN s.2.1) with
  | none => none
  | some p => if 12 < (dC s.2.1).1 - (dR s.2.1 p.1).1.1 + (dR s.2.1 p.1).2.1 then none else some (setC s (rplD s.2.1 (dR s.2.1 p.1) p.2))
def goK : Nat → SS → Nat × SS
  | 0, s => (0, s)
  | k + 1, s => match go1 s with
    | none => (0, s)
    | some s' => ((goK k s').1 + 1, (goK k s').2)
def sp_go (s : SS) : Int32 × SS := (nI (goK 20 s).1, (goK 20 s).2)
