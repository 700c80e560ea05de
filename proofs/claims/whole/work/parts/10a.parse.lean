/-! how signs are read: a machine of seven states -/
def opOf (x : Int32) : Nat := if nI 97 ≤ x ∧ x ≤ nI 100 then x.toNatClampNeg - 97 else if nI 48 ≤ x ∧ x ≤ nI 55 then x.toNatClampNeg - 48 + 10 else 99
def isA (x : Int32) : Bool := decide (x = nI 43) || (decide (x = nI 45) || (decide (x = nI 42) || decide (x = nI 109)))
abbrev PT : Type := Nat × Bool × CC × CC × Nat × Nat × Nat
abbrev pu (p : PT) : Nat := p.1
abbrev pR (p : PT) : Bool := p.2.1
abbrev pL (p : PT) : CC := p.2.2.1
abbrev pG (p : PT) : CC := p.2.2.2.1
abbrev pt (p : PT) : Nat := p.2.2.2.2.1
abbrev pa (p : PT) : Nat := p.2.2.2.2.2.1
abbrev pf (p : PT) : Nat := p.2.2.2.2.2.2
def st4 (t a x y : Nat) : Nat → Nat := fun w => if w = 0 then t else if w = 1 then a else if w = 2 then x else y
def cadd (c : CC) (s : Nat → Nat) : CC := (c.1 + 1, ext c.1 c.2 s)
def side (p : PT) : CC := if pR p = true then pG p else pL p
def tkE (p : PT) (a x y : Nat) : Option PT := if x = 99 ∨ (a ≠ 99 ∧ y = 99) then none else if pR p = true then some (6, true, pL p, cadd (pG p) (st4 (pt p) a x y), pt p, pa p, pf p) else some (6, false, cadd (pL p) (st4 (pt p) a x y), pG p, pt p, pa p, pf p)
def tk (rule : Bool) (p : PT) (x : Int32) : Option PT :=
  if pu p = 0 ∨ pu p = 1 then (if opOf x < 4 then some (2, pR p, pL p, pG p, opOf x, pa p, pf p) else none)
  else if pu p = 2 then (if x = nI 61 then some (3, p.2) else none)
  else if pu p = 3 then (if isA x = true then some (4, pR p, pL p, pG p, pt p, x.toNatClampNeg, pf p) else tkE p 99 (opOf x) 99)
  else if pu p = 4 then (if opOf x = 99 then none else some (5, pR p, pL p, pG p, pt p, pa p, opOf x))
  else if pu p = 5 then tkE p (pa p) (pf p) (opOf x)
  else if x = nI 59 ∧ (side p).1 < (if rule = true then 3 else 12) then some (0, p.2)
  else if x = nI 62 ∧ rule = true ∧ pR p = false then some (1, true, p.2.2) else none
def p0 : PT := (0, false, (0, fun _ _ => 0), (0, fun _ _ => 0), 0, 99, 99)
def pr (rule : Bool) (sg : Nat → Int32) : Nat → Option PT
  | 0 => some p0
  | i + 1 => match pr rule sg i with
    | none => none
    | some p => tk rule p (sg i)
/-- the fault among n signs, i of which are through -/
def ff (rule : Bool) (sg : Nat → Int32) (n : Nat) : Nat → PT → Nat → Int32
  | 0, p, _ => if pu p = 1 ∨ (pu p = 6 ∧ pR p = rule) then -6 else nI n
  | m + 1, p, i => match tk rule p (sg i) with
    | none => nI i
    | some p' => ff rule sg n m p' (i + 1)
def flt (rule : Bool) (s : SS) : Int32 := ff rule s.1.2 s.1.1 s.1.1 p0 0
theorem opOf_cases (x : Int32) : (∃ a, 97 ≤ a ∧ a ≤ 100 ∧ x = nI a ∧ opOf x = a - 97) ∨ (∃ a, 48 ≤ a ∧ a ≤ 55 ∧ x = nI a ∧ opOf x = a - 48 + 10) ∨ (¬ (nI 97 ≤ x ∧ x ≤ nI 100) ∧ ¬ (nI 48 ≤ x ∧ x ≤ nI 55) ∧ opOf x = 99) := by
  by_cases h : nI 97 ≤ x ∧ x ≤ nI 100
  · left
    rcases icase x 101 (by decide) with q | ⟨a, ha, rfl⟩ | q
    · exact absurd q (ipos h.1 (by decide))
    · refine ⟨a, (nle (by omega) (by omega)).mp h.1, by omega, rfl, ?_⟩
      unfold opOf
      rw [if_pos h, nI_clamp (by omega)]
    · exact absurd (Int32.lt_of_le_of_lt h.2 (show nI 100 < nI 101 by decide)) (Int32.not_lt.mpr q.2)
  · right
    by_cases h2 : nI 48 ≤ x ∧ x ≤ nI 55
    · left
      rcases icase x 56 (by decide) with q | ⟨a, ha, rfl⟩ | q
      · exact absurd q (ipos h2.1 (by decide))
      · refine ⟨a, (nle (by omega) (by omega)).mp h2.1, by omega, rfl, ?_⟩
        unfold opOf
        rw [if_neg h, if_pos h2, nI_clamp (by omega)]
      · exact absurd (Int32.lt_of_le_of_lt h2.2 (show nI 55 < nI 56 by decide)) (Int32.not_lt.mpr q.2)
    · right
      refine ⟨h, h2, ?_⟩
      unfold opOf
      rw [if_neg h, if_neg h2]
theorem opOf_val (x : Int32) : opd (opOf x) ∨ opOf x = 99 := by
  rcases opOf_cases x with ⟨a, h1, h2, _, h⟩ | ⟨a, h1, h2, _, h⟩ | h
  · left; rw [h]; unfold opd; omega
  · left; rw [h]; unfold opd; omega
  · right; exact h.2.2
theorem isA_cases (x : Int32) : (isA x = true ∧ ∃ a, iact a ∧ x = nI a) ∨ (isA x = false ∧ x ≠ nI 43 ∧ x ≠ nI 45 ∧ x ≠ nI 42 ∧ x ≠ nI 109) := by
  unfold isA
  by_cases h1 : x = nI 43
  · left; exact ⟨by simp [h1], 43, Or.inl rfl, h1⟩
  by_cases h2 : x = nI 45
  · left; exact ⟨by simp [h2], 45, Or.inr (Or.inl rfl), h2⟩
  by_cases h3 : x = nI 42
  · left; exact ⟨by simp [h3], 42, Or.inr (Or.inr (Or.inl rfl)), h3⟩
  by_cases h4 : x = nI 109
  · left; exact ⟨by simp [h4], 109, Or.inr (Or.inr (Or.inr rfl)), h4⟩
  right; exact ⟨by simp [h1, h2, h3, h4], h1, h2, h3, h4⟩
/-- a lawful state of reading -/
def mst (rule : Bool) : Nat := if rule = true then 3 else 12
def PW (rule : Bool) (p : PT) : Prop := pu p ≤ 6 ∧ VC (pL p).1 (pL p).2 ∧ VC (pG p).1 (pG p).2 ∧ (pL p).1 ≤ mst rule ∧ (pG p).1 ≤ mst rule ∧ (pu p < 6 → (side p).1 < mst rule) ∧ (2 ≤ pu p → pt p < 4) ∧ (pu p = 4 ∨ pu p = 5 → iact (pa p)) ∧ (pu p = 5 → opd (pf p)) ∧ (pu p = 1 → pR p = true) ∧ (pR p = true → rule = true ∧ 1 ≤ (pL p).1) ∧ (pR p = false → (pG p).1 = 0) ∧ (pu p = 6 → 1 ≤ (side p).1)
theorem mst_le (rule : Bool) : mst rule ≤ 12 := by cases rule <;> decide
theorem VC_add {n : Nat} {c : Nat → Nat → Nat} {s : Nat → Nat} (h : VC n c) (hn : n < 12) (hs : VS s) : VC (n + 1) (ext n c s) := by
  refine ⟨hn, fun i hi => ?_⟩
  unfold ext
  by_cases h2 : i = n
  · rw [if_pos h2]; exact hs
  · rw [if_neg h2]; exact h.2 i (by omega)
theorem VS_st4 {t a x y : Nat} (ht : t < 4) (hx : opd x) (h : (a = 99 ∧ y = 99) ∨ (iact a ∧ opd y)) : VS (st4 t a x y) := ⟨ht, hx, h⟩
theorem PW_0 (rule : Bool) : PW rule p0 := by
  have h0 : VC 0 (fun _ _ => 0) := ⟨Nat.zero_le _, fun i hi => absurd hi (Nat.not_lt_zero i)⟩
  have hm : 0 < mst rule := by cases rule <;> decide
  exact ⟨by decide, h0, h0, Nat.zero_le _, Nat.zero_le _, fun _ => hm, fun h => absurd h (by decide), fun h => absurd h (by decide), fun h => absurd h (by decide), fun h => absurd h (by decide), fun h => absurd h (by decide), fun _ => rfl, fun h => absurd h (by decide)⟩
theorem opd_ne {v : Nat} (h : opd v) : v ≠ 99 := by unfold opd at h; omega
theorem PW_E {rule : Bool} {p p' : PT} {a x y : Nat} (h : PW rule p) (hu : pu p < 6) (h2 : 2 ≤ pu p) (hx : opd x ∨ x = 99) (hy : opd y ∨ y = 99) (ha : (a = 99 ∧ y = 99) ∨ iact a) (e : tkE p a x y = some p') : PW rule p' := by
  obtain ⟨w1, w2, w3, w4, w5, w6, w7, w8, w9, w10, w11, w12, w13⟩ := h
  unfold tkE at e
  by_cases hc : x = 99 ∨ (a ≠ 99 ∧ y = 99)
  · rw [if_pos hc] at e; cases e
  · rw [if_neg hc] at e
    have hx2 : opd x := hx.resolve_right (fun q => hc (Or.inl q))
    have hs : VS (st4 (pt p) a x y) := by
      refine VS_st4 (w7 h2) hx2 ?_
      rcases ha with ha | ha
      · exact Or.inl ha
      · refine Or.inr ⟨ha, hy.resolve_right (fun q => hc (Or.inr ⟨?_, q⟩))⟩
        unfold iact at ha
        omega
    have hlt := w6 hu
    have hm := mst_le rule
    unfold side at hlt
    by_cases hR : pR p = true
    · rw [if_pos hR] at e hlt
      cases e
      exact ⟨Nat.le_refl 6, w2, VC_add w3 (by omega) hs, w4, hlt, fun q => absurd q (by simp [pu, pR]), fun _ => w7 h2, fun q => absurd q (by simp [pu, pR]), fun q => absurd q (by simp [pu, pR]), fun q => absurd q (by simp [pu, pR]), fun _ => w11 hR, fun q => absurd q (by simp [pu, pR]), fun _ => Nat.le_add_left 1 _⟩
    · rw [if_neg hR] at e hlt
      cases e
      exact ⟨Nat.le_refl 6, VC_add w2 (by omega) hs, w3, hlt, w5, fun q => absurd q (by simp [pu, pR]), fun _ => w7 h2, fun q => absurd q (by simp [pu, pR]), fun q => absurd q (by simp [pu, pR]), fun q => absurd q (by simp [pu, pR]), fun q => absurd q (by simp [pu, pR]), fun _ => w12 (by cases hq : pR p <;> simp_all), fun _ => Nat.le_add_left 1 _⟩
theorem PW_tk {rule : Bool} {p p' : PT} {x : Int32} (h : PW rule p) (e : tk rule p x = some p') : PW rule p' := by
  have h' := h
  obtain ⟨w1, w2, w3, w4, w5, w6, w7, w8, w9, w10, w11, w12, w13⟩ := h'
  unfold tk at e
  by_cases h0 : pu p = 0 ∨ pu p = 1
  · rw [if_pos h0] at e
    by_cases h1 : opOf x < 4
    · rw [if_pos h1] at e
      cases e
      exact ⟨by simp [pu], w2, w3, w4, w5, fun _ => w6 (by omega), fun _ => h1, fun q => absurd q (by simp [pu, pR]), fun q => absurd q (by simp [pu, pR]), fun q => absurd q (by simp [pu, pR]), w11, w12, fun q => absurd q (by simp [pu, pR])⟩
    · rw [if_neg h1] at e; cases e
  rw [if_neg h0] at e
  by_cases h2 : pu p = 2
  · rw [if_pos h2] at e
    by_cases h1 : x = nI 61
    · rw [if_pos h1] at e
      cases e
      exact ⟨by simp [pu], w2, w3, w4, w5, fun _ => w6 (by omega), fun _ => w7 (by omega), fun q => absurd q (by simp [pu, pR]), fun q => absurd q (by simp [pu, pR]), fun q => absurd q (by simp [pu, pR]), w11, w12, fun q => absurd q (by simp [pu, pR])⟩
    · rw [if_neg h1] at e; cases e
  rw [if_neg h2] at e
  by_cases h3 : pu p = 3
  · rw [if_pos h3] at e
    rcases isA_cases x with ⟨hA, a, ha, rfl⟩ | ⟨hA, _⟩
    · rw [if_pos hA] at e
      cases e
      have hc : (nI a).toNatClampNeg = a := nI_clamp (by unfold iact at ha; omega)
      exact ⟨by simp [pu], w2, w3, w4, w5, fun _ => w6 (by omega), fun _ => w7 (by omega), fun _ => by show iact ((nI a).toNatClampNeg); rw [hc]; exact ha, fun q => absurd q (by simp [pu, pR]), fun q => absurd q (by simp [pu, pR]), w11, w12, fun q => absurd q (by simp [pu, pR])⟩
    · rw [if_neg (by rw [hA]; decide)] at e
      exact PW_E h (by omega) (by omega) (opOf_val x) (Or.inr rfl) (Or.inl ⟨rfl, rfl⟩) e
  rw [if_neg h3] at e
  by_cases h4 : pu p = 4
  · rw [if_pos h4] at e
    by_cases h1 : opOf x = 99
    · rw [if_pos h1] at e; cases e
    · rw [if_neg h1] at e
      cases e
      exact ⟨by simp [pu], w2, w3, w4, w5, fun _ => w6 (by omega), fun _ => w7 (by omega), fun _ => w8 (Or.inl h4), fun _ => (opOf_val x).resolve_right h1, fun q => absurd q (by simp [pu, pR]), w11, w12, fun q => absurd q (by simp [pu, pR])⟩
  rw [if_neg h4] at e
  by_cases h5 : pu p = 5
  · rw [if_pos h5] at e
    exact PW_E h (by omega) (by omega) (Or.inl (w9 h5)) (opOf_val x) (Or.inr (w8 (Or.inr h5))) e
  rw [if_neg h5] at e
  have h6 : pu p = 6 := by omega
  by_cases h7 : x = nI 59 ∧ (side p).1 < (if rule = true then 3 else 12)
  · rw [if_pos h7] at e
    cases e
    exact ⟨by simp [pu], w2, w3, w4, w5, fun _ => h7.2, fun q => absurd q (by simp [pu, pR]), fun q => absurd q (by simp [pu, pR]), fun q => absurd q (by simp [pu, pR]), fun q => absurd q (by simp [pu, pR]), w11, w12, fun q => absurd q (by simp [pu, pR])⟩
  rw [if_neg h7] at e
  by_cases h8 : x = nI 62 ∧ rule = true ∧ pR p = false
  · rw [if_pos h8] at e
    cases e
    have hs := w13 h6
    unfold side at hs
    rw [if_neg (by rw [h8.2.2]; decide)] at hs
    refine ⟨by simp [pu], w2, w3, w4, w5, fun _ => ?_, fun q => absurd q (by simp [pu, pR]), fun q => absurd q (by simp [pu, pR]), fun q => absurd q (by simp [pu, pR]), fun _ => rfl, fun _ => ⟨h8.2.1, hs⟩, fun q => absurd q (by simp [pu, pR]), fun q => absurd q (by simp [pu, pR])⟩
    show (pG p).1 < mst rule
    rw [w12 h8.2.2, h8.2.1]
    decide
  · rw [if_neg h8] at e; cases e
