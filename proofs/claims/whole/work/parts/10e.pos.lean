/-! where the steps stand among the signs -/
def slen (s : Nat → Nat) : Nat := if s 1 = 99 then 3 else 5
def pos (b : Nat) (c : Nat → Nat → Nat) : Nat → Nat
  | 0 => b
  | k + 1 => pos b c k + slen (c k) + 1
theorem pos_cg {b : Nat} {c c' : Nat → Nat → Nat} : ∀ k, (∀ j, j < k → c' j = c j) → pos b c' k = pos b c k := by
  intro k
  induction k with
  | zero => intro _; rfl
  | succ k ih =>
    intro h
    show pos b c' k + slen (c' k) + 1 = pos b c k + slen (c k) + 1
    rw [ih (fun j hj => h j (by omega)), h k (by omega)]
theorem ext_lt {n j : Nat} {c : Nat → Nat → Nat} {s : Nat → Nat} (h : j < n) : ext n c s j = c j := if_neg (by omega)
theorem ext_at {n : Nat} {c : Nat → Nat → Nat} {s : Nat → Nat} : ext n c s n = s := if_pos rfl
theorem pos_ext {b n : Nat} {c : Nat → Nat → Nat} {s : Nat → Nat} {k : Nat} (hk : k ≤ n) : pos b (ext n c s) k = pos b c k := pos_cg k (fun j hj => ext_lt (by omega))
theorem pos_ext1 {b n : Nat} {c : Nat → Nat → Nat} {s : Nat → Nat} : pos b (ext n c s) (n + 1) = pos b c n + slen s + 1 := by
  show pos b (ext n c s) n + slen (ext n c s n) + 1 = _
  rw [pos_ext (Nat.le_refl n), ext_at]
theorem slen_ge (s : Nat → Nat) : 3 ≤ slen s ∧ slen s ≤ 5 := by unfold slen; split <;> omega
theorem pos_mono {b : Nat} {c : Nat → Nat → Nat} {k : Nat} : ∀ n, k < n → pos b c k + slen (c k) + 1 ≤ pos b c n := by
  intro n
  induction n with
  | zero => intro h; omega
  | succ n ih =>
    intro h
    show _ ≤ pos b c n + slen (c n) + 1
    by_cases hk : k = n
    · subst hk; exact Nat.le_refl _
    · have := ih (by omega)
      omega
/-- the signs from q on tell a step -/
def DS (sg : Nat → Int32) (q : Nat) (s : Nat → Nat) : Prop := s 0 = opOf (sg q) ∧ s 0 < 4 ∧ ((s 1 = 99 ∧ isA (sg (q + 2)) = false ∧ s 2 = opOf (sg (q + 2)) ∧ s 2 ≠ 99 ∧ s 3 = 99) ∨ (iact (s 1) ∧ sg (q + 2) = nI (s 1) ∧ s 2 = opOf (sg (q + 3)) ∧ s 2 ≠ 99 ∧ s 3 = opOf (sg (q + 4)) ∧ s 3 ≠ 99))
def DL (sg : Nat → Int32) (b n : Nat) (c : Nat → Nat → Nat) : Prop := ∀ k, k < n → DS sg (pos b c k) (c k)
theorem DL_add {sg : Nat → Int32} {b n : Nat} {c : Nat → Nat → Nat} {s : Nat → Nat} (h : DL sg b n c) (hs : DS sg (pos b c n) s) : DL sg b (n + 1) (ext n c s) := by
  intro k hk
  by_cases hkn : k = n
  · subst hkn
    rw [pos_ext (Nat.le_refl k), ext_at]
    exact hs
  · rw [pos_ext (by omega), ext_lt (by omega)]
    exact h k (by omega)
/-- the first place of the side that is read -/
def bs (p : PT) : Nat := if pR p = true then pos 0 (pL p).2 (pL p).1 else 0
/-- reading, and the places: i signs are through -/
def Dv (sg : Nat → Int32) (p : PT) (i : Nat) : Prop := DL sg 0 (pL p).1 (pL p).2 ∧ DL sg (bs p) (side p).1 (side p).2 ∧
  (pu p < 2 → i = pos (bs p) (side p).2 (side p).1) ∧ (pu p = 2 → i = pos (bs p) (side p).2 (side p).1 + 1) ∧ (pu p = 3 → i = pos (bs p) (side p).2 (side p).1 + 2) ∧ (pu p = 4 → i = pos (bs p) (side p).2 (side p).1 + 3) ∧ (pu p = 5 → i = pos (bs p) (side p).2 (side p).1 + 4) ∧ (pu p = 6 → i + 1 = pos (bs p) (side p).2 (side p).1) ∧
  (2 ≤ pu p → pu p < 6 → pt p = opOf (sg (pos (bs p) (side p).2 (side p).1))) ∧ (pu p = 4 ∨ pu p = 5 → sg (pos (bs p) (side p).2 (side p).1 + 2) = nI (pa p)) ∧ (pu p = 5 → pf p = opOf (sg (pos (bs p) (side p).2 (side p).1 + 3))) ∧
  (pR p = false → ∀ q, q < i → sg q ≠ nI 62) ∧ (pR p = true → ∃ mk, mk + 1 = pos 0 (pL p).2 (pL p).1 ∧ mk < i ∧ sg mk = nI 62 ∧ ∀ q, q < mk → sg q ≠ nI 62)
theorem Dv_0 (sg : Nat → Int32) : Dv sg p0 0 := ⟨fun k hk => absurd hk (Nat.not_lt_zero k), fun k hk => absurd hk (Nat.not_lt_zero k), fun _ => rfl, fun h => absurd h (by decide), fun h => absurd h (by decide), fun h => absurd h (by decide), fun h => absurd h (by decide), fun h => absurd h (by decide), fun h => absurd h (by decide), fun h => absurd h (by decide), fun h => absurd h (by decide), fun _ q hq => absurd hq (Nat.not_lt_zero q), fun h => absurd h (by decide)⟩
theorem op62 {x : Int32} (h : opOf x ≠ 99) : x ≠ nI 62 := by
  intro e
  subst e
  exact h (by decide)
theorem isA62 {x : Int32} (h : isA x = true) : x ≠ nI 62 := by
  intro e
  subst e
  exact absurd h (by decide)
theorem opA {x : Int32} (h : opOf x ≠ 99) : isA x = false := by
  rcases isA_cases x with ⟨_, a, ha, rfl⟩ | ⟨h2, _⟩
  · exfalso
    unfold iact at ha
    rcases ha with rfl | rfl | rfl | rfl <;> exact h (by decide)
  · exact h2
theorem nx62 {sg : Nat → Int32} {i : Nat} (h : ∀ q, q < i → sg q ≠ nI 62) (h2 : sg i ≠ nI 62) : ∀ q, q < i + 1 → sg q ≠ nI 62 := by
  intro q hq
  by_cases e : q = i
  · subst e; exact h2
  · exact h q (by omega)
theorem Dv_E {sg : Nat → Int32} {p p' : PT} {i a x y : Nat} (hd : Dv sg p i) (h2 : 2 ≤ pu p) (hu : pu p < 6) (hne : sg i ≠ nI 62)
    (hs : DS sg (pos (bs p) (side p).2 (side p).1) (st4 (pt p) a x y)) (hi : i + 1 = pos (bs p) (side p).2 (side p).1 + slen (st4 (pt p) a x y)) (e : tkE p a x y = some p') : Dv sg p' (i + 1) := by
  obtain ⟨d1, d2, d3, d4, d5, d6, d7, d8, d9, d10, d11, d12, d13⟩ := hd
  unfold tkE at e
  by_cases hc : x = 99 ∨ (a ≠ 99 ∧ y = 99)
  · rw [if_pos hc] at e; cases e
  rw [if_neg hc] at e
  by_cases hR : pR p = true
  · rw [if_pos hR] at e
    cases e
    have eb : bs p = pos 0 (pL p).2 (pL p).1 := by unfold bs; rw [if_pos hR]
    have es : side p = pG p := by unfold side; rw [if_pos hR]
    rw [eb, es] at d2 hs hi
    obtain ⟨mk, m1, m2, m3, m4⟩ := d13 hR
    exact ⟨d1, DL_add d2 hs, fun q => absurd q (by simp [pu]), fun q => absurd q (by simp [pu]), fun q => absurd q (by simp [pu]), fun q => absurd q (by simp [pu]), fun q => absurd q (by simp [pu]), fun _ => by show i + 1 + 1 = pos (pos 0 (pL p).2 (pL p).1) (ext (pG p).1 (pG p).2 (st4 (pt p) a x y)) ((pG p).1 + 1); rw [pos_ext1]; omega, fun _ q => absurd q (by simp [pu]), fun q => absurd q (by simp [pu]), fun q => absurd q (by simp [pu]), fun q => absurd q (by simp [pR]), fun _ => ⟨mk, m1, by omega, m3, m4⟩⟩
  · rw [if_neg hR] at e
    cases e
    have hR2 : pR p = false := by cases hq : pR p <;> simp_all
    have eb : bs p = 0 := by unfold bs; rw [if_neg hR]
    have es : side p = pL p := by unfold side; rw [if_neg hR]
    rw [eb, es] at d2 hs hi
    exact ⟨DL_add d2 hs, DL_add d2 hs, fun q => absurd q (by simp [pu]), fun q => absurd q (by simp [pu]), fun q => absurd q (by simp [pu]), fun q => absurd q (by simp [pu]), fun q => absurd q (by simp [pu]), fun _ => by show i + 1 + 1 = pos 0 (ext (pL p).1 (pL p).2 (st4 (pt p) a x y)) ((pL p).1 + 1); rw [pos_ext1]; omega, fun _ q => absurd q (by simp [pu]), fun q => absurd q (by simp [pu]), fun q => absurd q (by simp [pu]), fun _ => nx62 (d12 hR2) hne, fun q => absurd q (by simp [pR])⟩
theorem Dv_tk {sg : Nat → Int32} {rule : Bool} {p p' : PT} {i : Nat} (hw : PW rule p) (hd : Dv sg p i) (e : tk rule p (sg i) = some p') : Dv sg p' (i + 1) := by
  have hd' := hd
  obtain ⟨d1, d2, d3, d4, d5, d6, d7, d8, d9, d10, d11, d12, d13⟩ := hd'
  have hle := hw.1
  have k13 : pR p = true → ∃ mk, mk + 1 = pos 0 (pL p).2 (pL p).1 ∧ mk < i + 1 ∧ sg mk = nI 62 ∧ ∀ q, q < mk → sg q ≠ nI 62 := fun h => by
    obtain ⟨mk, m1, m2, m3, m4⟩ := d13 h
    exact ⟨mk, m1, by omega, m3, m4⟩
  unfold tk at e
  by_cases h0 : pu p = 0 ∨ pu p = 1
  · rw [if_pos h0] at e
    by_cases h1 : opOf (sg i) < 4
    · rw [if_pos h1] at e
      cases e
      have hi := d3 (by omega)
      exact ⟨d1, d2, fun q => absurd q (by simp [pu]), fun _ => by show i + 1 = pos (bs p) (side p).2 (side p).1 + 1; omega, fun q => absurd q (by simp [pu]), fun q => absurd q (by simp [pu]), fun q => absurd q (by simp [pu]), fun q => absurd q (by simp [pu]), fun _ _ => by show opOf (sg i) = opOf (sg (pos (bs p) (side p).2 (side p).1)); rw [← hi], fun q => absurd q (by simp [pu]), fun q => absurd q (by simp [pu]), fun q => nx62 (d12 q) (op62 (by omega)), k13⟩
    · rw [if_neg h1] at e; cases e
  rw [if_neg h0] at e
  by_cases h2 : pu p = 2
  · rw [if_pos h2] at e
    by_cases h1 : sg i = nI 61
    · rw [if_pos h1] at e
      cases e
      have hi := d4 h2
      exact ⟨d1, d2, fun q => absurd q (by simp [pu]), fun q => absurd q (by simp [pu]), fun _ => by show i + 1 = pos (bs p) (side p).2 (side p).1 + 2; omega, fun q => absurd q (by simp [pu]), fun q => absurd q (by simp [pu]), fun q => absurd q (by simp [pu]), fun _ _ => d9 (by omega) (by omega), fun q => absurd q (by simp [pu]), fun q => absurd q (by simp [pu]), fun q => nx62 (d12 q) (by rw [h1]; decide), k13⟩
    · rw [if_neg h1] at e; cases e
  rw [if_neg h2] at e
  by_cases h3 : pu p = 3
  · rw [if_pos h3] at e
    have hi := d5 h3
    have ht := d9 (by omega) (by omega)
    have ht4 := hw.2.2.2.2.2.2.1 (by omega)
    rcases isA_cases (sg i) with ⟨hA, a, ha, hx⟩ | ⟨hA, _⟩
    · rw [if_pos hA] at e
      cases e
      have hc : (sg i).toNatClampNeg = a := by rw [hx]; exact nI_clamp (by unfold iact at ha; omega)
      exact ⟨d1, d2, fun q => absurd q (by simp [pu]), fun q => absurd q (by simp [pu]), fun q => absurd q (by simp [pu]), fun _ => by show i + 1 = pos (bs p) (side p).2 (side p).1 + 3; omega, fun q => absurd q (by simp [pu]), fun q => absurd q (by simp [pu]), fun _ _ => ht, fun _ => by show sg (pos (bs p) (side p).2 (side p).1 + 2) = nI ((sg i).toNatClampNeg); rw [hc, ← hi]; exact hx, fun q => absurd q (by simp [pu]), fun q => nx62 (d12 q) (isA62 hA), k13⟩
    · rw [if_neg (by rw [hA]; decide)] at e
      have hne : opOf (sg i) ≠ 99 := by
        intro q
        unfold tkE at e
        rw [if_pos (Or.inl q)] at e
        cases e
      refine Dv_E hd (by omega) (by omega) (op62 hne) ⟨ht, ht4, Or.inl ⟨rfl, ?_, ?_, hne, rfl⟩⟩ ?_ e
      · rw [← hi]; exact hA
      · rw [← hi]; rfl
      · show i + 1 = _ + 3
        omega
  rw [if_neg h3] at e
  by_cases h4 : pu p = 4
  · rw [if_pos h4] at e
    by_cases h1 : opOf (sg i) = 99
    · rw [if_pos h1] at e; cases e
    · rw [if_neg h1] at e
      cases e
      have hi := d6 h4
      exact ⟨d1, d2, fun q => absurd q (by simp [pu]), fun q => absurd q (by simp [pu]), fun q => absurd q (by simp [pu]), fun q => absurd q (by simp [pu]), fun _ => by show i + 1 = pos (bs p) (side p).2 (side p).1 + 4; omega, fun q => absurd q (by simp [pu]), fun _ _ => d9 (by omega) (by omega), fun _ => d10 (Or.inl h4), fun _ => by show opOf (sg i) = opOf (sg (pos (bs p) (side p).2 (side p).1 + 3)); rw [← hi], fun q => nx62 (d12 q) (op62 h1), k13⟩
  rw [if_neg h4] at e
  by_cases h5 : pu p = 5
  · rw [if_pos h5] at e
    have hi := d7 h5
    have ha := hw.2.2.2.2.2.2.2.1 (Or.inr h5)
    have hf := hw.2.2.2.2.2.2.2.2.1 h5
    have ha9 : pa p ≠ 99 := by unfold iact at ha; omega
    have hne : opOf (sg i) ≠ 99 := by
      intro q
      unfold tkE at e
      rw [if_pos (Or.inr ⟨ha9, q⟩)] at e
      cases e
    refine Dv_E hd (by omega) (by omega) (op62 hne) ⟨d9 (by omega) (by omega), hw.2.2.2.2.2.2.1 (by omega), Or.inr ⟨ha, d10 (Or.inr h5), d11 h5, opd_ne hf, ?_, hne⟩⟩ ?_ e
    · rw [← hi]; rfl
    · show i + 1 = _ + slen (st4 (pt p) (pa p) (pf p) (opOf (sg i)))
      unfold slen
      rw [if_neg (show st4 (pt p) (pa p) (pf p) (opOf (sg i)) 1 ≠ 99 from ha9)]
      omega
  rw [if_neg h5] at e
  have h6 : pu p = 6 := by omega
  have hi := d8 h6
  by_cases h7 : sg i = nI 59 ∧ (side p).1 < (if rule = true then 3 else 12)
  · rw [if_pos h7] at e
    cases e
    exact ⟨d1, d2, fun _ => hi, fun q => absurd q (by simp [pu]), fun q => absurd q (by simp [pu]), fun q => absurd q (by simp [pu]), fun q => absurd q (by simp [pu]), fun q => absurd q (by simp [pu]), fun q => absurd q (by simp [pu]), fun q => absurd q (by simp [pu]), fun q => absurd q (by simp [pu]), fun q => nx62 (d12 q) (by rw [h7.1]; decide), k13⟩
  rw [if_neg h7] at e
  by_cases h8 : sg i = nI 62 ∧ rule = true ∧ pR p = false
  · rw [if_pos h8] at e
    cases e
    have eb : bs p = 0 := by unfold bs; rw [if_neg (by rw [h8.2.2]; decide)]
    have es : side p = pL p := by unfold side; rw [if_neg (by rw [h8.2.2]; decide)]
    rw [eb, es] at hi
    have h0 := hw.2.2.2.2.2.2.2.2.2.2.2.1 h8.2.2
    refine ⟨d1, fun k hk => ?_, fun _ => ?_, fun q => absurd q (by simp [pu]), fun q => absurd q (by simp [pu]), fun q => absurd q (by simp [pu]), fun q => absurd q (by simp [pu]), fun q => absurd q (by simp [pu]), fun q => absurd q (by simp [pu]), fun q => absurd q (by simp [pu]), fun q => absurd q (by simp [pu]), fun q => absurd q (by simp [pR]), fun _ => ⟨i, hi, by omega, h8.1, d12 h8.2.2⟩⟩
    · have hk : k < (pG p).1 := hk
      omega
    · show i + 1 = pos (pos 0 (pL p).2 (pL p).1) (pG p).2 (pG p).1
      rw [h0, ← hi]
      rfl
  · rw [if_neg h8] at e; cases e
theorem Dv_fin {sg : Nat → Int32} {rule : Bool} : ∀ (m i : Nat) (p p' : PT), PW rule p → Dv sg p i → fin rule sg m p i = some p' → PW rule p' ∧ Dv sg p' (i + m) := by
  intro m
  induction m with
  | zero =>
    intro i p p' hw hd e
    cases e
    exact ⟨hw, hd⟩
  | succ m ih =>
    intro i p p' hw hd e
    cases ht : tk rule p (sg i) with
    | none =>
      have : fin rule sg (m + 1) p i = none := by
        show (match tk rule p (sg i) with | none => none | some p' => fin rule sg m p' (i + 1)) = none
        rw [ht]
      rw [this] at e
      cases e
    | some q =>
      rw [fin_s ht] at e
      have := ih (i + 1) q p' (PW_tk hw ht) (Dv_tk hw hd ht) e
      rw [show i + 1 + m = i + (m + 1) by omega] at this
      exact this
