/-! what a state of the system is: signs, a desk, images of it -/
abbrev CC : Type := Nat × (Nat → Nat → Nat)
abbrev DD : Type := CC × CC × Nat × (Nat → Nat) × Nat × (Nat → CC × CC)
abbrev SS : Type := (Nat × (Nat → Int32)) × DD × (Nat → Option DD)
abbrev dC (D : DD) : CC := D.1
abbrev dO (D : DD) : CC := D.2.1
abbrev dW (D : DD) : Nat := D.2.2.1
abbrev dS (D : DD) : Nat → Nat := D.2.2.2.1
abbrev dN (D : DD) : Nat := D.2.2.2.2.1
abbrev dR (D : DD) : Nat → CC × CC := D.2.2.2.2.2
/-- a lawful desk -/
def VD (D : DD) : Prop := VC (dC D).1 (dC D).2 ∧ VC (dO D).1 (dO D).2 ∧ (1 ≤ dW D ∧ dW D ≤ 15) ∧ (1 ≤ dS D 0 ∧ dS D 0 ≤ 3 ∧ ∀ j, 1 ≤ j → j < 5 → 1 ≤ dS D j ∧ dS D j ≤ 5) ∧ dN D ≤ 4 ∧
  ∀ j, j < dN D → (1 ≤ (dR D j).1.1 ∧ (dR D j).1.1 ≤ 3 ∧ VC (dR D j).1.1 (dR D j).1.2) ∧ (dR D j).2.1 ≤ 3 ∧ VC (dR D j).2.1 (dR D j).2.2
def VSt (s : SS) : Prop := s.1.1 ≤ 80 ∧ VD s.2.1 ∧ ∀ n D, s.2.2 n = some D → VD D
/-- a desk of the class at the cells from k on -/
def dk (I : Nat → Nat → Int32) (k : Nat) (D : DD) : Prop := CR I (k + 1) (dC D).1 (dC D).2 ∧ CR I (k + 3) (dO D).1 (dO D).2 ∧ I k 5 = nI (dW D) ∧ (∀ j, j < 5 → I (k + 6) j = nI (dS D j)) ∧ I k 4 = nI (dN D) ∧
  ∀ j, j < dN D → CR I (k + 8 + 6 * j) (dR D j).1.1 (dR D j).1.2 ∧ CR I (k + 10 + 6 * j) (dR D j).2.1 (dR D j).2.2
def pd (I : Nat → Nat → Int32) (p : Nat × (Nat → Int32)) : Prop := I 1 3 = nI p.1 ∧ ∀ i, i < p.1 → I 2 i = p.2 i
def im (I : Nat → Nat → Int32) (f : Nat → Option DD) : Prop := ∀ n, n < 2 → I 101 n = nI (if (f n).isSome then 1 else 0) ∧ ∀ D, f n = some D → dk I (39 + 31 * n) D
/-- the class holds a state -/
def CInv (I : Nat → Nat → Int32) (s : SS) : Prop := pd I s.1 ∧ dk I 7 s.2.1 ∧ im I s.2.2
theorem CR.fr {I I' : Nat → Nat → Int32} {k n : Nat} {c : Nat → Nat → Nat} (h : CR I k n c) (h1 : I' k 1 = I k 1) (h2 : I' (k + 1) = I (k + 1)) : CR I' k n c := ⟨h1.trans h.1, fun i hi w hw => by rw [h2]; exact h.2 i hi w hw⟩
theorem dk.fr {I I' : Nat → Nat → Int32} {k : Nat} {D : DD} (h : dk I k D) (hN : dN D ≤ 4) (he : ∀ j, k ≤ j → j < k + 31 → I' j = I j) : dk I' k D := by
  obtain ⟨h1, h2, h3, h4, h5, h6⟩ := h
  refine ⟨h1.fr (by rw [he _ (by omega) (by omega)]) (he _ (by omega) (by omega)), h2.fr (by rw [he _ (by omega) (by omega)]) (he _ (by omega) (by omega)), by rw [he _ (by omega) (by omega)]; exact h3, fun j hj => by rw [he _ (by omega) (by omega)]; exact h4 j hj, by rw [he _ (by omega) (by omega)]; exact h5, fun j hj => ⟨(h6 j hj).1.fr (by rw [he _ (by omega) (by omega)]) (he _ (by omega) (by omega)), (h6 j hj).2.fr (by rw [he _ (by omega) (by omega)]) (he _ (by omega) (by omega))⟩⟩
theorem im.fr {I I' : Nat → Nat → Int32} {s : SS} (h : im I s.2.2) (hv : VSt s) (he : ∀ j, 38 ≤ j → j < 102 → I' j = I j) : im I' s.2.2 := by
  intro n hn
  obtain ⟨h1, h2⟩ := h n hn
  exact ⟨by rw [he 101 (by omega) (by omega)]; exact h1, fun D hD => (h2 D hD).fr (hv.2.2 n D hD).2.2.2.2.1 (fun j a b => he j (by omega) (by omega))⟩
theorem pd.fr {I I' : Nat → Nat → Int32} {p : Nat × (Nat → Int32)} (h : pd I p) (h1 : I' 1 3 = I 1 3) (h2 : I' 2 = I 2) : pd I' p := ⟨h1.trans h.1, fun i hi => by rw [h2]; exact h.2 i hi⟩
theorem CInv.fr {I I' : Nat → Nat → Int32} {s : SS} (h : CInv I s) (hv : VSt s) (h1 : I' 1 3 = I 1 3) (h2 : I' 2 = I 2) (he : ∀ j, 7 ≤ j → j < 102 → I' j = I j) : CInv I' s :=
  ⟨h.1.fr h1 h2, h.2.1.fr hv.2.1.2.2.2.2.1 (fun j a b => he j (by omega) (by omega)), h.2.2.fr hv (fun j a b => he j (by omega) (by omega))⟩
/-- cells that only the search and the reference write -/
def keepC (k : Nat) : Prop := 152 ≤ k ∧ (k ≤ 166 ∨ 170 ≤ k)
/-- what a call of the class leaves -/
def PC (s' : SS) (a : Int32) (I : Nat → Nat → Int32) (J : Nat → Nat → Int64) : Int32 → Mm → Prop := fun r M' => r = a ∧ ∃ I' J' sw', M' = (NC, I', J', layR sw') ∧ CInv I' s' ∧ (∀ k, keepC k → I' k = I k) ∧ ∀ k, keepC k → J' k = J k
theorem PC_same {I : Nat → Nat → Int32} {J : Nat → Nat → Int64} {sw : Bool} {s : SS} {a : Int32} (h : CInv I s) : PC s a I J a (NC, I, J, layR sw) := ⟨rfl, I, J, sw, rfl, h, fun _ _ => rfl, fun _ _ => rfl⟩
theorem PC_mk {I I' : Nat → Nat → Int32} {J : Nat → Nat → Int64} {sw : Bool} {s : SS} {a : Int32} (h : CInv I' s) (l : List Nat) (hf : Fr l I I') (hl : l.all (fun k => decide (k < 152) || (decide (166 < k) && decide (k < 170))) = true) : PC s a I J a (NC, I', J, layR sw) := by
  refine ⟨rfl, I', J, sw, rfl, h, fun k hk => hf k (fun q => ?_), fun _ _ => rfl⟩
  have := List.all_eq_true.mp hl k q
  simp only [Bool.or_eq_true, Bool.and_eq_true, decide_eq_true_eq] at this
  unfold keepC at hk
  omega
