/-! forms of the rules for numbers that are small and not negative -/
section XZ
variable {G : GG} {d : Nat} {z : ZZ} {pc : Nat} {lv : List (Nat × AV)} {st : List AV} {M : Mm} {rc rs : Nat} {Q : Option AV → Mm → Prop}
theorem X_iaddN {a b : Nat} (hd : decode z.2.1 pc = .ok (.iadd, 1)) (h : X G d z (pc + 1) lv (vi (nI (a + b)) :: st) M rc rs Q) : X G d z pc lv (vi (nI b) :: vi (nI a) :: st) M rc rs Q := by
  refine X_iadd hd ?_
  rw [nI_add]
  exact h
theorem X_imulN {a b : Nat} (hd : decode z.2.1 pc = .ok (.imul, 1)) (h : X G d z (pc + 1) lv (vi (nI (a * b)) :: st) M rc rs Q) : X G d z pc lv (vi (nI b) :: vi (nI a) :: st) M rc rs Q := by
  refine X_imul hd ?_
  rw [pk_mul]
  exact h
theorem X_isubN {a b : Nat} (hd : decode z.2.1 pc = .ok (.isub, 1)) (hab : b ≤ a) (h : X G d z (pc + 1) lv (vi (nI (a - b)) :: st) M rc rs Q) : X G d z pc lv (vi (nI b) :: vi (nI a) :: st) M rc rs Q := by
  refine X_isub hd ?_
  rw [pk_sub hab]
  exact h
theorem X_iinc1 {i a : Nat} (hd : decode z.2.1 pc = .ok (.iinc i 1, 3)) (hk : lk lv i = some (vi (nI a))) (ho : sok1 lv i z.2.2.1 = true) {lv' : List (Nat × AV)} (hl' : lst lv i (vi (nI (a + 1))) = lv') (h : X G d z (pc + 3) lv' st M rc rs Q) : X G d z pc lv st M rc rs Q :=
  X_iinc (v := nI (a + 1)) hd hk (by rw [← nI_1]; rfl) ho hl' h
theorem X_iincd {i a : Nat} (hd : decode z.2.1 pc = .ok (.iinc i (-1), 3)) (hk : lk lv i = some (vi (nI a))) (ha : 1 ≤ a) (ho : sok1 lv i z.2.2.1 = true) {lv' : List (Nat × AV)} (hl' : lst lv i (vi (nI (a - 1))) = lv') (h : X G d z (pc + 3) lv' st M rc rs Q) : X G d z pc lv st M rc rs Q :=
  X_iinc (v := nI (a - 1)) hd hk (by obtain ⟨b, rfl⟩ : ∃ b, a = b + 1 := ⟨a - 1, by omega⟩; rw [Nat.add_sub_cancel]; exact pk_m1 b) ho hl' h
end XZ
/-! comparisons of such numbers -/
theorem nlt {a b : Nat} (hb : b < 2 ^ 31) (ha : a < 2 ^ 31) : nI a < nI b ↔ a < b := nI_ltI ha hb
theorem nle {a b : Nat} (hb : b < 2 ^ 31) (ha : a < 2 ^ 31) : nI a ≤ nI b ↔ a ≤ b := nI_leI ha hb
theorem nneg {a : Nat} (ha : a < 2 ^ 31) : ¬ nI a < 0 := nI_pos ha
theorem nge0 {a : Nat} (ha : a < 2 ^ 31) : 0 ≤ nI a := nI_pos' ha
theorem neq {a b : Nat} (ha : a < 2 ^ 31) (hb : b < 2 ^ 31) : nI a = nI b ↔ a = b := nI_eq ha hb
/-- every int is small and not negative up to a bound, or below, or above -/
theorem icase (x : Int32) (n : Nat) (hn : n < 2 ^ 31) : x < 0 ∨ (∃ a, a < n ∧ x = nI a) ∨ (¬ x < 0 ∧ nI n ≤ x) := by
  rcases pk_ix x hn with h | h | h
  · exact Or.inl h
  · by_cases h0 : x < 0
    · exact Or.inl h0
    · exact Or.inr (Or.inr ⟨h0, h⟩)
  · exact Or.inr (Or.inl h)
/-! how numbers of steps' parts are written: 99 is 'none' -/
def enc (v : Nat) : Int32 := if v = 99 then -6 else nI v
theorem enc_n {v : Nat} (h : v ≠ 99) : enc v = nI v := if_neg h
theorem enc_99 : enc 99 = -6 := rfl
