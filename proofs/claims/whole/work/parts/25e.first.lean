/-! the first state -/
def D00 : DD := ((0, fun _ _ => 0), (0, fun _ _ => 0), 15, fun _ => 1, 0, fun _ => ((0, fun _ _ => 0), (0, fun _ _ => 0)))
def s00 : SS := ((0, fun _ => 0), D00, fun _ => none)
def I00 : Nat → Nat → Int32 := fun j => (T0 j).1
def J00 : Nat → Nat → Int64 := fun j => (T0 j).2.1
theorem v_00 : VSt s00 := ⟨Nat.zero_le _, ⟨⟨Nat.zero_le _, fun i h => absurd h (Nat.not_lt_zero i)⟩, ⟨Nat.zero_le _, fun i h => absurd h (Nat.not_lt_zero i)⟩, ⟨by decide, by decide⟩, ⟨by decide, by decide, fun j _ _ => ⟨Nat.le_refl 1, (by decide : (1 : Nat) ≤ 5)⟩⟩, Nat.zero_le _, fun j h => absurd h (Nat.not_lt_zero j)⟩, fun n D h => by cases h⟩
theorem c_00 : CInv I00 s00 := by
  refine ⟨⟨rfl, fun i h => absurd h (Nat.not_lt_zero i)⟩, ⟨⟨rfl, fun i h => absurd h (Nat.not_lt_zero i)⟩, ⟨rfl, fun i h => absurd h (Nat.not_lt_zero i)⟩, rfl, fun j hj => ?_, rfl, fun j h => absurd h (Nat.not_lt_zero j)⟩, fun n hn => ⟨rfl, fun D h => by cases h⟩⟩
  show filF (fun _ => 0) 5 (nI 1) j = nI 1
  exact if_pos hj
theorem r_00 : RInv I00 s00 := by
  refine ⟨⟨rfl, fun i h => absurd h (Nat.not_lt_zero i)⟩, ⟨rfl, fun i h => absurd h (Nat.not_lt_zero i), rfl, fun i h => absurd h (Nat.not_lt_zero i), rfl, rfl, fun j hj => ?_, rfl, fun j h => absurd h (Nat.not_lt_zero j)⟩, fun n hn => ⟨rfl, fun D h => by cases h⟩⟩
  rcases (by omega : j = 0 ∨ j = 1 ∨ j = 2 ∨ j = 3) with e | e | e | e <;> rw [e] <;> rfl
theorem br_00 : ∀ r, r < 4 → ∀ m, m < 3 → ∀ j, j < 64 → lb (jbF (r * 3 + m)) j = (tz j r).testBit m := by decide +kernel
theorem i_00 : SInv I00 J00 := ⟨br_00, 0, rfl, by decide, Or.inl rfl⟩
theorem lay_00 (j : Nat) : lfz (layL.getD j []) = layR false j := by
  funext i
  rw [lfz_getD]
  unfold layR
  rw [if_neg (fun h => absurd h.2.2 (by decide)), if_neg (fun h => absurd h.2.2 (by decide))]
