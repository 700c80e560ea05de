/-! bits of small numbers -/
theorem nI_and (a b : Nat) : nI a &&& nI b = nI (a &&& b) := by
  apply Int32.toBitVec_inj.1
  show BitVec.ofNat 32 a &&& BitVec.ofNat 32 b = BitVec.ofNat 32 (a &&& b)
  apply BitVec.eq_of_getLsbD_eq
  intro i hi
  simp [hi]
theorem nI_or (a b : Nat) : nI a ||| nI b = nI (a ||| b) := by
  apply Int32.toBitVec_inj.1
  show BitVec.ofNat 32 a ||| BitVec.ofNat 32 b = BitVec.ofNat 32 (a ||| b)
  apply BitVec.eq_of_getLsbD_eq
  intro i hi
  simp [hi]
theorem nI_xor (a b : Nat) : nI a ^^^ nI b = nI (a ^^^ b) := by
  apply Int32.toBitVec_inj.1
  show BitVec.ofNat 32 a ^^^ BitVec.ofNat 32 b = BitVec.ofNat 32 (a ^^^ b)
  apply BitVec.eq_of_getLsbD_eq
  intro i hi
  simp [hi]
theorem sh_amt : ∀ b, b < 32 → ((nI b &&& 31).toBitVec.smod 32).toNat = b := by decide +kernel
theorem nI_shl1 : ∀ b, b < 31 → nI 1 <<< (nI b &&& 31) = nI (2 ^ b) := by
  intro b hb
  rw [pk_shlN (n := 1) _ b (sh_amt b (by omega)) (by rw [Nat.one_mul]; exact Nat.pow_lt_pow_right (by decide) (by omega)), Nat.one_mul]
theorem nI_shr {a b : Nat} (ha : a < 2 ^ 31) (hb : b < 32) : nI a >>> (nI b &&& 31) = nI (a / 2 ^ b) := pk_shrN ha _ b (sh_amt b hb)
theorem nI_m1 : nI 4294967295 = -1 := by decide +kernel
/-- a without the bits of b -/
def sdf (a b : Nat) : Nat := a &&& (b ^^^ 4294967295)
theorem nI_sdf (a b : Nat) : nI a &&& (nI b ^^^ (-1)) = nI (sdf a b) := by
  rw [← nI_m1, nI_xor, nI_and]
  rfl
theorem m1_bit : ∀ i, i < 32 → Nat.testBit 4294967295 i = true := by decide +kernel
theorem sdf_bit {a b i : Nat} (hi : i < 32) : (sdf a b).testBit i = (a.testBit i && !b.testBit i) := by
  unfold sdf
  rw [Nat.testBit_and, Nat.testBit_xor, m1_bit i hi]
  cases a.testBit i <;> cases b.testBit i <;> rfl
theorem sdf_le (a b : Nat) : sdf a b ≤ a := Nat.and_le_left
theorem bit_mod (a b : Nat) : a / 2 ^ b % 2 = if a.testBit b then 1 else 0 := by
  rw [Nat.testBit_eq_decide_div_mod_eq]
  rcases Nat.mod_two_eq_zero_or_one (a / 2 ^ b) with h | h <;> simp [h]
/-- the bit test of the code: a >> b & 1 -/
theorem nI_bit {a b : Nat} (ha : a < 2 ^ 31) (hb : b < 32) : (nI a >>> (nI b &&& 31)) &&& nI 1 = nI (if a.testBit b then 1 else 0) := by
  rw [nI_shr ha hb, nI_and, Nat.and_one_is_mod, bit_mod]
section XZ
variable {G : GG} {d : Nat} {z : ZZ} {pc : Nat} {lv : List (Nat × AV)} {st : List AV} {M : Mm} {rc rs : Nat} {Q : Option AV → Mm → Prop}
theorem X_iandN {a b : Nat} (hd : decode z.2.1 pc = .ok (.iand, 1)) (h : X G d z (pc + 1) lv (vi (nI (a &&& b)) :: st) M rc rs Q) : X G d z pc lv (vi (nI b) :: vi (nI a) :: st) M rc rs Q := by
  refine X_iand hd ?_
  rw [nI_and]
  exact h
theorem X_iandC {a b : Nat} (hd : decode z.2.1 pc = .ok (.iand, 1)) (h : X G d z (pc + 1) lv (vi (nI (sdf a b)) :: st) M rc rs Q) : X G d z pc lv (vi (nI b ^^^ (-1)) :: vi (nI a) :: st) M rc rs Q := by
  refine X_iand hd ?_
  rw [nI_sdf]
  exact h
theorem X_iorN {a b : Nat} (hd : decode z.2.1 pc = .ok (.ior, 1)) (h : X G d z (pc + 1) lv (vi (nI (a ||| b)) :: st) M rc rs Q) : X G d z pc lv (vi (nI b) :: vi (nI a) :: st) M rc rs Q := by
  refine X_ior hd ?_
  rw [nI_or]
  exact h
theorem X_ishl1 {b : Nat} (hd : decode z.2.1 pc = .ok (.ishl, 1)) (hb : b < 31) (h : X G d z (pc + 1) lv (vi (nI (2 ^ b)) :: st) M rc rs Q) : X G d z pc lv (vi (nI b) :: vi (nI 1) :: st) M rc rs Q := by
  refine X_ishl hd ?_
  rw [nI_shl1 b hb]
  exact h
theorem X_ishrN {a b : Nat} (hd : decode z.2.1 pc = .ok (.ishr, 1)) (ha : a < 2147483648) (hb : b < 32) (h : X G d z (pc + 1) lv (vi (nI (a / 2 ^ b)) :: st) M rc rs Q) : X G d z pc lv (vi (nI b) :: vi (nI a) :: st) M rc rs Q := by
  refine X_ishr hd ?_
  rw [nI_shr ha hb]
  exact h
end XZ
