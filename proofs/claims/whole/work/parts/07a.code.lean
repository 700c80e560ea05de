/-! the class's Code: two cells, k and k + 1 -/
def IsCd (k : Nat) : Prop := sh k = (1, 2) ∧ sh (k + 1) = (13, 48) ∧ (∀ sw, layR sw k 0 = some (k + 1)) ∧ k + 1 < NC
/-- steps as numbers: c i w is part w of step i -/
def CR (I : Nat → Nat → Int32) (k n : Nat) (c : Nat → Nat → Nat) : Prop := I k 1 = nI n ∧ ∀ i, i < n → ∀ w, w < 4 → I (k + 1) (i * 4 + w) = enc (c i w)
def opd (v : Nat) : Prop := v < 4 ∨ (10 ≤ v ∧ v < 18)
def iact (v : Nat) : Prop := v = 43 ∨ v = 45 ∨ v = 42 ∨ v = 109
def VS (s : Nat → Nat) : Prop := s 0 < 4 ∧ opd (s 2) ∧ ((s 1 = 99 ∧ s 3 = 99) ∨ (iact (s 1) ∧ opd (s 3)))
def VC (n : Nat) (c : Nat → Nat → Nat) : Prop := n ≤ 12 ∧ ∀ i, i < n → VS (c i)
section CO
variable {G : GG} {d : Nat} {sw : Bool} {I : Nat → Nat → Int32} {J : Nat → Nat → Int64}
set_option maxRecDepth 20000 in
theorem c_isNoReg_f {Q : Int32 → Mm → Prop} {M : Mm} {v : Nat} (hv : v < 4) (hQ : Q (nI 0) M) : Y G d zX11_isNoRegister [vi (nI v)] M 0 0 (qi Q) := by
  refine Y_of rfl rfl (Nat.le_of_ble_eq_true rfl) rfl ?_
  refine X_iload_n dX11_isNoRegister_0 rfl ?_
  refine X_if_lt (tgt := 9) dX11_isNoRegister_1 (by decide) (fun h1 => ?_) (fun h1 => ?_)
  · exact absurd h1 (nneg (by omega))
  refine X_iload_n dX11_isNoRegister_4 rfl ?_
  refine X_iconst (v := nI 4) dX11_isNoRegister_5 (by decide) ?_
  refine X_icmp_lt (tgt := 13) dX11_isNoRegister_6 (by decide) (fun h6 => ?_) (fun h6 => ?_)
  · refine X_iconst (v := nI 0) dX11_isNoRegister_13 (by decide) ?_
    exact X_zret dX11_isNoRegister_14 rfl (by first | rfl | (simp; done) | decide) ⟨_, rfl, hQ⟩
  · exact absurd ((nlt (by decide) (by omega)).mpr hv) h6
set_option maxRecDepth 20000 in
theorem c_isNoReg_t {Q : Int32 → Mm → Prop} {M : Mm} {x : Int32} (hv : x < 0 ∨ nI 4 ≤ x) (hQ : Q (nI 1) M) : Y G d zX11_isNoRegister [vi x] M 0 0 (qi Q) := by
  refine Y_of rfl rfl (Nat.le_of_ble_eq_true rfl) rfl ?_
  refine X_iload_n dX11_isNoRegister_0 rfl ?_
  refine X_if_lt (tgt := 9) dX11_isNoRegister_1 (by decide) (fun h1 => ?_) (fun h1 => ?_)
  · refine X_iconst (v := nI 1) dX11_isNoRegister_9 (by decide) ?_
    refine X_goto (tgt := 14) dX11_isNoRegister_10 (by decide) ?_
    exact X_zret dX11_isNoRegister_14 rfl (by first | rfl | (simp; done) | decide) ⟨_, rfl, hQ⟩
  refine X_iload_n dX11_isNoRegister_4 rfl ?_
  refine X_iconst (v := nI 4) dX11_isNoRegister_5 (by decide) ?_
  refine X_icmp_lt (tgt := 13) dX11_isNoRegister_6 (by decide) (fun h6 => ?_) (fun h6 => ?_)
  · exact absurd h6 (hv.elim (fun h => absurd h h1) (fun h => Int32.not_lt.mpr h))
  · refine X_iconst (v := nI 1) dX11_isNoRegister_9 (by decide) ?_
    refine X_goto (tgt := 14) dX11_isNoRegister_10 (by decide) ?_
    exact X_zret dX11_isNoRegister_14 rfl (by first | rfl | (simp; done) | decide) ⟨_, rfl, hQ⟩
set_option maxRecDepth 20000 in
theorem c_part {Q : Int32 → Mm → Prop} {k a b n : Nat} (hk : IsCd k) (hn : I k 1 = nI n) (hn2 : n ≤ 12) (ha : a < n) (hb : b < 4) (hQ : Q (I (k + 1) (a * 4 + b)) (NC, I, J, layR sw)) : Y G d zX1_part [vr k, vi (nI a), vi (nI b)] (NC, I, J, layR sw) 0 0 (qi Q) := by
  obtain ⟨hs, hs', hr, hkn⟩ := hk
  have hr := hr sw
  have hk0 : k < NC := by omega
  refine Y_of rfl rfl (Nat.le_of_ble_eq_true rfl) rfl ?_
  refine X_iload_n dX1_part_0 rfl ?_
  refine X_if_lt (tgt := 21) dX1_part_1 (by decide) (fun h1 => ?_) (fun h1 => ?_)
  · exact absurd h1 (nneg (by omega))
  refine X_iload_n dX1_part_4 rfl ?_
  refine X_aload_n dX1_part_5 rfl ?_
  refine X_getI dX1_part_6 gf_X1_21 (by first | rfl | assumption) (by first | decide | assumption | omega) rfl ?_
  refine X_icmp_ge (tgt := 21) dX1_part_9 (by decide) (fun h9 => ?_) (fun h9 => ?_)
  · rw [hn] at h9
    exact absurd ((nle (by omega) (by omega)).mp h9) (by omega)
  refine X_iload_n dX1_part_12 rfl ?_
  refine X_if_lt (tgt := 21) dX1_part_13 (by decide) (fun h13 => ?_) (fun h13 => ?_)
  · exact absurd h13 (nneg (by omega))
  refine X_iload_n dX1_part_16 rfl ?_
  refine X_iconst (v := nI 3) dX1_part_17 (by decide) ?_
  refine X_icmp_le (tgt := 24) dX1_part_18 (by decide) (fun h18 => ?_) (fun h18 => ?_)
  · refine X_aload_n dX1_part_24 rfl ?_
    refine X_getR dX1_part_25 gf_X1_9 (by first | rfl | assumption) (by first | decide | assumption | omega) rfl (by first | rfl | assumption) ?_
    refine X_iload_n dX1_part_28 rfl ?_
    refine X_iconst (v := nI 4) dX1_part_29 (by decide) ?_
    first | refine X_imulN dX1_part_30 ?_ | refine X_imul dX1_part_30 ?_
    refine X_iload_n dX1_part_31 rfl ?_
    first | refine X_iaddN dX1_part_32 ?_ | refine X_iadd dX1_part_32 ?_
    first | refine X_iald dX1_part_33 (by first | rfl | assumption) (by first | decide | assumption | omega) rfl (by first | decide | omega) (by decide) ?_ | refine X_ildA dX1_part_33 rfl (by omega) ?_ | refine X_ildM dX1_part_33 rfl (by omega) ?_ | refine X_sld dX1_part_33 rfl (by omega) (by omega) ?_
    exact X_iret dX1_part_34 rfl ⟨_, rfl, hQ⟩
  · exact absurd ((nle (by omega) (by omega)).mpr (by omega)) h18
set_option maxRecDepth 20000 in
theorem c_target {Q : Int32 → Mm → Prop} {k a n t : Nat} (hd : 1 ≤ d) (hk : IsCd k) (hn : I k 1 = nI n) (hn2 : n ≤ 12) (ha : a < n) (ht : I (k + 1) (a * 4) = nI t) (ht4 : t < 4) (hQ : Q (nI t) (NC, I, J, layR sw)) : Y G d zX1_target [vr k, vi (nI a)] (NC, I, J, layR sw) 0 0 (qi Q) := by
  have hkk := hk
  obtain ⟨hs, hs', hr, hkn⟩ := hkk
  have hk0 : k < NC := by omega
  refine Y_of rfl rfl (Nat.le_of_ble_eq_true rfl) rfl ?_
  refine X_aload_n dX1_target_0 rfl ?_
  refine X_iload_n dX1_target_1 rfl ?_
  refine X_iconst (v := nI 0) dX1_target_2 (by decide) ?_
  refine X_cVi dX1_target_3 ck_X1_25 rfl rfl (by first | rfl | assumption) (by first | decide | assumption | omega) (by omega) (Nat.le_of_ble_eq_true rfl) (c_part hk hn hn2 ha (by decide) ?_)
  rw [show I (k + 1) (a * 4 + 0) = nI t from ht]
  refine X_istore_n dX1_target_6 rfl rfl ?_
  refine X_iload_n dX1_target_7 rfl ?_
  refine X_cSi dX1_target_8 ck_X1_29 rfl rfl (by omega) (Nat.le_of_ble_eq_true rfl) (c_isNoReg_f ht4 ?_)
  refine X_if_eq (tgt := 18) dX1_target_11 (by decide) (fun h => ?_) (fun h => ?_)
  · refine X_iload_n dX1_target_18 rfl ?_
    exact X_iret dX1_target_19 rfl ⟨_, rfl, hQ⟩
  · exact absurd rfl h
theorem c_bitOf_r {Q : Int32 → Mm → Prop} {M : Mm} {v : Nat} (hd : 1 ≤ d) (hv : v < 4) (hQ : Q (nI (2 ^ v)) M) : Y G d zX1_bitOf [vi (nI v)] M 0 0 (qi Q) := by
  refine Y_of rfl rfl (Nat.le_of_ble_eq_true rfl) rfl ?_
  refine X_iload_n dX1_bitOf_0 rfl ?_
  refine X_cSi dX1_bitOf_1 ck_X1_29 rfl rfl (by omega) (Nat.le_of_ble_eq_true rfl) (c_isNoReg_f hv ?_)
  refine X_if_eq (tgt := 11) dX1_bitOf_4 (by decide) (fun h => ?_) (fun h => ?_)
  · refine X_iconst (v := nI 1) dX1_bitOf_11 (by decide) ?_
    refine X_iload_n dX1_bitOf_12 rfl ?_
    refine X_ishl1 dX1_bitOf_13 (by omega) ?_
    exact X_iret dX1_bitOf_14 rfl ⟨_, rfl, hQ⟩
  · exact absurd rfl h
theorem c_bitOf_n {Q : Int32 → Mm → Prop} {M : Mm} {x : Int32} (hd : 1 ≤ d) (hv : x < 0 ∨ nI 4 ≤ x) (hQ : Q (nI 0) M) : Y G d zX1_bitOf [vi x] M 0 0 (qi Q) := by
  refine Y_of rfl rfl (Nat.le_of_ble_eq_true rfl) rfl ?_
  refine X_iload_n dX1_bitOf_0 rfl ?_
  refine X_cSi dX1_bitOf_1 ck_X1_29 rfl rfl (by omega) (Nat.le_of_ble_eq_true rfl) (c_isNoReg_t hv ?_)
  refine X_if_eq (tgt := 11) dX1_bitOf_4 (by decide) (fun h => ?_) (fun h => ?_)
  · exact absurd h (by decide)
  · refine X_iconst (v := nI 0) dX1_bitOf_7 (by decide) ?_
    refine X_goto (tgt := 14) dX1_bitOf_8 (by decide) ?_
    exact X_iret dX1_bitOf_14 rfl ⟨_, rfl, hQ⟩
/-- the bit of an operand that is a register -/
def rb (v : Nat) : Nat := if v < 4 then 2 ^ v else 0
theorem rb_lt (v : Nat) : rb v < 16 := by
  unfold rb
  split
  · exact Nat.pow_lt_pow_right (a := 2) (m := v) (n := 4) (by decide) (by assumption)
  · decide
theorem enc_big {v : Nat} (h1 : ¬ v < 4) (h2 : v < 200) : enc v < 0 ∨ nI 4 ≤ enc v := by
  unfold enc
  by_cases h : v = 99
  · rw [if_pos h]; left; decide
  · rw [if_neg h]; right; exact (nle (by omega) (by decide)).mpr (by omega)
theorem c_bitOf {Q : Int32 → Mm → Prop} {M : Mm} {v : Nat} (hd : 1 ≤ d) (hv : v < 200) (hQ : Q (nI (rb v)) M) : Y G d zX1_bitOf [vi (enc v)] M 0 0 (qi Q) := by
  by_cases h : v < 4
  · rw [enc_n (by omega)]
    refine c_bitOf_r hd h ?_
    unfold rb at hQ
    rwa [if_pos h] at hQ
  · refine c_bitOf_n hd (enc_big h hv) ?_
    unfold rb at hQ
    rwa [if_neg h] at hQ
theorem VS_lt {s : Nat → Nat} (h : VS s) : ∀ w, w < 4 → s w < 200 := by
  intro w hw
  obtain ⟨h0, h2, h3⟩ := h
  rcases (by omega : w = 0 ∨ w = 1 ∨ w = 2 ∨ w = 3) with rfl | rfl | rfl | rfl
  · omega
  · rcases h3 with h | h
    · omega
    · have h := h.1
      unfold iact at h
      omega
  · unfold opd at h2
    omega
  · rcases h3 with h | h
    · omega
    · have h := h.2
      unfold opd at h
      omega
theorem c_readBits {Q : Int32 → Mm → Prop} {k a n : Nat} {c : Nat → Nat → Nat} (hd : 2 ≤ d) (hk : IsCd k) (hc : CR I k n c) (hv : VC n c) (ha : a < n) (hQ : Q (nI (rb (c a 2) ||| rb (c a 3))) (NC, I, J, layR sw)) : Y G d zX1_readBits [vr k, vi (nI a)] (NC, I, J, layR sw) 0 0 (qi Q) := by
  have hkk := hk
  obtain ⟨hs, hs', hr, hkn⟩ := hkk
  have hk0 : k < NC := by omega
  refine Y_of rfl rfl (Nat.le_of_ble_eq_true rfl) rfl ?_
  refine X_aload_n dX1_readBits_0 rfl ?_
  refine X_iload_n dX1_readBits_1 rfl ?_
  refine X_iconst (v := nI 2) dX1_readBits_2 (by decide) ?_
  refine X_cVi dX1_readBits_3 ck_X1_25 rfl rfl (by first | rfl | assumption) (by first | decide | assumption | omega) (by omega) (Nat.le_of_ble_eq_true rfl) (c_part hk hc.1 hv.1 ha (by decide) ?_)
  rw [hc.2 a ha 2 (by decide)]
  refine X_cSi dX1_readBits_6 ck_X1_48 rfl rfl (by omega) (Nat.le_of_ble_eq_true rfl) (c_bitOf (by omega) (VS_lt (hv.2 a ha) 2 (by decide)) ?_)
  refine X_aload_n dX1_readBits_9 rfl ?_
  refine X_iload_n dX1_readBits_10 rfl ?_
  refine X_iconst (v := nI 3) dX1_readBits_11 (by decide) ?_
  refine X_cVi dX1_readBits_12 ck_X1_25 rfl rfl (by first | rfl | assumption) (by first | decide | assumption | omega) (by omega) (Nat.le_of_ble_eq_true rfl) (c_part hk hc.1 hv.1 ha (by decide) ?_)
  rw [hc.2 a ha 3 (by decide)]
  refine X_cSi dX1_readBits_15 ck_X1_48 rfl rfl (by omega) (Nat.le_of_ble_eq_true rfl) (c_bitOf (by omega) (VS_lt (hv.2 a ha) 3 (by decide)) ?_)
  refine X_iorN dX1_readBits_18 ?_
  exact X_iret dX1_readBits_19 rfl ⟨_, rfl, hQ⟩
end CO
