/-! 64 rows at once -/
def IsRw (k : Nat) : Prop := sh k = (8, 4) ∧ sh (k + 1) = (14, 12) ∧ (∀ sw, layR sw k 0 = some (k + 1)) ∧ k + 1 < NC
def BR (J : Nat → Nat → Int64) (k : Nat) (T : Nat → Nat → Nat) : Prop := ∀ r, r < 4 → ∀ m, m < 3 → ∀ j, j < 64 → lb (J (k + 1) (r * 3 + m)) j = (T j r).testBit m
def BV (x1 x2 x4 : Int64) (V : Nat → Nat) : Prop := ∀ j, j < 64 → lb x1 j = (V j).testBit 0 ∧ lb x2 j = (V j).testBit 1 ∧ lb x4 j = (V j).testBit 2
theorem tb_p : ∀ x, x < 8 → ∀ y, y < 8 → Bool.xor (Bool.xor (x.testBit 0) (y.testBit 0)) false = (av 43 x y).testBit 0 ∧ Bool.xor (Bool.xor (x.testBit 1) (y.testBit 1)) ((x.testBit 0 && y.testBit 0) || (false && Bool.xor (x.testBit 0) (y.testBit 0))) = (av 43 x y).testBit 1 ∧ Bool.xor (Bool.xor (x.testBit 2) (y.testBit 2)) ((x.testBit 1 && y.testBit 1) || (((x.testBit 0 && y.testBit 0) || (false && Bool.xor (x.testBit 0) (y.testBit 0))) && Bool.xor (x.testBit 1) (y.testBit 1))) = (av 43 x y).testBit 2 := by decide +kernel
theorem tb_m : ∀ x, x < 8 → ∀ y, y < 8 → Bool.xor (Bool.xor (x.testBit 0) (Bool.xor (y.testBit 0) true)) true = (av 45 x y).testBit 0 ∧ Bool.xor (Bool.xor (x.testBit 1) (Bool.xor (y.testBit 1) true)) ((x.testBit 0 && Bool.xor (y.testBit 0) true) || (true && Bool.xor (x.testBit 0) (Bool.xor (y.testBit 0) true))) = (av 45 x y).testBit 1 ∧ Bool.xor (Bool.xor (x.testBit 2) (Bool.xor (y.testBit 2) true)) ((x.testBit 1 && Bool.xor (y.testBit 1) true) || (((x.testBit 0 && Bool.xor (y.testBit 0) true) || (true && Bool.xor (x.testBit 0) (Bool.xor (y.testBit 0) true))) && Bool.xor (x.testBit 1) (Bool.xor (y.testBit 1) true))) = (av 45 x y).testBit 2 := by decide +kernel
theorem tb_t : ∀ x, x < 8 → ∀ y, y < 8 → (x.testBit 0 && y.testBit 0) = (av 42 x y).testBit 0 ∧ Bool.xor (x.testBit 1 && y.testBit 0) (x.testBit 0 && y.testBit 1) = (av 42 x y).testBit 1 ∧ Bool.xor (Bool.xor (Bool.xor (x.testBit 2 && y.testBit 0) (x.testBit 1 && y.testBit 1)) (x.testBit 0 && y.testBit 2)) (((x.testBit 1 && y.testBit 0) && x.testBit 0) && y.testBit 1) = (av 42 x y).testBit 2 := by decide +kernel
/-- whether a number is below another one, by bits -/
def blw (x y : Nat) : Bool := ((Bool.xor (x.testBit 2) true) && y.testBit 2) || ((Bool.xor (Bool.xor (x.testBit 2) (y.testBit 2)) true) && (((Bool.xor (x.testBit 1) true) && y.testBit 1) || ((Bool.xor (Bool.xor (x.testBit 1) (y.testBit 1)) true) && ((Bool.xor (x.testBit 0) true) && y.testBit 0))))
theorem tb_l : ∀ x, x < 8 → ∀ y, y < 8 → ((x.testBit 0 && blw x y) || (y.testBit 0 && Bool.xor (blw x y) true)) = (av 109 x y).testBit 0 ∧ ((x.testBit 1 && blw x y) || (y.testBit 1 && Bool.xor (blw x y) true)) = (av 109 x y).testBit 1 ∧ ((x.testBit 2 && blw x y) || (y.testBit 2 && Bool.xor (blw x y) true)) = (av 109 x y).testBit 2 := by decide +kernel
section CB
variable {G : GG} {d : Nat} {sw : Bool} {I : Nat → Nat → Int32} {J : Nat → Nat → Int64} {s : SS} {n W : Nat} {c : Nat → Nat → Nat}
set_option maxRecDepth 20000 in
theorem c_bit {Q : Int64 → Mm → Prop} {k v m : Nat} {T : Nat → Nat → Nat} (hd : 1 ≤ d) (hk : IsRw k) (hv : opd v ∨ v = 99) (hm : m < 3) (hB : BR J k T) (hQ : ∀ x, (∀ j, j < 64 → lb x j = (opv (T j) v).testBit m) → Q x (NC, I, J, layR sw)) : Y G d zX8_bit [vr k, vi (enc v), vi (nI m)] (NC, I, J, layR sw) 0 0 (ql Q) := by
  obtain ⟨hs, hs', hr, hkn⟩ := hk
  have hr := hr sw
  have hk0 : k < NC := by omega
  unfold opd at hv
  refine Y_of rfl rfl (Nat.le_of_ble_eq_true rfl) rfl ?_
  refine X_iload_n dX8_bit_0 rfl ?_
  by_cases h4 : v < 4
  · rw [enc_n (by omega)]
    refine X_cSi dX8_bit_1 ck_X8_67 rfl rfl (by omega) (Nat.le_of_ble_eq_true rfl) (c_isNoReg_f h4 ?_)
    refine X_if_eq (tgt := 29) dX8_bit_4 (by decide) (fun b => ?_) (fun b => ?_)
    · refine X_aload_n dX8_bit_29 rfl ?_
      refine X_getR dX8_bit_30 gf_X8_11 (by first | assumption | rfl) (by first | assumption | exact Nat.le_of_ble_eq_true rfl | omega) rfl (by first | assumption | rfl) ?_
      refine X_iload_n dX8_bit_33 rfl ?_
      refine X_iconst (v := nI 3) dX8_bit_34 (by decide) ?_
      first | refine X_imulN dX8_bit_35 ?_ | refine X_imul dX8_bit_35 ?_
      refine X_iload_n dX8_bit_36 rfl ?_
      first | refine X_iaddN dX8_bit_37 ?_ | refine X_iadd dX8_bit_37 ?_
      first | refine X_lald dX8_bit_38 (by first | assumption | rfl) (by first | assumption | exact Nat.le_of_ble_eq_true rfl | omega) rfl (by first | decide | omega) (by decide) ?_ | refine X_lldH dX8_bit_38 rfl (by omega) ?_ | refine X_lldL dX8_bit_38 rfl (by omega) ?_
      exact X_lret dX8_bit_39 rfl ⟨_, rfl, hQ _ (fun j hj => by rw [show opv (T j) v = T j v from if_pos h4]; exact hB v h4 m hm j hj)⟩
    · exact absurd rfl b
  · refine X_cSi dX8_bit_1 ck_X8_67 rfl rfl (by omega) (Nat.le_of_ble_eq_true rfl) (c_isNoReg_t (enc_big h4 (by omega)) ?_)
    refine X_if_eq (tgt := 29) dX8_bit_4 (by decide) (fun b => ?_) (fun b => ?_)
    · exact absurd b (by decide)
    refine X_iload_n dX8_bit_7 rfl ?_
    refine X_cSi dX8_bit_8 ck_X8_71 rfl rfl (by omega) (Nat.le_of_ble_eq_true rfl) (c_isDigit (by omega) ?_)
    by_cases h9 : v = 99
    · rw [if_neg (by omega)]
      refine X_if_eq (tgt := 27) dX8_bit_11 (by decide) (fun b11 => ?_) (fun b11 => ?_)
      · refine X_lconst (v := 0) dX8_bit_27 (by decide) ?_
        exact X_lret dX8_bit_28 rfl ⟨_, rfl, hQ _ (fun j hj => by rw [show opv (T j) v = 0 by unfold opv; rw [if_neg h4, if_pos h9], lb_0, Nat.zero_testBit])⟩
      · exact absurd rfl b11
    · rw [if_pos (by omega), enc_n h9]
      refine X_if_eq (tgt := 27) dX8_bit_11 (by decide) (fun b11 => ?_) (fun b11 => ?_)
      · exact absurd b11 (by decide)
      refine X_iload_n dX8_bit_14 rfl ?_
      refine X_bipush (v := nI 10) dX8_bit_15 (by decide) ?_
      first | refine X_isubN dX8_bit_17 (by omega) ?_ | refine X_isub dX8_bit_17 ?_
      refine X_iload_n dX8_bit_18 rfl ?_
      first | refine X_ishrN dX8_bit_19 (by omega) (by omega) ?_ | refine X_ishr dX8_bit_19 ?_
      refine X_iconst (v := nI 1) dX8_bit_20 (by decide) ?_
      first | refine X_iandN dX8_bit_21 ?_ | refine X_iandC dX8_bit_21 ?_ | refine X_iand dX8_bit_21 ?_
      rw [Nat.and_one_is_mod, bit_mod]
      refine X_i2l dX8_bit_22 rfl ?_
      refine X_lneg dX8_bit_23 ?_
      refine X_goto (tgt := 28) dX8_bit_24 (by decide) ?_
      exact X_lret dX8_bit_28 rfl ⟨_, rfl, hQ _ (fun j hj => by rw [show opv (T j) v = v - 10 by unfold opv; rw [if_neg h4, if_neg h9]]; exact lb_neg hj)⟩
set_option maxRecDepth 20000 in
theorem c_sum {Q : Mm → Prop} {k : Nat} {x1 x2 x4 y1 y2 y4 cr : Int64} (hk : IsRw k) (hQ : ∀ J', Fr [k] J J' → J' k 1 = (x1 ^^^ y1) ^^^ cr → J' k 2 = (x2 ^^^ y2) ^^^ ((x1 &&& y1) ||| (cr &&& (x1 ^^^ y1))) → J' k 3 = (x4 ^^^ y4) ^^^ ((x2 &&& y2) ||| (((x1 &&& y1) ||| (cr &&& (x1 ^^^ y1))) &&& (x2 ^^^ y2))) → Q (NC, I, J', layR sw)) : Y G d zX8_sum [vr k, vl x1, vl x2, vl x4, vl y1, vl y2, vl y4, vl cr] (NC, I, J, layR sw) 0 0 (qv Q) := by
  obtain ⟨hs, hs', hr, hkn⟩ := hk
  have hk0 : k < NC := by omega
  refine Y_of rfl rfl (Nat.le_of_ble_eq_true rfl) rfl ?_
  refine X_lload_n dX8_sum_0 rfl ?_
  refine X_lload dX8_sum_1 rfl ?_
  refine X_land dX8_sum_3 ?_
  refine X_lload dX8_sum_4 rfl ?_
  refine X_lload_n dX8_sum_6 rfl ?_
  refine X_lload dX8_sum_7 rfl ?_
  refine X_lxor dX8_sum_9 ?_
  refine X_land dX8_sum_10 ?_
  refine X_lor dX8_sum_11 ?_
  refine X_lstore dX8_sum_12 rfl rfl ?_
  refine X_lload_n dX8_sum_14 rfl ?_
  refine X_lload dX8_sum_15 rfl ?_
  refine X_land dX8_sum_17 ?_
  refine X_lload dX8_sum_18 rfl ?_
  refine X_lload_n dX8_sum_20 rfl ?_
  refine X_lload dX8_sum_21 rfl ?_
  refine X_lxor dX8_sum_23 ?_
  refine X_land dX8_sum_24 ?_
  refine X_lor dX8_sum_25 ?_
  refine X_lstore dX8_sum_26 rfl rfl ?_
  refine X_aload_n dX8_sum_28 rfl ?_
  refine X_lload_n dX8_sum_29 rfl ?_
  refine X_lload dX8_sum_30 rfl ?_
  refine X_lxor dX8_sum_32 ?_
  refine X_lload dX8_sum_33 rfl ?_
  refine X_lxor dX8_sum_35 ?_
  refine X_putJ dX8_sum_36 gf_X8_57 (Or.inl rfl) (by first | assumption | rfl) (by first | assumption | exact Nat.le_of_ble_eq_true rfl | omega) rfl ?_
  refine X_aload_n dX8_sum_39 rfl ?_
  refine X_lload_n dX8_sum_40 rfl ?_
  refine X_lload dX8_sum_41 rfl ?_
  refine X_lxor dX8_sum_43 ?_
  refine X_lload dX8_sum_44 rfl ?_
  refine X_lxor dX8_sum_46 ?_
  refine X_putJ dX8_sum_47 gf_X8_61 (Or.inl rfl) (by first | assumption | rfl) (by first | assumption | exact Nat.le_of_ble_eq_true rfl | omega) rfl ?_
  refine X_aload_n dX8_sum_50 rfl ?_
  refine X_lload dX8_sum_51 rfl ?_
  refine X_lload dX8_sum_53 rfl ?_
  refine X_lxor dX8_sum_55 ?_
  refine X_lload dX8_sum_56 rfl ?_
  refine X_lxor dX8_sum_58 ?_
  refine X_putJ dX8_sum_59 gf_X8_64 (Or.inl rfl) (by first | assumption | rfl) (by first | assumption | exact Nat.le_of_ble_eq_true rfl | omega) rfl ?_
  refine X_vret dX8_sum_62 rfl ⟨rfl, hQ _ (((Fr.sr (by simp)).tr (Fr.sr (by simp))).tr (Fr.sr (by simp))) ?_ ?_ ?_⟩
  · rw [sr_eq, up_ne (by decide), sr_eq, up_ne (by decide), sr_eq, up_eq]
  · rw [sr_eq, up_ne (by decide), sr_eq, up_eq]
  · rw [sr_eq, up_eq]
set_option maxRecDepth 20000 in
theorem c_lesser {Q : Mm → Prop} {k : Nat} {x1 x2 x4 y1 y2 y4 bb : Int64} (hb : bb = ((x4 ^^^ (-1)) &&& y4) ||| (((x4 ^^^ y4) ^^^ (-1)) &&& (((x2 ^^^ (-1)) &&& y2) ||| (((x2 ^^^ y2) ^^^ (-1)) &&& ((x1 ^^^ (-1)) &&& y1))))) (hk : IsRw k) (hQ : ∀ J', Fr [k] J J' → J' k 1 = (x1 &&& bb) ||| (y1 &&& (bb ^^^ (-1))) → J' k 2 = (x2 &&& bb) ||| (y2 &&& (bb ^^^ (-1))) → J' k 3 = (x4 &&& bb) ||| (y4 &&& (bb ^^^ (-1))) → Q (NC, I, J', layR sw)) : Y G d zX8_lesser [vr k, vl x1, vl x2, vl x4, vl y1, vl y2, vl y4] (NC, I, J, layR sw) 0 0 (qv Q) := by
  obtain ⟨hs, hs', hr, hkn⟩ := hk
  have hk0 : k < NC := by omega
  refine Y_of rfl rfl (Nat.le_of_ble_eq_true rfl) rfl ?_
  refine X_lload_n dX8_lesser_0 rfl ?_
  refine X_ldc2 dX8_lesser_1 kc_X8_78 ?_
  refine X_lxor dX8_lesser_4 ?_
  refine X_lload dX8_lesser_5 rfl ?_
  refine X_land dX8_lesser_7 ?_
  refine X_lstore dX8_lesser_8 rfl rfl ?_
  refine X_lload_n dX8_lesser_10 rfl ?_
  refine X_ldc2 dX8_lesser_11 kc_X8_78 ?_
  refine X_lxor dX8_lesser_14 ?_
  refine X_lload dX8_lesser_15 rfl ?_
  refine X_land dX8_lesser_17 ?_
  refine X_lload_n dX8_lesser_18 rfl ?_
  refine X_lload dX8_lesser_19 rfl ?_
  refine X_lxor dX8_lesser_21 ?_
  refine X_ldc2 dX8_lesser_22 kc_X8_78 ?_
  refine X_lxor dX8_lesser_25 ?_
  refine X_lload dX8_lesser_26 rfl ?_
  refine X_land dX8_lesser_28 ?_
  refine X_lor dX8_lesser_29 ?_
  refine X_lstore dX8_lesser_30 rfl rfl ?_
  refine X_lload dX8_lesser_32 rfl ?_
  refine X_ldc2 dX8_lesser_34 kc_X8_78 ?_
  refine X_lxor dX8_lesser_37 ?_
  refine X_lload dX8_lesser_38 rfl ?_
  refine X_land dX8_lesser_40 ?_
  refine X_lload dX8_lesser_41 rfl ?_
  refine X_lload dX8_lesser_43 rfl ?_
  refine X_lxor dX8_lesser_45 ?_
  refine X_ldc2 dX8_lesser_46 kc_X8_78 ?_
  refine X_lxor dX8_lesser_49 ?_
  refine X_lload dX8_lesser_50 rfl ?_
  refine X_land dX8_lesser_52 ?_
  refine X_lor dX8_lesser_53 ?_
  rw [← hb]
  refine X_lstore dX8_lesser_54 rfl rfl ?_
  refine X_aload_n dX8_lesser_56 rfl ?_
  refine X_lload_n dX8_lesser_57 rfl ?_
  refine X_lload dX8_lesser_58 rfl ?_
  refine X_land dX8_lesser_60 ?_
  refine X_lload dX8_lesser_61 rfl ?_
  refine X_lload dX8_lesser_63 rfl ?_
  refine X_ldc2 dX8_lesser_65 kc_X8_78 ?_
  refine X_lxor dX8_lesser_68 ?_
  refine X_land dX8_lesser_69 ?_
  refine X_lor dX8_lesser_70 ?_
  refine X_putJ dX8_lesser_71 gf_X8_57 (Or.inl rfl) (by first | assumption | rfl) (by first | assumption | exact Nat.le_of_ble_eq_true rfl | omega) rfl ?_
  refine X_aload_n dX8_lesser_74 rfl ?_
  refine X_lload_n dX8_lesser_75 rfl ?_
  refine X_lload dX8_lesser_76 rfl ?_
  refine X_land dX8_lesser_78 ?_
  refine X_lload dX8_lesser_79 rfl ?_
  refine X_lload dX8_lesser_81 rfl ?_
  refine X_ldc2 dX8_lesser_83 kc_X8_78 ?_
  refine X_lxor dX8_lesser_86 ?_
  refine X_land dX8_lesser_87 ?_
  refine X_lor dX8_lesser_88 ?_
  refine X_putJ dX8_lesser_89 gf_X8_61 (Or.inl rfl) (by first | assumption | rfl) (by first | assumption | exact Nat.le_of_ble_eq_true rfl | omega) rfl ?_
  refine X_aload_n dX8_lesser_92 rfl ?_
  refine X_lload dX8_lesser_93 rfl ?_
  refine X_lload dX8_lesser_95 rfl ?_
  refine X_land dX8_lesser_97 ?_
  refine X_lload dX8_lesser_98 rfl ?_
  refine X_lload dX8_lesser_100 rfl ?_
  refine X_ldc2 dX8_lesser_102 kc_X8_78 ?_
  refine X_lxor dX8_lesser_105 ?_
  refine X_land dX8_lesser_106 ?_
  refine X_lor dX8_lesser_107 ?_
  refine X_putJ dX8_lesser_108 gf_X8_64 (Or.inl rfl) (by first | assumption | rfl) (by first | assumption | exact Nat.le_of_ble_eq_true rfl | omega) rfl ?_
  refine X_vret dX8_lesser_111 rfl ⟨rfl, hQ _ (((Fr.sr (by simp)).tr (Fr.sr (by simp))).tr (Fr.sr (by simp))) ?_ ?_ ?_⟩
  · rw [sr_eq, up_ne (by decide), sr_eq, up_ne (by decide), sr_eq, up_eq]
  · rw [sr_eq, up_ne (by decide), sr_eq, up_eq]
  · rw [sr_eq, up_eq]
set_option maxRecDepth 20000 in
theorem c_makeOf {Q : Mm → Prop} {k a : Nat} {x1 x2 x4 y1 y2 y4 : Int64} {V U : Nat → Nat} (hd : 1 ≤ d) (ha : a = 99 ∨ iact a) (hk : IsRw k) (hx : BV x1 x2 x4 V) (hy : BV y1 y2 y4 U) (hV : ∀ j, V j < 8) (hU : ∀ j, U j < 8) (hQ : ∀ J', Fr [k] J J' → BV (J' k 1) (J' k 2) (J' k 3) (fun j => av a (V j) (U j)) → Q (NC, I, J', layR sw)) : Y G d zX8_makeOf [vr k, vi (enc a), vl x1, vl x2, vl x4, vl y1, vl y2, vl y4] (NC, I, J, layR sw) 0 0 (qv Q) := by
  have hkk := hk
  obtain ⟨hs, hs', hr, hkn⟩ := hkk
  have hk0 : k < NC := by omega
  refine Y_of rfl rfl (Nat.le_of_ble_eq_true rfl) rfl ?_
  refine X_iload_n dX8_makeOf_0 rfl ?_
  rcases ha with rfl | rfl | rfl | rfl | rfl
  · refine X_lookup (off := 169) (tgt := 170) dX8_makeOf_1 (by decide) (by decide) (by decide) ?_
    refine X_aload_n dX8_makeOf_170 rfl ?_
    refine X_lload_n dX8_makeOf_171 rfl ?_
    refine X_putJ dX8_makeOf_172 gf_X8_57 (Or.inl rfl) (by first | assumption | rfl) (by first | assumption | exact Nat.le_of_ble_eq_true rfl | omega) rfl ?_
    refine X_aload_n dX8_makeOf_175 rfl ?_
    refine X_lload dX8_makeOf_176 rfl ?_
    refine X_putJ dX8_makeOf_178 gf_X8_61 (Or.inl rfl) (by first | assumption | rfl) (by first | assumption | exact Nat.le_of_ble_eq_true rfl | omega) rfl ?_
    refine X_aload_n dX8_makeOf_181 rfl ?_
    refine X_lload dX8_makeOf_182 rfl ?_
    refine X_putJ dX8_makeOf_184 gf_X8_64 (Or.inl rfl) (by first | assumption | rfl) (by first | assumption | exact Nat.le_of_ble_eq_true rfl | omega) rfl ?_
    refine X_vret dX8_makeOf_187 rfl ⟨rfl, hQ _ (((Fr.sr (by simp)).tr (Fr.sr (by simp))).tr (Fr.sr (by simp))) (fun j hj => ?_)⟩
    rw [sr_eq, up_ne (by decide), sr_eq, up_ne (by decide), sr_eq, up_eq, up_ne (by decide), up_eq, up_eq]
    exact hx j hj
  · refine X_lookup (off := 43) (tgt := 44) dX8_makeOf_1 (by decide) (by decide) (by decide) ?_
    refine X_aload_n dX8_makeOf_44 rfl ?_
    refine X_lload_n dX8_makeOf_45 rfl ?_
    refine X_lload dX8_makeOf_46 rfl ?_
    refine X_lload dX8_makeOf_48 rfl ?_
    refine X_lload dX8_makeOf_50 rfl ?_
    refine X_lload dX8_makeOf_52 rfl ?_
    refine X_lload dX8_makeOf_54 rfl ?_
    refine X_lconst (v := 0) dX8_makeOf_56 (by decide) ?_
    refine X_cVv dX8_makeOf_57 ck_X8_74 rfl rfl (by first | assumption | rfl) (by first | assumption | exact Nat.le_of_ble_eq_true rfl | omega) (by omega) (Nat.le_of_ble_eq_true rfl) (c_sum hk (fun J' f j1 j2 j3 => ?_))
    refine X_goto (tgt := 187) dX8_makeOf_60 (by decide) ?_
    refine X_vret dX8_makeOf_187 rfl ⟨rfl, hQ J' f (fun j hj => ?_)⟩
    obtain ⟨a1, a2, a4⟩ := hx j hj
    obtain ⟨b1, b2, b4⟩ := hy j hj
    rw [j1, j2, j3]
    simp only [lb_xor, lb_and, lb_or, lb_0, a1, a2, a4, b1, b2, b4]
    exact tb_p (V j) (hV j) (U j) (hU j)
  · refine X_lookup (off := 62) (tgt := 63) dX8_makeOf_1 (by decide) (by decide) (by decide) ?_
    refine X_aload_n dX8_makeOf_63 rfl ?_
    refine X_lload_n dX8_makeOf_64 rfl ?_
    refine X_lload dX8_makeOf_65 rfl ?_
    refine X_lload dX8_makeOf_67 rfl ?_
    refine X_lload dX8_makeOf_69 rfl ?_
    refine X_ldc2 dX8_makeOf_71 kc_X8_78 ?_
    refine X_lxor dX8_makeOf_74 ?_
    refine X_lload dX8_makeOf_75 rfl ?_
    refine X_ldc2 dX8_makeOf_77 kc_X8_78 ?_
    refine X_lxor dX8_makeOf_80 ?_
    refine X_lload dX8_makeOf_81 rfl ?_
    refine X_ldc2 dX8_makeOf_83 kc_X8_78 ?_
    refine X_lxor dX8_makeOf_86 ?_
    refine X_ldc2 dX8_makeOf_87 kc_X8_78 ?_
    refine X_cVv dX8_makeOf_90 ck_X8_74 rfl rfl (by first | assumption | rfl) (by first | assumption | exact Nat.le_of_ble_eq_true rfl | omega) (by omega) (Nat.le_of_ble_eq_true rfl) (c_sum hk (fun J' f j1 j2 j3 => ?_))
    refine X_goto (tgt := 187) dX8_makeOf_93 (by decide) ?_
    refine X_vret dX8_makeOf_187 rfl ⟨rfl, hQ J' f (fun j hj => ?_)⟩
    obtain ⟨a1, a2, a4⟩ := hx j hj
    obtain ⟨b1, b2, b4⟩ := hy j hj
    rw [j1, j2, j3]
    simp only [lb_xor, lb_and, lb_or, lb_m1 j hj, a1, a2, a4, b1, b2, b4]
    exact tb_m (V j) (hV j) (U j) (hU j)
  · refine X_lookup (off := 95) (tgt := 96) dX8_makeOf_1 (by decide) (by decide) (by decide) ?_
    refine X_aload_n dX8_makeOf_96 rfl ?_
    refine X_lload_n dX8_makeOf_97 rfl ?_
    refine X_lload dX8_makeOf_98 rfl ?_
    refine X_land dX8_makeOf_100 ?_
    refine X_putJ dX8_makeOf_101 gf_X8_57 (Or.inl rfl) (by first | assumption | rfl) (by first | assumption | exact Nat.le_of_ble_eq_true rfl | omega) rfl ?_
    refine X_aload_n dX8_makeOf_104 rfl ?_
    refine X_lload dX8_makeOf_105 rfl ?_
    refine X_lload dX8_makeOf_107 rfl ?_
    refine X_land dX8_makeOf_109 ?_
    refine X_lload_n dX8_makeOf_110 rfl ?_
    refine X_lload dX8_makeOf_111 rfl ?_
    refine X_land dX8_makeOf_113 ?_
    refine X_lxor dX8_makeOf_114 ?_
    refine X_putJ dX8_makeOf_115 gf_X8_61 (Or.inl rfl) (by first | assumption | rfl) (by first | assumption | exact Nat.le_of_ble_eq_true rfl | omega) rfl ?_
    refine X_aload_n dX8_makeOf_118 rfl ?_
    refine X_lload dX8_makeOf_119 rfl ?_
    refine X_lload dX8_makeOf_121 rfl ?_
    refine X_land dX8_makeOf_123 ?_
    refine X_lload dX8_makeOf_124 rfl ?_
    refine X_lload dX8_makeOf_126 rfl ?_
    refine X_land dX8_makeOf_128 ?_
    refine X_lxor dX8_makeOf_129 ?_
    refine X_lload_n dX8_makeOf_130 rfl ?_
    refine X_lload dX8_makeOf_131 rfl ?_
    refine X_land dX8_makeOf_133 ?_
    refine X_lxor dX8_makeOf_134 ?_
    refine X_lload dX8_makeOf_135 rfl ?_
    refine X_lload dX8_makeOf_137 rfl ?_
    refine X_land dX8_makeOf_139 ?_
    refine X_lload_n dX8_makeOf_140 rfl ?_
    refine X_land dX8_makeOf_141 ?_
    refine X_lload dX8_makeOf_142 rfl ?_
    refine X_land dX8_makeOf_144 ?_
    refine X_lxor dX8_makeOf_145 ?_
    refine X_putJ dX8_makeOf_146 gf_X8_64 (Or.inl rfl) (by first | assumption | rfl) (by first | assumption | exact Nat.le_of_ble_eq_true rfl | omega) rfl ?_
    refine X_goto (tgt := 187) dX8_makeOf_149 (by decide) ?_
    refine X_vret dX8_makeOf_187 rfl ⟨rfl, hQ _ (((Fr.sr (by simp)).tr (Fr.sr (by simp))).tr (Fr.sr (by simp))) (fun j hj => ?_)⟩
    obtain ⟨a1, a2, a4⟩ := hx j hj
    obtain ⟨b1, b2, b4⟩ := hy j hj
    rw [sr_eq, up_ne (by decide), sr_eq, up_ne (by decide), sr_eq, up_eq, up_ne (by decide), up_eq, up_eq]
    simp only [lb_xor, lb_and, lb_or, a1, a2, a4, b1, b2, b4]
    exact tb_t (V j) (hV j) (U j) (hU j)
  · refine X_lookup (off := 151) (tgt := 152) dX8_makeOf_1 (by decide) (by decide) (by decide) ?_
    refine X_aload_n dX8_makeOf_152 rfl ?_
    refine X_lload_n dX8_makeOf_153 rfl ?_
    refine X_lload dX8_makeOf_154 rfl ?_
    refine X_lload dX8_makeOf_156 rfl ?_
    refine X_lload dX8_makeOf_158 rfl ?_
    refine X_lload dX8_makeOf_160 rfl ?_
    refine X_lload dX8_makeOf_162 rfl ?_
    refine X_cVv dX8_makeOf_164 ck_X8_80 rfl rfl (by first | assumption | rfl) (by first | assumption | exact Nat.le_of_ble_eq_true rfl | omega) (by omega) (Nat.le_of_ble_eq_true rfl) (c_lesser rfl hk (fun J' f j1 j2 j3 => ?_))
    refine X_goto (tgt := 187) dX8_makeOf_167 (by decide) ?_
    refine X_vret dX8_makeOf_187 rfl ⟨rfl, hQ J' f (fun j hj => ?_)⟩
    obtain ⟨a1, a2, a4⟩ := hx j hj
    obtain ⟨b1, b2, b4⟩ := hy j hj
    rw [j1, j2, j3]
    simp only [lb_xor, lb_and, lb_or, lb_m1 j hj, a1, a2, a4, b1, b2, b4]
    exact tb_l (V j) (hV j) (U j) (hU j)
set_option maxRecDepth 20000 in
theorem c_make {Q : Mm → Prop} {k a v w : Nat} {T : Nat → Nat → Nat} (hd : 3 ≤ d) (ha : a = 99 ∨ iact a) (hk : IsRw k) (hv : opd v ∨ v = 99) (hw : opd w ∨ w = 99) (hB : BR J k T) (h8 : ∀ j, R8 (T j)) (hQ : ∀ J', Fr [k] J J' → BV (J' k 1) (J' k 2) (J' k 3) (fun j => av a (opv (T j) v) (opv (T j) w)) → Q (NC, I, J', layR sw)) : Y G d zX8_make [vr k, vi (enc a), vi (enc v), vi (enc w)] (NC, I, J, layR sw) 0 0 (qv Q) := by
  have hkk := hk
  obtain ⟨hs, hs', hr, hkn⟩ := hkk
  have hk0 : k < NC := by omega
  refine Y_of rfl rfl (Nat.le_of_ble_eq_true rfl) rfl ?_
  refine X_aload_n dX8_make_0 rfl ?_
  refine X_iload_n dX8_make_1 rfl ?_
  refine X_aload_n dX8_make_2 rfl ?_
  refine X_iload_n dX8_make_3 rfl ?_
  refine X_iconst (v := nI 0) dX8_make_4 (by decide) ?_
  refine X_cVlw dX8_make_5 ck_X8_49 lk_bit (by decide) rfl rfl (by first | assumption | rfl) (by first | assumption | exact Nat.le_of_ble_eq_true rfl | omega) (by omega) (Nat.le_of_ble_eq_true rfl) (c_bit (by omega) hk hv (by decide) hB (fun x1 h1 => ?_))
  refine X_aload_n dX8_make_8 rfl ?_
  refine X_iload_n dX8_make_9 rfl ?_
  refine X_iconst (v := nI 1) dX8_make_10 (by decide) ?_
  refine X_cVlw dX8_make_11 ck_X8_49 lk_bit (by decide) rfl rfl (by first | assumption | rfl) (by first | assumption | exact Nat.le_of_ble_eq_true rfl | omega) (by omega) (Nat.le_of_ble_eq_true rfl) (c_bit (by omega) hk hv (by decide) hB (fun x2 h2 => ?_))
  refine X_aload_n dX8_make_14 rfl ?_
  refine X_iload_n dX8_make_15 rfl ?_
  refine X_iconst (v := nI 2) dX8_make_16 (by decide) ?_
  refine X_cVlw dX8_make_17 ck_X8_49 lk_bit (by decide) rfl rfl (by first | assumption | rfl) (by first | assumption | exact Nat.le_of_ble_eq_true rfl | omega) (by omega) (Nat.le_of_ble_eq_true rfl) (c_bit (by omega) hk hv (by decide) hB (fun x4 h4 => ?_))
  refine X_aload_n dX8_make_20 rfl ?_
  refine X_iload_n dX8_make_21 rfl ?_
  refine X_iconst (v := nI 0) dX8_make_22 (by decide) ?_
  refine X_cVlw dX8_make_23 ck_X8_49 lk_bit (by decide) rfl rfl (by first | assumption | rfl) (by first | assumption | exact Nat.le_of_ble_eq_true rfl | omega) (by omega) (Nat.le_of_ble_eq_true rfl) (c_bit (by omega) hk hw (by decide) hB (fun y1 g1 => ?_))
  refine X_aload_n dX8_make_26 rfl ?_
  refine X_iload_n dX8_make_27 rfl ?_
  refine X_iconst (v := nI 1) dX8_make_28 (by decide) ?_
  refine X_cVlw dX8_make_29 ck_X8_49 lk_bit (by decide) rfl rfl (by first | assumption | rfl) (by first | assumption | exact Nat.le_of_ble_eq_true rfl | omega) (by omega) (Nat.le_of_ble_eq_true rfl) (c_bit (by omega) hk hw (by decide) hB (fun y2 g2 => ?_))
  refine X_aload_n dX8_make_32 rfl ?_
  refine X_iload_n dX8_make_33 rfl ?_
  refine X_iconst (v := nI 2) dX8_make_34 (by decide) ?_
  refine X_cVlw dX8_make_35 ck_X8_49 lk_bit (by decide) rfl rfl (by first | assumption | rfl) (by first | assumption | exact Nat.le_of_ble_eq_true rfl | omega) (by omega) (Nat.le_of_ble_eq_true rfl) (c_bit (by omega) hk hw (by decide) hB (fun y4 g4 => ?_))
  refine X_cVv dX8_make_38 ck_X8_53 rfl rfl (by first | assumption | rfl) (by first | assumption | exact Nat.le_of_ble_eq_true rfl | omega) (by omega) (Nat.le_of_ble_eq_true rfl) (c_makeOf (V := fun j => opv (T j) v) (U := fun j => opv (T j) w) (by omega) ha hk (fun j hj => ⟨h1 j hj, h2 j hj, h4 j hj⟩) (fun j hj => ⟨g1 j hj, g2 j hj, g4 j hj⟩) (fun j => opv_lt (h8 j) hv) (fun j => opv_lt (h8 j) hw) (fun J' f hb => ?_))
  exact X_vret dX8_make_41 rfl ⟨rfl, hQ J' f hb⟩
theorem ix3 {t r m : Nat} (hm : m < 3) : (r * 3 + m = t * 3 ↔ r = t ∧ m = 0) ∧ (r * 3 + m = t * 3 + 1 ↔ r = t ∧ m = 1) ∧ (r * 3 + m = t * 3 + 2 ↔ r = t ∧ m = 2) := by omega
set_option maxRecDepth 20000 in
theorem c_storeMade {Q : Mm → Prop} {k q t : Nat} {T : Nat → Nat → Nat} {V : Nat → Nat} (hk : IsRw k) (hq : IsRw q) (hkq : k ≠ q + 1) (ht : t < 4) (hB : BR J q T) (hV : BV (J k 1) (J k 2) (J k 3) V) (hQ : ∀ J', Fr [q + 1] J J' → BR J' q (fun j => up (T j) t (V j)) → Q (NC, I, J', layR sw)) : Y G d zX8_storeMade [vr k, vi (nI t), vr q] (NC, I, J, layR sw) 0 0 (qv Q) := by
  obtain ⟨hs, hs', hr, hkn⟩ := hk
  obtain ⟨ps, ps', pr, pkn⟩ := hq
  have pr := pr sw
  have hk0 : k < NC := by omega
  have pk0 : q < NC := by omega
  refine Y_of rfl rfl (Nat.le_of_ble_eq_true rfl) rfl ?_
  refine X_aload_n dX8_storeMade_0 rfl ?_
  refine X_getR dX8_storeMade_1 gf_X8_11 (by first | assumption | rfl) (by first | assumption | exact Nat.le_of_ble_eq_true rfl | omega) rfl (by first | assumption | rfl) ?_
  refine X_iload_n dX8_storeMade_4 rfl ?_
  refine X_iconst (v := nI 3) dX8_storeMade_5 (by decide) ?_
  first | refine X_imulN dX8_storeMade_6 ?_ | refine X_imul dX8_storeMade_6 ?_
  refine X_aload_n dX8_storeMade_7 rfl ?_
  refine X_getJ dX8_storeMade_8 gf_X8_57 (by first | assumption | rfl) (by first | assumption | exact Nat.le_of_ble_eq_true rfl | omega) rfl ?_
  refine X_last dX8_storeMade_11 (by first | assumption | rfl) (by first | assumption | exact Nat.le_of_ble_eq_true rfl | omega) rfl (by first | decide | omega) (by decide) ?_
  refine X_aload_n dX8_storeMade_12 rfl ?_
  refine X_getR dX8_storeMade_13 gf_X8_11 (by first | assumption | rfl) (by first | assumption | exact Nat.le_of_ble_eq_true rfl | omega) rfl (by first | assumption | rfl) ?_
  refine X_iload_n dX8_storeMade_16 rfl ?_
  refine X_iconst (v := nI 3) dX8_storeMade_17 (by decide) ?_
  first | refine X_imulN dX8_storeMade_18 ?_ | refine X_imul dX8_storeMade_18 ?_
  refine X_iconst (v := nI 1) dX8_storeMade_19 (by decide) ?_
  first | refine X_iaddN dX8_storeMade_20 ?_ | refine X_iadd dX8_storeMade_20 ?_
  refine X_aload_n dX8_storeMade_21 rfl ?_
  refine X_getJ dX8_storeMade_22 gf_X8_61 (by first | assumption | rfl) (by first | assumption | exact Nat.le_of_ble_eq_true rfl | omega) rfl ?_
  rw [sr_ne hkq]
  refine X_last dX8_storeMade_25 (by first | assumption | rfl) (by first | assumption | exact Nat.le_of_ble_eq_true rfl | omega) rfl (by first | decide | omega) (by decide) ?_
  refine X_aload_n dX8_storeMade_26 rfl ?_
  refine X_getR dX8_storeMade_27 gf_X8_11 (by first | assumption | rfl) (by first | assumption | exact Nat.le_of_ble_eq_true rfl | omega) rfl (by first | assumption | rfl) ?_
  refine X_iload_n dX8_storeMade_30 rfl ?_
  refine X_iconst (v := nI 3) dX8_storeMade_31 (by decide) ?_
  first | refine X_imulN dX8_storeMade_32 ?_ | refine X_imul dX8_storeMade_32 ?_
  refine X_iconst (v := nI 2) dX8_storeMade_33 (by decide) ?_
  first | refine X_iaddN dX8_storeMade_34 ?_ | refine X_iadd dX8_storeMade_34 ?_
  refine X_aload_n dX8_storeMade_35 rfl ?_
  refine X_getJ dX8_storeMade_36 gf_X8_64 (by first | assumption | rfl) (by first | assumption | exact Nat.le_of_ble_eq_true rfl | omega) rfl ?_
  rw [sr_ne hkq, sr_ne hkq]
  refine X_last dX8_storeMade_39 (by first | assumption | rfl) (by first | assumption | exact Nat.le_of_ble_eq_true rfl | omega) rfl (by first | decide | omega) (by decide) ?_
  refine X_vret dX8_storeMade_40 rfl ⟨rfl, hQ _ (((Fr.sr (by simp)).tr (Fr.sr (by simp))).tr (Fr.sr (by simp))) (fun r hr m hm j hj => ?_)⟩
  obtain ⟨v1, v2, v3⟩ := hV j hj
  obtain ⟨i1, i2, i3⟩ := ix3 (t := t) (r := r) hm
  rw [sr_eq, sr_eq, sr_eq]
  show _ = (up (T j) t (V j) r).testBit m
  by_cases hrt : r = t
  · subst hrt
    rw [show up (T j) r (V j) r = V j from up_eq]
    rcases (by omega : m = 0 ∨ m = 1 ∨ m = 2) with rfl | rfl | rfl
    · rw [up_ne (by omega), up_ne (by omega), show r * 3 + 0 = r * 3 from rfl, up_eq]; exact v1
    · rw [up_ne (by omega), up_eq]; exact v2
    · rw [up_eq]; exact v3
  · rw [up_ne (fun z => hrt (i3.mp z).1), up_ne (fun z => hrt (i2.mp z).1), up_ne (fun z => hrt (i1.mp z).1), up_ne hrt]
    exact hB r hr m hm j hj
set_option maxRecDepth 20000 in
theorem c_perform {Q : Mm → Prop} {k p : Nat} {T : Nat → Nat → Nat} (hd : 4 ≤ d) (hk : IsRw k) (hp : IsCd p) (hc : CR I p n c) (hv : VC n c) (hB : BR J k T) (h8 : ∀ j, R8 (T j)) (hQ : ∀ J', Fr [k, k + 1] J J' → BR J' k (fun j => rn c (T j) n) → Q (NC, I, J', layR sw)) : Y G d zX8_perform [vr k, vr p] (NC, I, J, layR sw) 0 0 (qv Q) := by
  have hn := hv.1
  have hkk := hk
  obtain ⟨hs, hs', hr, hkn⟩ := hkk
  have hpp := hp
  obtain ⟨ps, ps', pr, pkn⟩ := hpp
  have hk0 : k < NC := by omega
  have hp0 : p < NC := by omega
  have loop : ∀ (m i : Nat) (J' : Nat → Nat → Int64), m = n - i → i ≤ n → Fr [k, k + 1] J J' → BR J' k (fun j => rn c (T j) i) → X G d zX8_perform 2 [(0, vr k), (1, vr p), (2, vi (nI i))] [] (NC, I, J', layR sw) 0 0 (qv Q) := by
    intro m
    induction m with
    | zero =>
      intro i J' hm hi hF hB
      obtain rfl : i = n := by omega
      refine X_iload_n dX8_perform_2 rfl ?_
      refine X_aload_n dX8_perform_3 rfl ?_
      refine X_getI dX8_perform_4 gf_X8_27 (by first | assumption | rfl) (by first | assumption | exact Nat.le_of_ble_eq_true rfl | omega) rfl ?_
      rw [hc.1]
      refine X_icmp_ge (tgt := 48) dX8_perform_7 (by decide) (fun b => ?_) (fun b => ?_)
      · exact X_vret dX8_perform_48 rfl ⟨rfl, hQ J' hF hB⟩
      · exact absurd (Int32.le_refl _) b
    | succ m ih =>
      intro i J' hm hi hF hB
      have hin : i < n := by omega
      have hvs := hv.2 i hin
      refine X_iload_n dX8_perform_2 rfl ?_
      refine X_aload_n dX8_perform_3 rfl ?_
      refine X_getI dX8_perform_4 gf_X8_27 (by first | assumption | rfl) (by first | assumption | exact Nat.le_of_ble_eq_true rfl | omega) rfl ?_
      rw [hc.1]
      refine X_icmp_ge (tgt := 48) dX8_perform_7 (by decide) (fun b => ?_) (fun b => ?_)
      · exact absurd ((nle (by omega) (by omega)).mp b) (by omega)
      refine X_aload_n dX8_perform_10 rfl ?_
      refine X_aload_n dX8_perform_11 rfl ?_
      refine X_iload_n dX8_perform_12 rfl ?_
      refine X_iconst (v := nI 1) dX8_perform_13 (by decide) ?_
      refine X_cVi dX8_perform_14 ck_X8_33 rfl rfl (by first | assumption | rfl) (by first | assumption | exact Nat.le_of_ble_eq_true rfl | omega) (by omega) (Nat.le_of_ble_eq_true rfl) (c_part hp hc.1 hn hin (by decide) ?_)
      rw [hc.2 i hin 1 (by decide)]
      refine X_aload_n dX8_perform_17 rfl ?_
      refine X_iload_n dX8_perform_18 rfl ?_
      refine X_iconst (v := nI 2) dX8_perform_19 (by decide) ?_
      refine X_cVi dX8_perform_20 ck_X8_33 rfl rfl (by first | assumption | rfl) (by first | assumption | exact Nat.le_of_ble_eq_true rfl | omega) (by omega) (Nat.le_of_ble_eq_true rfl) (c_part hp hc.1 hn hin (by decide) ?_)
      rw [hc.2 i hin 2 (by decide)]
      refine X_aload_n dX8_perform_23 rfl ?_
      refine X_iload_n dX8_perform_24 rfl ?_
      refine X_iconst (v := nI 3) dX8_perform_25 (by decide) ?_
      refine X_cVi dX8_perform_26 ck_X8_33 rfl rfl (by first | assumption | rfl) (by first | assumption | exact Nat.le_of_ble_eq_true rfl | omega) (by omega) (Nat.le_of_ble_eq_true rfl) (c_part hp hc.1 hn hin (by decide) ?_)
      rw [hc.2 i hin 3 (by decide)]
      refine X_cVv dX8_perform_29 ck_X8_37 rfl rfl (by first | assumption | rfl) (by first | assumption | exact Nat.le_of_ble_eq_true rfl | omega) (by omega) (Nat.le_of_ble_eq_true rfl) (c_make (by omega) (hvs.2.2.elim (fun q => Or.inl q.1) (fun q => Or.inr q.1)) hk (VS_o2 hvs) (VS_o3 hvs) hB (fun j => rn8 hv (h8 j) i (by omega)) (fun J2 f2 hb => ?_))
      refine X_aload_n dX8_perform_32 rfl ?_
      refine X_aload_n dX8_perform_33 rfl ?_
      refine X_iload_n dX8_perform_34 rfl ?_
      refine X_cVi dX8_perform_35 ck_X8_41 rfl rfl (by first | assumption | rfl) (by first | assumption | exact Nat.le_of_ble_eq_true rfl | omega) (by omega) (Nat.le_of_ble_eq_true rfl) (c_tgt (by omega) hp hc hv hin ?_)
      refine X_aload_n dX8_perform_38 rfl ?_
      refine X_cVv dX8_perform_39 ck_X8_45 rfl rfl (by first | assumption | rfl) (by first | assumption | exact Nat.le_of_ble_eq_true rfl | omega) (by omega) (Nat.le_of_ble_eq_true rfl) (c_storeMade hk hk (by omega) hvs.1 (T := fun j => rn c (T j) i) (fun r hr m hm j hj => by rw [f2 (k + 1) (by simp)]; exact hB r hr m hm j hj) hb (fun J3 f3 hb3 => ?_))
      first | refine X_iinc1 dX8_perform_42 rfl rfl rfl ?_ | refine X_iinc dX8_perform_42 rfl rfl rfl rfl ?_
      refine X_goto (tgt := 2) dX8_perform_45 (by decide) ?_
      exact ih (i + 1) J3 (by omega) (by omega) ((hF.tr (f2.sub (by simp))).tr (f3.sub (by simp))) hb3
  refine Y_of rfl rfl (Nat.le_of_ble_eq_true rfl) rfl ?_
  refine X_iconst (v := nI 0) dX8_perform_0 (by decide) ?_
  refine X_istore_n dX8_perform_1 rfl rfl ?_
  exact loop n 0 J rfl (Nat.zero_le n) Fr.rf hB
end CB
