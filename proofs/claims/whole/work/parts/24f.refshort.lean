/-! shortest: the reference -/
theorem Tn_is : ∀ k, k < 52 → Tn k / 1000 = kto k ∧ Tn k / 100 % 10 = kwh k ∧ Tn k / 10 % 10 = ko1 k ∧ Tn k % 10 = ko2 k ∧ Tn k < 2000 := by decide +kernel
theorem k_lt : ∀ k, k < 52 → kto k < 2 ∧ kwh k < 6 ∧ ko1 k < 2 ∧ ko2 k < 3 := by decide +kernel
theorem and2 : ∀ W, W < 16 → W &&& 2 = if W.testBit 1 = true then 2 else 0 := by decide +kernel
theorem and1 (W : Nat) : W &&& 1 = if W.testBit 0 = true then 1 else 0 := by
  have := bit_mod W 0
  rw [Nat.pow_zero, Nat.div_one] at this
  rw [Nat.and_one_is_mod, this]
theorem or4 {a b : Nat} : a ||| b < 4 ↔ a < 4 ∧ b < 4 := ⟨fun h => ⟨Nat.lt_of_le_of_lt Nat.left_le_or h, Nat.lt_of_le_of_lt Nat.right_le_or h⟩, fun h => Nat.or_lt_two_pow (n := 2) h.1 h.2⟩
theorem rb4 {v : Nat} : rb v < 4 ↔ ¬ (v = 2 ∨ v = 3) := by
  unfold rb
  by_cases h : v < 4
  · rw [if_pos h]
    rcases (by omega : v = 0 ∨ v = 1 ∨ v = 2 ∨ v = 3) with rfl | rfl | rfl | rfl <;> decide
  · rw [if_neg h]
    constructor
    · intro _; omega
    · intro _; decide
theorem pw4 {t : Nat} (ht : t < 4) : 2 ^ t < 4 ↔ t < 2 := by
  rcases (by omega : t = 0 ∨ t = 1 ∨ t = 2 ∨ t = 3) with rfl | rfl | rfl | rfl <;> decide
section RT
variable {G : GG} {d : Nat} {sw : Bool} {I : Nat → Nat → Int32} {J : Nat → Nat → Int64} {s : SS} {W n : Nat} {c : Nat → Nat → Nat}
theorem m_digitOf {Q : Int32 → Mm → Prop} {M : Mm} {v r : Nat} (hv : v < 64) (hr : r < 10) (hQ : Q (nI (dg v r)) M) : Y G d zX12_digitOf [vi (nI v), vi (nI r)] M 0 0 (qi Q) := by
  unfold dg at hQ
  refine Y_of rfl rfl (Nat.le_of_ble_eq_true rfl) rfl ?_
  refine X_iload_n dX12_digitOf_0 rfl ?_
  by_cases h : r = 0
  · rw [if_pos h] at hQ
    refine X_if_ne (tgt := 11) dX12_digitOf_1 (by decide) (fun b => ?_) (fun b => ?_)
    · exact absurd (by rw [h]; rfl) b
    refine X_iload_n dX12_digitOf_4 rfl ?_
    refine X_bipush (v := nI 8) dX12_digitOf_5 (by decide) ?_
    refine X_idiv dX12_digitOf_7 (by decide) ?_
    rw [pk_div (by omega) (by decide) (by decide)]
    refine X_goto (tgt := 15) dX12_digitOf_8 (by decide) ?_
    exact X_iret dX12_digitOf_15 rfl ⟨_, rfl, hQ⟩
  · rw [if_neg h] at hQ
    refine X_if_ne (tgt := 11) dX12_digitOf_1 (by decide) (fun b => ?_) (fun b => ?_)
    · refine X_iload_n dX12_digitOf_11 rfl ?_
      refine X_bipush (v := nI 8) dX12_digitOf_12 (by decide) ?_
      refine X_irem dX12_digitOf_14 (by decide) ?_
      rw [pk_rem (by omega) (by decide) (by decide)]
      exact X_iret dX12_digitOf_15 rfl ⟨_, rfl, hQ⟩
    · exact absurd ((neq (b := 0) (by omega) (by decide)).mp b) h
theorem m_signOf {Q : Int32 → Mm → Prop} {M : Mm} {w : Nat} (hw : w < 6) (hQ : Q (nI (sgn w)) M) : Y G d zX12_signOf [vi (nI w)] M 0 0 (qi Q) := by
  unfold sgn at hQ
  refine Y_of rfl rfl (Nat.le_of_ble_eq_true rfl) rfl ?_
  refine X_iload_n dX12_signOf_0 rfl ?_
  refine X_iconst (v := nI 2) dX12_signOf_1 (by decide) ?_
  by_cases h2 : w = 2
  · rw [if_pos h2] at hQ
    refine X_icmp_ne (tgt := 10) dX12_signOf_2 (by decide) (fun b => ?_) (fun b => ?_)
    · exact absurd (by rw [h2]) b
    refine X_bipush (v := nI 43) dX12_signOf_5 (by decide) ?_
    refine X_goto (tgt := 32) dX12_signOf_7 (by decide) ?_
    exact X_iret dX12_signOf_32 rfl ⟨_, rfl, hQ⟩
  rw [if_neg h2] at hQ
  refine X_icmp_ne (tgt := 10) dX12_signOf_2 (by decide) (fun b => ?_) (fun b => ?_)
  · refine X_iload_n dX12_signOf_10 rfl ?_
    refine X_iconst (v := nI 3) dX12_signOf_11 (by decide) ?_
    by_cases h3 : w = 3
    · rw [if_pos h3] at hQ
      refine X_icmp_ne (tgt := 20) dX12_signOf_12 (by decide) (fun b12 => ?_) (fun b12 => ?_)
      · exact absurd (by rw [h3]) b12
      refine X_bipush (v := nI 45) dX12_signOf_15 (by decide) ?_
      refine X_goto (tgt := 32) dX12_signOf_17 (by decide) ?_
      exact X_iret dX12_signOf_32 rfl ⟨_, rfl, hQ⟩
    rw [if_neg h3] at hQ
    refine X_icmp_ne (tgt := 20) dX12_signOf_12 (by decide) (fun b12 => ?_) (fun b12 => ?_)
    · refine X_iload_n dX12_signOf_20 rfl ?_
      refine X_iconst (v := nI 4) dX12_signOf_21 (by decide) ?_
      by_cases h4 : w = 4
      · rw [if_pos h4] at hQ
        refine X_icmp_ne (tgt := 30) dX12_signOf_22 (by decide) (fun b22 => ?_) (fun b22 => ?_)
        · exact absurd (by rw [h4]) b22
        refine X_bipush (v := nI 42) dX12_signOf_25 (by decide) ?_
        refine X_goto (tgt := 32) dX12_signOf_27 (by decide) ?_
        exact X_iret dX12_signOf_32 rfl ⟨_, rfl, hQ⟩
      rw [if_neg h4] at hQ
      refine X_icmp_ne (tgt := 30) dX12_signOf_22 (by decide) (fun b22 => ?_) (fun b22 => ?_)
      · refine X_bipush (v := nI 109) dX12_signOf_30 (by decide) ?_
        exact X_iret dX12_signOf_32 rfl ⟨_, rfl, hQ⟩
      · exact absurd ((neq (by omega) (by omega)).mp b22) h4
    · exact absurd ((neq (by omega) (by omega)).mp b12) h3
  · exact absurd ((neq (by omega) (by omega)).mp b) h2
set_option maxRecDepth 20000 in
theorem m_tried {Q : Int32 → Mm → Prop} {M : Mm} {k : Nat} (hk : k < 52) (hQ : Q (nI (Tn k)) M) : Y G d zX12_tried [vi (nI k)] M 0 0 (qi Q) := by
  unfold Tn kto kwh ko1 ko2 at hQ
  refine Y_of rfl rfl (Nat.le_of_ble_eq_true rfl) rfl ?_
  refine X_iload_n dX12_tried_0 rfl ?_
  refine X_bipush (v := nI 26) dX12_tried_1 (by decide) ?_
  refine X_idiv dX12_tried_3 (by decide) ?_
  rw [pk_div (by omega) (by decide) (by decide)]
  refine X_istore_n dX12_tried_4 rfl rfl ?_
  refine X_iload_n dX12_tried_5 rfl ?_
  refine X_bipush (v := nI 26) dX12_tried_6 (by decide) ?_
  refine X_irem dX12_tried_8 (by decide) ?_
  rw [pk_rem (by omega) (by decide) (by decide)]
  refine X_istore_n dX12_tried_9 rfl rfl ?_
  refine X_iload_n dX12_tried_10 rfl ?_
  refine X_iconst (v := nI 2) dX12_tried_11 (by decide) ?_
  by_cases h : k % 26 < 2
  · rw [if_pos h, if_pos h, if_pos h] at hQ
    refine X_icmp_ge (tgt := 42) dX12_tried_12 (by decide) (fun b => ?_) (fun b => ?_)
    · exact absurd ((nle (by omega) (by omega)).mp b) (by omega)
    refine X_sipush (v := nI 1000) dX12_tried_15 (by decide) ?_
    refine X_iload_n dX12_tried_18 rfl ?_
    first | refine X_imulN dX12_tried_19 ?_ | refine X_imul dX12_tried_19 ?_
    refine X_bipush (v := nI 100) dX12_tried_20 (by decide) ?_
    refine X_iload_n dX12_tried_22 rfl ?_
    first | refine X_imulN dX12_tried_23 ?_ | refine X_imul dX12_tried_23 ?_
    first | refine X_iaddN dX12_tried_24 ?_ | refine X_iadd dX12_tried_24 ?_
    refine X_iload_n dX12_tried_25 rfl ?_
    refine X_iconst (v := nI 1) dX12_tried_26 (by decide) ?_
    by_cases h1 : k % 26 = 1
    · rw [if_pos h1] at hQ
      refine X_icmp_ne (tgt := 39) dX12_tried_27 (by decide) (fun b27 => ?_) (fun b27 => ?_)
      · exact absurd (by rw [h1]) b27
      refine X_bipush (v := nI 10) dX12_tried_30 (by decide) ?_
      refine X_iconst (v := nI 1) dX12_tried_32 (by decide) ?_
      refine X_iload_n dX12_tried_33 rfl ?_
      first | refine X_isubN dX12_tried_34 (by omega) ?_ | refine X_isub dX12_tried_34 ?_
      first | refine X_imulN dX12_tried_35 ?_ | refine X_imul dX12_tried_35 ?_
      refine X_goto (tgt := 40) dX12_tried_36 (by decide) ?_
      first | refine X_iaddN dX12_tried_40 ?_ | refine X_iadd dX12_tried_40 ?_
      exact X_iret dX12_tried_41 rfl ⟨_, rfl, hQ⟩
    · rw [if_neg h1] at hQ
      refine X_icmp_ne (tgt := 39) dX12_tried_27 (by decide) (fun b27 => ?_) (fun b27 => ?_)
      · refine X_iconst (v := nI 0) dX12_tried_39 (by decide) ?_
        first | refine X_iaddN dX12_tried_40 ?_ | refine X_iadd dX12_tried_40 ?_
        exact X_iret dX12_tried_41 rfl ⟨_, rfl, hQ⟩
      · exact absurd ((neq (by omega) (by omega)).mp b27) h1
  · rw [if_neg h, if_neg h, if_neg h] at hQ
    refine X_icmp_ge (tgt := 42) dX12_tried_12 (by decide) (fun b => ?_) (fun b => ?_)
    · refine X_iload_n dX12_tried_42 rfl ?_
      refine X_iconst (v := nI 2) dX12_tried_43 (by decide) ?_
      first | refine X_isubN dX12_tried_44 (by omega) ?_ | refine X_isub dX12_tried_44 ?_
      refine X_istore_n dX12_tried_45 rfl rfl ?_
      refine X_sipush (v := nI 1000) dX12_tried_46 (by decide) ?_
      refine X_iload_n dX12_tried_49 rfl ?_
      first | refine X_imulN dX12_tried_50 ?_ | refine X_imul dX12_tried_50 ?_
      refine X_bipush (v := nI 100) dX12_tried_51 (by decide) ?_
      refine X_iconst (v := nI 2) dX12_tried_53 (by decide) ?_
      refine X_iload_n dX12_tried_54 rfl ?_
      refine X_bipush (v := nI 6) dX12_tried_55 (by decide) ?_
      refine X_idiv dX12_tried_57 (by decide) ?_
      rw [pk_div (by omega) (by decide) (by decide)]
      first | refine X_iaddN dX12_tried_58 ?_ | refine X_iadd dX12_tried_58 ?_
      first | refine X_imulN dX12_tried_59 ?_ | refine X_imul dX12_tried_59 ?_
      first | refine X_iaddN dX12_tried_60 ?_ | refine X_iadd dX12_tried_60 ?_
      refine X_bipush (v := nI 10) dX12_tried_61 (by decide) ?_
      refine X_iload_n dX12_tried_63 rfl ?_
      refine X_iconst (v := nI 3) dX12_tried_64 (by decide) ?_
      refine X_idiv dX12_tried_65 (by decide) ?_
      rw [pk_div (by omega) (by decide) (by decide)]
      refine X_iconst (v := nI 2) dX12_tried_66 (by decide) ?_
      refine X_irem dX12_tried_67 (by decide) ?_
      rw [pk_rem (by omega) (by decide) (by decide)]
      first | refine X_imulN dX12_tried_68 ?_ | refine X_imul dX12_tried_68 ?_
      first | refine X_iaddN dX12_tried_69 ?_ | refine X_iadd dX12_tried_69 ?_
      refine X_iload_n dX12_tried_70 rfl ?_
      refine X_iconst (v := nI 3) dX12_tried_71 (by decide) ?_
      refine X_irem dX12_tried_72 (by decide) ?_
      rw [pk_rem (by omega) (by decide) (by decide)]
      first | refine X_iaddN dX12_tried_73 ?_ | refine X_iadd dX12_tried_73 ?_
      exact X_iret dX12_tried_74 rfl ⟨_, rfl, hQ⟩
    · exact absurd ((nle (by omega) (by omega)).mpr (by omega)) b
set_option maxRecDepth 20000 in
theorem m_doneSmall {Q : Int32 → Mm → Prop} {M : Mm} {k v : Nat} (hd : 1 ≤ d) (hk : k < 52) (hv : v < 64) (hQ : Q (nI (dsm k v)) M) : Y G d zX12_doneSmall [vi (nI v), vi (nI (Tn k))] M 0 0 (qi Q) := by
  obtain ⟨t1, t2, t3, t4, t5⟩ := Tn_is k hk
  obtain ⟨l1, l2, l3, l4⟩ := k_lt k hk
  have hkv := kval_lt (k := k) hv
  have t80 : ∀ x4 x5 x6, X G d zX12_doneSmall 80 [(0, vi (nI v)), (1, vi (nI (Tn k))), (2, vi (nI (kto k))), (3, vi (nI (kwh k))), (4, vi x4), (5, vi x5), (6, vi x6)] [vi (nI (kval k v))] M 0 0 (qi Q) := by
    intro x4 x5 x6
    unfold dsm at hQ
    refine X_istore dX12_doneSmall_80 rfl rfl ?_
    refine X_iload_n dX12_doneSmall_82 rfl ?_
    by_cases h : kto k = 0
    · rw [if_pos h] at hQ
      refine X_if_ne (tgt := 99) dX12_doneSmall_83 (by decide) (fun b => ?_) (fun b => ?_)
      · exact absurd (by rw [h]; rfl) b
      refine X_bipush (v := nI 8) dX12_doneSmall_86 (by decide) ?_
      refine X_iload dX12_doneSmall_88 rfl ?_
      first | refine X_imulN dX12_doneSmall_90 ?_ | refine X_imul dX12_doneSmall_90 ?_
      refine X_iload_n dX12_doneSmall_91 rfl ?_
      refine X_bipush (v := nI 8) dX12_doneSmall_92 (by decide) ?_
      refine X_irem dX12_doneSmall_94 (by decide) ?_
      rw [pk_rem (by omega) (by decide) (by decide)]
      first | refine X_iaddN dX12_doneSmall_95 ?_ | refine X_iadd dX12_doneSmall_95 ?_
      refine X_goto (tgt := 109) dX12_doneSmall_96 (by decide) ?_
      exact X_iret dX12_doneSmall_109 rfl ⟨_, rfl, hQ⟩
    · rw [if_neg h] at hQ
      refine X_if_ne (tgt := 99) dX12_doneSmall_83 (by decide) (fun b => ?_) (fun b => ?_)
      · refine X_iload_n dX12_doneSmall_99 rfl ?_
        refine X_bipush (v := nI 8) dX12_doneSmall_100 (by decide) ?_
        refine X_idiv dX12_doneSmall_102 (by decide) ?_
        rw [pk_div (by omega) (by decide) (by decide)]
        refine X_bipush (v := nI 8) dX12_doneSmall_103 (by decide) ?_
        first | refine X_imulN dX12_doneSmall_105 ?_ | refine X_imul dX12_doneSmall_105 ?_
        refine X_iload dX12_doneSmall_106 rfl ?_
        first | refine X_iaddN dX12_doneSmall_108 ?_ | refine X_iadd dX12_doneSmall_108 ?_
        exact X_iret dX12_doneSmall_109 rfl ⟨_, rfl, hQ⟩
      · exact absurd ((neq (b := 0) (by omega) (by decide)).mp b) h
  have t49 : ∀ y, (y = if ko2 k = 2 then 1 else dg v (ko2 k)) → ∀ x5, X G d zX12_doneSmall 49 [(0, vi (nI v)), (1, vi (nI (Tn k))), (2, vi (nI (kto k))), (3, vi (nI (kwh k))), (4, vi (nI (dg v (ko1 k)))), (5, vi x5)] [vi (nI y)] M 0 0 (qi Q) := by
    intro y hy x5
    have hy8 : y < 8 := by
      rw [hy]
      split
      · decide
      · exact dg_lt hv
    unfold kval at t80
    refine X_istore dX12_doneSmall_49 rfl rfl ?_
    refine X_iload_n dX12_doneSmall_51 rfl ?_
    by_cases h0 : kwh k = 0
    · rw [if_pos h0] at t80
      refine X_if_ne (tgt := 59) dX12_doneSmall_52 (by decide) (fun b => ?_) (fun b => ?_)
      · exact absurd (by rw [h0]; rfl) b
      refine X_iconst (v := nI 0) dX12_doneSmall_55 (by decide) ?_
      refine X_goto (tgt := 80) dX12_doneSmall_56 (by decide) ?_
      exact t80 _ _ _
    · rw [if_neg h0] at t80
      refine X_if_ne (tgt := 59) dX12_doneSmall_52 (by decide) (fun b => ?_) (fun b => ?_)
      · refine X_iload_n dX12_doneSmall_59 rfl ?_
        refine X_iconst (v := nI 1) dX12_doneSmall_60 (by decide) ?_
        by_cases h1 : kwh k = 1
        · rw [if_pos h1] at t80
          refine X_icmp_ne (tgt := 69) dX12_doneSmall_61 (by decide) (fun b61 => ?_) (fun b61 => ?_)
          · exact absurd (by rw [h1]) b61
          refine X_iload dX12_doneSmall_64 rfl ?_
          refine X_goto (tgt := 80) dX12_doneSmall_66 (by decide) ?_
          exact t80 _ _ _
        · rw [if_neg h1, ← hy] at t80
          refine X_icmp_ne (tgt := 69) dX12_doneSmall_61 (by decide) (fun b61 => ?_) (fun b61 => ?_)
          · refine X_iload_n dX12_doneSmall_69 rfl ?_
            refine X_cSi dX12_doneSmall_70 ck_X12_395 rfl rfl (by omega) (Nat.le_of_ble_eq_true rfl) (m_signOf l2 ?_)
            refine X_iload dX12_doneSmall_73 rfl ?_
            refine X_iload dX12_doneSmall_75 rfl ?_
            rw [← enc_n (v := sgn (kwh k)) (by unfold sgn; split; decide; split; decide; split <;> decide)]
            refine X_cSi dX12_doneSmall_77 ck_X12_195 rfl rfl (by omega) (Nat.le_of_ble_eq_true rfl) (m_acted (by unfold sgn iact; split; exact Or.inl rfl; split; exact Or.inr (Or.inl rfl); split; exact Or.inr (Or.inr (Or.inl rfl)); exact Or.inr (Or.inr (Or.inr rfl))) (dg_lt hv) hy8 ?_)
            exact t80 _ _ _
          · exact absurd ((neq (by omega) (by omega)).mp b61) h1
      · exact absurd ((neq (b := 0) (by omega) (by decide)).mp b) h0
  refine Y_of rfl rfl (Nat.le_of_ble_eq_true rfl) rfl ?_
  refine X_iload_n dX12_doneSmall_0 rfl ?_
  refine X_sipush (v := nI 1000) dX12_doneSmall_1 (by decide) ?_
  refine X_idiv dX12_doneSmall_4 (by decide) ?_
  rw [pk_div (by omega) (by decide) (by decide), t1]
  refine X_istore_n dX12_doneSmall_5 rfl rfl ?_
  refine X_iload_n dX12_doneSmall_6 rfl ?_
  refine X_bipush (v := nI 100) dX12_doneSmall_7 (by decide) ?_
  refine X_idiv dX12_doneSmall_9 (by decide) ?_
  rw [pk_div (by omega) (by decide) (by decide)]
  refine X_bipush (v := nI 10) dX12_doneSmall_10 (by decide) ?_
  refine X_irem dX12_doneSmall_12 (by decide) ?_
  rw [pk_rem (by omega) (by decide) (by decide), t2]
  refine X_istore_n dX12_doneSmall_13 rfl rfl ?_
  refine X_iload_n dX12_doneSmall_14 rfl ?_
  refine X_iload_n dX12_doneSmall_15 rfl ?_
  refine X_bipush (v := nI 10) dX12_doneSmall_16 (by decide) ?_
  refine X_idiv dX12_doneSmall_18 (by decide) ?_
  rw [pk_div (by omega) (by decide) (by decide)]
  refine X_bipush (v := nI 10) dX12_doneSmall_19 (by decide) ?_
  refine X_irem dX12_doneSmall_21 (by decide) ?_
  rw [pk_rem (by omega) (by decide) (by decide), t3]
  refine X_cSi dX12_doneSmall_22 ck_X12_392 rfl rfl (by omega) (Nat.le_of_ble_eq_true rfl) (m_digitOf hv (by omega) ?_)
  refine X_istore dX12_doneSmall_25 rfl rfl ?_
  refine X_iload_n dX12_doneSmall_27 rfl ?_
  refine X_bipush (v := nI 10) dX12_doneSmall_28 (by decide) ?_
  refine X_irem dX12_doneSmall_30 (by decide) ?_
  rw [pk_rem (by omega) (by decide) (by decide), t4]
  refine X_istore dX12_doneSmall_31 rfl rfl ?_
  refine X_iload dX12_doneSmall_33 rfl ?_
  refine X_iconst (v := nI 2) dX12_doneSmall_35 (by decide) ?_
  by_cases h2 : ko2 k = 2
  · refine X_icmp_ne (tgt := 43) dX12_doneSmall_36 (by decide) (fun b36 => ?_) (fun b36 => ?_)
    · exact absurd (by rw [h2]) b36
    refine X_iconst (v := nI 1) dX12_doneSmall_39 (by decide) ?_
    refine X_goto (tgt := 49) dX12_doneSmall_40 (by decide) ?_
    exact t49 1 (if_pos h2).symm _
  · refine X_icmp_ne (tgt := 43) dX12_doneSmall_36 (by decide) (fun b36 => ?_) (fun b36 => ?_)
    · refine X_iload_n dX12_doneSmall_43 rfl ?_
      refine X_iload dX12_doneSmall_44 rfl ?_
      refine X_cSi dX12_doneSmall_46 ck_X12_392 rfl rfl (by omega) (Nat.le_of_ble_eq_true rfl) (m_digitOf hv (by omega) ?_)
      exact t49 _ (if_neg h2).symm _
    · exact absurd ((neq (by omega) (by omega)).mp b36) h2
set_option maxRecDepth 20000 in
theorem m_layStep {Q : Mm → Prop} {j k : Nat} {F : Nat → Nat} (hd : 2 ≤ d) (hj : j < 3) (hk : k < 52) (hF : ∀ v, v < 64 → I 202 (64 * j + v) = nI (F v)) (hFl : ∀ v, v < 64 → F v < 64) (hQ : ∀ I', FrM [202] [] I I' → (∀ q, q < 64 * j + 64 → I' 202 q = I 202 q) → (∀ v, v < 64 → I' 202 (64 * j + 64 + v) = nI (dsm k (F v))) → Q (NC, I', J, layR sw)) : Y G d zX12_layStep [vr 170, vi (nI j), vi (nI (Tn k))] (NC, I, J, layR sw) 0 0 (qv Q) := by
  have loop : ∀ (z v : Nat) (I' : Nat → Nat → Int32), z = 64 - v → v ≤ 64 → FrM [202] [] I I' → (∀ q, q < 64 * j + 64 → I' 202 q = I 202 q) → (∀ w, w < v → I' 202 (64 * j + 64 + w) = nI (dsm k (F w))) → X G d zX12_layStep 2 [(0, vr 170), (1, vi (nI j)), (2, vi (nI (Tn k))), (3, vi (nI v))] [] (NC, I', J, layR sw) 0 0 (qv Q) := by
    intro z
    induction z with
    | zero =>
      intro v I' hz hv f h1 h2
      obtain rfl : v = 64 := by omega
      refine X_iload_n dX12_layStep_2 rfl ?_
      refine X_bipush (v := nI 64) dX12_layStep_3 (by decide) ?_
      refine X_icmp_ge (tgt := 43) dX12_layStep_5 (by decide) (fun b => ?_) (fun b => ?_)
      · exact X_vret dX12_layStep_43 rfl ⟨rfl, hQ I' f h1 h2⟩
      · exact absurd (by decide) b
    | succ z ih =>
      intro v I' hz hv f h1 h2
      refine X_iload_n dX12_layStep_2 rfl ?_
      refine X_bipush (v := nI 64) dX12_layStep_3 (by decide) ?_
      refine X_icmp_ge (tgt := 43) dX12_layStep_5 (by decide) (fun b => ?_) (fun b => ?_)
      · exact absurd ((nle (by omega) (by omega)).mp b) (by omega)
      refine X_aload_n dX12_layStep_8 rfl ?_
      refine X_getR dX12_layStep_9 gf_X12_104 (by first | assumption | rfl) (by first | assumption | exact Nat.le_of_ble_eq_true rfl | omega) rfl (by first | assumption | rfl) ?_
      refine X_bipush (v := nI 64) dX12_layStep_12 (by decide) ?_
      refine X_iload_n dX12_layStep_14 rfl ?_
      first | refine X_imulN dX12_layStep_15 ?_ | refine X_imul dX12_layStep_15 ?_
      refine X_bipush (v := nI 64) dX12_layStep_16 (by decide) ?_
      first | refine X_iaddN dX12_layStep_18 ?_ | refine X_iadd dX12_layStep_18 ?_
      refine X_iload_n dX12_layStep_19 rfl ?_
      first | refine X_iaddN dX12_layStep_20 ?_ | refine X_iadd dX12_layStep_20 ?_
      refine X_aload_n dX12_layStep_21 rfl ?_
      refine X_getR dX12_layStep_22 gf_X12_104 (by first | assumption | rfl) (by first | assumption | exact Nat.le_of_ble_eq_true rfl | omega) rfl (by first | assumption | rfl) ?_
      refine X_bipush (v := nI 64) dX12_layStep_25 (by decide) ?_
      refine X_iload_n dX12_layStep_27 rfl ?_
      first | refine X_imulN dX12_layStep_28 ?_ | refine X_imul dX12_layStep_28 ?_
      refine X_iload_n dX12_layStep_29 rfl ?_
      first | refine X_iaddN dX12_layStep_30 ?_ | refine X_iadd dX12_layStep_30 ?_
      first | refine X_iald dX12_layStep_31 (by first | assumption | rfl) (by first | assumption | exact Nat.le_of_ble_eq_true rfl | omega) rfl (by first | decide | omega) (by decide) ?_ | refine X_ildA dX12_layStep_31 rfl (by omega) ?_ | refine X_ildM dX12_layStep_31 rfl (by omega) ?_ | refine X_sld dX12_layStep_31 rfl (by omega) (by omega) ?_
      rw [h1 _ (by omega), hF v (by omega)]
      refine X_iload_n dX12_layStep_32 rfl ?_
      refine X_cSi dX12_layStep_33 ck_X12_398 rfl rfl (by omega) (Nat.le_of_ble_eq_true rfl) (m_doneSmall (by omega) hk (hFl v (by omega)) ?_)
      refine X_iast dX12_layStep_36 (by first | assumption | rfl) (by first | assumption | exact Nat.le_of_ble_eq_true rfl | omega) rfl (by first | decide | omega) (by decide) ?_
      first | refine X_iinc1 dX12_layStep_37 rfl rfl rfl ?_ | refine X_iinc dX12_layStep_37 rfl rfl rfl rfl ?_
      refine X_goto (tgt := 2) dX12_layStep_40 (by decide) ?_
      refine ih (v + 1) _ (by omega) (by omega) (f.tr (FrM.c (by simp) (by decide))) (fun q hq => ?_) (fun w hw => ?_)
      · rw [sr_eq, up_ne (by omega)]; exact h1 q hq
      · rw [sr_eq]
        by_cases e : w = v
        · rw [e, up_eq]
        · rw [up_ne (by omega)]; exact h2 w (by omega)
  refine Y_of rfl rfl (Nat.le_of_ble_eq_true rfl) rfl ?_
  refine X_iconst (v := nI 0) dX12_layStep_0 (by decide) ?_
  refine X_istore_n dX12_layStep_1 rfl rfl ?_
  exact loop 64 0 I rfl (Nat.zero_le _) FrM.rf (fun _ _ => rfl) (fun w h => absurd h (Nat.not_lt_zero w))
set_option maxRecDepth 20000 in
theorem m_isDue {Q : Int32 → Mm → Prop} {st : Nat} {x du : Nat → Nat} (hst : st ≤ 3) (hW : W < 16) (hw : I 170 12 = nI W) (hl : ∀ v, v < 64 → I 202 (64 * st + v) = nI (lay x st v)) (hdu : ∀ v, v < 64 → I 201 v = nI (du v)) (hdl : ∀ v, v < 64 → du v < 64) (hQ : Q (nI (if okB W du x st 64 = true then 1 else 0)) (NC, I, J, layR sw)) : Y G d zX12_isDue [vr 170, vi (nI st)] (NC, I, J, layR sw) 0 0 (qi Q) := by
  have fin0 : okB W du x st 64 = false → ∀ v L2, X G d zX12_isDue 91 ([(0, vr 170), (1, vi (nI st)), (2, vi (nI 0)), (3, vi (nI v))] ++ L2) [] (NC, I, J, layR sw) 0 0 (qi Q) := by
    intro h v L2
    rw [h, if_neg (by decide)] at hQ
    refine weak (lv' := [(0, vr 170), (1, vi (nI st)), (2, vi (nI 0)), (3, vi (nI v))]) (fun q hq => List.mem_append_left _ hq) ?_
    refine X_iload_n dX12_isDue_91 rfl ?_
    exact X_zret dX12_isDue_92 rfl (by first | rfl | (simp; done) | decide) ⟨_, rfl, hQ⟩
  have loop : ∀ (z v : Nat), z = 64 - v → v ≤ 64 → ∀ L2, X G d zX12_isDue 4 ([(0, vr 170), (1, vi (nI st)), (2, vi (nI (if okB W du x st v = true then 1 else 0))), (3, vi (nI v))] ++ L2) [] (NC, I, J, layR sw) 0 0 (qi Q) := by
    intro z
    induction z with
    | zero =>
      intro v hz hv L2
      obtain rfl : v = 64 := by omega
      refine weak (lv' := [(0, vr 170), (1, vi (nI st)), (2, vi (nI (if okB W du x st 64 = true then 1 else 0))), (3, vi (nI 64))]) (fun q hq => List.mem_append_left _ hq) ?_
      refine X_iload_n dX12_isDue_4 rfl ?_
      refine X_bipush (v := nI 64) dX12_isDue_5 (by decide) ?_
      refine X_icmp_ge (tgt := 91) dX12_isDue_7 (by decide) (fun b => ?_) (fun b => ?_)
      · refine X_iload_n dX12_isDue_91 rfl ?_
        by_cases h : okB W du x st 64 = true
        · rw [if_pos h] at hQ ⊢
          exact X_zret dX12_isDue_92 rfl (by first | rfl | (simp; done) | decide) ⟨_, rfl, hQ⟩
        · rw [if_neg h] at hQ ⊢
          exact X_zret dX12_isDue_92 rfl (by first | rfl | (simp; done) | decide) ⟨_, rfl, hQ⟩
      · exact absurd (by decide) b
    | succ z ih =>
      intro v hz hv L2
      have hv64 : v < 64 := by omega
      have ih := ih (v + 1) (by omega) (by omega)
      have hlv := lay_lt (x := x) hv64 st
      have hdv := hdl v hv64
      refine weak (lv' := [(0, vr 170), (1, vi (nI st)), (2, vi (nI (if okB W du x st v = true then 1 else 0))), (3, vi (nI v))]) (fun q hq => List.mem_append_left _ hq) ?_
      refine X_iload_n dX12_isDue_4 rfl ?_
      refine X_bipush (v := nI 64) dX12_isDue_5 (by decide) ?_
      refine X_icmp_ge (tgt := 91) dX12_isDue_7 (by decide) (fun b => ?_) (fun b => ?_)
      · exact absurd ((nle (by omega) (by omega)).mp b) (by omega)
      refine X_iload_n dX12_isDue_10 rfl ?_
      by_cases h : okB W du x st v = true
      · rw [if_pos h]
        have e : okB W du x st (v + 1) = ((!W.testBit 0 || decide (lay x st v / 8 = du v / 8)) && (!W.testBit 1 || decide (lay x st v % 8 = du v % 8))) := by
          show (okB W du x st v && _) = _
          rw [h, Bool.true_and]
        rw [e] at ih
        refine X_if_eq (tgt := 91) dX12_isDue_11 (by decide) (fun b11 => ?_) (fun b11 => ?_)
        · exact absurd b11 (by decide)
        have no : ((!W.testBit 0 || decide (lay x st v / 8 = du v / 8)) && (!W.testBit 1 || decide (lay x st v % 8 = du v % 8))) = false → X G d zX12_isDue 83 [(0, vr 170), (1, vi (nI st)), (2, vi (nI 1)), (3, vi (nI v)), (4, vi (nI (lay x st v)))] [] (NC, I, J, layR sw) 0 0 (qi Q) := by
          intro q
          rw [q, if_neg (by decide)] at ih
          refine X_iconst (v := nI 0) dX12_isDue_83 (by decide) ?_
          refine X_istore_n dX12_isDue_84 rfl rfl ?_
          first | refine X_iinc1 dX12_isDue_85 rfl rfl rfl ?_ | refine X_iinc dX12_isDue_85 rfl rfl rfl rfl ?_
          refine X_goto (tgt := 4) dX12_isDue_88 (by decide) ?_
          exact ih [(4, vi (nI (lay x st v)))]
        have yes : ((!W.testBit 0 || decide (lay x st v / 8 = du v / 8)) && (!W.testBit 1 || decide (lay x st v % 8 = du v % 8))) = true → X G d zX12_isDue 79 [(0, vr 170), (1, vi (nI st)), (2, vi (nI 1)), (3, vi (nI v)), (4, vi (nI (lay x st v)))] [] (NC, I, J, layR sw) 0 0 (qi Q) := by
          intro q
          rw [q, if_pos rfl] at ih
          refine X_iconst (v := nI 1) dX12_isDue_79 (by decide) ?_
          refine X_goto (tgt := 84) dX12_isDue_80 (by decide) ?_
          refine X_istore_n dX12_isDue_84 rfl rfl ?_
          first | refine X_iinc1 dX12_isDue_85 rfl rfl rfl ?_ | refine X_iinc dX12_isDue_85 rfl rfl rfl rfl ?_
          refine X_goto (tgt := 4) dX12_isDue_88 (by decide) ?_
          exact ih [(4, vi (nI (lay x st v)))]
        have second : (!W.testBit 0 || decide (lay x st v / 8 = du v / 8)) = true → X G d zX12_isDue 53 [(0, vr 170), (1, vi (nI st)), (2, vi (nI 1)), (3, vi (nI v)), (4, vi (nI (lay x st v)))] [] (NC, I, J, layR sw) 0 0 (qi Q) := by
          intro q
          rw [q, Bool.true_and] at yes no
          refine X_aload_n dX12_isDue_53 rfl ?_
          refine X_getI dX12_isDue_54 gf_X12_116 (by first | assumption | rfl) (by first | assumption | exact Nat.le_of_ble_eq_true rfl | omega) rfl ?_
          rw [hw]
          refine X_iconst (v := nI 2) dX12_isDue_57 (by decide) ?_
          first | refine X_iandN dX12_isDue_58 ?_ | refine X_iandC dX12_isDue_58 ?_ | refine X_iand dX12_isDue_58 ?_
          rw [and2 W hW]
          cases hb : W.testBit 1
          · rw [if_neg (by decide)]
            refine X_if_eq (tgt := 79) dX12_isDue_59 (by decide) (fun b59 => ?_) (fun b59 => ?_)
            · exact yes (by rw [hb]; rfl)
            · exact absurd rfl b59
          · rw [if_pos rfl]
            rw [hb] at yes no
            refine X_if_eq (tgt := 79) dX12_isDue_59 (by decide) (fun b59 => ?_) (fun b59 => ?_)
            · exact absurd b59 (by decide)
            refine X_iload dX12_isDue_62 rfl ?_
            refine X_bipush (v := nI 8) dX12_isDue_64 (by decide) ?_
            refine X_irem dX12_isDue_66 (by decide) ?_
            rw [pk_rem (by omega) (by decide) (by decide)]
            refine X_aload_n dX12_isDue_67 rfl ?_
            refine X_getR dX12_isDue_68 gf_X12_101 (by first | assumption | rfl) (by first | assumption | exact Nat.le_of_ble_eq_true rfl | omega) rfl (by first | assumption | rfl) ?_
            refine X_iload_n dX12_isDue_71 rfl ?_
            first | refine X_iald dX12_isDue_72 (by first | assumption | rfl) (by first | assumption | exact Nat.le_of_ble_eq_true rfl | omega) rfl (by first | decide | omega) (by decide) ?_ | refine X_ildA dX12_isDue_72 rfl (by omega) ?_ | refine X_ildM dX12_isDue_72 rfl (by omega) ?_ | refine X_sld dX12_isDue_72 rfl (by omega) (by omega) ?_
            rw [hdu v hv64]
            refine X_bipush (v := nI 8) dX12_isDue_73 (by decide) ?_
            refine X_irem dX12_isDue_75 (by decide) ?_
            rw [pk_rem (by omega) (by decide) (by decide)]
            by_cases y : lay x st v % 8 = du v % 8
            · refine X_icmp_ne (tgt := 83) dX12_isDue_76 (by decide) (fun b76 => ?_) (fun b76 => ?_)
              · exact absurd (by rw [y]) b76
              exact yes (by rw [decide_eq_true y]; rfl)
            · refine X_icmp_ne (tgt := 83) dX12_isDue_76 (by decide) (fun b76 => ?_) (fun b76 => ?_)
              · exact no (by rw [decide_eq_false y]; rfl)
              · exact absurd ((neq (by omega) (by omega)).mp b76) y
        refine X_aload_n dX12_isDue_14 rfl ?_
        refine X_getR dX12_isDue_15 gf_X12_104 (by first | assumption | rfl) (by first | assumption | exact Nat.le_of_ble_eq_true rfl | omega) rfl (by first | assumption | rfl) ?_
        refine X_bipush (v := nI 64) dX12_isDue_18 (by decide) ?_
        refine X_iload_n dX12_isDue_20 rfl ?_
        first | refine X_imulN dX12_isDue_21 ?_ | refine X_imul dX12_isDue_21 ?_
        refine X_iload_n dX12_isDue_22 rfl ?_
        first | refine X_iaddN dX12_isDue_23 ?_ | refine X_iadd dX12_isDue_23 ?_
        first | refine X_iald dX12_isDue_24 (by first | assumption | rfl) (by first | assumption | exact Nat.le_of_ble_eq_true rfl | omega) rfl (by first | decide | omega) (by decide) ?_ | refine X_ildA dX12_isDue_24 rfl (by omega) ?_ | refine X_ildM dX12_isDue_24 rfl (by omega) ?_ | refine X_sld dX12_isDue_24 rfl (by omega) (by omega) ?_
        rw [hl v hv64]
        refine X_istore dX12_isDue_25 rfl rfl ?_
        refine X_aload_n dX12_isDue_27 rfl ?_
        refine X_getI dX12_isDue_28 gf_X12_116 (by first | assumption | rfl) (by first | assumption | exact Nat.le_of_ble_eq_true rfl | omega) rfl ?_
        rw [hw]
        refine X_iconst (v := nI 1) dX12_isDue_31 (by decide) ?_
        first | refine X_iandN dX12_isDue_32 ?_ | refine X_iandC dX12_isDue_32 ?_ | refine X_iand dX12_isDue_32 ?_
        rw [and1 W]
        cases hb : W.testBit 0
        · rw [if_neg (by decide)]
          refine X_if_eq (tgt := 53) dX12_isDue_33 (by decide) (fun b33 => ?_) (fun b33 => ?_)
          · exact second (by rw [hb]; rfl)
          · exact absurd rfl b33
        · rw [if_pos rfl]
          refine X_if_eq (tgt := 53) dX12_isDue_33 (by decide) (fun b33 => ?_) (fun b33 => ?_)
          · exact absurd b33 (by decide)
          refine X_iload dX12_isDue_36 rfl ?_
          refine X_bipush (v := nI 8) dX12_isDue_38 (by decide) ?_
          refine X_idiv dX12_isDue_40 (by decide) ?_
          rw [pk_div (by omega) (by decide) (by decide)]
          refine X_aload_n dX12_isDue_41 rfl ?_
          refine X_getR dX12_isDue_42 gf_X12_101 (by first | assumption | rfl) (by first | assumption | exact Nat.le_of_ble_eq_true rfl | omega) rfl (by first | assumption | rfl) ?_
          refine X_iload_n dX12_isDue_45 rfl ?_
          first | refine X_iald dX12_isDue_46 (by first | assumption | rfl) (by first | assumption | exact Nat.le_of_ble_eq_true rfl | omega) rfl (by first | decide | omega) (by decide) ?_ | refine X_ildA dX12_isDue_46 rfl (by omega) ?_ | refine X_ildM dX12_isDue_46 rfl (by omega) ?_ | refine X_sld dX12_isDue_46 rfl (by omega) (by omega) ?_
          rw [hdu v hv64]
          refine X_bipush (v := nI 8) dX12_isDue_47 (by decide) ?_
          refine X_idiv dX12_isDue_49 (by decide) ?_
          rw [pk_div (by omega) (by decide) (by decide)]
          by_cases y : lay x st v / 8 = du v / 8
          · refine X_icmp_ne (tgt := 83) dX12_isDue_50 (by decide) (fun b50 => ?_) (fun b50 => ?_)
            · exact absurd (by rw [y]) b50
            exact second (by rw [decide_eq_true y, Bool.or_true])
          · refine X_icmp_ne (tgt := 83) dX12_isDue_50 (by decide) (fun b50 => ?_) (fun b50 => ?_)
            · exact no (by rw [hb, decide_eq_false y]; rfl)
            · exact absurd ((neq (by omega) (by omega)).mp b50) y
      · rw [if_neg h]
        refine X_if_eq (tgt := 91) dX12_isDue_11 (by decide) (fun b11 => ?_) (fun b11 => ?_)
        · refine fin0 ?_ v []
          cases q : okB W du x st 64
          · rfl
          · exact absurd ((okB_iff v).mpr (fun r hr hWr u hu => (okB_iff 64).mp q r hr hWr u (by omega))) h
        · exact absurd rfl b11
  refine Y_of rfl rfl (Nat.le_of_ble_eq_true rfl) rfl ?_
  refine X_iconst (v := nI 1) dX12_isDue_0 (by decide) ?_
  refine X_istore_n dX12_isDue_1 rfl rfl ?_
  refine X_iconst (v := nI 0) dX12_isDue_2 (by decide) ?_
  refine X_istore_n dX12_isDue_3 rfl rfl ?_
  exact loop 64 0 rfl (Nat.zero_le _) []
end RT
