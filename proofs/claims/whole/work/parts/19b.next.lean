/-! the next order -/
theorem dec2 : ∀ n, 1 ≤ n → nI n - nI 2 = nI (n - 1) + Int32.ofInt (-1)
  | 1, _ => by decide
  | j + 2, _ => by
    rw [pk_sub (by omega), show j + 2 - 1 = j + 1 by omega, pm_s, Nat.add_sub_cancel]
section RN
variable {G : GG} {d : Nat} {sw : Bool} {I : Nat → Nat → Int32} {J : Nat → Nat → Int64} {s : SS} {n : Nat}
set_option maxRecDepth 20000 in
theorem m_next_f {Q : Int32 → Mm → Prop} {x : Nat → Nat} (hn0 : I 170 9 = nI n) (hn : n ≤ 12) (hx : ∀ q, q < n → I 192 q = nI (x q)) (hl : ∀ q, q < n → x q < n) (hd : ∀ q, q + 1 < n → x (q + 1) < x q) (hQ : Q (nI 0) (NC, I, J, layR sw)) : Y G d zX12_nextOrder [vr 170] (NC, I, J, layR sw) 0 0 (qi Q) := by
  refine Y_of rfl rfl (Nat.le_of_ble_eq_true rfl) rfl ?_
  refine X_aload_n dX12_nextOrder_0 rfl ?_
  refine X_getI dX12_nextOrder_1 gf_X12_181 (by first | assumption | rfl) (by first | assumption | exact Nat.le_of_ble_eq_true rfl | omega) rfl ?_
  rw [hn0]
  refine X_iconst (v := nI 2) dX12_nextOrder_4 (by decide) ?_
  refine X_isub dX12_nextOrder_5 ?_
  by_cases h0 : n = 0
  · rw [h0]
    refine X_istore_n dX12_nextOrder_6 rfl rfl ?_
    refine X_iload_n dX12_nextOrder_7 rfl ?_
    refine X_if_lt (tgt := 34) dX12_nextOrder_8 (by decide) (fun b => ?_) (fun b => ?_)
    · refine X_iload_n dX12_nextOrder_34 rfl ?_
      refine X_if_ge (tgt := 40) dX12_nextOrder_35 (by decide) (fun b35 => ?_) (fun b35 => ?_)
      · exact absurd b35 (by decide)
      refine X_iconst (v := nI 0) dX12_nextOrder_38 (by decide) ?_
      exact X_zret dX12_nextOrder_39 rfl (by first | rfl | (simp; done) | decide) ⟨_, rfl, hQ⟩
    · exact absurd (by decide) b
  · rw [dec2 n (by omega)]
    refine X_istore_n dX12_nextOrder_6 rfl rfl ?_
    have loop : ∀ m, m < n → X G d zX12_nextOrder 7 [(0, vr 170), (1, vi (nI m + Int32.ofInt (-1)))] [] (NC, I, J, layR sw) 0 0 (qi Q) := by
      intro m
      induction m with
      | zero =>
        intro hm
        refine X_iload_n dX12_nextOrder_7 rfl ?_
        refine X_if_lt (tgt := 34) dX12_nextOrder_8 (by decide) (fun b => ?_) (fun b => ?_)
        · refine X_iload_n dX12_nextOrder_34 rfl ?_
          refine X_if_ge (tgt := 40) dX12_nextOrder_35 (by decide) (fun b35 => ?_) (fun b35 => ?_)
          · exact absurd b35 (by decide)
          refine X_iconst (v := nI 0) dX12_nextOrder_38 (by decide) ?_
          exact X_zret dX12_nextOrder_39 rfl (by first | rfl | (simp; done) | decide) ⟨_, rfl, hQ⟩
        · exact absurd pm_0 b
      | succ m ih =>
        intro hm
        have l1 := hl m (by omega)
        have l2 := hl (m + 1) hm
        have hdm := hd m hm
        rw [pm_s]
        refine X_iload_n dX12_nextOrder_7 rfl ?_
        refine X_if_lt (tgt := 34) dX12_nextOrder_8 (by decide) (fun b => ?_) (fun b => ?_)
        · exact absurd b (nneg (by omega))
        refine X_aload_n dX12_nextOrder_11 rfl ?_
        refine X_getR dX12_nextOrder_12 gf_X12_74 (by first | assumption | rfl) (by first | assumption | exact Nat.le_of_ble_eq_true rfl | omega) rfl (by first | assumption | rfl) ?_
        refine X_iload_n dX12_nextOrder_15 rfl ?_
        first | refine X_iald dX12_nextOrder_16 (by first | assumption | rfl) (by first | assumption | exact Nat.le_of_ble_eq_true rfl | omega) rfl (by first | decide | omega) (by decide) ?_ | refine X_ildA dX12_nextOrder_16 rfl (by omega) ?_ | refine X_ildM dX12_nextOrder_16 rfl (by omega) ?_ | refine X_sld dX12_nextOrder_16 rfl (by omega) (by omega) ?_
        rw [hx m (by omega)]
        refine X_aload_n dX12_nextOrder_17 rfl ?_
        refine X_getR dX12_nextOrder_18 gf_X12_74 (by first | assumption | rfl) (by first | assumption | exact Nat.le_of_ble_eq_true rfl | omega) rfl (by first | assumption | rfl) ?_
        refine X_iload_n dX12_nextOrder_21 rfl ?_
        refine X_iconst (v := nI 1) dX12_nextOrder_22 (by decide) ?_
        first | refine X_iaddN dX12_nextOrder_23 ?_ | refine X_iadd dX12_nextOrder_23 ?_
        first | refine X_iald dX12_nextOrder_24 (by first | assumption | rfl) (by first | assumption | exact Nat.le_of_ble_eq_true rfl | omega) rfl (by first | decide | omega) (by decide) ?_ | refine X_ildA dX12_nextOrder_24 rfl (by omega) ?_ | refine X_ildM dX12_nextOrder_24 rfl (by omega) ?_ | refine X_sld dX12_nextOrder_24 rfl (by omega) (by omega) ?_
        rw [hx (m + 1) hm]
        refine X_icmp_le (tgt := 34) dX12_nextOrder_25 (by decide) (fun b25 => ?_) (fun b25 => ?_)
        · exact absurd ((nle (by omega) (by omega)).mp b25) (by omega)
        first | refine X_iincd dX12_nextOrder_28 rfl (by omega) rfl rfl ?_ | refine X_iinc dX12_nextOrder_28 rfl rfl rfl rfl ?_
        refine X_goto (tgt := 7) dX12_nextOrder_31 (by decide) ?_
        exact ih (by omega)
    exact loop (n - 1) (by omega)
/-- the end of nextOrder: a stretch is turned round -/
theorem m_turn {Q : Int32 → Mm → Prop} : ∀ (w lo hi : Nat) (I' : Nat → Nat → Int32) (y : Nat → Nat) (v : AV) (e : Nat), w = hi - lo → lo ≤ hi + 1 → 1 ≤ lo → hi < 12 → (∀ q, q < 12 → q < e → I' 192 q = nI (y q)) → hi < e → (∀ I2, FrM [192] [] I' I2 → (∀ q, q < 12 → q < e → I2 192 q = nI (y (if lo ≤ q ∧ q ≤ hi then lo + hi - q else q))) → Q (nI 1) (NC, I2, J, layR sw)) → ∀ a1 a2 a3, X G d zX12_nextOrder 107 [(0, vr 170), (1, vi a1), (2, vi a2), (3, vi a3), (4, vi (nI lo)), (5, vi (nI hi))] [] (NC, I', J, layR sw) 0 0 (qi Q) := by
  intro w
  induction w using Nat.strongRecOn with
  | _ w ih =>
    intro lo hi I' y v e hw hlh hlo hh hy he hQ a1 a2 a3
    refine X_iload dX12_nextOrder_107 rfl ?_
    refine X_iload dX12_nextOrder_109 rfl ?_
    refine X_icmp_ge (tgt := 153) dX12_nextOrder_111 (by decide) (fun b => ?_) (fun b => ?_)
    · have h := (nle (by omega) (by omega)).mp b
      refine X_iconst (v := nI 1) dX12_nextOrder_153 (by decide) ?_
      refine X_zret dX12_nextOrder_154 rfl (by decide) ⟨_, rfl, hQ I' FrM.rf (fun q hq hqe => ?_)⟩
      rw [hy q hq hqe]
      congr 2
      by_cases hc : lo ≤ q ∧ q ≤ hi
      · rw [if_pos hc]; omega
      · rw [if_neg hc]
    · have h : ¬ hi ≤ lo := fun q => b ((nle (by omega) (by omega)).mpr q)
      refine X_aload_n dX12_nextOrder_114 rfl ?_
      refine X_getR dX12_nextOrder_115 gf_X12_74 (by first | assumption | rfl) (by first | assumption | exact Nat.le_of_ble_eq_true rfl | omega) rfl (by first | assumption | rfl) ?_
      refine X_iload dX12_nextOrder_118 rfl ?_
      first | refine X_iald dX12_nextOrder_120 (by first | assumption | rfl) (by first | assumption | exact Nat.le_of_ble_eq_true rfl | omega) rfl (by first | decide | omega) (by decide) ?_ | refine X_ildA dX12_nextOrder_120 rfl (by omega) ?_ | refine X_ildM dX12_nextOrder_120 rfl (by omega) ?_ | refine X_sld dX12_nextOrder_120 rfl (by omega) (by omega) ?_
      rw [hy lo (by omega) (by omega)]
      refine X_istore_n dX12_nextOrder_121 rfl rfl ?_
      refine X_aload_n dX12_nextOrder_122 rfl ?_
      refine X_getR dX12_nextOrder_123 gf_X12_74 (by first | assumption | rfl) (by first | assumption | exact Nat.le_of_ble_eq_true rfl | omega) rfl (by first | assumption | rfl) ?_
      refine X_iload dX12_nextOrder_126 rfl ?_
      refine X_aload_n dX12_nextOrder_128 rfl ?_
      refine X_getR dX12_nextOrder_129 gf_X12_74 (by first | assumption | rfl) (by first | assumption | exact Nat.le_of_ble_eq_true rfl | omega) rfl (by first | assumption | rfl) ?_
      refine X_iload dX12_nextOrder_132 rfl ?_
      first | refine X_iald dX12_nextOrder_134 (by first | assumption | rfl) (by first | assumption | exact Nat.le_of_ble_eq_true rfl | omega) rfl (by first | decide | omega) (by decide) ?_ | refine X_ildA dX12_nextOrder_134 rfl (by omega) ?_ | refine X_ildM dX12_nextOrder_134 rfl (by omega) ?_ | refine X_sld dX12_nextOrder_134 rfl (by omega) (by omega) ?_
      rw [hy hi (by omega) (by omega)]
      refine X_iast dX12_nextOrder_135 (by first | assumption | rfl) (by first | assumption | exact Nat.le_of_ble_eq_true rfl | omega) rfl (by first | decide | omega) (by decide) ?_
      refine X_aload_n dX12_nextOrder_136 rfl ?_
      refine X_getR dX12_nextOrder_137 gf_X12_74 (by first | assumption | rfl) (by first | assumption | exact Nat.le_of_ble_eq_true rfl | omega) rfl (by first | assumption | rfl) ?_
      refine X_iload dX12_nextOrder_140 rfl ?_
      refine X_iload_n dX12_nextOrder_142 rfl ?_
      refine X_iast dX12_nextOrder_143 (by first | assumption | rfl) (by first | assumption | exact Nat.le_of_ble_eq_true rfl | omega) rfl (by first | decide | omega) (by decide) ?_
      first | refine X_iinc1 dX12_nextOrder_144 rfl rfl rfl ?_ | refine X_iinc dX12_nextOrder_144 rfl rfl rfl rfl ?_
      first | refine X_iincd dX12_nextOrder_147 rfl (by omega) rfl rfl ?_ | refine X_iinc dX12_nextOrder_147 rfl rfl rfl rfl ?_
      refine X_goto (tgt := 107) dX12_nextOrder_150 (by decide) ?_
      rw [sr_eq, sr_sr]
      refine ih (hi - 1 - (lo + 1)) (by omega) (lo + 1) (hi - 1) _ (up (up y lo (y hi)) hi (y lo)) v e rfl (by omega) (by omega) (by omega) (fun q hq hqe => ?_) (by omega) (fun I2 f2 h2 => ?_) _ _ _
      · rw [sr_eq]
        by_cases h1 : q = hi
        · rw [h1, up_eq, up_eq]
        · rw [up_ne h1, up_ne h1]
          by_cases h3 : q = lo
          · rw [h3, up_eq, up_eq]
          · rw [up_ne h3, up_ne h3]; exact hy q hq hqe
      · refine hQ I2 ((FrM.c (by simp) (by decide)).tr f2) (fun q hq hqe => ?_)
        rw [h2 q hq hqe]
        congr 1
        by_cases hc : lo + 1 ≤ q ∧ q ≤ hi - 1
        · rw [if_pos hc, if_pos (by omega), up_ne (by omega), up_ne (by omega)]
          congr 1
          omega
        · rw [if_neg hc]
          by_cases h1 : q = hi
          · rw [h1, up_eq, if_pos (by omega)]
            congr 1
            omega
          · rw [up_ne h1]
            by_cases h3 : q = lo
            · rw [h3, up_eq, if_pos (by omega)]
              congr 1
              omega
            · rw [up_ne h3, if_neg (by omega)]
set_option maxRecDepth 20000 in
theorem m_next_t {Q : Int32 → Mm → Prop} {o r : Nat → Nat} {p m a : Nat} (hn0 : I 170 9 = nI n) (hn : n ≤ 12) (hpm : p + 1 + m = n) (ha : a < m) (hr : SI r (m + 1)) (hrn : ∀ k, k < m + 1 → r k < n) (hx : ∀ q, q < n → I 192 q = nI (OD (up o p (r a)) (p + 1) (eR r a) m q))
    (hQ : ∀ I', FrM [192] [] I I' → (∀ q, q < n → I' 192 q = nI (OA (up o p (r (a + 1))) (p + 1) (eR r (a + 1)) m q)) → Q (nI 1) (NC, I', J, layR sw)) : Y G d zX12_nextOrder [vr 170] (NC, I, J, layR sw) 0 0 (qi Q) := by
  generalize hxe : OD (up o p (r a)) (p + 1) (eR r a) m = x at *
  have x0 : x p = r a := by
    rw [← hxe]; unfold OD
    rw [if_pos (by omega), up_eq]
  have x1 : ∀ k, k < m → x (p + 1 + k) = eR r a (m - 1 - k) := fun k hk => by
    rw [← hxe]; unfold OD
    rw [if_neg (by omega), if_pos (by omega)]
    congr 2
    omega
  have hse : SI (eR r a) m := SI_eR hr
  have hra := hrn a (by omega)
  have he : ∀ k, k < m → eR r a k < n := fun k hk => eR_in hrn hk
  have xp1 : r a < x (p + 1) := by
    have := x1 0 (by omega)
    rw [Nat.add_zero] at this
    rw [this]
    unfold eR
    rw [if_neg (by omega)]
    exact hr a _ (by omega) (by omega)
  have xlt : ∀ q, p < q → q < n → x q < n := fun q h1 h2 => by
    have := x1 (q - (p + 1)) (by omega)
    rw [show p + 1 + (q - (p + 1)) = q by omega] at this
    rw [this]; exact he _ (by omega)
  have xdec : ∀ q, p < q → q + 1 < n → x (q + 1) < x q := fun q h1 h2 => by
    have e1 := x1 (q - (p + 1)) (by omega)
    have e2 := x1 (q + 1 - (p + 1)) (by omega)
    rw [show p + 1 + (q - (p + 1)) = q by omega] at e1
    rw [show p + 1 + (q + 1 - (p + 1)) = q + 1 by omega] at e2
    rw [e1, e2]
    exact hse _ _ (by omega) (by omega)
  have phase3 : X G d zX12_nextOrder 68 [(0, vr 170), (1, vi (nI p)), (2, vi (nI (p + m - a)))] [] (NC, I, J, layR sw) 0 0 (qi Q) := by
    have xj : x (p + m - a) = r (a + 1) := by
      have := x1 (m - 1 - a) (by omega)
      rw [show p + 1 + (m - 1 - a) = p + m - a by omega] at this
      rw [this]
      unfold eR
      rw [if_neg (by omega)]
      congr 1
      omega
    refine X_aload_n dX12_nextOrder_68 rfl ?_
    refine X_getR dX12_nextOrder_69 gf_X12_74 (by first | assumption | rfl) (by first | assumption | exact Nat.le_of_ble_eq_true rfl | omega) rfl (by first | assumption | rfl) ?_
    refine X_iload_n dX12_nextOrder_72 rfl ?_
    first | refine X_iald dX12_nextOrder_73 (by first | assumption | rfl) (by first | assumption | exact Nat.le_of_ble_eq_true rfl | omega) rfl (by first | decide | omega) (by decide) ?_ | refine X_ildA dX12_nextOrder_73 rfl (by omega) ?_ | refine X_ildM dX12_nextOrder_73 rfl (by omega) ?_ | refine X_sld dX12_nextOrder_73 rfl (by omega) (by omega) ?_
    rw [hx p (by omega), x0]
    refine X_istore_n dX12_nextOrder_74 rfl rfl ?_
    refine X_aload_n dX12_nextOrder_75 rfl ?_
    refine X_getR dX12_nextOrder_76 gf_X12_74 (by first | assumption | rfl) (by first | assumption | exact Nat.le_of_ble_eq_true rfl | omega) rfl (by first | assumption | rfl) ?_
    refine X_iload_n dX12_nextOrder_79 rfl ?_
    refine X_aload_n dX12_nextOrder_80 rfl ?_
    refine X_getR dX12_nextOrder_81 gf_X12_74 (by first | assumption | rfl) (by first | assumption | exact Nat.le_of_ble_eq_true rfl | omega) rfl (by first | assumption | rfl) ?_
    refine X_iload_n dX12_nextOrder_84 rfl ?_
    first | refine X_iald dX12_nextOrder_85 (by first | assumption | rfl) (by first | assumption | exact Nat.le_of_ble_eq_true rfl | omega) rfl (by first | decide | omega) (by decide) ?_ | refine X_ildA dX12_nextOrder_85 rfl (by omega) ?_ | refine X_ildM dX12_nextOrder_85 rfl (by omega) ?_ | refine X_sld dX12_nextOrder_85 rfl (by omega) (by omega) ?_
    rw [hx (p + m - a) (by omega), xj]
    refine X_iast dX12_nextOrder_86 (by first | assumption | rfl) (by first | assumption | exact Nat.le_of_ble_eq_true rfl | omega) rfl (by first | decide | omega) (by decide) ?_
    refine X_aload_n dX12_nextOrder_87 rfl ?_
    refine X_getR dX12_nextOrder_88 gf_X12_74 (by first | assumption | rfl) (by first | assumption | exact Nat.le_of_ble_eq_true rfl | omega) rfl (by first | assumption | rfl) ?_
    refine X_iload_n dX12_nextOrder_91 rfl ?_
    refine X_iload_n dX12_nextOrder_92 rfl ?_
    refine X_iast dX12_nextOrder_93 (by first | assumption | rfl) (by first | assumption | exact Nat.le_of_ble_eq_true rfl | omega) rfl (by first | decide | omega) (by decide) ?_
    rw [sr_eq, sr_sr]
    refine X_iload_n dX12_nextOrder_94 rfl ?_
    refine X_iconst (v := nI 1) dX12_nextOrder_95 (by decide) ?_
    first | refine X_iaddN dX12_nextOrder_96 ?_ | refine X_iadd dX12_nextOrder_96 ?_
    refine X_istore dX12_nextOrder_97 rfl rfl ?_
    refine X_aload_n dX12_nextOrder_99 rfl ?_
    refine X_getI dX12_nextOrder_100 gf_X12_181 (by first | assumption | rfl) (by first | assumption | exact Nat.le_of_ble_eq_true rfl | omega) rfl ?_
    rw [sr_ne (show 170 ≠ 192 by decide), hn0]
    refine X_iconst (v := nI 1) dX12_nextOrder_103 (by decide) ?_
    first | refine X_isubN dX12_nextOrder_104 (by omega) ?_ | refine X_isub dX12_nextOrder_104 ?_
    refine X_istore dX12_nextOrder_105 rfl rfl ?_
    refine m_turn (n - 1 - (p + 1)) (p + 1) (n - 1) _ (up (up x p (r (a + 1))) (p + m - a) (r a)) (vi 0) n rfl (by omega) (by omega) (by omega) (fun q hq hqe => ?_) (by omega) (fun I2 f2 h2 => hQ I2 ((FrM.c (by simp) (by decide)).tr f2) (fun q hq => ?_)) _ _ _
    · rw [sr_eq]
      by_cases h1 : q = p + m - a
      · rw [h1, up_eq, up_eq]
      · rw [up_ne h1, up_ne h1]
        by_cases h3 : q = p
        · rw [h3, up_eq, up_eq]
        · rw [up_ne h3, up_ne h3]; exact hx q hqe
    · rw [h2 q (by omega) hq]
      congr 1
      unfold OA
      by_cases hqp : q < p + 1
      · rw [if_neg (by omega), if_pos hqp, up_ne (by omega)]
        by_cases h3 : q = p
        · rw [h3, up_eq, up_eq]
        · rw [up_ne h3, up_ne h3, ← hxe]
          unfold OD
          rw [if_pos hqp, up_ne h3]
      · rw [if_pos (by omega), if_neg hqp, if_pos (by omega)]
        have e1 := x1 (p + 1 + (n - 1) - q - (p + 1)) (by omega)
        rw [show p + 1 + (p + 1 + (n - 1) - q - (p + 1)) = p + 1 + (n - 1) - q by omega, show m - 1 - (p + 1 + (n - 1) - q - (p + 1)) = q - (p + 1) by omega] at e1
        by_cases h1 : p + 1 + (n - 1) - q = p + m - a
        · rw [h1, up_eq]
          unfold eR
          rw [if_pos (by omega)]
          congr 1
          omega
        · rw [up_ne h1, up_ne (by omega), e1]
          unfold eR
          by_cases h4 : q - (p + 1) < a
          · rw [if_pos h4, if_pos (by omega)]
          · rw [if_neg h4, if_neg (by omega)]
  have phase2 : ∀ w, w < m → w ≤ a → X G d zX12_nextOrder 47 [(0, vr 170), (1, vi (nI p)), (2, vi (nI (p + m - a + w)))] [] (NC, I, J, layR sw) 0 0 (qi Q) := by
    intro w
    induction w with
    | zero =>
      intro hw hwa
      have xj : x (p + m - a) = r (a + 1) := by
        have := x1 (m - 1 - a) (by omega)
        rw [show p + 1 + (m - 1 - a) = p + m - a by omega] at this
        rw [this]
        unfold eR
        rw [if_neg (by omega)]
        congr 1
        omega
      have l1 := hrn (a + 1) (by omega)
      have l2 := hr a (a + 1) (by omega) (by omega)
      rw [Nat.add_zero]
      refine X_aload_n dX12_nextOrder_47 rfl ?_
      refine X_getR dX12_nextOrder_48 gf_X12_74 (by first | assumption | rfl) (by first | assumption | exact Nat.le_of_ble_eq_true rfl | omega) rfl (by first | assumption | rfl) ?_
      refine X_iload_n dX12_nextOrder_51 rfl ?_
      first | refine X_iald dX12_nextOrder_52 (by first | assumption | rfl) (by first | assumption | exact Nat.le_of_ble_eq_true rfl | omega) rfl (by first | decide | omega) (by decide) ?_ | refine X_ildA dX12_nextOrder_52 rfl (by omega) ?_ | refine X_ildM dX12_nextOrder_52 rfl (by omega) ?_ | refine X_sld dX12_nextOrder_52 rfl (by omega) (by omega) ?_
      rw [hx (p + m - a) (by omega), xj]
      refine X_aload_n dX12_nextOrder_53 rfl ?_
      refine X_getR dX12_nextOrder_54 gf_X12_74 (by first | assumption | rfl) (by first | assumption | exact Nat.le_of_ble_eq_true rfl | omega) rfl (by first | assumption | rfl) ?_
      refine X_iload_n dX12_nextOrder_57 rfl ?_
      first | refine X_iald dX12_nextOrder_58 (by first | assumption | rfl) (by first | assumption | exact Nat.le_of_ble_eq_true rfl | omega) rfl (by first | decide | omega) (by decide) ?_ | refine X_ildA dX12_nextOrder_58 rfl (by omega) ?_ | refine X_ildM dX12_nextOrder_58 rfl (by omega) ?_ | refine X_sld dX12_nextOrder_58 rfl (by omega) (by omega) ?_
      rw [hx p (by omega), x0]
      refine X_icmp_ge (tgt := 68) dX12_nextOrder_59 (by decide) (fun b => ?_) (fun b => ?_)
      · exact phase3
      · exact absurd ((nle (by omega) (by omega)).mpr (by omega)) b
    | succ w ih =>
      intro hw hwa
      have xj : x (p + m - a + (w + 1)) = r (a - (w + 1)) := by
        have := x1 (m - 1 - (a - (w + 1))) (by omega)
        rw [show p + 1 + (m - 1 - (a - (w + 1))) = p + m - a + (w + 1) by omega] at this
        rw [this]
        unfold eR
        rw [if_pos (by omega)]
        congr 1
        omega
      have l1 := hrn (a - (w + 1)) (by omega)
      have l2 := hr (a - (w + 1)) a (by omega) (by omega)
      refine X_aload_n dX12_nextOrder_47 rfl ?_
      refine X_getR dX12_nextOrder_48 gf_X12_74 (by first | assumption | rfl) (by first | assumption | exact Nat.le_of_ble_eq_true rfl | omega) rfl (by first | assumption | rfl) ?_
      refine X_iload_n dX12_nextOrder_51 rfl ?_
      first | refine X_iald dX12_nextOrder_52 (by first | assumption | rfl) (by first | assumption | exact Nat.le_of_ble_eq_true rfl | omega) rfl (by first | decide | omega) (by decide) ?_ | refine X_ildA dX12_nextOrder_52 rfl (by omega) ?_ | refine X_ildM dX12_nextOrder_52 rfl (by omega) ?_ | refine X_sld dX12_nextOrder_52 rfl (by omega) (by omega) ?_
      rw [hx (p + m - a + (w + 1)) (by omega), xj]
      refine X_aload_n dX12_nextOrder_53 rfl ?_
      refine X_getR dX12_nextOrder_54 gf_X12_74 (by first | assumption | rfl) (by first | assumption | exact Nat.le_of_ble_eq_true rfl | omega) rfl (by first | assumption | rfl) ?_
      refine X_iload_n dX12_nextOrder_57 rfl ?_
      first | refine X_iald dX12_nextOrder_58 (by first | assumption | rfl) (by first | assumption | exact Nat.le_of_ble_eq_true rfl | omega) rfl (by first | decide | omega) (by decide) ?_ | refine X_ildA dX12_nextOrder_58 rfl (by omega) ?_ | refine X_ildM dX12_nextOrder_58 rfl (by omega) ?_ | refine X_sld dX12_nextOrder_58 rfl (by omega) (by omega) ?_
      rw [hx p (by omega), x0]
      refine X_icmp_ge (tgt := 68) dX12_nextOrder_59 (by decide) (fun b => ?_) (fun b => ?_)
      · exact absurd ((nle (by omega) (by omega)).mp b) (by omega)
      first | refine X_iincd dX12_nextOrder_62 rfl (by omega) rfl rfl ?_ | refine X_iinc dX12_nextOrder_62 rfl rfl rfl rfl ?_
      refine X_goto (tgt := 47) dX12_nextOrder_65 (by decide) ?_
      rw [show p + m - a + (w + 1) - 1 = p + m - a + w by omega]
      exact ih (by omega) (by omega)
  have phase1 : ∀ w, p + 1 + w < n → X G d zX12_nextOrder 7 [(0, vr 170), (1, vi (nI (p + 1 + w) + Int32.ofInt (-1)))] [] (NC, I, J, layR sw) 0 0 (qi Q) := by
    intro w
    induction w with
    | zero =>
      intro hw
      have l1 := xlt (p + 1) (by omega) (by omega)
      rw [Nat.add_zero, pm_s]
      refine X_iload_n dX12_nextOrder_7 rfl ?_
      refine X_if_lt (tgt := 34) dX12_nextOrder_8 (by decide) (fun b => ?_) (fun b => ?_)
      · exact absurd b (nneg (by omega))
      refine X_aload_n dX12_nextOrder_11 rfl ?_
      refine X_getR dX12_nextOrder_12 gf_X12_74 (by first | assumption | rfl) (by first | assumption | exact Nat.le_of_ble_eq_true rfl | omega) rfl (by first | assumption | rfl) ?_
      refine X_iload_n dX12_nextOrder_15 rfl ?_
      first | refine X_iald dX12_nextOrder_16 (by first | assumption | rfl) (by first | assumption | exact Nat.le_of_ble_eq_true rfl | omega) rfl (by first | decide | omega) (by decide) ?_ | refine X_ildA dX12_nextOrder_16 rfl (by omega) ?_ | refine X_ildM dX12_nextOrder_16 rfl (by omega) ?_ | refine X_sld dX12_nextOrder_16 rfl (by omega) (by omega) ?_
      rw [hx p (by omega), x0]
      refine X_aload_n dX12_nextOrder_17 rfl ?_
      refine X_getR dX12_nextOrder_18 gf_X12_74 (by first | assumption | rfl) (by first | assumption | exact Nat.le_of_ble_eq_true rfl | omega) rfl (by first | assumption | rfl) ?_
      refine X_iload_n dX12_nextOrder_21 rfl ?_
      refine X_iconst (v := nI 1) dX12_nextOrder_22 (by decide) ?_
      first | refine X_iaddN dX12_nextOrder_23 ?_ | refine X_iadd dX12_nextOrder_23 ?_
      first | refine X_iald dX12_nextOrder_24 (by first | assumption | rfl) (by first | assumption | exact Nat.le_of_ble_eq_true rfl | omega) rfl (by first | decide | omega) (by decide) ?_ | refine X_ildA dX12_nextOrder_24 rfl (by omega) ?_ | refine X_ildM dX12_nextOrder_24 rfl (by omega) ?_ | refine X_sld dX12_nextOrder_24 rfl (by omega) (by omega) ?_
      rw [hx (p + 1) (by omega)]
      refine X_icmp_le (tgt := 34) dX12_nextOrder_25 (by decide) (fun b25 => ?_) (fun b25 => ?_)
      · refine X_iload_n dX12_nextOrder_34 rfl ?_
        refine X_if_ge (tgt := 40) dX12_nextOrder_35 (by decide) (fun b35 => ?_) (fun b35 => ?_)
        · refine X_aload_n dX12_nextOrder_40 rfl ?_
          refine X_getI dX12_nextOrder_41 gf_X12_181 (by first | assumption | rfl) (by first | assumption | exact Nat.le_of_ble_eq_true rfl | omega) rfl ?_
          rw [hn0]
          refine X_iconst (v := nI 1) dX12_nextOrder_44 (by decide) ?_
          first | refine X_isubN dX12_nextOrder_45 (by omega) ?_ | refine X_isub dX12_nextOrder_45 ?_
          refine X_istore_n dX12_nextOrder_46 rfl rfl ?_
          rw [show n - 1 = p + m - a + a by omega]
          by_cases ham : a < m
          · exact phase2 a ham (Nat.le_refl a)
          · omega
        · exact absurd (nge0 (by omega)) b35
      · exact absurd ((nle (by omega) (by omega)).mpr (by omega)) b25
    | succ w ih =>
      intro hw
      have l1 := xlt (p + 1 + w) (by omega) (by omega)
      have l2 := xlt (p + 1 + w + 1) (by omega) (by omega)
      have l3 := xdec (p + 1 + w) (by omega) (by omega)
      rw [← Nat.add_assoc, pm_s]
      refine X_iload_n dX12_nextOrder_7 rfl ?_
      refine X_if_lt (tgt := 34) dX12_nextOrder_8 (by decide) (fun b => ?_) (fun b => ?_)
      · exact absurd b (nneg (by omega))
      refine X_aload_n dX12_nextOrder_11 rfl ?_
      refine X_getR dX12_nextOrder_12 gf_X12_74 (by first | assumption | rfl) (by first | assumption | exact Nat.le_of_ble_eq_true rfl | omega) rfl (by first | assumption | rfl) ?_
      refine X_iload_n dX12_nextOrder_15 rfl ?_
      first | refine X_iald dX12_nextOrder_16 (by first | assumption | rfl) (by first | assumption | exact Nat.le_of_ble_eq_true rfl | omega) rfl (by first | decide | omega) (by decide) ?_ | refine X_ildA dX12_nextOrder_16 rfl (by omega) ?_ | refine X_ildM dX12_nextOrder_16 rfl (by omega) ?_ | refine X_sld dX12_nextOrder_16 rfl (by omega) (by omega) ?_
      rw [hx (p + 1 + w) (by omega)]
      refine X_aload_n dX12_nextOrder_17 rfl ?_
      refine X_getR dX12_nextOrder_18 gf_X12_74 (by first | assumption | rfl) (by first | assumption | exact Nat.le_of_ble_eq_true rfl | omega) rfl (by first | assumption | rfl) ?_
      refine X_iload_n dX12_nextOrder_21 rfl ?_
      refine X_iconst (v := nI 1) dX12_nextOrder_22 (by decide) ?_
      first | refine X_iaddN dX12_nextOrder_23 ?_ | refine X_iadd dX12_nextOrder_23 ?_
      first | refine X_iald dX12_nextOrder_24 (by first | assumption | rfl) (by first | assumption | exact Nat.le_of_ble_eq_true rfl | omega) rfl (by first | decide | omega) (by decide) ?_ | refine X_ildA dX12_nextOrder_24 rfl (by omega) ?_ | refine X_ildM dX12_nextOrder_24 rfl (by omega) ?_ | refine X_sld dX12_nextOrder_24 rfl (by omega) (by omega) ?_
      rw [hx (p + 1 + w + 1) (by omega)]
      refine X_icmp_le (tgt := 34) dX12_nextOrder_25 (by decide) (fun b25 => ?_) (fun b25 => ?_)
      · exact absurd ((nle (by omega) (by omega)).mp b25) (by omega)
      refine X_iinc dX12_nextOrder_28 rfl rfl rfl rfl ?_
      refine X_goto (tgt := 7) dX12_nextOrder_31 (by decide) ?_
      exact ih (by omega)
  refine Y_of rfl rfl (Nat.le_of_ble_eq_true rfl) rfl ?_
  refine X_aload_n dX12_nextOrder_0 rfl ?_
  refine X_getI dX12_nextOrder_1 gf_X12_181 (by first | assumption | rfl) (by first | assumption | exact Nat.le_of_ble_eq_true rfl | omega) rfl ?_
  rw [hn0]
  refine X_iconst (v := nI 2) dX12_nextOrder_4 (by decide) ?_
  refine X_isub dX12_nextOrder_5 ?_
  rw [dec2 n (by omega)]
  refine X_istore_n dX12_nextOrder_6 rfl rfl ?_
  have := phase1 (m - 1) (by omega)
  rw [show p + 1 + (m - 1) = n - 1 by omega] at this
  exact this
end RN
