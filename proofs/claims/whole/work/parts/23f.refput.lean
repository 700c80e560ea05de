/-! what the reference puts in a rule's place -/
theorem add_sub3 {m g l R : Nat} (h : m + g = R + l) : nI m + (nI g - nI l) = nI R := by
  have e := congrArg nI h
  rw [← nI_add, ← nI_add] at e
  rw [Int32.sub_eq_add_neg, ← Int32.add_assoc, e, Int32.add_assoc, Int32.add_right_neg, Int32.add_zero]
def RSt (I : Nat → Nat → Int32) (j : Nat) (st : Nat → Nat) : Prop := I 172 j = enc (st 0) ∧ I 173 j = enc (st 1) ∧ I 174 j = enc (st 2) ∧ I 175 j = enc (st 3)
section RP
variable {G : GG} {d : Nat} {sw : Bool} {I : Nat → Nat → Int32} {J : Nat → Nat → Int64} {s : SS} {n : Nat} {c : Nat → Nat → Nat}
set_option maxRecDepth 20000 in
theorem m_isInRight {Q : Int32 → Mm → Prop} {a q : Nat} {R : CC × CC} (hd : 1 ≤ d) (ha : a < 4) (hq : q < 4) (hR : RRu I a R) (hgv : VC R.2.1 R.2.2) (hg3 : R.2.1 ≤ 3) (hQ : Q (nI (if inG R.2.2 q R.2.1 = true then 1 else 0)) (NC, I, J, layR sw)) : Y G d zX12_isInRight [vr 170, vi (nI a), vi (nI q)] (NC, I, J, layR sw) 0 0 (qi Q) := by
  obtain ⟨⟨ln, l⟩, ⟨gn, g⟩⟩ := R
  obtain ⟨-, h199, -, hg⟩ := hR
  dsimp only at h199 hg hgv hg3 hQ
  have loop : ∀ (m k : Nat), m = gn - k → k ≤ gn → X G d zX12_isInRight 5 [(0, vr 170), (1, vi (nI a)), (2, vi (nI q)), (3, vi (nI (if inG g q k = true then 1 else 0))), (4, vi (nI k))] [] (NC, I, J, layR sw) 0 0 (qi Q) := by
    intro m
    induction m with
    | zero =>
      intro k hm hk
      obtain rfl : k = gn := by omega
      refine X_iload dX12_isInRight_5 rfl ?_
      refine X_aload_n dX12_isInRight_7 rfl ?_
      refine X_getR dX12_isInRight_8 gf_X12_95 (by first | assumption | rfl) (by first | assumption | exact Nat.le_of_ble_eq_true rfl | omega) rfl (by first | assumption | rfl) ?_
      refine X_iload_n dX12_isInRight_11 rfl ?_
      first | refine X_iald dX12_isInRight_12 (by first | assumption | rfl) (by first | assumption | exact Nat.le_of_ble_eq_true rfl | omega) rfl (by first | decide | omega) (by decide) ?_ | refine X_ildA dX12_isInRight_12 rfl (by omega) ?_ | refine X_ildM dX12_isInRight_12 rfl (by omega) ?_ | refine X_sld dX12_isInRight_12 rfl (by omega) (by omega) ?_
      rw [h199]
      refine X_icmp_ge (tgt := 83) dX12_isInRight_13 (by decide) (fun b => ?_) (fun b => ?_)
      · refine X_iload_n dX12_isInRight_83 rfl ?_
        by_cases h : inG g q k = true
        · rw [if_pos h] at hQ ⊢
          exact X_zret dX12_isInRight_84 rfl (by first | rfl | (simp; done) | decide) ⟨_, rfl, hQ⟩
        · rw [if_neg h] at hQ ⊢
          exact X_zret dX12_isInRight_84 rfl (by first | rfl | (simp; done) | decide) ⟨_, rfl, hQ⟩
      · exact absurd (Int32.le_refl _) b
    | succ m ih =>
      intro k hm hk
      have hkg : k < gn := by omega
      have ih := ih (k + 1) (by omega) (by omega)
      rw [show inG g q (k + 1) = (inG g q k || decide (g k 0 = q ∨ g k 2 = q ∨ g k 3 = q)) from rfl] at ih
      have hvs := hgv.2 k hkg
      have e : ∀ w, w < 4 → (enc (g k w) = nI q ↔ g k w = q) := fun w hw => by
        rw [← enc_n (v := q) (by omega)]
        exact enc_inj (VS_lt hvs w hw) (by omega)
      have yes : (inG g q k = true ∨ (g k 0 = q ∨ g k 2 = q ∨ g k 3 = q)) → ∀ x3, X G d zX12_isInRight 71 [(0, vr 170), (1, vi (nI a)), (2, vi (nI q)), (3, vi x3), (4, vi (nI k))] [] (NC, I, J, layR sw) 0 0 (qi Q) := by
        intro h x3
        rw [if_pos (by rw [Bool.or_eq_true, decide_eq_true_iff]; exact h)] at ih
        refine X_iconst (v := nI 1) dX12_isInRight_71 (by decide) ?_
        refine X_goto (tgt := 76) dX12_isInRight_72 (by decide) ?_
        refine X_istore_n dX12_isInRight_76 rfl rfl ?_
        first | refine X_iinc1 dX12_isInRight_77 rfl rfl rfl ?_ | refine X_iinc dX12_isInRight_77 rfl rfl rfl rfl ?_
        refine X_goto (tgt := 5) dX12_isInRight_80 (by decide) ?_
        exact ih
      refine X_iload dX12_isInRight_5 rfl ?_
      refine X_aload_n dX12_isInRight_7 rfl ?_
      refine X_getR dX12_isInRight_8 gf_X12_95 (by first | assumption | rfl) (by first | assumption | exact Nat.le_of_ble_eq_true rfl | omega) rfl (by first | assumption | rfl) ?_
      refine X_iload_n dX12_isInRight_11 rfl ?_
      first | refine X_iald dX12_isInRight_12 (by first | assumption | rfl) (by first | assumption | exact Nat.le_of_ble_eq_true rfl | omega) rfl (by first | decide | omega) (by decide) ?_ | refine X_ildA dX12_isInRight_12 rfl (by omega) ?_ | refine X_ildM dX12_isInRight_12 rfl (by omega) ?_ | refine X_sld dX12_isInRight_12 rfl (by omega) (by omega) ?_
      rw [h199]
      refine X_icmp_ge (tgt := 83) dX12_isInRight_13 (by decide) (fun b => ?_) (fun b => ?_)
      · exact absurd ((nle (by omega) (by omega)).mp b) (by omega)
      refine X_iload_n dX12_isInRight_16 rfl ?_
      by_cases h : inG g q k = true
      · rw [if_pos h]
        refine X_if_ne (tgt := 71) dX12_isInRight_17 (by decide) (fun b17 => ?_) (fun b17 => ?_)
        · exact yes (Or.inl h) _
        · exact absurd b17 (by decide)
      · rw [if_neg h]
        refine X_if_ne (tgt := 71) dX12_isInRight_17 (by decide) (fun b17 => ?_) (fun b17 => ?_)
        · exact absurd rfl b17
        refine X_aload_n dX12_isInRight_20 rfl ?_
        refine X_getR dX12_isInRight_21 gf_X12_89 (by first | assumption | rfl) (by first | assumption | exact Nat.le_of_ble_eq_true rfl | omega) rfl (by first | assumption | rfl) ?_
        refine X_iload_n dX12_isInRight_24 rfl ?_
        refine X_iconst (v := nI 1) dX12_isInRight_25 (by decide) ?_
        refine X_iload dX12_isInRight_26 rfl ?_
        refine X_iconst (v := nI 0) dX12_isInRight_28 (by decide) ?_
        refine X_cSi dX12_isInRight_29 ck_X12_351 rfl rfl (by omega) (Nat.le_of_ble_eq_true rfl) (m_at ?_)
        first | refine X_iald dX12_isInRight_32 (by first | assumption | rfl) (by first | assumption | exact Nat.le_of_ble_eq_true rfl | omega) rfl (by first | decide | omega) (by decide) ?_ | refine X_ildA dX12_isInRight_32 rfl (by omega) ?_ | refine X_ildM dX12_isInRight_32 rfl (by omega) ?_ | refine X_sld dX12_isInRight_32 rfl (by omega) (by omega) ?_
        rw [hg k hkg 0 (by decide)]
        refine X_iload_n dX12_isInRight_33 rfl ?_
        refine X_icmp_eq (tgt := 71) dX12_isInRight_34 (by decide) (fun b34 => ?_) (fun b34 => ?_)
        · exact yes (Or.inr (Or.inl ((e 0 (by decide)).mp b34))) _
        refine X_aload_n dX12_isInRight_37 rfl ?_
        refine X_getR dX12_isInRight_38 gf_X12_89 (by first | assumption | rfl) (by first | assumption | exact Nat.le_of_ble_eq_true rfl | omega) rfl (by first | assumption | rfl) ?_
        refine X_iload_n dX12_isInRight_41 rfl ?_
        refine X_iconst (v := nI 1) dX12_isInRight_42 (by decide) ?_
        refine X_iload dX12_isInRight_43 rfl ?_
        refine X_iconst (v := nI 2) dX12_isInRight_45 (by decide) ?_
        refine X_cSi dX12_isInRight_46 ck_X12_351 rfl rfl (by omega) (Nat.le_of_ble_eq_true rfl) (m_at ?_)
        first | refine X_iald dX12_isInRight_49 (by first | assumption | rfl) (by first | assumption | exact Nat.le_of_ble_eq_true rfl | omega) rfl (by first | decide | omega) (by decide) ?_ | refine X_ildA dX12_isInRight_49 rfl (by omega) ?_ | refine X_ildM dX12_isInRight_49 rfl (by omega) ?_ | refine X_sld dX12_isInRight_49 rfl (by omega) (by omega) ?_
        rw [hg k hkg 2 (by decide)]
        refine X_iload_n dX12_isInRight_50 rfl ?_
        refine X_icmp_eq (tgt := 71) dX12_isInRight_51 (by decide) (fun b51 => ?_) (fun b51 => ?_)
        · exact yes (Or.inr (Or.inr (Or.inl ((e 2 (by decide)).mp b51)))) _
        refine X_aload_n dX12_isInRight_54 rfl ?_
        refine X_getR dX12_isInRight_55 gf_X12_89 (by first | assumption | rfl) (by first | assumption | exact Nat.le_of_ble_eq_true rfl | omega) rfl (by first | assumption | rfl) ?_
        refine X_iload_n dX12_isInRight_58 rfl ?_
        refine X_iconst (v := nI 1) dX12_isInRight_59 (by decide) ?_
        refine X_iload dX12_isInRight_60 rfl ?_
        refine X_iconst (v := nI 3) dX12_isInRight_62 (by decide) ?_
        refine X_cSi dX12_isInRight_63 ck_X12_351 rfl rfl (by omega) (Nat.le_of_ble_eq_true rfl) (m_at ?_)
        first | refine X_iald dX12_isInRight_66 (by first | assumption | rfl) (by first | assumption | exact Nat.le_of_ble_eq_true rfl | omega) rfl (by first | decide | omega) (by decide) ?_ | refine X_ildA dX12_isInRight_66 rfl (by omega) ?_ | refine X_ildM dX12_isInRight_66 rfl (by omega) ?_ | refine X_sld dX12_isInRight_66 rfl (by omega) (by omega) ?_
        rw [hg k hkg 3 (by decide)]
        refine X_iload_n dX12_isInRight_67 rfl ?_
        refine X_icmp_ne (tgt := 75) dX12_isInRight_68 (by decide) (fun b68 => ?_) (fun b68 => ?_)
        · rw [if_neg (by
            rw [Bool.or_eq_true, decide_eq_true_iff]
            rintro (z | z | z | z)
            · exact h z
            · exact b34 ((e 0 (by decide)).mpr z)
            · exact b51 ((e 2 (by decide)).mpr z)
            · exact b68 ((e 3 (by decide)).mpr z))] at ih
          refine X_iconst (v := nI 0) dX12_isInRight_75 (by decide) ?_
          refine X_istore_n dX12_isInRight_76 rfl rfl ?_
          first | refine X_iinc1 dX12_isInRight_77 rfl rfl rfl ?_ | refine X_iinc dX12_isInRight_77 rfl rfl rfl rfl ?_
          refine X_goto (tgt := 5) dX12_isInRight_80 (by decide) ?_
          exact ih
        · exact yes (Or.inr (Or.inr (Or.inr ((e 3 (by decide)).mp b68)))) _
  refine Y_of rfl rfl (Nat.le_of_ble_eq_true rfl) rfl ?_
  refine X_iconst (v := nI 0) dX12_isInRight_0 (by decide) ?_
  refine X_istore_n dX12_isInRight_1 rfl rfl ?_
  refine X_iconst (v := nI 0) dX12_isInRight_2 (by decide) ?_
  refine X_istore dX12_isInRight_3 rfl rfl ?_
  exact loop gn 0 rfl (Nat.zero_le _)
theorem m_calledAs {Q : Int32 → Mm → Prop} {v : Nat} {N : Nat → Nat} (hd : 2 ≤ d) (hN : RNm I N) (hv : v < 200) (hQ : Q (enc (cld N v)) (NC, I, J, layR sw)) : Y G d zX12_calledAs [vr 170, vi (enc v)] (NC, I, J, layR sw) 0 0 (qi Q) := by
  unfold cld at hQ
  refine Y_of rfl rfl (Nat.le_of_ble_eq_true rfl) rfl ?_
  refine X_iload_n dX12_calledAs_0 rfl ?_
  by_cases h4 : v < 4
  · rw [if_pos h4] at hQ
    rw [enc_n (by omega)]
    refine X_cSi dX12_calledAs_1 ck_X12_218 rfl rfl (by omega) (Nat.le_of_ble_eq_true rfl) (c_isReg_t (by omega) h4 ?_)
    refine X_if_eq (tgt := 16) dX12_calledAs_4 (by decide) (fun b => ?_) (fun b => ?_)
    · exact absurd b (by decide)
    refine X_aload_n dX12_calledAs_7 rfl ?_
    refine X_getR dX12_calledAs_8 gf_X12_98 (by first | assumption | rfl) (by first | assumption | exact Nat.le_of_ble_eq_true rfl | omega) rfl (by first | assumption | rfl) ?_
    refine X_iload_n dX12_calledAs_11 rfl ?_
    first | refine X_iald dX12_calledAs_12 (by first | assumption | rfl) (by first | assumption | exact Nat.le_of_ble_eq_true rfl | omega) rfl (by first | decide | omega) (by decide) ?_ | refine X_ildA dX12_calledAs_12 rfl (by omega) ?_ | refine X_ildM dX12_calledAs_12 rfl (by omega) ?_ | refine X_sld dX12_calledAs_12 rfl (by omega) (by omega) ?_
    rw [hN v h4]
    refine X_goto (tgt := 17) dX12_calledAs_13 (by decide) ?_
    exact X_iret dX12_calledAs_17 rfl ⟨_, rfl, hQ⟩
  · rw [if_neg h4] at hQ
    refine X_cSi dX12_calledAs_1 ck_X12_218 rfl rfl (by omega) (Nat.le_of_ble_eq_true rfl) (c_isReg_f (by omega) (enc_big h4 hv) ?_)
    refine X_if_eq (tgt := 16) dX12_calledAs_4 (by decide) (fun b => ?_) (fun b => ?_)
    · refine X_iload_n dX12_calledAs_16 rfl ?_
      exact X_iret dX12_calledAs_17 rfl ⟨_, rfl, hQ⟩
    · exact absurd rfl b
theorem m_move {Q : Mm → Prop} {x y : Nat} (hx : x < 12) (hy : y < 12) (hQ : ∀ I', FrM [172, 173, 174, 175] [] I I' → (∀ st, RSt I x st → RSt I' y st) → (∀ j st, j ≠ y → RSt I j st → RSt I' j st) → Q (NC, I', J, layR sw)) : Y G d zX12_move [vr 170, vi (nI x), vi (nI y)] (NC, I, J, layR sw) 0 0 (qv Q) := by
  refine Y_of rfl rfl (Nat.le_of_ble_eq_true rfl) rfl ?_
  refine X_aload_n dX12_move_0 rfl ?_
  refine X_getR dX12_move_1 gf_X12_13 (by first | assumption | rfl) (by first | assumption | exact Nat.le_of_ble_eq_true rfl | omega) rfl (by first | assumption | rfl) ?_
  refine X_iload_n dX12_move_4 rfl ?_
  refine X_aload_n dX12_move_5 rfl ?_
  refine X_getR dX12_move_6 gf_X12_13 (by first | assumption | rfl) (by first | assumption | exact Nat.le_of_ble_eq_true rfl | omega) rfl (by first | assumption | rfl) ?_
  refine X_iload_n dX12_move_9 rfl ?_
  first | refine X_iald dX12_move_10 (by first | assumption | rfl) (by first | assumption | exact Nat.le_of_ble_eq_true rfl | omega) rfl (by first | decide | omega) (by decide) ?_ | refine X_ildA dX12_move_10 rfl (by omega) ?_ | refine X_ildM dX12_move_10 rfl (by omega) ?_ | refine X_sld dX12_move_10 rfl (by omega) (by omega) ?_
  refine X_iast dX12_move_11 (by first | assumption | rfl) (by first | assumption | exact Nat.le_of_ble_eq_true rfl | omega) rfl (by first | decide | omega) (by decide) ?_
  refine X_aload_n dX12_move_12 rfl ?_
  refine X_getR dX12_move_13 gf_X12_16 (by first | assumption | rfl) (by first | assumption | exact Nat.le_of_ble_eq_true rfl | omega) rfl (by first | assumption | rfl) ?_
  refine X_iload_n dX12_move_16 rfl ?_
  refine X_aload_n dX12_move_17 rfl ?_
  refine X_getR dX12_move_18 gf_X12_16 (by first | assumption | rfl) (by first | assumption | exact Nat.le_of_ble_eq_true rfl | omega) rfl (by first | assumption | rfl) ?_
  refine X_iload_n dX12_move_21 rfl ?_
  first | refine X_iald dX12_move_22 (by first | assumption | rfl) (by first | assumption | exact Nat.le_of_ble_eq_true rfl | omega) rfl (by first | decide | omega) (by decide) ?_ | refine X_ildA dX12_move_22 rfl (by omega) ?_ | refine X_ildM dX12_move_22 rfl (by omega) ?_ | refine X_sld dX12_move_22 rfl (by omega) (by omega) ?_
  refine X_iast dX12_move_23 (by first | assumption | rfl) (by first | assumption | exact Nat.le_of_ble_eq_true rfl | omega) rfl (by first | decide | omega) (by decide) ?_
  refine X_aload_n dX12_move_24 rfl ?_
  refine X_getR dX12_move_25 gf_X12_19 (by first | assumption | rfl) (by first | assumption | exact Nat.le_of_ble_eq_true rfl | omega) rfl (by first | assumption | rfl) ?_
  refine X_iload_n dX12_move_28 rfl ?_
  refine X_aload_n dX12_move_29 rfl ?_
  refine X_getR dX12_move_30 gf_X12_19 (by first | assumption | rfl) (by first | assumption | exact Nat.le_of_ble_eq_true rfl | omega) rfl (by first | assumption | rfl) ?_
  refine X_iload_n dX12_move_33 rfl ?_
  first | refine X_iald dX12_move_34 (by first | assumption | rfl) (by first | assumption | exact Nat.le_of_ble_eq_true rfl | omega) rfl (by first | decide | omega) (by decide) ?_ | refine X_ildA dX12_move_34 rfl (by omega) ?_ | refine X_ildM dX12_move_34 rfl (by omega) ?_ | refine X_sld dX12_move_34 rfl (by omega) (by omega) ?_
  refine X_iast dX12_move_35 (by first | assumption | rfl) (by first | assumption | exact Nat.le_of_ble_eq_true rfl | omega) rfl (by first | decide | omega) (by decide) ?_
  refine X_aload_n dX12_move_36 rfl ?_
  refine X_getR dX12_move_37 gf_X12_22 (by first | assumption | rfl) (by first | assumption | exact Nat.le_of_ble_eq_true rfl | omega) rfl (by first | assumption | rfl) ?_
  refine X_iload_n dX12_move_40 rfl ?_
  refine X_aload_n dX12_move_41 rfl ?_
  refine X_getR dX12_move_42 gf_X12_22 (by first | assumption | rfl) (by first | assumption | exact Nat.le_of_ble_eq_true rfl | omega) rfl (by first | assumption | rfl) ?_
  refine X_iload_n dX12_move_45 rfl ?_
  first | refine X_iald dX12_move_46 (by first | assumption | rfl) (by first | assumption | exact Nat.le_of_ble_eq_true rfl | omega) rfl (by first | decide | omega) (by decide) ?_ | refine X_ildA dX12_move_46 rfl (by omega) ?_ | refine X_ildM dX12_move_46 rfl (by omega) ?_ | refine X_sld dX12_move_46 rfl (by omega) (by omega) ?_
  refine X_iast dX12_move_47 (by first | assumption | rfl) (by first | assumption | exact Nat.le_of_ble_eq_true rfl | omega) rfl (by first | decide | omega) (by decide) ?_
  refine X_vret dX12_move_48 rfl ⟨rfl, hQ _ ((((FrM.c (by simp) (by decide)).tr (FrM.c (by simp) (by decide))).tr (FrM.c (by simp) (by decide))).tr (FrM.c (by simp) (by decide))) (fun st h => ?_) (fun j st hj h => ?_)⟩
  · obtain ⟨h0, h1, h2, h3⟩ := h
    refine ⟨?_, ?_, ?_, ?_⟩
    · rw [sr_ne (by decide), sr_ne (by decide), sr_ne (by decide), sr_eq, up_eq]; exact h0
    · rw [sr_ne (by decide), sr_ne (by decide), sr_eq, up_eq, sr_ne (by decide)]; exact h1
    · rw [sr_ne (by decide), sr_eq, up_eq, sr_ne (by decide), sr_ne (by decide)]; exact h2
    · rw [sr_eq, up_eq, sr_ne (by decide), sr_ne (by decide), sr_ne (by decide)]; exact h3
  · obtain ⟨h0, h1, h2, h3⟩ := h
    refine ⟨?_, ?_, ?_, ?_⟩
    · rw [sr_ne (by decide), sr_ne (by decide), sr_ne (by decide), sr_eq, up_ne hj]; exact h0
    · rw [sr_ne (by decide), sr_ne (by decide), sr_eq, up_ne hj, sr_ne (by decide)]; exact h1
    · rw [sr_ne (by decide), sr_eq, up_ne hj, sr_ne (by decide), sr_ne (by decide)]; exact h2
    · rw [sr_eq, up_ne hj, sr_ne (by decide), sr_ne (by decide), sr_ne (by decide)]; exact h3
set_option maxRecDepth 20000 in
set_option maxHeartbeats 2000000 in
theorem m_put {Q : Mm → Prop} {a p : Nat} {R : CC × CC} {N : Nat → Nat} (hd : 3 ≤ d) (ha : a < 4) (hc : RC I n c) (hv : VC n c) (hR : RRu I a R) (hgv : VC R.2.1 R.2.2) (hl3 : R.1.1 ≤ 3) (hg3 : R.2.1 ≤ 3) (hp : p + R.1.1 ≤ n) (h12 : n - R.1.1 + R.2.1 ≤ 12) (hN : RNm I N) (hNV : NV N) (hQ : ∀ I', FrM [172, 173, 174, 175, 200] [9] I I' → RC I' (n - R.1.1 + R.2.1) (rpl c R.2.2 p R.1.1 R.2.1 (rsN R.2.2 R.2.1 N 4)) → Q (NC, I', J, layR sw)) : Y G d zX12_put [vr 170, vi (nI a), vi (nI p)] (NC, I, J, layR sw) 0 0 (qv Q) := by
  have hn := hv.1
  obtain ⟨⟨ln, l⟩, ⟨gn, g⟩⟩ := R
  dsimp only at hgv hl3 hg3 hp h12 hQ
  have fR : ∀ I' fl, FrM [172, 173, 174, 175, 200] fl I I' → RRu I' a ((ln, l), (gn, g)) := fun I' fl f => RRu_fm hR f (by decide)
  -- the right side's steps
  have phase4 : ∀ (m k : Nat) (I' : Nat → Nat → Int32) (N' : Nat → Nat), m = gn - k → k ≤ gn → FrM [172, 173, 174, 175, 200] [9] I I' → I' 170 9 = nI (n - ln + gn) → RNm I' N' → N' = rsN g gn N 4 → (∀ j, j < p → RSt I' j (c j)) → (∀ j, j < k → RSt I' (p + j) (rcs N' (g j))) → (∀ i, p + ln ≤ i → i < n → RSt I' (i + gn - ln) (c i)) → X G d zX12_put 165 [(0, vr 170), (1, vi (nI a)), (2, vi (nI p)), (3, vi (nI ln)), (4, vi (nI gn)), (5, vi (nI k))] [] (NC, I', J, layR sw) 0 0 (qv Q) := by
    intro m
    induction m with
    | zero =>
      intro k I' N' hm hk f h9 hN' hNe hlo hmid hhi
      obtain rfl : k = gn := by omega
      refine X_iload dX12_put_165 rfl ?_
      refine X_iload dX12_put_167 rfl ?_
      refine X_icmp_ge (tgt := 278) dX12_put_169 (by decide) (fun b => ?_) (fun b => ?_)
      · refine X_vret dX12_put_278 rfl ⟨rfl, hQ I' f ⟨h9, fun i hi => ?_⟩⟩
        rw [← hNe]
        unfold rpl
        by_cases z1 : i < p
        · rw [if_pos z1]; exact hlo i z1
        · rw [if_neg z1]
          by_cases z2 : i < p + k
          · rw [if_pos z2]
            have := hmid (i - p) (by omega)
            rw [show p + (i - p) = i by omega] at this
            exact this
          · rw [if_neg z2]
            have := hhi (i - k + ln) (by omega) (by omega)
            rw [show i - k + ln + k - ln = i by omega] at this
            exact this
      · exact absurd (Int32.le_refl _) b
    | succ m ih =>
      intro k I' N' hm hk f h9 hN' hNe hlo hmid hhi
      have hkg : k < gn := by omega
      have hvs := hgv.2 k hkg
      have hg := (fR I' [9] f).2.2.2 k hkg
      dsimp only at hg
      refine X_iload dX12_put_165 rfl ?_
      refine X_iload dX12_put_167 rfl ?_
      refine X_icmp_ge (tgt := 278) dX12_put_169 (by decide) (fun b => ?_) (fun b => ?_)
      · exact absurd ((nle (by omega) (by omega)).mp b) (by omega)
      refine X_aload_n dX12_put_172 rfl ?_
      refine X_getR dX12_put_173 gf_X12_13 (by first | assumption | rfl) (by first | assumption | exact Nat.le_of_ble_eq_true rfl | omega) rfl (by first | assumption | rfl) ?_
      refine X_iload_n dX12_put_176 rfl ?_
      refine X_iload dX12_put_177 rfl ?_
      first | refine X_iaddN dX12_put_179 ?_ | refine X_iadd dX12_put_179 ?_
      refine X_aload_n dX12_put_180 rfl ?_
      refine X_aload_n dX12_put_181 rfl ?_
      refine X_getR dX12_put_182 gf_X12_89 (by first | assumption | rfl) (by first | assumption | exact Nat.le_of_ble_eq_true rfl | omega) rfl (by first | assumption | rfl) ?_
      refine X_iload_n dX12_put_185 rfl ?_
      refine X_iconst (v := nI 1) dX12_put_186 (by decide) ?_
      refine X_iload dX12_put_187 rfl ?_
      refine X_iconst (v := nI 0) dX12_put_189 (by decide) ?_
      refine X_cSi dX12_put_190 ck_X12_351 rfl rfl (by omega) (Nat.le_of_ble_eq_true rfl) (m_at ?_)
      first | refine X_iald dX12_put_193 (by first | assumption | rfl) (by first | assumption | exact Nat.le_of_ble_eq_true rfl | omega) rfl (by first | decide | omega) (by decide) ?_ | refine X_ildA dX12_put_193 rfl (by omega) ?_ | refine X_ildM dX12_put_193 rfl (by omega) ?_ | refine X_sld dX12_put_193 rfl (by omega) (by omega) ?_
      rw [hg 0 (by decide)]
      refine X_cVi dX12_put_194 ck_X12_383 rfl rfl (by first | assumption | rfl) (by first | assumption | exact Nat.le_of_ble_eq_true rfl | omega) (by omega) (Nat.le_of_ble_eq_true rfl) (m_calledAs (by omega) hN' (VS_lt hvs 0 (by decide)) ?_)
      refine X_iast dX12_put_197 (by first | assumption | rfl) (by first | assumption | exact Nat.le_of_ble_eq_true rfl | omega) rfl (by first | decide | omega) (by decide) ?_
      refine X_aload_n dX12_put_198 rfl ?_
      refine X_getR dX12_put_199 gf_X12_16 (by first | assumption | rfl) (by first | assumption | exact Nat.le_of_ble_eq_true rfl | omega) rfl (by first | assumption | rfl) ?_
      refine X_iload_n dX12_put_202 rfl ?_
      refine X_iload dX12_put_203 rfl ?_
      first | refine X_iaddN dX12_put_205 ?_ | refine X_iadd dX12_put_205 ?_
      refine X_aload_n dX12_put_206 rfl ?_
      refine X_getR dX12_put_207 gf_X12_89 (by first | assumption | rfl) (by first | assumption | exact Nat.le_of_ble_eq_true rfl | omega) rfl (by first | assumption | rfl) ?_
      refine X_iload_n dX12_put_210 rfl ?_
      refine X_iconst (v := nI 1) dX12_put_211 (by decide) ?_
      refine X_iload dX12_put_212 rfl ?_
      refine X_iconst (v := nI 1) dX12_put_214 (by decide) ?_
      refine X_cSi dX12_put_215 ck_X12_351 rfl rfl (by omega) (Nat.le_of_ble_eq_true rfl) (m_at ?_)
      first | refine X_iald dX12_put_218 (by first | assumption | rfl) (by first | assumption | exact Nat.le_of_ble_eq_true rfl | omega) rfl (by first | decide | omega) (by decide) ?_ | refine X_ildA dX12_put_218 rfl (by omega) ?_ | refine X_ildM dX12_put_218 rfl (by omega) ?_ | refine X_sld dX12_put_218 rfl (by omega) (by omega) ?_
      rw [sr_ne (show 197 ≠ 172 by decide), hg 1 (by decide)]
      refine X_iast dX12_put_219 (by first | assumption | rfl) (by first | assumption | exact Nat.le_of_ble_eq_true rfl | omega) rfl (by first | decide | omega) (by decide) ?_
      refine X_aload_n dX12_put_220 rfl ?_
      refine X_getR dX12_put_221 gf_X12_19 (by first | assumption | rfl) (by first | assumption | exact Nat.le_of_ble_eq_true rfl | omega) rfl (by first | assumption | rfl) ?_
      refine X_iload_n dX12_put_224 rfl ?_
      refine X_iload dX12_put_225 rfl ?_
      first | refine X_iaddN dX12_put_227 ?_ | refine X_iadd dX12_put_227 ?_
      refine X_aload_n dX12_put_228 rfl ?_
      refine X_aload_n dX12_put_229 rfl ?_
      refine X_getR dX12_put_230 gf_X12_89 (by first | assumption | rfl) (by first | assumption | exact Nat.le_of_ble_eq_true rfl | omega) rfl (by first | assumption | rfl) ?_
      refine X_iload_n dX12_put_233 rfl ?_
      refine X_iconst (v := nI 1) dX12_put_234 (by decide) ?_
      refine X_iload dX12_put_235 rfl ?_
      refine X_iconst (v := nI 2) dX12_put_237 (by decide) ?_
      refine X_cSi dX12_put_238 ck_X12_351 rfl rfl (by omega) (Nat.le_of_ble_eq_true rfl) (m_at ?_)
      first | refine X_iald dX12_put_241 (by first | assumption | rfl) (by first | assumption | exact Nat.le_of_ble_eq_true rfl | omega) rfl (by first | decide | omega) (by decide) ?_ | refine X_ildA dX12_put_241 rfl (by omega) ?_ | refine X_ildM dX12_put_241 rfl (by omega) ?_ | refine X_sld dX12_put_241 rfl (by omega) (by omega) ?_
      rw [sr_ne (show 197 ≠ 173 by decide), sr_ne (show 197 ≠ 172 by decide), hg 2 (by decide)]
      refine X_cVi dX12_put_242 ck_X12_383 rfl rfl (by first | assumption | rfl) (by first | assumption | exact Nat.le_of_ble_eq_true rfl | omega) (by omega) (Nat.le_of_ble_eq_true rfl) (m_calledAs (N := N') (by omega) (fun q hq => by rw [sr_ne (by decide), sr_ne (by decide)]; exact hN' q hq) (VS_lt hvs 2 (by decide)) ?_)
      refine X_iast dX12_put_245 (by first | assumption | rfl) (by first | assumption | exact Nat.le_of_ble_eq_true rfl | omega) rfl (by first | decide | omega) (by decide) ?_
      refine X_aload_n dX12_put_246 rfl ?_
      refine X_getR dX12_put_247 gf_X12_22 (by first | assumption | rfl) (by first | assumption | exact Nat.le_of_ble_eq_true rfl | omega) rfl (by first | assumption | rfl) ?_
      refine X_iload_n dX12_put_250 rfl ?_
      refine X_iload dX12_put_251 rfl ?_
      first | refine X_iaddN dX12_put_253 ?_ | refine X_iadd dX12_put_253 ?_
      refine X_aload_n dX12_put_254 rfl ?_
      refine X_aload_n dX12_put_255 rfl ?_
      refine X_getR dX12_put_256 gf_X12_89 (by first | assumption | rfl) (by first | assumption | exact Nat.le_of_ble_eq_true rfl | omega) rfl (by first | assumption | rfl) ?_
      refine X_iload_n dX12_put_259 rfl ?_
      refine X_iconst (v := nI 1) dX12_put_260 (by decide) ?_
      refine X_iload dX12_put_261 rfl ?_
      refine X_iconst (v := nI 3) dX12_put_263 (by decide) ?_
      refine X_cSi dX12_put_264 ck_X12_351 rfl rfl (by omega) (Nat.le_of_ble_eq_true rfl) (m_at ?_)
      first | refine X_iald dX12_put_267 (by first | assumption | rfl) (by first | assumption | exact Nat.le_of_ble_eq_true rfl | omega) rfl (by first | decide | omega) (by decide) ?_ | refine X_ildA dX12_put_267 rfl (by omega) ?_ | refine X_ildM dX12_put_267 rfl (by omega) ?_ | refine X_sld dX12_put_267 rfl (by omega) (by omega) ?_
      rw [sr_ne (show 197 ≠ 174 by decide), sr_ne (show 197 ≠ 173 by decide), sr_ne (show 197 ≠ 172 by decide), hg 3 (by decide)]
      refine X_cVi dX12_put_268 ck_X12_383 rfl rfl (by first | assumption | rfl) (by first | assumption | exact Nat.le_of_ble_eq_true rfl | omega) (by omega) (Nat.le_of_ble_eq_true rfl) (m_calledAs (N := N') (by omega) (fun q hq => by rw [sr_ne (by decide), sr_ne (by decide), sr_ne (by decide)]; exact hN' q hq) (VS_lt hvs 3 (by decide)) ?_)
      refine X_iast dX12_put_271 (by first | assumption | rfl) (by first | assumption | exact Nat.le_of_ble_eq_true rfl | omega) rfl (by first | decide | omega) (by decide) ?_
      first | refine X_iinc1 dX12_put_272 rfl rfl rfl ?_ | refine X_iinc dX12_put_272 rfl rfl rfl rfl ?_
      refine X_goto (tgt := 165) dX12_put_275 (by decide) ?_
      have row : ∀ j st, j ≠ p + k → RSt I' j st → RSt (sr (sr (sr (sr I' 172 (up (I' 172) (p + k) (enc (cld N' (g k 0))))) 173 (up (sr I' 172 (up (I' 172) (p + k) (enc (cld N' (g k 0)))) 173) (p + k) (enc (g k 1)))) 174 (up (sr (sr I' 172 (up (I' 172) (p + k) (enc (cld N' (g k 0))))) 173 (up (sr I' 172 (up (I' 172) (p + k) (enc (cld N' (g k 0)))) 173) (p + k) (enc (g k 1))) 174) (p + k) (enc (cld N' (g k 2))))) 175 (up (sr (sr (sr I' 172 (up (I' 172) (p + k) (enc (cld N' (g k 0))))) 173 (up (sr I' 172 (up (I' 172) (p + k) (enc (cld N' (g k 0)))) 173) (p + k) (enc (g k 1)))) 174 (up (sr (sr I' 172 (up (I' 172) (p + k) (enc (cld N' (g k 0))))) 173 (up (sr I' 172 (up (I' 172) (p + k) (enc (cld N' (g k 0)))) 173) (p + k) (enc (g k 1))) 174) (p + k) (enc (cld N' (g k 2)))) 175) (p + k) (enc (cld N' (g k 3))))) j st := by
        intro j st hj h
        obtain ⟨h0, h1, h2, h3⟩ := h
        refine ⟨?_, ?_, ?_, ?_⟩
        · rw [sr_ne (by decide), sr_ne (by decide), sr_ne (by decide), sr_eq, up_ne hj]; exact h0
        · rw [sr_ne (by decide), sr_ne (by decide), sr_eq, up_ne hj, sr_ne (by decide)]; exact h1
        · rw [sr_ne (by decide), sr_eq, up_ne hj, sr_ne (by decide), sr_ne (by decide)]; exact h2
        · rw [sr_eq, up_ne hj, sr_ne (by decide), sr_ne (by decide), sr_ne (by decide)]; exact h3
      refine ih (k + 1) _ N' (by omega) (by omega) (f.tr ((((FrM.c (by simp) (by decide)).tr (FrM.c (by simp) (by decide))).tr (FrM.c (by simp) (by decide))).tr (FrM.c (by simp) (by decide)))) (by rw [sr_ne (by decide), sr_ne (by decide), sr_ne (by decide), sr_ne (by decide)]; exact h9) (fun q hq => by rw [sr_ne (by decide), sr_ne (by decide), sr_ne (by decide), sr_ne (by decide)]; exact hN' q hq) hNe (fun j hj => row j _ (by omega) (hlo j hj)) (fun j hj => ?_) (fun i h1 h2 => row _ _ (by omega) (hhi i h1 h2))
      by_cases z : j = k
      · subst z
        refine ⟨?_, ?_, ?_, ?_⟩
        · rw [sr_ne (by decide), sr_ne (by decide), sr_ne (by decide), sr_eq, up_eq]; rfl
        · rw [sr_ne (by decide), sr_ne (by decide), sr_eq, up_eq]; rfl
        · rw [sr_ne (by decide), sr_eq, up_eq]; rfl
        · rw [sr_eq, up_eq]; rfl
      · exact row _ _ (by omega) (hmid j (by omega))
  have phase3 : ∀ (I' : Nat → Nat → Int32) (L2), FrM [172, 173, 174, 175, 200] [] I I' → RNm I' (rsN g gn N 4) → (∀ j, j < p → RSt I' j (c j)) → (∀ i, p + ln ≤ i → i < n → RSt I' (i + gn - ln) (c i)) → X G d zX12_put 149 ([(0, vr 170), (1, vi (nI a)), (2, vi (nI p)), (3, vi (nI ln)), (4, vi (nI gn))] ++ L2) [] (NC, I', J, layR sw) 0 0 (qv Q) := by
    intro I' L2 f hN' hlo hhi
    refine weak (lv' := [(0, vr 170), (1, vi (nI a)), (2, vi (nI p)), (3, vi (nI ln)), (4, vi (nI gn))]) (fun q hq => List.mem_append_left _ hq) ?_
    refine X_aload_n dX12_put_149 rfl ?_
    refine X_dup dX12_put_150 rfl ?_
    refine X_getI dX12_put_151 gf_X12_181 (by first | assumption | rfl) (by first | assumption | exact Nat.le_of_ble_eq_true rfl | omega) rfl ?_
    rw [show I' 170 9 = nI n by rw [f.2 9 (by simp)]; exact hc.1]
    refine X_iload dX12_put_154 rfl ?_
    refine X_iload_n dX12_put_156 rfl ?_
    refine X_isub dX12_put_157 ?_
    refine X_iadd dX12_put_158 ?_
    rw [add_sub3 (show n + gn = (n - ln + gn) + ln by omega)]
    refine X_putI dX12_put_159 gf_X12_181 (Or.inl rfl) (by first | assumption | rfl) (by first | assumption | exact Nat.le_of_ble_eq_true rfl | omega) rfl ?_
    refine X_iconst (v := nI 0) dX12_put_162 (by decide) ?_
    refine X_istore dX12_put_163 rfl rfl ?_
    have row : ∀ j st, RSt I' j st → RSt (sr I' 170 (up (I' 170) 9 (nI (n - ln + gn)))) j st := by
      intro j st h
      unfold RSt
      rw [sr_ne (by decide), sr_ne (by decide), sr_ne (by decide), sr_ne (by decide)]
      exact h
    refine phase4 gn 0 _ _ rfl (Nat.zero_le _) ⟨fun j h1 h2 => by rw [sr_ne h1]; exact f.1 j h1 h2, fun z hz => ?_⟩ (by rw [sr_eq, up_eq]) (fun q hq => by rw [sr_ne (by decide)]; exact hN' q hq) rfl (fun j hj => row _ _ (hlo j hj)) (fun j h => absurd h (Nat.not_lt_zero j)) (fun i h1 h2 => row _ _ (hhi i h1 h2))
    rw [sr_eq, up_ne (by simp at hz; exact hz)]
    exact f.2 z (by simp)
  -- the steps behind move
  have down : ∀ (m : Nat) (I' : Nat → Nat → Int32), ln ≤ gn → p + ln ≤ m → m ≤ n → FrM [172, 173, 174, 175, 200] [] I I' → RNm I' (rsN g gn N 4) → (∀ j, j < m → RSt I' j (c j)) → (∀ i, m ≤ i → i < n → RSt I' (i + gn - ln) (c i)) → X G d zX12_put 122 [(0, vr 170), (1, vi (nI a)), (2, vi (nI p)), (3, vi (nI ln)), (4, vi (nI gn)), (5, vi (nI m + Int32.ofInt (-1)))] [] (NC, I', J, layR sw) 0 0 (qv Q) := by
    intro m
    induction m with
    | zero =>
      intro I' h1 h2 h3 f hN' hlo hhi
      refine X_iload dX12_put_122 rfl ?_
      refine X_iload_n dX12_put_124 rfl ?_
      refine X_iload_n dX12_put_125 rfl ?_
      first | refine X_iaddN dX12_put_126 ?_ | refine X_iadd dX12_put_126 ?_
      refine X_icmp_lt (tgt := 149) dX12_put_127 (by decide) (fun b => ?_) (fun b => ?_)
      · exact phase3 I' [(5, vi (nI 0 + Int32.ofInt (-1)))] f hN' (fun j hj => hlo j (by omega)) (fun i z1 z2 => hhi i (by omega) z2)
      · exact absurd (Int32.lt_of_lt_of_le pm_0 (nge0 (by omega))) b
    | succ m ih =>
      intro I' h1 h2 h3 f hN' hlo hhi
      rw [pm_s]
      refine X_iload dX12_put_122 rfl ?_
      refine X_iload_n dX12_put_124 rfl ?_
      refine X_iload_n dX12_put_125 rfl ?_
      first | refine X_iaddN dX12_put_126 ?_ | refine X_iadd dX12_put_126 ?_
      refine X_icmp_lt (tgt := 149) dX12_put_127 (by decide) (fun b => ?_) (fun b => ?_)
      · have := (nlt (by omega) (by omega)).mp b
        exact phase3 I' [(5, vi (nI m))] f hN' (fun j hj => hlo j (by omega)) (fun i z1 z2 => hhi i (by omega) z2)
      · have hge : p + ln ≤ m := by
          have : ¬ m < p + ln := fun q => b ((nlt (by omega) (by omega)).mpr q)
          omega
        refine X_aload_n dX12_put_130 rfl ?_
        refine X_iload dX12_put_131 rfl ?_
        refine X_iload dX12_put_133 rfl ?_
        refine X_iload dX12_put_135 rfl ?_
        first | refine X_iaddN dX12_put_137 ?_ | refine X_iadd dX12_put_137 ?_
        refine X_iload_n dX12_put_138 rfl ?_
        first | refine X_isubN dX12_put_139 (by omega) ?_ | refine X_isub dX12_put_139 ?_
        refine X_cVv dX12_put_140 ck_X12_380 rfl rfl (by first | assumption | rfl) (by first | assumption | exact Nat.le_of_ble_eq_true rfl | omega) (by omega) (Nat.le_of_ble_eq_true rfl) (m_move (x := m) (y := m + gn - ln) (by omega) (by omega) (fun I2 f2 e1 e2 => ?_))
        first | refine X_iincd dX12_put_143 rfl (by omega) rfl rfl ?_ | refine X_iinc dX12_put_143 rfl rfl rfl rfl ?_
        refine X_goto (tgt := 122) dX12_put_146 (by decide) ?_
        refine ih I2 h1 hge (by omega) (f.tr ⟨fun j z1 z2 => f2.1 j z1 (fun q => z2 (by simp at q ⊢; omega)), f2.2⟩) (fun q hq => by rw [f2.1 200 (by decide) (by decide)]; exact hN' q hq) (fun j hj => e2 j _ (by omega) (hlo j (by omega))) (fun i z1 z2 => ?_)
        by_cases z : i = m
        · rw [z]; exact e1 _ (hlo m (by omega))
        · exact e2 _ _ (by omega) (hhi i (by omega) z2)
  have upw : ∀ (m k : Nat) (I' : Nat → Nat → Int32), gn < ln → m = n - k → p + ln ≤ k → k ≤ n → FrM [172, 173, 174, 175, 200] [] I I' → RNm I' (rsN g gn N 4) → (∀ j, j < p → RSt I' j (c j)) → (∀ j, k ≤ j → j < n → RSt I' j (c j)) → (∀ i, p + ln ≤ i → i < k → RSt I' (i + gn - ln) (c i)) → X G d zX12_put 83 [(0, vr 170), (1, vi (nI a)), (2, vi (nI p)), (3, vi (nI ln)), (4, vi (nI gn)), (5, vi (nI k))] [] (NC, I', J, layR sw) 0 0 (qv Q) := by
    intro m
    induction m with
    | zero =>
      intro k I' h1 hm h2 h3 f hN' hlo hre hhi
      obtain rfl : k = n := by omega
      refine X_iload dX12_put_83 rfl ?_
      refine X_aload_n dX12_put_85 rfl ?_
      refine X_getI dX12_put_86 gf_X12_181 (by first | assumption | rfl) (by first | assumption | exact Nat.le_of_ble_eq_true rfl | omega) rfl ?_
      rw [show I' 170 9 = nI k by rw [f.2 9 (by simp)]; exact hc.1]
      refine X_icmp_ge (tgt := 111) dX12_put_89 (by decide) (fun b => ?_) (fun b => ?_)
      · refine X_goto (tgt := 149) dX12_put_111 (by decide) ?_
        exact phase3 I' [(5, vi (nI k))] f hN' hlo hhi
      · exact absurd (Int32.le_refl _) b
    | succ m ih =>
      intro k I' h1 hm h2 h3 f hN' hlo hre hhi
      refine X_iload dX12_put_83 rfl ?_
      refine X_aload_n dX12_put_85 rfl ?_
      refine X_getI dX12_put_86 gf_X12_181 (by first | assumption | rfl) (by first | assumption | exact Nat.le_of_ble_eq_true rfl | omega) rfl ?_
      rw [show I' 170 9 = nI n by rw [f.2 9 (by simp)]; exact hc.1]
      refine X_icmp_ge (tgt := 111) dX12_put_89 (by decide) (fun b => ?_) (fun b => ?_)
      · exact absurd ((nle (by omega) (by omega)).mp b) (by omega)
      refine X_aload_n dX12_put_92 rfl ?_
      refine X_iload dX12_put_93 rfl ?_
      refine X_iload dX12_put_95 rfl ?_
      refine X_iload dX12_put_97 rfl ?_
      first | refine X_iaddN dX12_put_99 ?_ | refine X_iadd dX12_put_99 ?_
      refine X_iload_n dX12_put_100 rfl ?_
      first | refine X_isubN dX12_put_101 (by omega) ?_ | refine X_isub dX12_put_101 ?_
      refine X_cVv dX12_put_102 ck_X12_380 rfl rfl (by first | assumption | rfl) (by first | assumption | exact Nat.le_of_ble_eq_true rfl | omega) (by omega) (Nat.le_of_ble_eq_true rfl) (m_move (x := k) (y := k + gn - ln) (by omega) (by omega) (fun I2 f2 e1 e2 => ?_))
      first | refine X_iinc1 dX12_put_105 rfl rfl rfl ?_ | refine X_iinc dX12_put_105 rfl rfl rfl rfl ?_
      refine X_goto (tgt := 83) dX12_put_108 (by decide) ?_
      refine ih (k + 1) I2 h1 (by omega) (by omega) (by omega) (f.tr ⟨fun j z1 z2 => f2.1 j z1 (fun q => z2 (by simp at q ⊢; omega)), f2.2⟩) (fun q hq => by rw [f2.1 200 (by decide) (by decide)]; exact hN' q hq) (fun j hj => e2 j _ (by omega) (hlo j hj)) (fun j z1 z2 => e2 j _ (by omega) (hre j (by omega) z2)) (fun i z1 z2 => ?_)
      by_cases z : i = k
      · rw [z]; exact e1 _ (hre k (Nat.le_refl k) (by omega))
      · exact e2 _ _ (by omega) (hhi i z1 (by omega))
  have phase1 : ∀ (m q : Nat) (I' : Nat → Nat → Int32), m = 4 - q → q ≤ 4 → FrM [200] [] I I' → RNm I' (rsN g gn N q) → ∀ L2, X G d zX12_put 2 ([(0, vr 170), (1, vi (nI a)), (2, vi (nI p)), (3, vi (nI q))] ++ L2) [] (NC, I', J, layR sw) 0 0 (qv Q) := by
    intro m
    induction m with
    | zero =>
      intro q I' hm hq f hN' L2
      obtain rfl : q = 4 := by omega
      have f5 : FrM [172, 173, 174, 175, 200] [] I I' := ⟨fun j z1 z2 => f.1 j z1 (fun q => z2 (by simp at q ⊢; omega)), f.2⟩
      have hR' := fR I' [] f5
      have e1 : I' 198 a = nI ln := hR'.1
      have e2 : I' 199 a = nI gn := hR'.2.1
      have hc' := RC_fm hc f (by decide) (by decide)
      have hrow : ∀ j, j < n → RSt I' j (c j) := fun j hj => hc'.2 j hj
      refine weak (lv' := [(0, vr 170), (1, vi (nI a)), (2, vi (nI p)), (3, vi (nI 4))]) (fun q hq => List.mem_append_left _ hq) ?_
      refine X_iload_n dX12_put_2 rfl ?_
      refine X_iconst (v := nI 4) dX12_put_3 (by decide) ?_
      refine X_icmp_ge (tgt := 57) dX12_put_4 (by decide) (fun b => ?_) (fun b => ?_)
      · refine X_aload_n dX12_put_57 rfl ?_
        refine X_getR dX12_put_58 gf_X12_92 (by first | assumption | rfl) (by first | assumption | exact Nat.le_of_ble_eq_true rfl | omega) rfl (by first | assumption | rfl) ?_
        refine X_iload_n dX12_put_61 rfl ?_
        first | refine X_iald dX12_put_62 (by first | assumption | rfl) (by first | assumption | exact Nat.le_of_ble_eq_true rfl | omega) rfl (by first | decide | omega) (by decide) ?_ | refine X_ildA dX12_put_62 rfl (by omega) ?_ | refine X_ildM dX12_put_62 rfl (by omega) ?_ | refine X_sld dX12_put_62 rfl (by omega) (by omega) ?_
        rw [e1]
        refine X_istore_n dX12_put_63 rfl rfl ?_
        refine X_aload_n dX12_put_64 rfl ?_
        refine X_getR dX12_put_65 gf_X12_95 (by first | assumption | rfl) (by first | assumption | exact Nat.le_of_ble_eq_true rfl | omega) rfl (by first | assumption | rfl) ?_
        refine X_iload_n dX12_put_68 rfl ?_
        first | refine X_iald dX12_put_69 (by first | assumption | rfl) (by first | assumption | exact Nat.le_of_ble_eq_true rfl | omega) rfl (by first | decide | omega) (by decide) ?_ | refine X_ildA dX12_put_69 rfl (by omega) ?_ | refine X_ildM dX12_put_69 rfl (by omega) ?_ | refine X_sld dX12_put_69 rfl (by omega) (by omega) ?_
        rw [e2]
        refine X_istore dX12_put_70 rfl rfl ?_
        refine X_iload dX12_put_72 rfl ?_
        refine X_iload_n dX12_put_74 rfl ?_
        refine X_icmp_ge (tgt := 114) dX12_put_75 (by decide) (fun b75 => ?_) (fun b75 => ?_)
        · have h75 := (nle (by omega) (by omega)).mp b75
          refine X_aload_n dX12_put_114 rfl ?_
          refine X_getI dX12_put_115 gf_X12_181 (by first | assumption | rfl) (by first | assumption | exact Nat.le_of_ble_eq_true rfl | omega) rfl ?_
          rw [hc'.1]
          refine X_iconst (v := nI 1) dX12_put_118 (by decide) ?_
          refine X_isub dX12_put_119 ?_
          rw [sub_pm]
          refine X_istore dX12_put_120 rfl rfl ?_
          exact down n I' h75 hp (Nat.le_refl n) f5 hN' hrow (fun i z1 z2 => absurd z2 (by omega))
        · have h75 : ¬ ln ≤ gn := fun z => b75 ((nle (by omega) (by omega)).mpr z)
          refine X_iload_n dX12_put_78 rfl ?_
          refine X_iload_n dX12_put_79 rfl ?_
          first | refine X_iaddN dX12_put_80 ?_ | refine X_iadd dX12_put_80 ?_
          refine X_istore dX12_put_81 rfl rfl ?_
          exact upw (n - (p + ln)) (p + ln) I' (by omega) rfl (Nat.le_refl _) hp f5 hN' (fun j hj => hrow j (by omega)) (fun j _ z2 => hrow j z2) (fun i z1 z2 => absurd z2 (by omega))
      · exact absurd (by decide) b
    | succ m ih =>
      intro q I' hm hq f hN' L2
      have hq4 : q < 4 := by omega
      have hnv := rsN_v (g := g) (gn := gn) hNV q
      have hR' : RRu I' a ((ln, l), (gn, g)) := RRu_fm hR f (by decide)
      have skip : ∀ I2 L2, FrM [200] [] I I2 → RNm I2 (rsN g gn N (q + 1)) → X G d zX12_put 51 ([(0, vr 170), (1, vi (nI a)), (2, vi (nI p)), (3, vi (nI q))] ++ L2) [] (NC, I2, J, layR sw) 0 0 (qv Q) := by
        intro I2 L2 f2 h2
        refine weak (lv' := [(0, vr 170), (1, vi (nI a)), (2, vi (nI p)), (3, vi (nI q))]) (fun q hq => List.mem_append_left _ hq) ?_
        first | refine X_iinc1 dX12_put_51 rfl rfl rfl ?_ | refine X_iinc dX12_put_51 rfl rfl rfl rfl ?_
        refine X_goto (tgt := 2) dX12_put_54 (by decide) ?_
        exact ih (q + 1) I2 (by omega) (by omega) f2 h2 []
      refine weak (lv' := [(0, vr 170), (1, vi (nI a)), (2, vi (nI p)), (3, vi (nI q))]) (fun q hq => List.mem_append_left _ hq) ?_
      refine X_iload_n dX12_put_2 rfl ?_
      refine X_iconst (v := nI 4) dX12_put_3 (by decide) ?_
      refine X_icmp_ge (tgt := 57) dX12_put_4 (by decide) (fun b => ?_) (fun b => ?_)
      · exact absurd ((nle (by omega) (by omega)).mp b) (by omega)
      refine X_aload_n dX12_put_7 rfl ?_
      refine X_getR dX12_put_8 gf_X12_98 (by first | assumption | rfl) (by first | assumption | exact Nat.le_of_ble_eq_true rfl | omega) rfl (by first | assumption | rfl) ?_
      refine X_iload_n dX12_put_11 rfl ?_
      first | refine X_iald dX12_put_12 (by first | assumption | rfl) (by first | assumption | exact Nat.le_of_ble_eq_true rfl | omega) rfl (by first | decide | omega) (by decide) ?_ | refine X_ildA dX12_put_12 rfl (by omega) ?_ | refine X_ildM dX12_put_12 rfl (by omega) ?_ | refine X_sld dX12_put_12 rfl (by omega) (by omega) ?_
      rw [hN' q hq4]
      have hnq := hnv q hq4
      by_cases h9 : rsN g gn N q q = 99
      · refine X_if_ge (tgt := 51) dX12_put_13 (by decide) (fun b13 => ?_) (fun b13 => ?_)
        · exact absurd ((enc_neg (by omega)).mpr h9) (Int32.not_lt.mpr b13)
        refine X_aload_n dX12_put_16 rfl ?_
        refine X_iload_n dX12_put_17 rfl ?_
        refine X_iload_n dX12_put_18 rfl ?_
        refine X_cVi dX12_put_19 ck_X12_377 rfl rfl (by first | assumption | rfl) (by first | assumption | exact Nat.le_of_ble_eq_true rfl | omega) (by omega) (Nat.le_of_ble_eq_true rfl) (m_isInRight (by omega) ha hq4 hR' hgv hg3 ?_)
        dsimp only
        cases hin : inG g q gn
        · have e : rsN g gn N (q + 1) = rsN g gn N q := if_neg (fun z => by rw [hin] at z; exact absurd z.1 (by decide))
          rw [if_neg (by decide)]
          refine X_if_eq (tgt := 51) dX12_put_22 (by decide) (fun b22 => ?_) (fun b22 => ?_)
          · exact skip I' [] f (by rw [e]; exact hN')
          · exact absurd rfl b22
        · have e : rsN g gn N (q + 1) = up (rsN g gn N q) q (frn (rsN g gn N q)) := if_pos ⟨hin, h9⟩
          have hfl := frn_lt (rsN g gn N q)
          rw [if_pos rfl]
          refine X_if_eq (tgt := 51) dX12_put_22 (by decide) (fun b22 => ?_) (fun b22 => ?_)
          · exact absurd b22 (by decide)
          have inner : ∀ (m j : Nat), m = frn (rsN g gn N q) - j → j ≤ frn (rsN g gn N q) → X G d zX12_put 28 [(0, vr 170), (1, vi (nI a)), (2, vi (nI p)), (3, vi (nI q)), (4, vi (nI j))] [] (NC, I', J, layR sw) 0 0 (qv Q) := by
            intro m
            induction m with
            | zero =>
              intro j hm2 hj
              obtain rfl : j = frn (rsN g gn N q) := by omega
              refine X_aload_n dX12_put_28 rfl ?_
              refine X_iload dX12_put_29 rfl ?_
              refine X_cVi dX12_put_31 ck_X12_365 rfl rfl (by first | assumption | rfl) (by first | assumption | exact Nat.le_of_ble_eq_true rfl | omega) (by omega) (Nat.le_of_ble_eq_true rfl) (m_isCalled hfl hN' hnv ?_)
              rw [frn_free hq4 h9, if_neg (by decide)]
              refine X_if_eq (tgt := 43) dX12_put_34 (by decide) (fun b34 => ?_) (fun b34 => ?_)
              · refine X_aload_n dX12_put_43 rfl ?_
                refine X_getR dX12_put_44 gf_X12_98 (by first | assumption | rfl) (by first | assumption | exact Nat.le_of_ble_eq_true rfl | omega) rfl (by first | assumption | rfl) ?_
                refine X_iload_n dX12_put_47 rfl ?_
                refine X_iload dX12_put_48 rfl ?_
                refine X_iast dX12_put_50 (by first | assumption | rfl) (by first | assumption | exact Nat.le_of_ble_eq_true rfl | omega) rfl (by first | decide | omega) (by decide) ?_
                refine skip _ [(4, vi (nI (frn (rsN g gn N q))))] (f.tr (FrM.c (by simp) (by decide))) (fun z hz => ?_)
                rw [e, sr_eq]
                by_cases y : z = q
                · rw [y, up_eq, up_eq, enc_n (by omega)]
                · rw [up_ne y, up_ne y]; exact hN' z hz
              · exact absurd rfl b34
            | succ m ih2 =>
              intro j hm2 hj
              have hjl : j < frn (rsN g gn N q) := by omega
              refine X_aload_n dX12_put_28 rfl ?_
              refine X_iload dX12_put_29 rfl ?_
              refine X_cVi dX12_put_31 ck_X12_365 rfl rfl (by first | assumption | rfl) (by first | assumption | exact Nat.le_of_ble_eq_true rfl | omega) (by omega) (Nat.le_of_ble_eq_true rfl) (m_isCalled (show j < 4 by omega) hN' hnv ?_)
              rw [frn_below hjl, if_pos rfl]
              refine X_if_eq (tgt := 43) dX12_put_34 (by decide) (fun b34 => ?_) (fun b34 => ?_)
              · exact absurd b34 (by decide)
              first | refine X_iinc1 dX12_put_37 rfl rfl rfl ?_ | refine X_iinc dX12_put_37 rfl rfl rfl rfl ?_
              refine X_goto (tgt := 28) dX12_put_40 (by decide) ?_
              exact ih2 (j + 1) (by omega) (by omega)
          refine X_iconst (v := nI 0) dX12_put_25 (by decide) ?_
          refine X_istore dX12_put_26 rfl rfl ?_
          exact inner _ 0 rfl (Nat.zero_le _)
      · have e : rsN g gn N (q + 1) = rsN g gn N q := if_neg (fun z => h9 z.2)
        refine X_if_ge (tgt := 51) dX12_put_13 (by decide) (fun b13 => ?_) (fun b13 => ?_)
        · exact skip I' [] f (by rw [e]; exact hN')
        · exact absurd ((enc_neg (by omega)).mp (Int32.not_le.mp b13)) h9
  refine Y_of rfl rfl (Nat.le_of_ble_eq_true rfl) rfl ?_
  refine X_iconst (v := nI 0) dX12_put_0 (by decide) ?_
  refine X_istore_n dX12_put_1 rfl rfl ?_
  exact phase1 4 0 I rfl (Nat.zero_le _) FrM.rf hN []
end RP
