/-! the first row that is unlike, by the reference -/
theorem nal_iff {S : Nat} {y z : Nat → Nat} : ∀ k, nal S y z k = true ↔ ∃ r, r < k ∧ S.testBit r = true ∧ y r ≠ z r
  | 0 => ⟨fun h => absurd h (by simp [nal]), fun ⟨r, h, _⟩ => absurd h (Nat.not_lt_zero r)⟩
  | k + 1 => by
    unfold nal
    rw [Bool.or_eq_true, Bool.and_eq_true, decide_eq_true_iff, nal_iff k]
    constructor
    · rintro (⟨r, h1, h2⟩ | h)
      · exact ⟨r, by omega, h2⟩
      · exact ⟨k, Nat.lt_succ_self k, h⟩
    · rintro ⟨r, h1, h2⟩
      by_cases q : r = k
      · rw [q] at h2; exact Or.inr h2
      · exact Or.inl ⟨r, by omega, h2⟩
theorem pkR_eq {y z : Nat → Nat} (hy : R8 y) (hz : R8 z) : pkR y = pkR z ↔ nal 15 y z 4 = false := by
  constructor
  · intro h
    cases q : nal 15 y z 4
    · rfl
    · obtain ⟨r, h1, _, h3⟩ := (nal_iff 4).mp q
      exact absurd (by rw [← pkR_at hy h1, ← pkR_at hz h1, h]) h3
  · intro h
    have e : ∀ r, r < 4 → y r = z r := fun r hr => by
      by_cases q : y r = z r
      · exact q
      · have : nal 15 y z 4 = true := (nal_iff 4).mpr ⟨r, hr, by
          rcases (by omega : r = 0 ∨ r = 1 ∨ r = 2 ∨ r = 3) with rfl | rfl | rfl | rfl <;> decide, q⟩
        rw [h] at this
        exact absurd this (by decide)
    unfold pkR
    rw [e 0 (by decide), e 1 (by decide), e 2 (by decide), e 3 (by decide)]
section RN
variable {G : GG} {d : Nat} {sw : Bool} {I : Nat → Nat → Int32} {J : Nat → Nat → Int64} {s : SS} {n W : Nat} {c : Nat → Nat → Nat}
theorem m_runOfR {Q : Int32 → Mm → Prop} {R k : Nat} (hd : 3 ≤ d) (hc : RC I n c) (hv : VC n c) (hR : R < 4096) (hk : k ≤ n) (hQ : Q (nI (pkR (rn c (upk R) k))) (NC, I, J, layR sw)) : Y G d zX12_runOf [vr 170, vi (nI R), vi (nI k)] (NC, I, J, layR sw) 0 0 (qi Q) := by
  have := m_runOf (J := J) (sw := sw) (G := G) hd hc hv (upk8 R) hk hQ
  rwa [pkR_upk hR] at this
set_option maxRecDepth 20000 in
theorem m_areAlike {Q : Int32 → Mm → Prop} {y z : Nat → Nat} {S : Nat} (hd : 2 ≤ d) (hy : R8 y) (hz : R8 z) (hS : S < 16) (hQ : Q (nI (if nal S y z 4 = true then 0 else 1)) (NC, I, J, layR sw)) : Y G d zX12_areAlike [vr 170, vi (nI (pkR y)), vi (nI (pkR z)), vi (nI S)] (NC, I, J, layR sw) 0 0 (qi Q) := by
  have loop : ∀ (m r : Nat), m = 4 - r → r ≤ 4 → X G d zX12_areAlike 6 [(0, vr 170), (1, vi (nI (pkR y))), (2, vi (nI (pkR z))), (3, vi (nI S)), (4, vi (nI (if nal S y z r = true then 0 else 1))), (5, vi (nI r))] [] (NC, I, J, layR sw) 0 0 (qi Q) := by
    intro m
    induction m with
    | zero =>
      intro r hm hr
      obtain rfl : r = 4 := by omega
      refine X_iload dX12_areAlike_6 rfl ?_
      refine X_iconst (v := nI 4) dX12_areAlike_8 (by decide) ?_
      refine X_icmp_ge (tgt := 54) dX12_areAlike_9 (by decide) (fun b => ?_) (fun b => ?_)
      · refine X_iload dX12_areAlike_54 rfl ?_
        by_cases h : nal S y z 4 = true
        · rw [if_pos h] at hQ ⊢
          exact X_zret dX12_areAlike_56 rfl (by first | rfl | (simp; done) | decide) ⟨_, rfl, hQ⟩
        · rw [if_neg h] at hQ ⊢
          exact X_zret dX12_areAlike_56 rfl (by first | rfl | (simp; done) | decide) ⟨_, rfl, hQ⟩
      · exact absurd (by decide) b
    | succ m ih =>
      intro r hm hr
      have ih := ih (r + 1) (by omega) (by omega)
      have hy8 := hy r (by omega)
      have hz8 := hz r (by omega)
      rw [show nal S y z (r + 1) = (nal S y z r || (S.testBit r && decide (y r ≠ z r))) from rfl] at ih
      refine X_iload dX12_areAlike_6 rfl ?_
      refine X_iconst (v := nI 4) dX12_areAlike_8 (by decide) ?_
      refine X_icmp_ge (tgt := 54) dX12_areAlike_9 (by decide) (fun b => ?_) (fun b => ?_)
      · exact absurd ((nle (by omega) (by omega)).mp b) (by omega)
      refine X_iload dX12_areAlike_12 rfl ?_
      by_cases h : nal S y z r = true
      · rw [if_pos h]
        rw [h, Bool.true_or, if_pos rfl] at ih
        refine X_if_eq (tgt := 45) dX12_areAlike_14 (by decide) (fun b14 => ?_) (fun b14 => ?_)
        · refine X_iconst (v := nI 0) dX12_areAlike_45 (by decide) ?_
          refine X_istore dX12_areAlike_46 rfl rfl ?_
          first | refine X_iinc1 dX12_areAlike_48 rfl rfl rfl ?_ | refine X_iinc dX12_areAlike_48 rfl rfl rfl rfl ?_
          refine X_goto (tgt := 6) dX12_areAlike_51 (by decide) ?_
          exact ih
        · exact absurd rfl b14
      · have hf : nal S y z r = false := by simpa using h
        rw [if_neg h]
        rw [hf, Bool.false_or] at ih
        refine X_if_eq (tgt := 45) dX12_areAlike_14 (by decide) (fun b14 => ?_) (fun b14 => ?_)
        · exact absurd b14 (by decide)
        refine X_iload_n dX12_areAlike_17 rfl ?_
        refine X_iload dX12_areAlike_18 rfl ?_
        first | refine X_ishrN dX12_areAlike_20 (by omega) (by omega) ?_ | refine X_ishr dX12_areAlike_20 ?_
        refine X_iconst (v := nI 1) dX12_areAlike_21 (by decide) ?_
        first | refine X_iandN dX12_areAlike_22 ?_ | refine X_iandC dX12_areAlike_22 ?_ | refine X_iand dX12_areAlike_22 ?_
        rw [Nat.and_one_is_mod, bit_mod]
        by_cases hb : S.testBit r = true
        · rw [if_pos hb]
          rw [hb, Bool.true_and] at ih
          refine X_if_eq (tgt := 41) dX12_areAlike_23 (by decide) (fun b23 => ?_) (fun b23 => ?_)
          · exact absurd b23 (by decide)
          refine X_iload dX12_areAlike_26 rfl ?_
          refine X_iload_n dX12_areAlike_28 rfl ?_
          refine X_cSi dX12_areAlike_29 ck_X12_192 rfl rfl (by omega) (Nat.le_of_ble_eq_true rfl) (m_valueOf (by omega) (Or.inl (show r < 4 by omega)) hy ?_)
          refine X_iload dX12_areAlike_32 rfl ?_
          refine X_iload_n dX12_areAlike_34 rfl ?_
          refine X_cSi dX12_areAlike_35 ck_X12_192 rfl rfl (by omega) (Nat.le_of_ble_eq_true rfl) (m_valueOf (by omega) (Or.inl (show r < 4 by omega)) hz ?_)
          rw [show opv y r = y r from if_pos (by omega), show opv z r = z r from if_pos (by omega)]
          by_cases he : y r = z r
          · rw [decide_eq_false (fun q => q he), if_neg (by decide)] at ih
            refine X_icmp_ne (tgt := 45) dX12_areAlike_38 (by decide) (fun b38 => ?_) (fun b38 => ?_)
            · exact absurd (by rw [he]) b38
            refine X_iconst (v := nI 1) dX12_areAlike_41 (by decide) ?_
            refine X_goto (tgt := 46) dX12_areAlike_42 (by decide) ?_
            refine X_istore dX12_areAlike_46 rfl rfl ?_
            first | refine X_iinc1 dX12_areAlike_48 rfl rfl rfl ?_ | refine X_iinc dX12_areAlike_48 rfl rfl rfl rfl ?_
            refine X_goto (tgt := 6) dX12_areAlike_51 (by decide) ?_
            exact ih
          · rw [decide_eq_true he, if_pos rfl] at ih
            refine X_icmp_ne (tgt := 45) dX12_areAlike_38 (by decide) (fun b38 => ?_) (fun b38 => ?_)
            · refine X_iconst (v := nI 0) dX12_areAlike_45 (by decide) ?_
              refine X_istore dX12_areAlike_46 rfl rfl ?_
              first | refine X_iinc1 dX12_areAlike_48 rfl rfl rfl ?_ | refine X_iinc dX12_areAlike_48 rfl rfl rfl rfl ?_
              refine X_goto (tgt := 6) dX12_areAlike_51 (by decide) ?_
              exact ih
            · exact absurd ((neq (by omega) (by omega)).mp b38) he
        · rw [if_neg hb]
          rw [show S.testBit r = false by simpa using hb, Bool.false_and, if_neg (by decide)] at ih
          refine X_if_eq (tgt := 41) dX12_areAlike_23 (by decide) (fun b23 => ?_) (fun b23 => ?_)
          · refine X_iconst (v := nI 1) dX12_areAlike_41 (by decide) ?_
            refine X_goto (tgt := 46) dX12_areAlike_42 (by decide) ?_
            refine X_istore dX12_areAlike_46 rfl rfl ?_
            first | refine X_iinc1 dX12_areAlike_48 rfl rfl rfl ?_ | refine X_iinc dX12_areAlike_48 rfl rfl rfl rfl ?_
            refine X_goto (tgt := 6) dX12_areAlike_51 (by decide) ?_
            exact ih
          · exact absurd rfl b23
  refine Y_of rfl rfl (Nat.le_of_ble_eq_true rfl) rfl ?_
  refine X_iconst (v := nI 1) dX12_areAlike_0 (by decide) ?_
  refine X_istore dX12_areAlike_1 rfl rfl ?_
  refine X_iconst (v := nI 0) dX12_areAlike_3 (by decide) ?_
  refine X_istore dX12_areAlike_4 rfl rfl ?_
  exact loop 4 0 rfl (Nat.zero_le _)
set_option maxRecDepth 20000 in
theorem M_unlike (hd : 5 ≤ d) (hv : VSt s) (hi : RInv I s) : Y G d zX12_unlike [vr 170] (NC, I, J, layR sw) 0 0 (qi (PM s (sp_unlike s) I J sw)) := by
  have hW : dW s.2.1 < 16 := by have := hv.2.1.2.2.1; omega
  obtain ⟨n1, hn1⟩ : ∃ n, n = (dC s.2.1).1 := ⟨_, rfl⟩
  obtain ⟨c1, hc1⟩ : ∃ c, c = (dC s.2.1).2 := ⟨_, rfl⟩
  obtain ⟨n2, hn2⟩ : ∃ n, n = (dO s.2.1).1 := ⟨_, rfl⟩
  obtain ⟨c2, hc2⟩ : ∃ c, c = (dO s.2.1).2 := ⟨_, rfl⟩
  have hv1 : VC n1 c1 := by rw [hn1, hc1]; exact hv.2.1.1
  have hv2 : VC n2 c2 := by rw [hn2, hc2]; exact hv.2.1.2.1
  have hc : RC I n1 c1 := by rw [hn1, hc1]; exact hi.2.1.rc
  have h11 : I 170 11 = nI n2 := by rw [hn2]; exact hi.2.1.2.2.1
  have h176 : ∀ i, i < n2 → ∀ w, w < 4 → I 176 (4 * i + w) = enc (c2 i w) := by rw [hn2, hc2]; exact hi.2.1.2.2.2.1
  have h12 : I 170 12 = nI (dW s.2.1) := hi.2.1.2.2.2.2.1
  have b1 := hv1.1
  have b2 := hv2.1
  unfold sp_unlike
  rw [← hn1, ← hc1, ← hn2, ← hc2]
  generalize dW s.2.1 = S at hW h12
  have loop : ∀ (m R : Nat), m = 4096 - R → R ≤ 4096 → (∀ q, q < R → pUn S n1 c1 n2 c2 q = false) → ∀ L2, X G d zX12_unlike 2 ([(0, vr 170), (1, vi (nI R))] ++ L2) [] (NC, I, J, layR sw) 0 0 (qi (PM s (fuI (ffR (pUn S n1 c1 n2 c2) 4096)) I J sw)) := by
    intro m
    induction m with
    | zero =>
      intro R hm hR h0 L2
      obtain rfl : R = 4096 := by omega
      refine weak (lv' := [(0, vr 170), (1, vi (nI 4096))]) (fun q hq => List.mem_append_left _ hq) ?_
      refine X_iload_n dX12_unlike_2 rfl ?_
      refine X_sipush (v := nI 4096) dX12_unlike_3 (by decide) ?_
      refine X_icmp_ge (tgt := 99) dX12_unlike_6 (by decide) (fun b => ?_) (fun b => ?_)
      · rw [ffR_none 4096 h0]
        refine X_bipush (v := (-6)) dX12_unlike_99 (by decide) ?_
        exact X_iret dX12_unlike_101 rfl ⟨_, rfl, PM_same hi⟩
      · exact absurd (by decide) b
    | succ m ih =>
      intro R hm hR h0 L2
      have hR4 : R < 4096 := by omega
      refine weak (lv' := [(0, vr 170), (1, vi (nI R))]) (fun q hq => List.mem_append_left _ hq) ?_
      refine X_iload_n dX12_unlike_2 rfl ?_
      refine X_sipush (v := nI 4096) dX12_unlike_3 (by decide) ?_
      refine X_icmp_ge (tgt := 99) dX12_unlike_6 (by decide) (fun b => ?_) (fun b => ?_)
      · exact absurd ((nle (by omega) (by omega)).mp b) (by omega)
      have inner : ∀ (m i : Nat), m = n2 - i → i ≤ n2 → X G d zX12_unlike 13 [(0, vr 170), (1, vi (nI R)), (2, vi (nI (pkR (rn c2 (upk R) i)))), (3, vi (nI i))] [] (NC, I, J, layR sw) 0 0 (qi (PM s (fuI (ffR (pUn S n1 c1 n2 c2) 4096)) I J sw)) := by
        intro m
        induction m with
        | zero =>
          intro i hm2 hi2
          obtain rfl : i = n2 := by omega
          refine X_iload_n dX12_unlike_13 rfl ?_
          refine X_aload_n dX12_unlike_14 rfl ?_
          refine X_getI dX12_unlike_15 gf_X12_211 (by first | assumption | rfl) (by first | assumption | exact Nat.le_of_ble_eq_true rfl | omega) rfl ?_
          rw [h11]
          refine X_icmp_ge (tgt := 70) dX12_unlike_18 (by decide) (fun b18 => ?_) (fun b18 => ?_)
          · refine X_aload_n dX12_unlike_70 rfl ?_
            refine X_aload_n dX12_unlike_71 rfl ?_
            refine X_iload_n dX12_unlike_72 rfl ?_
            refine X_aload_n dX12_unlike_73 rfl ?_
            refine X_getI dX12_unlike_74 gf_X12_181 (by first | assumption | rfl) (by first | assumption | exact Nat.le_of_ble_eq_true rfl | omega) rfl ?_
            rw [hc.1]
            refine X_cVi dX12_unlike_77 ck_X12_208 rfl rfl (by first | assumption | rfl) (by first | assumption | exact Nat.le_of_ble_eq_true rfl | omega) (by omega) (Nat.le_of_ble_eq_true rfl) (m_runOfR (by omega) hc hv1 hR4 (Nat.le_refl _) ?_)
            refine X_iload_n dX12_unlike_80 rfl ?_
            refine X_aload_n dX12_unlike_81 rfl ?_
            refine X_getI dX12_unlike_82 gf_X12_116 (by first | assumption | rfl) (by first | assumption | exact Nat.le_of_ble_eq_true rfl | omega) rfl ?_
            rw [h12]
            refine X_cVi dX12_unlike_85 ck_X12_214 rfl rfl (by first | assumption | rfl) (by first | assumption | exact Nat.le_of_ble_eq_true rfl | omega) (by omega) (Nat.le_of_ble_eq_true rfl) (m_areAlike (by omega) (rn8 hv1 (upk8 R) n1 (Nat.le_refl _)) (rn8 hv2 (upk8 R) i (Nat.le_refl _)) hW ?_)
            by_cases hp : pUn S n1 c1 i c2 R = true
            · rw [show nal S (rn c1 (upk R) n1) (rn c2 (upk R) i) 4 = true from hp, if_pos rfl]
              refine X_if_ne (tgt := 93) dX12_unlike_88 (by decide) (fun b88 => ?_) (fun b88 => ?_)
              · exact absurd rfl b88
              refine X_iload_n dX12_unlike_91 rfl ?_
              rw [ffR_some hp h0 4096 hR4]
              exact X_iret dX12_unlike_92 rfl ⟨_, rfl, PM_same hi⟩
            · have hpf : pUn S n1 c1 i c2 R = false := by simpa using hp
              rw [show nal S (rn c1 (upk R) n1) (rn c2 (upk R) i) 4 = false from hpf, if_neg (by decide)]
              refine X_if_ne (tgt := 93) dX12_unlike_88 (by decide) (fun b88 => ?_) (fun b88 => ?_)
              · first | refine X_iinc1 dX12_unlike_93 rfl rfl rfl ?_ | refine X_iinc dX12_unlike_93 rfl rfl rfl rfl ?_
                refine X_goto (tgt := 2) dX12_unlike_96 (by decide) ?_
                refine ih (R + 1) (by omega) (by omega) (fun q hq => ?_) [(2, vi (nI (pkR (rn c2 (upk R) i)))), (3, vi (nI i))]
                by_cases z : q = R
                · rw [z]; exact hpf
                · exact h0 q (by omega)
              · exact absurd b88 (by decide)
          · exact absurd (Int32.le_refl _) b18
        | succ m ih2 =>
          intro i hm2 hi2
          have hin : i < n2 := by omega
          have hvs := hv2.2 i hin
          have e0 : I 176 (4 * i) = nI (c2 i 0) := by rw [show 4 * i = 4 * i + 0 from rfl, h176 i hin 0 (by decide), enc_n (by have := hvs.1; omega)]
          refine X_iload_n dX12_unlike_13 rfl ?_
          refine X_aload_n dX12_unlike_14 rfl ?_
          refine X_getI dX12_unlike_15 gf_X12_211 (by first | assumption | rfl) (by first | assumption | exact Nat.le_of_ble_eq_true rfl | omega) rfl ?_
          rw [h11]
          refine X_icmp_ge (tgt := 70) dX12_unlike_18 (by decide) (fun b18 => ?_) (fun b18 => ?_)
          · exact absurd ((nle (by omega) (by omega)).mp b18) (by omega)
          refine X_iload_n dX12_unlike_21 rfl ?_
          refine X_aload_n dX12_unlike_22 rfl ?_
          refine X_getR dX12_unlike_23 gf_X12_25 (by first | assumption | rfl) (by first | assumption | exact Nat.le_of_ble_eq_true rfl | omega) rfl (by first | assumption | rfl) ?_
          refine X_iconst (v := nI 4) dX12_unlike_26 (by decide) ?_
          refine X_iload_n dX12_unlike_27 rfl ?_
          first | refine X_imulN dX12_unlike_28 ?_ | refine X_imul dX12_unlike_28 ?_
          first | refine X_iald dX12_unlike_29 (by first | assumption | rfl) (by first | assumption | exact Nat.le_of_ble_eq_true rfl | omega) rfl (by first | decide | omega) (by decide) ?_ | refine X_ildA dX12_unlike_29 rfl (by omega) ?_ | refine X_ildM dX12_unlike_29 rfl (by omega) ?_ | refine X_sld dX12_unlike_29 rfl (by omega) (by omega) ?_
          rw [e0]
          refine X_aload_n dX12_unlike_30 rfl ?_
          refine X_getR dX12_unlike_31 gf_X12_25 (by first | assumption | rfl) (by first | assumption | exact Nat.le_of_ble_eq_true rfl | omega) rfl (by first | assumption | rfl) ?_
          refine X_iconst (v := nI 4) dX12_unlike_34 (by decide) ?_
          refine X_iload_n dX12_unlike_35 rfl ?_
          first | refine X_imulN dX12_unlike_36 ?_ | refine X_imul dX12_unlike_36 ?_
          refine X_iconst (v := nI 1) dX12_unlike_37 (by decide) ?_
          first | refine X_iaddN dX12_unlike_38 ?_ | refine X_iadd dX12_unlike_38 ?_
          first | refine X_iald dX12_unlike_39 (by first | assumption | rfl) (by first | assumption | exact Nat.le_of_ble_eq_true rfl | omega) rfl (by first | decide | omega) (by decide) ?_ | refine X_ildA dX12_unlike_39 rfl (by omega) ?_ | refine X_ildM dX12_unlike_39 rfl (by omega) ?_ | refine X_sld dX12_unlike_39 rfl (by omega) (by omega) ?_
          rw [h176 i hin 1 (by decide)]
          refine X_aload_n dX12_unlike_40 rfl ?_
          refine X_getR dX12_unlike_41 gf_X12_25 (by first | assumption | rfl) (by first | assumption | exact Nat.le_of_ble_eq_true rfl | omega) rfl (by first | assumption | rfl) ?_
          refine X_iconst (v := nI 4) dX12_unlike_44 (by decide) ?_
          refine X_iload_n dX12_unlike_45 rfl ?_
          first | refine X_imulN dX12_unlike_46 ?_ | refine X_imul dX12_unlike_46 ?_
          refine X_iconst (v := nI 2) dX12_unlike_47 (by decide) ?_
          first | refine X_iaddN dX12_unlike_48 ?_ | refine X_iadd dX12_unlike_48 ?_
          first | refine X_iald dX12_unlike_49 (by first | assumption | rfl) (by first | assumption | exact Nat.le_of_ble_eq_true rfl | omega) rfl (by first | decide | omega) (by decide) ?_ | refine X_ildA dX12_unlike_49 rfl (by omega) ?_ | refine X_ildM dX12_unlike_49 rfl (by omega) ?_ | refine X_sld dX12_unlike_49 rfl (by omega) (by omega) ?_
          rw [h176 i hin 2 (by decide)]
          refine X_aload_n dX12_unlike_50 rfl ?_
          refine X_getR dX12_unlike_51 gf_X12_25 (by first | assumption | rfl) (by first | assumption | exact Nat.le_of_ble_eq_true rfl | omega) rfl (by first | assumption | rfl) ?_
          refine X_iconst (v := nI 4) dX12_unlike_54 (by decide) ?_
          refine X_iload_n dX12_unlike_55 rfl ?_
          first | refine X_imulN dX12_unlike_56 ?_ | refine X_imul dX12_unlike_56 ?_
          refine X_iconst (v := nI 3) dX12_unlike_57 (by decide) ?_
          first | refine X_iaddN dX12_unlike_58 ?_ | refine X_iadd dX12_unlike_58 ?_
          first | refine X_iald dX12_unlike_59 (by first | assumption | rfl) (by first | assumption | exact Nat.le_of_ble_eq_true rfl | omega) rfl (by first | decide | omega) (by decide) ?_ | refine X_ildA dX12_unlike_59 rfl (by omega) ?_ | refine X_ildM dX12_unlike_59 rfl (by omega) ?_ | refine X_sld dX12_unlike_59 rfl (by omega) (by omega) ?_
          rw [h176 i hin 3 (by decide)]
          refine X_cSi dX12_unlike_60 ck_X12_199 rfl rfl (by omega) (Nat.le_of_ble_eq_true rfl) (m_done (st := c2 i) (by omega) hvs (rn8 hv2 (upk8 R) i (by omega)) ?_)
          refine X_istore_n dX12_unlike_63 rfl rfl ?_
          first | refine X_iinc1 dX12_unlike_64 rfl rfl rfl ?_ | refine X_iinc dX12_unlike_64 rfl rfl rfl rfl ?_
          refine X_goto (tgt := 13) dX12_unlike_67 (by decide) ?_
          exact ih2 (i + 1) (by omega) (by omega)
      refine X_iload_n dX12_unlike_9 rfl ?_
      refine X_istore_n dX12_unlike_10 rfl rfl ?_
      refine X_iconst (v := nI 0) dX12_unlike_11 (by decide) ?_
      refine X_istore_n dX12_unlike_12 rfl rfl ?_
      have l0 := inner n2 0 rfl (Nat.zero_le _)
      rw [show rn c2 (upk R) 0 = upk R from rfl, pkR_upk hR4] at l0
      exact l0
  refine Y_of rfl rfl (Nat.le_of_ble_eq_true rfl) rfl ?_
  refine X_iconst (v := nI 0) dX12_unlike_0 (by decide) ?_
  refine X_istore_n dX12_unlike_1 rfl rfl ?_
  exact loop 4096 0 rfl (Nat.zero_le _) (fun q h => absurd h (Nat.not_lt_zero q)) []
set_option maxRecDepth 20000 in
theorem m_runPart {Q : Int32 → Mm → Prop} {a g R : Nat} (hd : 3 ≤ d) (ha : a < 4) (hg : g < 2) (hR : R < 4096) (hn3 : n ≤ 3) (hv : VC n c) (hm : I (198 + g) a = nI n) (hp : ∀ i, i < n → ∀ w, w < 4 → I 197 (24 * a + 12 * g + 4 * i + w) = enc (c i w)) (hQ : Q (nI (pkR (rn c (upk R) n))) (NC, I, J, layR sw)) : Y G d zX12_runPart [vr 170, vi (nI a), vi (nI g), vi (nI R)] (NC, I, J, layR sw) 0 0 (qi Q) := by
  have loop : ∀ (m i : Nat), m = n - i → i ≤ n → X G d zX12_runPart 27 [(0, vr 170), (1, vi (nI a)), (2, vi (nI g)), (3, vi (nI R)), (4, vi (nI (pkR (rn c (upk R) i)))), (5, vi (nI n)), (6, vi (nI i))] [] (NC, I, J, layR sw) 0 0 (qi Q) := by
    intro m
    induction m with
    | zero =>
      intro i hm2 hi2
      obtain rfl : i = n := by omega
      refine X_iload dX12_runPart_27 rfl ?_
      refine X_iload dX12_runPart_29 rfl ?_
      refine X_icmp_ge (tgt := 99) dX12_runPart_31 (by decide) (fun b => ?_) (fun b => ?_)
      · refine X_iload dX12_runPart_99 rfl ?_
        exact X_iret dX12_runPart_101 rfl ⟨_, rfl, hQ⟩
      · exact absurd (Int32.le_refl _) b
    | succ m ih =>
      intro i hm2 hi2
      have hin : i < n := by omega
      have hvs := hv.2 i hin
      refine X_iload dX12_runPart_27 rfl ?_
      refine X_iload dX12_runPart_29 rfl ?_
      refine X_icmp_ge (tgt := 99) dX12_runPart_31 (by decide) (fun b => ?_) (fun b => ?_)
      · exact absurd ((nle (by omega) (by omega)).mp b) (by omega)
      refine X_iload dX12_runPart_34 rfl ?_
      refine X_aload_n dX12_runPart_36 rfl ?_
      refine X_getR dX12_runPart_37 gf_X12_89 (by first | assumption | rfl) (by first | assumption | exact Nat.le_of_ble_eq_true rfl | omega) rfl (by first | assumption | rfl) ?_
      refine X_iload_n dX12_runPart_40 rfl ?_
      refine X_iload_n dX12_runPart_41 rfl ?_
      refine X_iload dX12_runPart_42 rfl ?_
      refine X_iconst (v := nI 0) dX12_runPart_44 (by decide) ?_
      refine X_cSi dX12_runPart_45 ck_X12_351 rfl rfl (by omega) (Nat.le_of_ble_eq_true rfl) (m_at ?_)
      first | refine X_iald dX12_runPart_48 (by first | assumption | rfl) (by first | assumption | exact Nat.le_of_ble_eq_true rfl | omega) rfl (by first | decide | omega) (by decide) ?_ | refine X_ildA dX12_runPart_48 rfl (by omega) ?_ | refine X_ildM dX12_runPart_48 rfl (by omega) ?_ | refine X_sld dX12_runPart_48 rfl (by omega) (by omega) ?_
      rw [hp i hin 0 (by decide), enc_n (v := c i 0) (by have := hvs.1; omega)]
      refine X_aload_n dX12_runPart_49 rfl ?_
      refine X_getR dX12_runPart_50 gf_X12_89 (by first | assumption | rfl) (by first | assumption | exact Nat.le_of_ble_eq_true rfl | omega) rfl (by first | assumption | rfl) ?_
      refine X_iload_n dX12_runPart_53 rfl ?_
      refine X_iload_n dX12_runPart_54 rfl ?_
      refine X_iload dX12_runPart_55 rfl ?_
      refine X_iconst (v := nI 1) dX12_runPart_57 (by decide) ?_
      refine X_cSi dX12_runPart_58 ck_X12_351 rfl rfl (by omega) (Nat.le_of_ble_eq_true rfl) (m_at ?_)
      first | refine X_iald dX12_runPart_61 (by first | assumption | rfl) (by first | assumption | exact Nat.le_of_ble_eq_true rfl | omega) rfl (by first | decide | omega) (by decide) ?_ | refine X_ildA dX12_runPart_61 rfl (by omega) ?_ | refine X_ildM dX12_runPart_61 rfl (by omega) ?_ | refine X_sld dX12_runPart_61 rfl (by omega) (by omega) ?_
      rw [hp i hin 1 (by decide)]
      refine X_aload_n dX12_runPart_62 rfl ?_
      refine X_getR dX12_runPart_63 gf_X12_89 (by first | assumption | rfl) (by first | assumption | exact Nat.le_of_ble_eq_true rfl | omega) rfl (by first | assumption | rfl) ?_
      refine X_iload_n dX12_runPart_66 rfl ?_
      refine X_iload_n dX12_runPart_67 rfl ?_
      refine X_iload dX12_runPart_68 rfl ?_
      refine X_iconst (v := nI 2) dX12_runPart_70 (by decide) ?_
      refine X_cSi dX12_runPart_71 ck_X12_351 rfl rfl (by omega) (Nat.le_of_ble_eq_true rfl) (m_at ?_)
      first | refine X_iald dX12_runPart_74 (by first | assumption | rfl) (by first | assumption | exact Nat.le_of_ble_eq_true rfl | omega) rfl (by first | decide | omega) (by decide) ?_ | refine X_ildA dX12_runPart_74 rfl (by omega) ?_ | refine X_ildM dX12_runPart_74 rfl (by omega) ?_ | refine X_sld dX12_runPart_74 rfl (by omega) (by omega) ?_
      rw [hp i hin 2 (by decide)]
      refine X_aload_n dX12_runPart_75 rfl ?_
      refine X_getR dX12_runPart_76 gf_X12_89 (by first | assumption | rfl) (by first | assumption | exact Nat.le_of_ble_eq_true rfl | omega) rfl (by first | assumption | rfl) ?_
      refine X_iload_n dX12_runPart_79 rfl ?_
      refine X_iload_n dX12_runPart_80 rfl ?_
      refine X_iload dX12_runPart_81 rfl ?_
      refine X_iconst (v := nI 3) dX12_runPart_83 (by decide) ?_
      refine X_cSi dX12_runPart_84 ck_X12_351 rfl rfl (by omega) (Nat.le_of_ble_eq_true rfl) (m_at ?_)
      first | refine X_iald dX12_runPart_87 (by first | assumption | rfl) (by first | assumption | exact Nat.le_of_ble_eq_true rfl | omega) rfl (by first | decide | omega) (by decide) ?_ | refine X_ildA dX12_runPart_87 rfl (by omega) ?_ | refine X_ildM dX12_runPart_87 rfl (by omega) ?_ | refine X_sld dX12_runPart_87 rfl (by omega) (by omega) ?_
      rw [hp i hin 3 (by decide)]
      refine X_cSi dX12_runPart_88 ck_X12_199 rfl rfl (by omega) (Nat.le_of_ble_eq_true rfl) (m_done (st := c i) (by omega) hvs (rn8 hv (upk8 R) i (by omega)) ?_)
      refine X_istore dX12_runPart_91 rfl rfl ?_
      first | refine X_iinc1 dX12_runPart_93 rfl rfl rfl ?_ | refine X_iinc dX12_runPart_93 rfl rfl rfl rfl ?_
      refine X_goto (tgt := 27) dX12_runPart_96 (by decide) ?_
      exact ih (i + 1) (by omega) (by omega)
  have l0 := loop n 0 rfl (Nat.zero_le _)
  rw [show rn c (upk R) 0 = upk R from rfl, pkR_upk hR] at l0
  refine Y_of rfl rfl (Nat.le_of_ble_eq_true rfl) rfl ?_
  refine X_iload_n dX12_runPart_0 rfl ?_
  refine X_istore dX12_runPart_1 rfl rfl ?_
  refine X_iload_n dX12_runPart_3 rfl ?_
  rcases (by omega : g = 0 ∨ g = 1) with rfl | rfl
  · refine X_if_ne (tgt := 16) dX12_runPart_4 (by decide) (fun b4 => ?_) (fun b4 => ?_)
    · exact absurd rfl b4
    refine X_aload_n dX12_runPart_7 rfl ?_
    refine X_getR dX12_runPart_8 gf_X12_92 (by first | assumption | rfl) (by first | assumption | exact Nat.le_of_ble_eq_true rfl | omega) rfl (by first | assumption | rfl) ?_
    refine X_iload_n dX12_runPart_11 rfl ?_
    first | refine X_iald dX12_runPart_12 (by first | assumption | rfl) (by first | assumption | exact Nat.le_of_ble_eq_true rfl | omega) rfl (by first | decide | omega) (by decide) ?_ | refine X_ildA dX12_runPart_12 rfl (by omega) ?_ | refine X_ildM dX12_runPart_12 rfl (by omega) ?_ | refine X_sld dX12_runPart_12 rfl (by omega) (by omega) ?_
    rw [hm]
    refine X_goto (tgt := 22) dX12_runPart_13 (by decide) ?_
    refine X_istore dX12_runPart_22 rfl rfl ?_
    refine X_iconst (v := nI 0) dX12_runPart_24 (by decide) ?_
    refine X_istore dX12_runPart_25 rfl rfl ?_
    exact l0
  · refine X_if_ne (tgt := 16) dX12_runPart_4 (by decide) (fun b4 => ?_) (fun b4 => ?_)
    · refine X_aload_n dX12_runPart_16 rfl ?_
      refine X_getR dX12_runPart_17 gf_X12_95 (by first | assumption | rfl) (by first | assumption | exact Nat.le_of_ble_eq_true rfl | omega) rfl (by first | assumption | rfl) ?_
      refine X_iload_n dX12_runPart_20 rfl ?_
      first | refine X_iald dX12_runPart_21 (by first | assumption | rfl) (by first | assumption | exact Nat.le_of_ble_eq_true rfl | omega) rfl (by first | decide | omega) (by decide) ?_ | refine X_ildA dX12_runPart_21 rfl (by omega) ?_ | refine X_ildM dX12_runPart_21 rfl (by omega) ?_ | refine X_sld dX12_runPart_21 rfl (by omega) (by omega) ?_
      rw [hm]
      refine X_istore dX12_runPart_22 rfl rfl ?_
      refine X_iconst (v := nI 0) dX12_runPart_24 (by decide) ?_
      refine X_istore dX12_runPart_25 rfl rfl ?_
      exact l0
    · exact absurd b4 (by decide)
set_option maxRecDepth 20000 in
theorem M_holds {x : Int32} (hd : 5 ≤ d) (hv : VSt s) (hi : RInv I s) : Y G d zX12_holds [vr 170, vi x] (NC, I, J, layR sw) 0 0 (qi (PM s (sp_holds s x) I J sw)) := by
  have hN := hv.2.1.2.2.2.2.1
  have h39 : I 170 39 = nI (dN s.2.1) := hi.2.1.2.2.2.2.2.2.2.1
  unfold sp_holds
  rcases rcase hN x with h | ⟨a, ha, rfl⟩
  · rw [if_pos h]
    refine Y_of rfl rfl (Nat.le_of_ble_eq_true rfl) rfl ?_
    refine X_aload_n dX12_holds_0 rfl ?_
    refine X_iload_n dX12_holds_1 rfl ?_
    refine X_cVi dX12_holds_2 ck_X12_359 rfl rfl (by first | assumption | rfl) (by first | assumption | exact Nat.le_of_ble_eq_true rfl | omega) (by omega) (Nat.le_of_ble_eq_true rfl) (c_isRule_f (by omega) h39 (by omega) h ?_)
    refine X_if_ne (tgt := 10) dX12_holds_5 (by decide) (fun b => ?_) (fun b => ?_)
    · exact absurd rfl b
    · refine X_iconst (v := (-1)) dX12_holds_8 (by decide) ?_
      exact X_iret dX12_holds_9 rfl ⟨_, rfl, PM_same hi⟩
  · rw [if_neg (scase_n (by omega) ha), nI_clamp (by omega)]
    have ha4 : a < 4 := by omega
    obtain ⟨p1, p2, p3, p4⟩ := hi.2.1.2.2.2.2.2.2.2.2 a ha
    obtain ⟨⟨v1, v2, v3⟩, v4, v5⟩ := hv.2.1.2.2.2.2.2 a ha
    generalize (dR s.2.1 a).1.1 = n1 at *
    generalize (dR s.2.1 a).1.2 = c1 at *
    generalize (dR s.2.1 a).2.1 = n2 at *
    generalize (dR s.2.1 a).2.2 = c2 at *
    have loop : ∀ (m R : Nat), m = 4096 - R → R ≤ 4096 → (∀ q, q < R → pUn 15 n1 c1 n2 c2 q = false) → X G d zX12_holds 12 [(0, vr 170), (1, vi (nI a)), (2, vi (nI R))] [] (NC, I, J, layR sw) 0 0 (qi (PM s (match ffR (pUn 15 n1 c1 n2 c2) 4096 with | none => nI 1 | some _ => nI 0) I J sw)) := by
      intro m
      induction m with
      | zero =>
        intro R hm hR h0
        obtain rfl : R = 4096 := by omega
        refine X_iload_n dX12_holds_12 rfl ?_
        refine X_sipush (v := nI 4096) dX12_holds_13 (by decide) ?_
        refine X_icmp_ge (tgt := 44) dX12_holds_16 (by decide) (fun b => ?_) (fun b => ?_)
        · rw [ffR_none 4096 h0]
          refine X_iconst (v := nI 1) dX12_holds_44 (by decide) ?_
          exact X_iret dX12_holds_45 rfl ⟨_, rfl, PM_same hi⟩
        · exact absurd (by decide) b
      | succ m ih =>
        intro R hm hR h0
        have hR4 : R < 4096 := by omega
        have q1 := rn8 v3 (upk8 R) n1 (Nat.le_refl _)
        have q2 := rn8 v5 (upk8 R) n2 (Nat.le_refl _)
        have l1 := pkR_lt q1
        have l2 := pkR_lt q2
        refine X_iload_n dX12_holds_12 rfl ?_
        refine X_sipush (v := nI 4096) dX12_holds_13 (by decide) ?_
        refine X_icmp_ge (tgt := 44) dX12_holds_16 (by decide) (fun b => ?_) (fun b => ?_)
        · exact absurd ((nle (by omega) (by omega)).mp b) (by omega)
        refine X_aload_n dX12_holds_19 rfl ?_
        refine X_iload_n dX12_holds_20 rfl ?_
        refine X_iconst (v := nI 0) dX12_holds_21 (by decide) ?_
        refine X_iload_n dX12_holds_22 rfl ?_
        refine X_cVi dX12_holds_23 ck_X12_362 rfl rfl (by first | assumption | rfl) (by first | assumption | exact Nat.le_of_ble_eq_true rfl | omega) (by omega) (Nat.le_of_ble_eq_true rfl) (m_runPart (g := 0) (by omega) ha4 (by decide) hR4 v2 v3 p1 p3 ?_)
        refine X_aload_n dX12_holds_26 rfl ?_
        refine X_iload_n dX12_holds_27 rfl ?_
        refine X_iconst (v := nI 1) dX12_holds_28 (by decide) ?_
        refine X_iload_n dX12_holds_29 rfl ?_
        refine X_cVi dX12_holds_30 ck_X12_362 rfl rfl (by first | assumption | rfl) (by first | assumption | exact Nat.le_of_ble_eq_true rfl | omega) (by omega) (Nat.le_of_ble_eq_true rfl) (m_runPart (g := 1) (by omega) ha4 (by decide) hR4 v4 v5 p2 p4 ?_)
        refine X_icmp_eq (tgt := 38) dX12_holds_33 (by decide) (fun b33 => ?_) (fun b33 => ?_)
        · have hpf : pUn 15 n1 c1 n2 c2 R = false := (pkR_eq q1 q2).mp ((neq (by omega) (by omega)).mp b33)
          first | refine X_iinc1 dX12_holds_38 rfl rfl rfl ?_ | refine X_iinc dX12_holds_38 rfl rfl rfl rfl ?_
          refine X_goto (tgt := 12) dX12_holds_41 (by decide) ?_
          refine ih (R + 1) (by omega) (by omega) (fun q hq => ?_)
          by_cases z : q = R
          · rw [z]; exact hpf
          · exact h0 q (by omega)
        · have hp : pUn 15 n1 c1 n2 c2 R = true := by
            cases z : pUn 15 n1 c1 n2 c2 R
            · exact absurd (by rw [(pkR_eq q1 q2).mpr z]) b33
            · rfl
          rw [ffR_some hp h0 4096 hR4]
          refine X_iconst (v := nI 0) dX12_holds_36 (by decide) ?_
          exact X_iret dX12_holds_37 rfl ⟨_, rfl, PM_same hi⟩
    refine Y_of rfl rfl (Nat.le_of_ble_eq_true rfl) rfl ?_
    refine X_aload_n dX12_holds_0 rfl ?_
    refine X_iload_n dX12_holds_1 rfl ?_
    refine X_cVi dX12_holds_2 ck_X12_359 rfl rfl (by first | assumption | rfl) (by first | assumption | exact Nat.le_of_ble_eq_true rfl | omega) (by omega) (Nat.le_of_ble_eq_true rfl) (c_isRule_t (by omega) h39 (by omega) ha ?_)
    refine X_if_ne (tgt := 10) dX12_holds_5 (by decide) (fun b => ?_) (fun b => ?_)
    · refine X_iconst (v := nI 0) dX12_holds_10 (by decide) ?_
      refine X_istore_n dX12_holds_11 rfl rfl ?_
      exact loop 4096 0 rfl (Nat.zero_le _) (fun q h => absurd h (Nat.not_lt_zero q))
    · exact absurd b (by decide)
end RN
