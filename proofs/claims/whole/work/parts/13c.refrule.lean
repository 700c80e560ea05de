section RP
variable {G : GG} {d : Nat} {sw : Bool} {I : Nat → Nat → Int32} {J : Nat → Nat → Int64} {s : SS}
theorem m_at {Q : Int32 → Mm → Prop} {M : Mm} {a b c e : Nat} (hQ : Q (nI (24 * a + 12 * b + 4 * c + e)) M) : Y G d zX12_at [vi (nI a), vi (nI b), vi (nI c), vi (nI e)] M 0 0 (qi Q) := by
  refine Y_of rfl rfl (Nat.le_of_ble_eq_true rfl) rfl ?_
  refine X_bipush (v := nI 24) dX12_at_0 (by decide) ?_
  refine X_iload_n dX12_at_2 rfl ?_
  first | refine X_imulN dX12_at_3 ?_ | refine X_imul dX12_at_3 ?_
  refine X_bipush (v := nI 12) dX12_at_4 (by decide) ?_
  refine X_iload_n dX12_at_6 rfl ?_
  first | refine X_imulN dX12_at_7 ?_ | refine X_imul dX12_at_7 ?_
  first | refine X_iaddN dX12_at_8 ?_ | refine X_iadd dX12_at_8 ?_
  refine X_iconst (v := nI 4) dX12_at_9 (by decide) ?_
  refine X_iload_n dX12_at_10 rfl ?_
  first | refine X_imulN dX12_at_11 ?_ | refine X_imul dX12_at_11 ?_
  first | refine X_iaddN dX12_at_12 ?_ | refine X_iadd dX12_at_12 ?_
  refine X_iload_n dX12_at_13 rfl ?_
  first | refine X_iaddN dX12_at_14 ?_ | refine X_iadd dX12_at_14 ?_
  exact X_iret dX12_at_15 rfl ⟨_, rfl, hQ⟩
set_option maxRecDepth 20000 in
set_option maxHeartbeats 4000000 in
theorem m_putPart {Q : Mm → Prop} {r n rn : Nat} {c : Nat → Nat → Nat} (hd : 1 ≤ d) (hr : r < 2) (hn : n ≤ 3) (hrn : rn < 4) (h39 : I 170 39 = nI rn) (hP : rdR (I 178) n c)
    (hQ : ∀ P', (∀ k, k < n → ∀ w, w < 4 → P' (24 * rn + 12 * r + 4 * k + w) = enc (c k w)) → (∀ q, (q < 24 * rn + 12 * r ∨ 24 * rn + 12 * r + 12 ≤ q) → P' q = I 197 q) → Q (NC, sr I 197 P', J, layR sw)) : Y G d zX12_putPart [vr 170, vi (nI r), vi (nI n)] (NC, I, J, layR sw) 0 0 (qv Q) := by
  have e : sr I 197 (I 197) = I := by
    funext j
    by_cases h : j = 197
    · subst h; rw [sr_eq]
    · rw [sr_ne h]
  have loop : ∀ (m k : Nat) (P : Nat → Int32) (x4 : List (Nat × AV)), (x4 = [] ∨ ∃ z, x4 = [(4, vi z)]) → m = n - k → k ≤ n → (∀ k2, k2 < k → ∀ w, w < 4 → P (24 * rn + 12 * r + 4 * k2 + w) = enc (c k2 w)) → (∀ q, (q < 24 * rn + 12 * r ∨ 24 * rn + 12 * r + 12 ≤ q) → P q = I 197 q) → X G d zX12_putPart 2 ([(0, vr 170), (1, vi (nI r)), (2, vi (nI n)), (3, vi (nI k))] ++ x4) [] (NC, sr I 197 P, J, layR sw) 0 0 (qv Q) := by
    intro m
    induction m with
    | zero =>
      intro k P x4 hx4 hm hk h1 h2
      obtain rfl : k = n := by omega
      refine weak (lv' := [(0, vr 170), (1, vi (nI r)), (2, vi (nI k)), (3, vi (nI k))]) (fun q hq => List.mem_append_left _ hq) ?_
      refine X_iload_n dX12_putPart_2 rfl ?_
      refine X_iload_n dX12_putPart_3 rfl ?_
      refine X_icmp_ge (tgt := 55) dX12_putPart_4 (by decide) (fun b => ?_) (fun b => ?_)
      · exact X_vret dX12_putPart_55 rfl ⟨rfl, hQ P h1 h2⟩
      · exact absurd (Int32.le_refl _) b
    | succ m ih =>
      intro k P x4 hx4 hm hk h1 h2
      have hlt : k < n := by omega
      have inner : ∀ (m2 w : Nat) (P : Nat → Int32), m2 = 4 - w → w ≤ 4 → (∀ k2, k2 < k → ∀ w, w < 4 → P (24 * rn + 12 * r + 4 * k2 + w) = enc (c k2 w)) → (∀ w2, w2 < w → P (24 * rn + 12 * r + 4 * k + w2) = enc (c k w2)) → (∀ q, (q < 24 * rn + 12 * r ∨ 24 * rn + 12 * r + 12 ≤ q) → P q = I 197 q) → X G d zX12_putPart 10 [(0, vr 170), (1, vi (nI r)), (2, vi (nI n)), (3, vi (nI k)), (4, vi (nI w))] [] (NC, sr I 197 P, J, layR sw) 0 0 (qv Q) := by
        intro m2
        induction m2 with
        | zero =>
          intro w P hm2 hw g1 g2 g3
          obtain rfl : w = 4 := by omega
          refine X_iload dX12_putPart_10 rfl ?_
          refine X_iconst (v := nI 4) dX12_putPart_12 (by decide) ?_
          refine X_icmp_ge (tgt := 49) dX12_putPart_13 (by decide) (fun b => ?_) (fun b => ?_)
          · first | refine X_iinc1 dX12_putPart_49 rfl rfl rfl ?_ | refine X_iinc dX12_putPart_49 rfl rfl rfl rfl ?_
            refine X_goto (tgt := 2) dX12_putPart_52 (by decide) ?_
            refine ih (k + 1) P [(4, vi (nI 4))] (Or.inr ⟨_, rfl⟩) (by omega) (by omega) (fun k2 hk2 w hw => ?_) g3
            by_cases hkk : k2 = k
            · subst hkk; exact g2 w hw
            · exact g1 k2 (by omega) w hw
          · exact absurd (Int32.le_refl _) b
        | succ m2 ih2 =>
          intro w P hm2 hw g1 g2 g3
          refine X_iload dX12_putPart_10 rfl ?_
          refine X_iconst (v := nI 4) dX12_putPart_12 (by decide) ?_
          refine X_icmp_ge (tgt := 49) dX12_putPart_13 (by decide) (fun b => ?_) (fun b => ?_)
          · exact absurd ((nle (by omega) (by omega)).mp b) (by omega)
          refine X_aload_n dX12_putPart_16 rfl ?_
          refine X_getR dX12_putPart_17 gf_X12_89 (by first | assumption | rfl) (by first | assumption | exact Nat.le_of_ble_eq_true rfl | omega) rfl (by first | assumption | rfl) ?_
          refine X_aload_n dX12_putPart_20 rfl ?_
          refine X_getI dX12_putPart_21 gf_X12_348 (by first | assumption | rfl) (by first | assumption | exact Nat.le_of_ble_eq_true rfl | omega) rfl ?_
          rw [sr_ne (show 170 ≠ 197 by decide), h39]
          refine X_iload_n dX12_putPart_24 rfl ?_
          refine X_iload_n dX12_putPart_25 rfl ?_
          refine X_iload dX12_putPart_26 rfl ?_
          refine X_cSi dX12_putPart_28 ck_X12_351 rfl rfl (by omega) (Nat.le_of_ble_eq_true rfl) (m_at ?_)
          refine X_aload_n dX12_putPart_31 rfl ?_
          refine X_getR dX12_putPart_32 gf_X12_31 (by first | assumption | rfl) (by first | assumption | exact Nat.le_of_ble_eq_true rfl | omega) rfl (by first | assumption | rfl) ?_
          refine X_iconst (v := nI 4) dX12_putPart_35 (by decide) ?_
          refine X_iload_n dX12_putPart_36 rfl ?_
          first | refine X_imulN dX12_putPart_37 ?_ | refine X_imul dX12_putPart_37 ?_
          refine X_iload dX12_putPart_38 rfl ?_
          first | refine X_iaddN dX12_putPart_40 ?_ | refine X_iadd dX12_putPart_40 ?_
          first | refine X_iald dX12_putPart_41 (by first | assumption | rfl) (by first | assumption | exact Nat.le_of_ble_eq_true rfl | omega) rfl (by first | decide | omega) (by decide) ?_ | refine X_ildA dX12_putPart_41 rfl (by omega) ?_ | refine X_ildM dX12_putPart_41 rfl (by omega) ?_ | refine X_sld dX12_putPart_41 rfl (by omega) (by omega) ?_
          rw [sr_ne (show 178 ≠ 197 by decide), hP k hlt w (by omega)]
          refine X_iast dX12_putPart_42 (by first | assumption | rfl) (by first | assumption | exact Nat.le_of_ble_eq_true rfl | omega) rfl (by first | decide | omega) (by decide) ?_
          rw [sr_eq, sr_sr]
          first | refine X_iinc1 dX12_putPart_43 rfl rfl rfl ?_ | refine X_iinc dX12_putPart_43 rfl rfl rfl rfl ?_
          refine X_goto (tgt := 10) dX12_putPart_46 (by decide) ?_
          refine ih2 (w + 1) _ (by omega) (by omega) (fun k2 hk2 w2 hw2 => ?_) (fun w2 hw2 => ?_) (fun q hq => ?_)
          · rw [up_ne (by omega)]; exact g1 k2 hk2 w2 hw2
          · by_cases hww : w2 = w
            · subst hww; exact up_eq
            · rw [up_ne (by omega)]; exact g2 w2 (by omega)
          · rw [up_ne (by omega)]; exact g3 q hq
      refine weak (lv' := [(0, vr 170), (1, vi (nI r)), (2, vi (nI n)), (3, vi (nI k))]) (fun q hq => List.mem_append_left _ hq) ?_
      refine X_iload_n dX12_putPart_2 rfl ?_
      refine X_iload_n dX12_putPart_3 rfl ?_
      refine X_icmp_ge (tgt := 55) dX12_putPart_4 (by decide) (fun b => ?_) (fun b => ?_)
      · exact absurd ((nle (by omega) (by omega)).mp b) (by omega)
      refine X_iconst (v := nI 0) dX12_putPart_7 (by decide) ?_
      refine X_istore dX12_putPart_8 rfl rfl ?_
      exact inner 4 0 P rfl (by decide) h1 (fun w2 hw2 => absurd hw2 (Nat.not_lt_zero w2)) h2
  refine Y_of rfl rfl (Nat.le_of_ble_eq_true rfl) rfl ?_
  refine X_iconst (v := nI 0) dX12_putPart_0 (by decide) ?_
  refine X_istore_n dX12_putPart_1 rfl rfl ?_
  have := loop n 0 (I 197) [] (Or.inl rfl) rfl (Nat.zero_le n) (fun k2 hk2 => absurd hk2 (Nat.not_lt_zero k2)) (fun q _ => rfl)
  rw [e] at this
  exact this
set_option maxRecDepth 20000 in
set_option maxHeartbeats 4000000 in
theorem M_rule (hd : 4 ≤ d) (hv : VSt s) (hi : RInv I s) : Y G d zX12_rule [vr 170] (NC, I, J, layR sw) 0 0 (qi (PM (sp_rule s).2 (sp_rule s).1 I J sw)) := by
  have hN := hv.2.1.2.2.2.2.1
  refine Y_of rfl rfl (Nat.le_of_ble_eq_true rfl) rfl ?_
  refine X_aload_n dX12_rule_0 rfl ?_
  refine X_iconst (v := nI 1) dX12_rule_1 (by decide) ?_
  refine X_cVi dX12_rule_2 ck_X12_169 rfl rfl (by first | assumption | rfl) (by first | assumption | exact Nat.le_of_ble_eq_true rfl | omega) (by omega) (Nat.le_of_ble_eq_true rfl) (m_faultOf (rule := true) (by omega) hi.1.1 hv.1 hi.1.2 (fun q a ha1 ha I' f => ?_) (fun p q1 q2 q3 I' f => ?_))
  · have e : sp_rule s = (-5, s) := by unfold sp_rule; exact if_pos q
    rw [e]
    refine X_if_lt (tgt := 11) dX12_rule_5 (by decide) (fun b => ?_) (fun b => ?_)
    · exact absurd b (nneg (by have := hv.1; omega))
    refine X_bipush (v := (-5)) dX12_rule_8 (by decide) ?_
    exact X_iret dX12_rule_10 rfl ⟨_, rfl, PM_FM hi f⟩
  · have hi2 := hi.FM f
    obtain ⟨a1, a2, a3, a4, a5, a6, a7, a8, a9⟩ := hi2.2.1
    refine X_if_lt (tgt := 11) dX12_rule_5 (by decide) (fun b => ?_) (fun b => ?_)
    · refine X_aload_n dX12_rule_11 rfl ?_
      refine X_getI dX12_rule_12 gf_X12_348 (by first | assumption | rfl) (by first | assumption | exact Nat.le_of_ble_eq_true rfl | omega) rfl ?_
      rw [a8]
      refine X_iconst (v := nI 4) dX12_rule_15 (by decide) ?_
      refine X_icmp_ne (tgt := 22) dX12_rule_16 (by decide) (fun b16 => ?_) (fun b16 => ?_)
      · have h4 : dN s.2.1 < 4 := by
          have : dN s.2.1 ≠ 4 := fun q => b16 (by rw [q])
          omega
        have e : sp_rule s = (nI (dN s.2.1), ((0, s.1.2), (s.2.1.1, s.2.1.2.1, s.2.1.2.2.1, s.2.1.2.2.2.1, dN s.2.1 + 1, up (dR s.2.1) (dN s.2.1) (pL p, pG p)), s.2.2)) := by unfold sp_rule; rw [if_neg (fun h => h q3), if_neg (by omega), q1]
        rw [e]
        obtain ⟨hw, hD⟩ := Dv_fin s.1.1 0 p0 p (PW_0 true) (Dv_0 _) q1
        have h1p := P1_fin s.1.1 0 p0 p (PW_0 true) (fun h => absurd h (by decide)) q1
        rw [Nat.zero_add] at hD
        obtain ⟨mk, k1, k2, k3, k4, k5⟩ := Tl_rule hw hD q2 h1p
        have hl3 : (pL p).1 ≤ 3 := hw.2.2.2.1
        have hg3 : (pG p).1 ≤ 3 := hw.2.2.2.2.1
        have h80 := hv.1
        refine X_iconst (v := nI 0) dX12_rule_22 (by decide) ?_
        refine X_istore_n dX12_rule_23 rfl rfl ?_
        have find : ∀ (m i : Nat), m = mk - i → i ≤ mk → X G d zX12_rule 24 [(0, vr 170), (1, vi (nI i))] [] (NC, I', J, layR sw) 0 0 (qi (PM ((0, s.1.2), (s.2.1.1, s.2.1.2.1, s.2.1.2.2.1, s.2.1.2.2.2.1, dN s.2.1 + 1, up (dR s.2.1) (dN s.2.1) (pL p, pG p)), s.2.2) (nI (dN s.2.1)) I J sw)) := by
          intro m
          induction m with
          | succ m ih =>
            intro i hm him
            have hne := k3 i (by omega)
            refine X_aload_n dX12_rule_24 rfl ?_
            refine X_getR dX12_rule_25 gf_X12_7 (by first | assumption | rfl) (by first | assumption | exact Nat.le_of_ble_eq_true rfl | omega) rfl (by first | assumption | rfl) ?_
            refine X_iload_n dX12_rule_28 rfl ?_
            first | refine X_iald dX12_rule_29 (by first | assumption | rfl) (by first | assumption | exact Nat.le_of_ble_eq_true rfl | omega) rfl (by first | decide | omega) (by decide) ?_ | refine X_ildA dX12_rule_29 rfl (by omega) ?_ | refine X_ildM dX12_rule_29 rfl (by omega) ?_ | refine X_sld dX12_rule_29 rfl (by omega) (by omega) ?_
            rw [hi2.1.2 i (by omega)]
            refine X_bipush (v := nI 62) dX12_rule_30 (by decide) ?_
            refine X_icmp_eq (tgt := 41) dX12_rule_32 (by decide) (fun b32 => ?_) (fun b32 => ?_)
            · exact absurd b32 hne
            first | refine X_iinc1 dX12_rule_35 rfl rfl rfl ?_ | refine X_iinc dX12_rule_35 rfl rfl rfl rfl ?_
            refine X_goto (tgt := 24) dX12_rule_38 (by decide) ?_
            exact ih (i + 1) (by omega) (by omega)
          | zero =>
            intro i hm him
            obtain rfl : i = mk := by omega
            refine X_aload_n dX12_rule_24 rfl ?_
            refine X_getR dX12_rule_25 gf_X12_7 (by first | assumption | rfl) (by first | assumption | exact Nat.le_of_ble_eq_true rfl | omega) rfl (by first | assumption | rfl) ?_
            refine X_iload_n dX12_rule_28 rfl ?_
            first | refine X_iald dX12_rule_29 (by first | assumption | rfl) (by first | assumption | exact Nat.le_of_ble_eq_true rfl | omega) rfl (by first | decide | omega) (by decide) ?_ | refine X_ildA dX12_rule_29 rfl (by omega) ?_ | refine X_ildM dX12_rule_29 rfl (by omega) ?_ | refine X_sld dX12_rule_29 rfl (by omega) (by omega) ?_
            rw [hi2.1.2 i (by omega)]
            refine X_bipush (v := nI 62) dX12_rule_30 (by decide) ?_
            refine X_icmp_eq (tgt := 41) dX12_rule_32 (by decide) (fun b32 => ?_) (fun b32 => ?_)
            · refine X_aload_n dX12_rule_41 rfl ?_
              refine X_getR dX12_rule_42 gf_X12_92 (by first | assumption | rfl) (by first | assumption | exact Nat.le_of_ble_eq_true rfl | omega) rfl (by first | assumption | rfl) ?_
              refine X_aload_n dX12_rule_45 rfl ?_
              refine X_getI dX12_rule_46 gf_X12_348 (by first | assumption | rfl) (by first | assumption | exact Nat.le_of_ble_eq_true rfl | omega) rfl ?_
              rw [a8]
              refine X_aload_n dX12_rule_49 rfl ?_
              refine X_iconst (v := nI 0) dX12_rule_50 (by decide) ?_
              refine X_iload_n dX12_rule_51 rfl ?_
              refine X_cVi dX12_rule_52 ck_X12_177 rfl rfl (by first | assumption | rfl) (by first | assumption | exact Nat.le_of_ble_eq_true rfl | omega) (by omega) (Nat.le_of_ble_eq_true rfl) (m_readSteps (by omega) k4 (by omega) (by omega) (by decide) (fun j hj => hi2.1.2 j (by omega)) (fun P hP => ?_))
              refine X_iast dX12_rule_55 (by first | assumption | rfl) (by first | assumption | exact Nat.le_of_ble_eq_true rfl | omega) rfl (by first | decide | omega) (by decide) ?_
              refine X_aload_n dX12_rule_56 rfl ?_
              refine X_iconst (v := nI 0) dX12_rule_57 (by decide) ?_
              refine X_aload_n dX12_rule_58 rfl ?_
              refine X_getR dX12_rule_59 gf_X12_92 (by first | assumption | rfl) (by first | assumption | exact Nat.le_of_ble_eq_true rfl | omega) rfl (by first | assumption | rfl) ?_
              refine X_aload_n dX12_rule_62 rfl ?_
              refine X_getI dX12_rule_63 gf_X12_348 (by first | assumption | rfl) (by first | assumption | exact Nat.le_of_ble_eq_true rfl | omega) rfl ?_
              rw [sr_ne (show 170 ≠ 198 by decide), sr_ne (show 170 ≠ 178 by decide), a8]
              first | refine X_iald dX12_rule_66 (by first | assumption | rfl) (by first | assumption | exact Nat.le_of_ble_eq_true rfl | omega) rfl (by first | decide | omega) (by decide) ?_ | refine X_ildA dX12_rule_66 rfl (by omega) ?_ | refine X_ildM dX12_rule_66 rfl (by omega) ?_ | refine X_sld dX12_rule_66 rfl (by omega) (by omega) ?_
              rw [sr_eq, up_eq]
              refine X_cVv dX12_rule_67 ck_X12_355 rfl rfl (by first | assumption | rfl) (by first | assumption | exact Nat.le_of_ble_eq_true rfl | omega) (by omega) (Nat.le_of_ble_eq_true rfl) (m_putPart (r := 0) (n := (pL p).1) (rn := dN s.2.1) (c := (pL p).2) (by omega) (by decide) hl3 h4 (by rw [sr_ne (show 170 ≠ 198 by decide), sr_ne (show 170 ≠ 178 by decide)]; exact a8) (by rw [sr_ne (show 178 ≠ 198 by decide), sr_eq]; exact hP) (fun P2 hP2 hP3 => ?_))
              generalize hI3 : sr (sr (sr I' 178 P) 198 (up (sr I' 178 P 198) (dN s.2.1) (nI (pL p).1))) 197 P2 = I3
              have z1 : ∀ k, k ≠ 178 → k ≠ 197 → k ≠ 198 → I3 k = I' k := fun k h1 h2 h3 => by rw [← hI3, sr_ne h2, sr_ne h3, sr_ne h1]
              have z2 : I3 197 = P2 := by rw [← hI3, sr_eq]
              have z3 : I3 198 = up (I' 198) (dN s.2.1) (nI (pL p).1) := by rw [← hI3, sr_ne (by decide), sr_eq, sr_ne (by decide)]
              rw [sr_ne (show 197 ≠ 198 by decide), sr_ne (show 197 ≠ 178 by decide)] at hP3
              refine X_aload_n dX12_rule_70 rfl ?_
              refine X_getR dX12_rule_71 gf_X12_95 (by first | assumption | rfl) (by first | assumption | exact Nat.le_of_ble_eq_true rfl | omega) rfl (by first | assumption | rfl) ?_
              refine X_aload_n dX12_rule_74 rfl ?_
              refine X_getI dX12_rule_75 gf_X12_348 (by first | assumption | rfl) (by first | assumption | exact Nat.le_of_ble_eq_true rfl | omega) rfl ?_
              rw [z1 170 (by decide) (by decide) (by decide), a8]
              refine X_aload_n dX12_rule_78 rfl ?_
              refine X_iload_n dX12_rule_79 rfl ?_
              refine X_iconst (v := nI 1) dX12_rule_80 (by decide) ?_
              first | refine X_iaddN dX12_rule_81 ?_ | refine X_iadd dX12_rule_81 ?_
              refine X_aload_n dX12_rule_82 rfl ?_
              refine X_getI dX12_rule_83 gf_X12_133 (by first | assumption | rfl) (by first | assumption | exact Nat.le_of_ble_eq_true rfl | omega) rfl ?_
              rw [z1 170 (by decide) (by decide) (by decide), hi2.1.1]
              refine X_cVi dX12_rule_86 ck_X12_177 rfl rfl (by first | assumption | rfl) (by first | assumption | exact Nat.le_of_ble_eq_true rfl | omega) (by omega) (Nat.le_of_ble_eq_true rfl) (m_readSteps (by omega) k5 (by omega) (by omega) (by omega) (fun j hj => by rw [z1 171 (by decide) (by decide) (by decide)]; exact hi2.1.2 j (by omega)) (fun P4 hP4 => ?_))
              refine X_iast dX12_rule_89 (by first | assumption | rfl) (by first | assumption | exact Nat.le_of_ble_eq_true rfl | omega) rfl (by first | decide | omega) (by decide) ?_
              refine X_aload_n dX12_rule_90 rfl ?_
              refine X_iconst (v := nI 1) dX12_rule_91 (by decide) ?_
              refine X_aload_n dX12_rule_92 rfl ?_
              refine X_getR dX12_rule_93 gf_X12_95 (by first | assumption | rfl) (by first | assumption | exact Nat.le_of_ble_eq_true rfl | omega) rfl (by first | assumption | rfl) ?_
              refine X_aload_n dX12_rule_96 rfl ?_
              refine X_getI dX12_rule_97 gf_X12_348 (by first | assumption | rfl) (by first | assumption | exact Nat.le_of_ble_eq_true rfl | omega) rfl ?_
              rw [sr_ne (show 170 ≠ 199 by decide), sr_ne (show 170 ≠ 178 by decide), z1 170 (by decide) (by decide) (by decide), a8]
              first | refine X_iald dX12_rule_100 (by first | assumption | rfl) (by first | assumption | exact Nat.le_of_ble_eq_true rfl | omega) rfl (by first | decide | omega) (by decide) ?_ | refine X_ildA dX12_rule_100 rfl (by omega) ?_ | refine X_ildM dX12_rule_100 rfl (by omega) ?_ | refine X_sld dX12_rule_100 rfl (by omega) (by omega) ?_
              rw [sr_eq, up_eq]
              refine X_cVv dX12_rule_101 ck_X12_355 rfl rfl (by first | assumption | rfl) (by first | assumption | exact Nat.le_of_ble_eq_true rfl | omega) (by omega) (Nat.le_of_ble_eq_true rfl) (m_putPart (r := 1) (n := (pG p).1) (rn := dN s.2.1) (c := (pG p).2) (by omega) (by decide) hg3 h4 (by rw [sr_ne (show 170 ≠ 199 by decide), sr_ne (show 170 ≠ 178 by decide), z1 170 (by decide) (by decide) (by decide)]; exact a8) (by rw [sr_ne (show 178 ≠ 199 by decide), sr_eq]; exact hP4) (fun P5 hP5 hP6 => ?_))
              rw [sr_ne (show 197 ≠ 199 by decide), sr_ne (show 197 ≠ 178 by decide), z2] at hP6
              generalize hI6 : sr (sr (sr I3 178 P4) 199 (up (sr I3 178 P4 199) (dN s.2.1) (nI (pG p).1))) 197 P5 = I6
              have y1 : ∀ k, k ≠ 178 → k ≠ 197 → k ≠ 198 → k ≠ 199 → I6 k = I' k := fun k h1 h2 h3 h5 => by rw [← hI6, sr_ne h2, sr_ne h5, sr_ne h1, z1 k h1 h2 h3]
              have y2 : I6 197 = P5 := by rw [← hI6, sr_eq]
              have y3 : I6 198 = up (I' 198) (dN s.2.1) (nI (pL p).1) := by rw [← hI6, sr_ne (by decide), sr_ne (by decide), sr_ne (by decide), z3]
              have y4 : I6 199 = up (I' 199) (dN s.2.1) (nI (pG p).1) := by rw [← hI6, sr_ne (by decide), sr_eq, sr_ne (by decide), z1 199 (by decide) (by decide) (by decide)]
              refine X_aload_n dX12_rule_104 rfl ?_
              refine X_iconst (v := nI 0) dX12_rule_105 (by decide) ?_
              refine X_putI dX12_rule_106 gf_X12_133 (Or.inl rfl) (by first | assumption | rfl) (by first | assumption | exact Nat.le_of_ble_eq_true rfl | omega) rfl ?_
              refine X_aload_n dX12_rule_109 rfl ?_
              refine X_dup dX12_rule_110 rfl ?_
              refine X_getI dX12_rule_111 gf_X12_348 (by first | assumption | rfl) (by first | assumption | exact Nat.le_of_ble_eq_true rfl | omega) rfl ?_
              rw [sr_eq, up_ne (by decide), y1 170 (by decide) (by decide) (by decide) (by decide), a8]
              refine X_iconst (v := nI 1) dX12_rule_114 (by decide) ?_
              first | refine X_iaddN dX12_rule_115 ?_ | refine X_iadd dX12_rule_115 ?_
              refine X_putI dX12_rule_116 gf_X12_348 (Or.inl rfl) (by first | assumption | rfl) (by first | assumption | exact Nat.le_of_ble_eq_true rfl | omega) rfl ?_
              refine X_aload_n dX12_rule_119 rfl ?_
              refine X_getI dX12_rule_120 gf_X12_348 (by first | assumption | rfl) (by first | assumption | exact Nat.le_of_ble_eq_true rfl | omega) rfl ?_
              rw [sr_eq, up_eq]
              refine X_iconst (v := nI 1) dX12_rule_123 (by decide) ?_
              first | refine X_isubN dX12_rule_124 (by omega) ?_ | refine X_isub dX12_rule_124 ?_
              rw [Nat.add_sub_cancel, sr_sr]
              refine X_iret dX12_rule_125 rfl ⟨_, rfl, PM_mk ⟨⟨?_, fun i hi3 => absurd hi3 (Nat.not_lt_zero i)⟩, ?_, ?_⟩ (fun k hk => ?_)⟩
              · rw [sr_eq, up_ne (by decide), sr_eq, up_eq]
              · refine ⟨by rw [sr_eq, up_ne (by decide), sr_eq, up_ne (by decide)]; exact a1, fun i hi => ?_, by rw [sr_eq, up_ne (by decide), sr_eq, up_ne (by decide)]; exact a3, fun i hi w hw => by rw [sr_ne (by decide), y1 176 (by decide) (by decide) (by decide) (by decide)]; exact a4 i hi w hw, by rw [sr_eq, up_ne (by decide), sr_eq, up_ne (by decide)]; exact a5, by rw [sr_eq, up_ne (by decide), sr_eq, up_ne (by decide)]; exact a6, fun j hj => by rw [sr_ne (by decide), y1 177 (by decide) (by decide) (by decide) (by decide)]; exact a7 j hj, by rw [sr_eq, up_eq], fun j hj => ?_⟩
                · rw [sr_ne (show 172 ≠ 170 by decide), sr_ne (show 173 ≠ 170 by decide), sr_ne (show 174 ≠ 170 by decide), sr_ne (show 175 ≠ 170 by decide), y1 172 (by decide) (by decide) (by decide) (by decide), y1 173 (by decide) (by decide) (by decide) (by decide), y1 174 (by decide) (by decide) (by decide) (by decide), y1 175 (by decide) (by decide) (by decide) (by decide)]
                  exact a2 i hi
                · rw [sr_ne (show 197 ≠ 170 by decide), sr_ne (show 198 ≠ 170 by decide), sr_ne (show 199 ≠ 170 by decide), y2, y3, y4]
                  have hj : j < dN s.2.1 + 1 := hj
                  show up (I' 198) (dN s.2.1) (nI (pL p).1) j = nI (up (dR s.2.1) (dN s.2.1) (pL p, pG p) j).1.1 ∧ up (I' 199) (dN s.2.1) (nI (pG p).1) j = nI (up (dR s.2.1) (dN s.2.1) (pL p, pG p) j).2.1 ∧ (∀ i, i < (up (dR s.2.1) (dN s.2.1) (pL p, pG p) j).1.1 → ∀ w, w < 4 → P5 (24 * j + 12 * 0 + 4 * i + w) = enc ((up (dR s.2.1) (dN s.2.1) (pL p, pG p) j).1.2 i w)) ∧ ∀ i, i < (up (dR s.2.1) (dN s.2.1) (pL p, pG p) j).2.1 → ∀ w, w < 4 → P5 (24 * j + 12 * 1 + 4 * i + w) = enc ((up (dR s.2.1) (dN s.2.1) (pL p, pG p) j).2.2 i w)
                  by_cases hje : j = dN s.2.1
                  · subst hje
                    rw [up_eq, up_eq, up_eq]
                    exact ⟨rfl, rfl, fun i hi w hw => by have hi : i < (pL p).1 := hi; rw [hP6 _ (by omega)]; exact hP2 i hi w hw, fun i hi w hw => hP5 i hi w hw⟩
                  · rw [up_ne hje, up_ne hje, up_ne hje]
                    have hj2 : j < dN s.2.1 := by omega
                    obtain ⟨u1, u2, u3, u4⟩ := a9 j hj2
                    have v1 := (hv.2.1.2.2.2.2.2 j hj2).1.2.1
                    have v2 := (hv.2.1.2.2.2.2.2 j hj2).2.1
                    exact ⟨u1, u2, fun i hi w hw => by rw [hP6 _ (by omega), hP3 _ (by omega)]; exact u3 i hi w hw, fun i hi w hw => by rw [hP6 _ (by omega), hP3 _ (by omega)]; exact u4 i hi w hw⟩
              · intro n hn
                rw [sr_ne (show 205 ≠ 170 by decide), sr_ne (show 204 ≠ 170 by decide), y1 204 (by decide) (by decide) (by decide) (by decide), y1 205 (by decide) (by decide) (by decide) (by decide)]
                exact hi2.2.2 n hn
              · rw [sr_ne (by omega), y1 k (by omega) (by omega) (by omega) (by omega), f.1 k (by omega)]
            · exact absurd k2 b32
        exact find mk 0 rfl (Nat.zero_le mk)
      · have h4 : dN s.2.1 = 4 := (neq (by omega) (by decide)).mp b16
        have e : sp_rule s = (-4, s) := by unfold sp_rule; rw [if_neg (fun h => h q3), if_pos (by omega)]
        rw [e]
        refine X_bipush (v := (-4)) dX12_rule_19 (by decide) ?_
        exact X_iret dX12_rule_21 rfl ⟨_, rfl, PM_FM hi f⟩
    · exact absurd (by decide) b
end RP
