section RE
variable {G : GG} {d : Nat} {sw : Bool} {I : Nat → Nat → Int32} {J : Nat → Nat → Int64} {s : SS}
/-- the reference's desk with one setting more -/
theorem rd_set0 {v : Nat} (h : rd I s.2.1) : rd (sr I 170 (up (I 170) 13 (nI v))) (setS s 0 v).2.1 := by
  obtain ⟨a1, a2, a3, a4, a5, a6, a7, a8, a9⟩ := h
  refine ⟨by rw [sr_eq, up_ne (by decide)]; exact a1, fun i hi => ?_, by rw [sr_eq, up_ne (by decide)]; exact a3, fun i hi w hw => by rw [sr_ne (by decide)]; exact a4 i hi w hw, by rw [sr_eq, up_ne (by decide)]; exact a5, by rw [sr_eq, up_eq]; rfl, fun j hj => by rw [sr_ne (by decide)]; exact a7 j hj, by rw [sr_eq, up_ne (by decide)]; exact a8, fun j hj => ?_⟩
  · rw [sr_ne (show 172 ≠ 170 by decide), sr_ne (show 173 ≠ 170 by decide), sr_ne (show 174 ≠ 170 by decide), sr_ne (show 175 ≠ 170 by decide)]
    exact a2 i hi
  · rw [sr_ne (show 197 ≠ 170 by decide), sr_ne (show 198 ≠ 170 by decide), sr_ne (show 199 ≠ 170 by decide)]
    exact a9 j hj
theorem rd_set1 {q v : Nat} (h : rd I s.2.1) : rd (sr I 177 (up (I 177) q (nI v))) (setS s (q + 1) v).2.1 := by
  obtain ⟨a1, a2, a3, a4, a5, a6, a7, a8, a9⟩ := h
  refine ⟨by rw [sr_ne (by decide)]; exact a1, fun i hi => ?_, by rw [sr_ne (by decide)]; exact a3, fun i hi w hw => by rw [sr_ne (by decide)]; exact a4 i hi w hw, by rw [sr_ne (by decide)]; exact a5, by rw [sr_ne (by decide)]; exact a6, fun j hj => ?_, by rw [sr_ne (by decide)]; exact a8, fun j hj => ?_⟩
  · rw [sr_ne (show 172 ≠ 177 by decide), sr_ne (show 173 ≠ 177 by decide), sr_ne (show 174 ≠ 177 by decide), sr_ne (show 175 ≠ 177 by decide)]
    exact a2 i hi
  · rw [sr_eq]
    show up (I 177) q (nI v) j = nI (up (dS s.2.1) (q + 1) v (j + 1))
    by_cases hq : j = q
    · subst hq; rw [up_eq, up_eq]
    · rw [up_ne hq, up_ne (by omega)]; exact a7 j hj
  · rw [sr_ne (show 197 ≠ 177 by decide), sr_ne (show 198 ≠ 177 by decide), sr_ne (show 199 ≠ 177 by decide)]
    exact a9 j hj
set_option maxRecDepth 20000 in
theorem M_set {x v : Int32} (hd : 1 ≤ d) (hi : RInv I s) : Y G d zX12_set [vr 170, vi x, vi v] (NC, I, J, layR sw) 0 0 (qi (PM (sp_set s x v).2 (sp_set s x v).1 I J sw)) := by
  refine Y_of rfl rfl (Nat.le_of_ble_eq_true rfl) rfl ?_
  unfold sp_set
  refine X_iload_n dX12_set_0 rfl ?_
  refine X_i2l dX12_set_1 rfl ?_
  refine X_lconst (v := 0) dX12_set_2 (by decide) ?_
  refine X_ldc2 dX12_set_3 kc_X12_277 ?_
  by_cases h : x < 0 ∨ nI 5 ≤ x
  · rw [if_pos h]
    refine X_cSi dX12_set_6 ck_X12_125 rfl rfl (by omega) (Nat.le_of_ble_eq_true rfl) (c_in_f (lo := nI 0) (hi := nI 4) (by decide) (by decide) (fun q => h.elim (le_0.mp q.1) (fun h => absurd (Int32.lt_of_le_of_lt q.2 (show nI 4 < nI 5 by decide)) (Int32.not_lt.mpr h))) ?_)
    refine X_if_eq (tgt := 34) dX12_set_9 (by decide) (fun h9 => ?_) (fun h9 => ?_)
    · refine X_bipush (v := (-2)) dX12_set_34 (by decide) ?_
      exact X_iret dX12_set_36 rfl ⟨_, rfl, PM_same hi⟩
    · exact absurd rfl h9
  · rw [if_neg h]
    obtain ⟨a, ha, rfl⟩ : ∃ a, a < 5 ∧ x = nI a := by
      rcases icase x 5 (by decide) with q | q | q
      · exact absurd (Or.inl q) h
      · exact q
      · exact absurd (Or.inr q.2) h
    rw [nI_clamp (by omega)]
    refine X_cSi dX12_set_6 ck_X12_125 rfl rfl (by omega) (Nat.le_of_ble_eq_true rfl) (c_in_t (lo := nI 0) (hi := nI 4) (by decide) (by decide) (le_0.mpr (nneg (by omega))) ((nle (by decide) (by omega)).mpr (by omega)) ?_)
    refine X_if_eq (tgt := 34) dX12_set_9 (by decide) (fun h9 => ?_) (fun h9 => ?_)
    · exact absurd h9 (by decide)
    refine X_iload_n dX12_set_12 rfl ?_
    refine X_i2l dX12_set_13 rfl ?_
    refine X_lconst (v := 1) dX12_set_14 (by decide) ?_
    refine X_iload_n dX12_set_15 rfl ?_
    have fin : ¬ (v < nI 1 ∨ (if nI a = 0 then nI 3 else nI 5) < v) → ∀ lv, lv = [(0, vr 170), (1, vi (nI a)), (2, vi v)] → X G d zX12_set 37 lv [] (NC, I, J, layR sw) 0 0 (qi (PM (setS s a v.toNatClampNeg) (nI (dS s.2.1 a)) I J sw)) := by
      intro hc lv hlv
      subst hlv
      obtain ⟨b, hb1, hb2, rfl⟩ : ∃ b, 1 ≤ b ∧ b ≤ 5 ∧ v = nI b := by
        refine in1 (by decide) (fun q => hc (Or.inl q)) ?_
        have := Int32.not_lt.mp (fun q => hc (Or.inr q))
        by_cases h0 : nI a = 0
        · rw [if_pos h0] at this
          exact Int32.le_trans this (by decide)
        · rw [if_neg h0] at this
          exact this
      rw [nI_clamp (by omega)]
      refine X_iload_n dX12_set_37 rfl ?_
      rcases Nat.eq_zero_or_pos a with rfl | hp
      · refine X_if_ne (tgt := 48) dX12_set_38 (by decide) (fun h38 => ?_) (fun h38 => ?_)
        · exact absurd rfl h38
        refine X_aload_n dX12_set_41 rfl ?_
        refine X_getI dX12_set_42 gf_X12_120 (by first | assumption | rfl) (by first | assumption | exact Nat.le_of_ble_eq_true rfl | omega) rfl ?_
        rw [hi.2.1.2.2.2.2.2.1]
        refine X_goto (tgt := 56) dX12_set_45 (by decide) ?_
        refine X_istore_n dX12_set_56 rfl rfl ?_
        refine X_iload_n dX12_set_57 rfl ?_
        refine X_if_ne (tgt := 69) dX12_set_58 (by decide) (fun h58 => ?_) (fun h58 => ?_)
        · exact absurd rfl h58
        refine X_aload_n dX12_set_61 rfl ?_
        refine X_iload_n dX12_set_62 rfl ?_
        refine X_putI dX12_set_63 gf_X12_120 (Or.inl rfl) (by first | assumption | rfl) (by first | assumption | exact Nat.le_of_ble_eq_true rfl | omega) rfl ?_
        refine X_goto (tgt := 78) dX12_set_66 (by decide) ?_
        refine X_iload_n dX12_set_78 rfl ?_
        refine X_iret dX12_set_79 rfl ⟨_, rfl, PM_mk ⟨⟨?_, fun i hi2 => ?_⟩, rd_set0 hi.2.1, ?_⟩ (srlt (by decide))⟩
        · rw [sr_eq, up_ne (by decide)]; exact hi.1.1
        · rw [sr_ne (by decide)]; exact hi.1.2 i hi2
        · intro n hn
          rw [sr_ne (show 205 ≠ 170 by decide), sr_ne (show 204 ≠ 170 by decide)]
          exact hi.2.2 n hn
      · obtain ⟨q, rfl⟩ : ∃ q, a = q + 1 := ⟨a - 1, by omega⟩
        have hne : ¬ nI (q + 1) = 0 := nI_ne0 (by omega) (by omega)
        refine X_if_ne (tgt := 48) dX12_set_38 (by decide) (fun h38 => ?_) (fun h38 => ?_)
        · refine X_aload_n dX12_set_48 rfl ?_
          refine X_getR dX12_set_49 gf_X12_28 (by first | assumption | rfl) (by first | assumption | exact Nat.le_of_ble_eq_true rfl | omega) rfl (by first | assumption | rfl) ?_
          refine X_iload_n dX12_set_52 rfl ?_
          refine X_iconst (v := nI 1) dX12_set_53 (by decide) ?_
          first | refine X_isubN dX12_set_54 (by omega) ?_ | refine X_isub dX12_set_54 ?_
          rw [Nat.add_sub_cancel]
          first | refine X_iald dX12_set_55 (by first | assumption | rfl) (by first | assumption | exact Nat.le_of_ble_eq_true rfl | omega) rfl (by first | decide | omega) (by decide) ?_ | refine X_ildA dX12_set_55 rfl (by omega) ?_ | refine X_ildM dX12_set_55 rfl (by omega) ?_ | refine X_sld dX12_set_55 rfl (by omega) (by omega) ?_
          rw [hi.2.1.2.2.2.2.2.2.1 q (by omega)]
          refine X_istore_n dX12_set_56 rfl rfl ?_
          refine X_iload_n dX12_set_57 rfl ?_
          refine X_if_ne (tgt := 69) dX12_set_58 (by decide) (fun h58 => ?_) (fun h58 => ?_)
          · refine X_aload_n dX12_set_69 rfl ?_
            refine X_getR dX12_set_70 gf_X12_28 (by first | assumption | rfl) (by first | assumption | exact Nat.le_of_ble_eq_true rfl | omega) rfl (by first | assumption | rfl) ?_
            refine X_iload_n dX12_set_73 rfl ?_
            refine X_iconst (v := nI 1) dX12_set_74 (by decide) ?_
            first | refine X_isubN dX12_set_75 (by omega) ?_ | refine X_isub dX12_set_75 ?_
            rw [Nat.add_sub_cancel]
            refine X_iload_n dX12_set_76 rfl ?_
            refine X_iast dX12_set_77 (by first | assumption | rfl) (by first | assumption | exact Nat.le_of_ble_eq_true rfl | omega) rfl (by first | decide | omega) (by decide) ?_
            refine X_iload_n dX12_set_78 rfl ?_
            refine X_iret dX12_set_79 rfl ⟨_, rfl, PM_mk ⟨⟨?_, fun i hi2 => ?_⟩, rd_set1 hi.2.1, ?_⟩ (srlt (by decide))⟩
            · rw [sr_ne (by decide)]; exact hi.1.1
            · rw [sr_ne (by decide)]; exact hi.1.2 i hi2
            · intro n hn
              rw [sr_ne (show 205 ≠ 177 by decide), sr_ne (show 204 ≠ 177 by decide)]
              exact hi.2.2 n hn
          · exact absurd h58 hne
        · exact absurd h38 hne
    refine X_if_ne (tgt := 25) dX12_set_16 (by decide) (fun h16 => ?_) (fun h16 => ?_)
    · rw [if_neg h16]
      rw [if_neg h16] at fin
      refine X_ldc2 dX12_set_25 kc_X12_298 ?_
      by_cases hc : v < nI 1 ∨ nI 5 < v
      · rw [if_pos hc]
        refine X_cSi dX12_set_28 ck_X12_125 rfl rfl (by omega) (Nat.le_of_ble_eq_true rfl) (c_in_f (lo := nI 1) (hi := nI 5) (by decide) (by decide) (fun q => hc.elim (fun h => absurd q.1 (Int32.not_le.mpr h)) (fun h => absurd q.2 (Int32.not_le.mpr h))) ?_)
        refine X_if_ne (tgt := 37) dX12_set_31 (by decide) (fun h31 => ?_) (fun h31 => ?_)
        · exact absurd rfl h31
        refine X_bipush (v := (-2)) dX12_set_34 (by decide) ?_
        exact X_iret dX12_set_36 rfl ⟨_, rfl, PM_same hi⟩
      · rw [if_neg hc]
        refine X_cSi dX12_set_28 ck_X12_125 rfl rfl (by omega) (Nat.le_of_ble_eq_true rfl) (c_in_t (lo := nI 1) (hi := nI 5) (by decide) (by decide) (Int32.not_lt.mp (fun q => hc (Or.inl q))) (Int32.not_lt.mp (fun q => hc (Or.inr q))) ?_)
        refine X_if_ne (tgt := 37) dX12_set_31 (by decide) (fun h31 => ?_) (fun h31 => ?_)
        · exact fin hc _ rfl
        · exact absurd h31 (by decide)
    · rw [if_pos h16]
      rw [if_pos h16] at fin
      refine X_ldc2 dX12_set_19 kc_X12_123 ?_
      refine X_goto (tgt := 28) dX12_set_22 (by decide) ?_
      by_cases hc : v < nI 1 ∨ nI 3 < v
      · rw [if_pos hc]
        refine X_cSi dX12_set_28 ck_X12_125 rfl rfl (by omega) (Nat.le_of_ble_eq_true rfl) (c_in_f (lo := nI 1) (hi := nI 3) (by decide) (by decide) (fun q => hc.elim (fun h => absurd q.1 (Int32.not_le.mpr h)) (fun h => absurd q.2 (Int32.not_le.mpr h))) ?_)
        refine X_if_ne (tgt := 37) dX12_set_31 (by decide) (fun h31 => ?_) (fun h31 => ?_)
        · exact absurd rfl h31
        refine X_bipush (v := (-2)) dX12_set_34 (by decide) ?_
        exact X_iret dX12_set_36 rfl ⟨_, rfl, PM_same hi⟩
      · rw [if_neg hc]
        refine X_cSi dX12_set_28 ck_X12_125 rfl rfl (by omega) (Nat.le_of_ble_eq_true rfl) (c_in_t (lo := nI 1) (hi := nI 3) (by decide) (by decide) (Int32.not_lt.mp (fun q => hc (Or.inl q))) (Int32.not_lt.mp (fun q => hc (Or.inr q))) ?_)
        refine X_if_ne (tgt := 37) dX12_set_31 (by decide) (fun h31 => ?_) (fun h31 => ?_)
        · exact fin hc _ rfl
        · exact absurd h31 (by decide)
set_option maxRecDepth 20000 in
theorem M_step {x w : Int32} (hd : 2 ≤ d) (hv : VSt s) (hi : RInv I s) : Y G d zX12_step [vr 170, vi x, vi w] (NC, I, J, layR sw) 0 0 (qi (PM s (sp_step s x w) I J sw)) := by
  have hn := hi.2.1.1
  have hn2 := hv.2.1.1.1
  refine Y_of rfl rfl (Nat.le_of_ble_eq_true rfl) rfl ?_
  unfold sp_step
  refine X_aload_n dX12_step_0 rfl ?_
  refine X_iload_n dX12_step_1 rfl ?_
  by_cases h : x < 0 ∨ nI (dC s.2.1).1 ≤ x
  · rw [if_pos h]
    refine X_cVi dX12_step_2 ck_X12_186 rfl rfl (by first | assumption | rfl) (by first | assumption | exact Nat.le_of_ble_eq_true rfl | omega) (by omega) (Nat.le_of_ble_eq_true rfl) (c_isStep_f (by omega) hn hn2 h ?_)
    refine X_if_ne (tgt := 10) dX12_step_5 (by decide) (fun h5 => ?_) (fun h5 => ?_)
    · exact absurd rfl h5
    · refine X_iconst (v := (-1)) dX12_step_8 (by decide) ?_
      exact X_iret dX12_step_9 rfl ⟨_, rfl, PM_same hi⟩
  · rw [if_neg h]
    obtain ⟨a, ha, rfl⟩ : ∃ a, a < (dC s.2.1).1 ∧ x = nI a := by
      rcases icase x (dC s.2.1).1 (by omega) with q | q | q
      · exact absurd (Or.inl q) h
      · exact q
      · exact absurd (Or.inr q.2) h
    rw [nI_clamp (by omega)]
    refine X_cVi dX12_step_2 ck_X12_186 rfl rfl (by first | assumption | rfl) (by first | assumption | exact Nat.le_of_ble_eq_true rfl | omega) (by omega) (Nat.le_of_ble_eq_true rfl) (c_isStep_t (by omega) hn hn2 ha ?_)
    refine X_if_ne (tgt := 10) dX12_step_5 (by decide) (fun h5 => ?_) (fun h5 => ?_)
    · refine X_iload_n dX12_step_10 rfl ?_
      obtain ⟨e0, e1, e2, e3⟩ := hi.2.1.2.1 a ha
      rcases icase w 4 (by decide) with hw | ⟨b, hb, rfl⟩ | hw
      · rw [if_pos (Or.inl hw)]
        refine X_tableOut (tgt := 68) dX12_step_11 (Or.inl (Int32.lt_iff_toInt_lt.mp hw)) (by decide) ?_
        refine X_bipush (v := (-2)) dX12_step_68 (by decide) ?_
        exact X_iret dX12_step_70 rfl ⟨_, rfl, PM_same hi⟩
      · rw [if_neg (fun q => q.elim (nneg (by omega)) (fun q => absurd ((nlt (by omega) (by omega)).mp q) (by omega))), nI_clamp (by omega)]
        rcases (by omega : b = 0 ∨ b = 1 ∨ b = 2 ∨ b = 3) with rfl | rfl | rfl | rfl
        · refine X_tableIn (off := 29) (tgt := 40) dX12_step_11 (by decide) (by decide) (by decide) (by decide) ?_
          refine X_aload_n dX12_step_40 rfl ?_
          refine X_getR dX12_step_41 gf_X12_13 (by first | assumption | rfl) (by first | assumption | exact Nat.le_of_ble_eq_true rfl | omega) rfl (by first | assumption | rfl) ?_
          refine X_iload_n dX12_step_44 rfl ?_
          first | refine X_iald dX12_step_45 (by first | assumption | rfl) (by first | assumption | exact Nat.le_of_ble_eq_true rfl | omega) rfl (by first | decide | omega) (by decide) ?_ | refine X_ildA dX12_step_45 rfl (by omega) ?_ | refine X_ildM dX12_step_45 rfl (by omega) ?_ | refine X_sld dX12_step_45 rfl (by omega) (by omega) ?_
          rw [e0]
          exact X_iret dX12_step_46 rfl ⟨_, rfl, PM_same hi⟩
        · refine X_tableIn (off := 36) (tgt := 47) dX12_step_11 (by decide) (by decide) (by decide) (by decide) ?_
          refine X_aload_n dX12_step_47 rfl ?_
          refine X_getR dX12_step_48 gf_X12_16 (by first | assumption | rfl) (by first | assumption | exact Nat.le_of_ble_eq_true rfl | omega) rfl (by first | assumption | rfl) ?_
          refine X_iload_n dX12_step_51 rfl ?_
          first | refine X_iald dX12_step_52 (by first | assumption | rfl) (by first | assumption | exact Nat.le_of_ble_eq_true rfl | omega) rfl (by first | decide | omega) (by decide) ?_ | refine X_ildA dX12_step_52 rfl (by omega) ?_ | refine X_ildM dX12_step_52 rfl (by omega) ?_ | refine X_sld dX12_step_52 rfl (by omega) (by omega) ?_
          rw [e1]
          exact X_iret dX12_step_53 rfl ⟨_, rfl, PM_same hi⟩
        · refine X_tableIn (off := 43) (tgt := 54) dX12_step_11 (by decide) (by decide) (by decide) (by decide) ?_
          refine X_aload_n dX12_step_54 rfl ?_
          refine X_getR dX12_step_55 gf_X12_19 (by first | assumption | rfl) (by first | assumption | exact Nat.le_of_ble_eq_true rfl | omega) rfl (by first | assumption | rfl) ?_
          refine X_iload_n dX12_step_58 rfl ?_
          first | refine X_iald dX12_step_59 (by first | assumption | rfl) (by first | assumption | exact Nat.le_of_ble_eq_true rfl | omega) rfl (by first | decide | omega) (by decide) ?_ | refine X_ildA dX12_step_59 rfl (by omega) ?_ | refine X_ildM dX12_step_59 rfl (by omega) ?_ | refine X_sld dX12_step_59 rfl (by omega) (by omega) ?_
          rw [e2]
          exact X_iret dX12_step_60 rfl ⟨_, rfl, PM_same hi⟩
        · refine X_tableIn (off := 50) (tgt := 61) dX12_step_11 (by decide) (by decide) (by decide) (by decide) ?_
          refine X_aload_n dX12_step_61 rfl ?_
          refine X_getR dX12_step_62 gf_X12_22 (by first | assumption | rfl) (by first | assumption | exact Nat.le_of_ble_eq_true rfl | omega) rfl (by first | assumption | rfl) ?_
          refine X_iload_n dX12_step_65 rfl ?_
          first | refine X_iald dX12_step_66 (by first | assumption | rfl) (by first | assumption | exact Nat.le_of_ble_eq_true rfl | omega) rfl (by first | decide | omega) (by decide) ?_ | refine X_ildA dX12_step_66 rfl (by omega) ?_ | refine X_ildM dX12_step_66 rfl (by omega) ?_ | refine X_sld dX12_step_66 rfl (by omega) (by omega) ?_
          rw [e3]
          exact X_iret dX12_step_67 rfl ⟨_, rfl, PM_same hi⟩
      · rw [if_pos (Or.inr (Int32.lt_of_lt_of_le (show nI 3 < nI 4 by decide) hw.2))]
        refine X_tableOut (tgt := 68) dX12_step_11 (Or.inr (Int.lt_of_lt_of_le (by decide) (Int32.le_iff_toInt_le.mp hw.2))) (by decide) ?_
        refine X_bipush (v := (-2)) dX12_step_68 (by decide) ?_
        exact X_iret dX12_step_70 rfl ⟨_, rfl, PM_same hi⟩
    · exact absurd h5 (by decide)
set_option maxRecDepth 20000 in
set_option maxHeartbeats 4000000 in
theorem M_keep (hv : VSt s) (hi : RInv I s) : Y G d zX12_keep [vr 170] (NC, I, J, layR sw) 0 0 (qi (PM (sp_keep s).2 (sp_keep s).1 I J sw)) := by
  have hn2 := hv.2.1.1.1
  obtain ⟨a1, a2, a3, a4, a5, a6, a7, a8, a9⟩ := hi.2.1
  refine Y_of rfl rfl (Nat.le_of_ble_eq_true rfl) rfl ?_
  refine X_iconst (v := nI 0) dX12_keep_0 (by decide) ?_
  refine X_istore_n dX12_keep_1 rfl rfl ?_
  have loop : ∀ (m i : Nat) (P : Nat → Int32), m = (dC s.2.1).1 - i → i ≤ (dC s.2.1).1 → (∀ q, q < i → ∀ w, w < 4 → P (4 * q + w) = enc ((dC s.2.1).2 q w)) → X G d zX12_keep 2 [(0, vr 170), (1, vi (nI i))] [] (NC, sr I 176 P, J, layR sw) 0 0 (qi (PM (sp_keep s).2 (sp_keep s).1 I J sw)) := by
    intro m
    induction m with
    | zero =>
      intro i P hm hin hP
      obtain rfl : i = (dC s.2.1).1 := by omega
      refine X_iload_n dX12_keep_2 rfl ?_
      refine X_aload_n dX12_keep_3 rfl ?_
      refine X_getI dX12_keep_4 gf_X12_181 (by first | assumption | rfl) (by first | assumption | exact Nat.le_of_ble_eq_true rfl | omega) rfl ?_
      rw [sr_ne (show 170 ≠ 176 by decide), a1]
      refine X_icmp_ge (tgt := 78) dX12_keep_7 (by decide) (fun h7 => ?_) (fun h7 => ?_)
      · refine X_aload_n dX12_keep_78 rfl ?_
        refine X_aload_n dX12_keep_79 rfl ?_
        refine X_getI dX12_keep_80 gf_X12_181 (by first | assumption | rfl) (by first | assumption | exact Nat.le_of_ble_eq_true rfl | omega) rfl ?_
        refine X_putI dX12_keep_83 gf_X12_211 (Or.inl rfl) (by first | assumption | rfl) (by first | assumption | exact Nat.le_of_ble_eq_true rfl | omega) rfl ?_
        refine X_aload_n dX12_keep_86 rfl ?_
        refine X_getI dX12_keep_87 gf_X12_181 (by first | assumption | rfl) (by first | assumption | exact Nat.le_of_ble_eq_true rfl | omega) rfl ?_
        rw [sr_eq, up_ne (by decide), sr_ne (show 170 ≠ 176 by decide), a1]
        refine X_iret dX12_keep_90 rfl ⟨_, rfl, PM_mk ⟨⟨?_, fun i hi2 => ?_⟩, ?_, ?_⟩ (fun k hk => by rw [sr_ne (by omega), sr_ne (by omega)])⟩
        · rw [sr_eq, up_ne (by decide)]; exact hi.1.1
        · rw [sr_ne (by decide), sr_ne (by decide)]; exact hi.1.2 i hi2
        · refine ⟨by rw [sr_eq, up_ne (by decide)]; exact a1, fun i hi => ?_, by rw [sr_eq, up_eq]; rfl, fun i hi w hw => by rw [sr_ne (by decide), sr_eq]; exact hP i hi w hw, by rw [sr_eq, up_ne (by decide)]; exact a5, by rw [sr_eq, up_ne (by decide)]; exact a6, fun j hj => by rw [sr_ne (by decide), sr_ne (by decide)]; exact a7 j hj, by rw [sr_eq, up_ne (by decide)]; exact a8, fun j hj => ?_⟩
          · rw [sr_ne (show 172 ≠ 170 by decide), sr_ne (show 173 ≠ 170 by decide), sr_ne (show 174 ≠ 170 by decide), sr_ne (show 175 ≠ 170 by decide), sr_ne (show 172 ≠ 176 by decide), sr_ne (show 173 ≠ 176 by decide), sr_ne (show 174 ≠ 176 by decide), sr_ne (show 175 ≠ 176 by decide)]
            exact a2 i hi
          · rw [sr_ne (show 197 ≠ 170 by decide), sr_ne (show 198 ≠ 170 by decide), sr_ne (show 199 ≠ 170 by decide), sr_ne (show 197 ≠ 176 by decide), sr_ne (show 198 ≠ 176 by decide), sr_ne (show 199 ≠ 176 by decide)]
            exact a9 j hj
        · intro n hn
          rw [sr_ne (show 205 ≠ 170 by decide), sr_ne (show 204 ≠ 170 by decide), sr_ne (show 205 ≠ 176 by decide), sr_ne (show 204 ≠ 176 by decide)]
          exact hi.2.2 n hn
      · exact absurd (Int32.le_refl _) h7
    | succ m ih =>
      intro i P hm hin hP
      have hlt : i < (dC s.2.1).1 := by omega
      obtain ⟨e0, e1, e2, e3⟩ := a2 i hlt
      refine X_iload_n dX12_keep_2 rfl ?_
      refine X_aload_n dX12_keep_3 rfl ?_
      refine X_getI dX12_keep_4 gf_X12_181 (by first | assumption | rfl) (by first | assumption | exact Nat.le_of_ble_eq_true rfl | omega) rfl ?_
      rw [sr_ne (show 170 ≠ 176 by decide), a1]
      refine X_icmp_ge (tgt := 78) dX12_keep_7 (by decide) (fun h7 => ?_) (fun h7 => ?_)
      · exact absurd ((nle (by omega) (by omega)).mp h7) (by omega)
      refine X_aload_n dX12_keep_10 rfl ?_
      refine X_getR dX12_keep_11 gf_X12_25 (by first | assumption | rfl) (by first | assumption | exact Nat.le_of_ble_eq_true rfl | omega) rfl (by first | assumption | rfl) ?_
      refine X_iconst (v := nI 4) dX12_keep_14 (by decide) ?_
      refine X_iload_n dX12_keep_15 rfl ?_
      first | refine X_imulN dX12_keep_16 ?_ | refine X_imul dX12_keep_16 ?_
      refine X_aload_n dX12_keep_17 rfl ?_
      refine X_getR dX12_keep_18 gf_X12_13 (by first | assumption | rfl) (by first | assumption | exact Nat.le_of_ble_eq_true rfl | omega) rfl (by first | assumption | rfl) ?_
      refine X_iload_n dX12_keep_21 rfl ?_
      first | refine X_iald dX12_keep_22 (by first | assumption | rfl) (by first | assumption | exact Nat.le_of_ble_eq_true rfl | omega) rfl (by first | decide | omega) (by decide) ?_ | refine X_ildA dX12_keep_22 rfl (by omega) ?_ | refine X_ildM dX12_keep_22 rfl (by omega) ?_ | refine X_sld dX12_keep_22 rfl (by omega) (by omega) ?_
      rw [sr_ne (show 172 ≠ 176 by decide), e0]
      refine X_iast dX12_keep_23 (by first | assumption | rfl) (by first | assumption | exact Nat.le_of_ble_eq_true rfl | omega) rfl (by first | decide | omega) (by decide) ?_
      rw [sr_eq, sr_sr]
      refine X_aload_n dX12_keep_24 rfl ?_
      refine X_getR dX12_keep_25 gf_X12_25 (by first | assumption | rfl) (by first | assumption | exact Nat.le_of_ble_eq_true rfl | omega) rfl (by first | assumption | rfl) ?_
      refine X_iconst (v := nI 4) dX12_keep_28 (by decide) ?_
      refine X_iload_n dX12_keep_29 rfl ?_
      first | refine X_imulN dX12_keep_30 ?_ | refine X_imul dX12_keep_30 ?_
      refine X_iconst (v := nI 1) dX12_keep_31 (by decide) ?_
      first | refine X_iaddN dX12_keep_32 ?_ | refine X_iadd dX12_keep_32 ?_
      refine X_aload_n dX12_keep_33 rfl ?_
      refine X_getR dX12_keep_34 gf_X12_16 (by first | assumption | rfl) (by first | assumption | exact Nat.le_of_ble_eq_true rfl | omega) rfl (by first | assumption | rfl) ?_
      refine X_iload_n dX12_keep_37 rfl ?_
      first | refine X_iald dX12_keep_38 (by first | assumption | rfl) (by first | assumption | exact Nat.le_of_ble_eq_true rfl | omega) rfl (by first | decide | omega) (by decide) ?_ | refine X_ildA dX12_keep_38 rfl (by omega) ?_ | refine X_ildM dX12_keep_38 rfl (by omega) ?_ | refine X_sld dX12_keep_38 rfl (by omega) (by omega) ?_
      rw [sr_ne (show 173 ≠ 176 by decide), e1]
      refine X_iast dX12_keep_39 (by first | assumption | rfl) (by first | assumption | exact Nat.le_of_ble_eq_true rfl | omega) rfl (by first | decide | omega) (by decide) ?_
      rw [sr_eq, sr_sr]
      refine X_aload_n dX12_keep_40 rfl ?_
      refine X_getR dX12_keep_41 gf_X12_25 (by first | assumption | rfl) (by first | assumption | exact Nat.le_of_ble_eq_true rfl | omega) rfl (by first | assumption | rfl) ?_
      refine X_iconst (v := nI 4) dX12_keep_44 (by decide) ?_
      refine X_iload_n dX12_keep_45 rfl ?_
      first | refine X_imulN dX12_keep_46 ?_ | refine X_imul dX12_keep_46 ?_
      refine X_iconst (v := nI 2) dX12_keep_47 (by decide) ?_
      first | refine X_iaddN dX12_keep_48 ?_ | refine X_iadd dX12_keep_48 ?_
      refine X_aload_n dX12_keep_49 rfl ?_
      refine X_getR dX12_keep_50 gf_X12_19 (by first | assumption | rfl) (by first | assumption | exact Nat.le_of_ble_eq_true rfl | omega) rfl (by first | assumption | rfl) ?_
      refine X_iload_n dX12_keep_53 rfl ?_
      first | refine X_iald dX12_keep_54 (by first | assumption | rfl) (by first | assumption | exact Nat.le_of_ble_eq_true rfl | omega) rfl (by first | decide | omega) (by decide) ?_ | refine X_ildA dX12_keep_54 rfl (by omega) ?_ | refine X_ildM dX12_keep_54 rfl (by omega) ?_ | refine X_sld dX12_keep_54 rfl (by omega) (by omega) ?_
      rw [sr_ne (show 174 ≠ 176 by decide), e2]
      refine X_iast dX12_keep_55 (by first | assumption | rfl) (by first | assumption | exact Nat.le_of_ble_eq_true rfl | omega) rfl (by first | decide | omega) (by decide) ?_
      rw [sr_eq, sr_sr]
      refine X_aload_n dX12_keep_56 rfl ?_
      refine X_getR dX12_keep_57 gf_X12_25 (by first | assumption | rfl) (by first | assumption | exact Nat.le_of_ble_eq_true rfl | omega) rfl (by first | assumption | rfl) ?_
      refine X_iconst (v := nI 4) dX12_keep_60 (by decide) ?_
      refine X_iload_n dX12_keep_61 rfl ?_
      first | refine X_imulN dX12_keep_62 ?_ | refine X_imul dX12_keep_62 ?_
      refine X_iconst (v := nI 3) dX12_keep_63 (by decide) ?_
      first | refine X_iaddN dX12_keep_64 ?_ | refine X_iadd dX12_keep_64 ?_
      refine X_aload_n dX12_keep_65 rfl ?_
      refine X_getR dX12_keep_66 gf_X12_22 (by first | assumption | rfl) (by first | assumption | exact Nat.le_of_ble_eq_true rfl | omega) rfl (by first | assumption | rfl) ?_
      refine X_iload_n dX12_keep_69 rfl ?_
      first | refine X_iald dX12_keep_70 (by first | assumption | rfl) (by first | assumption | exact Nat.le_of_ble_eq_true rfl | omega) rfl (by first | decide | omega) (by decide) ?_ | refine X_ildA dX12_keep_70 rfl (by omega) ?_ | refine X_ildM dX12_keep_70 rfl (by omega) ?_ | refine X_sld dX12_keep_70 rfl (by omega) (by omega) ?_
      rw [sr_ne (show 175 ≠ 176 by decide), e3]
      refine X_iast dX12_keep_71 (by first | assumption | rfl) (by first | assumption | exact Nat.le_of_ble_eq_true rfl | omega) rfl (by first | decide | omega) (by decide) ?_
      rw [sr_eq, sr_sr]
      first | refine X_iinc1 dX12_keep_72 rfl rfl rfl ?_ | refine X_iinc dX12_keep_72 rfl rfl rfl rfl ?_
      refine X_goto (tgt := 2) dX12_keep_75 (by decide) ?_
      refine ih (i + 1) _ (by omega) (by omega) (fun q hq w hw => ?_)
      by_cases hqi : q = i
      · subst hqi
        rcases (by omega : w = 0 ∨ w = 1 ∨ w = 2 ∨ w = 3) with rfl | rfl | rfl | rfl
        · rw [up_ne (by omega), up_ne (by omega), up_ne (by omega)]; exact up_eq
        · rw [up_ne (by omega), up_ne (by omega)]; exact up_eq
        · rw [up_ne (by omega)]; exact up_eq
        · exact up_eq
      · rw [up_ne (by omega), up_ne (by omega), up_ne (by omega), up_ne (by omega)]
        exact hP q (by omega) w hw
  have e : sr I 176 (I 176) = I := by
    funext j
    by_cases h : j = 176
    · subst h; rw [sr_eq]
    · rw [sr_ne h]
  have := loop _ 0 (I 176) rfl (Nat.zero_le _) (fun q hq => absurd hq (Nat.not_lt_zero q))
  rw [e] at this
  exact this
end RE
