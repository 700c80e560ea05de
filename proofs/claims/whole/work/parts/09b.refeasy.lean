section RE
variable {G : GG} {d : Nat} {sw : Bool} {I : Nat → Nat → Int32} {J : Nat → Nat → Int64} {s : SS}
set_option maxRecDepth 20000 in
theorem M_say {x : Int32} (hd : 1 ≤ d) (hv : VSt s) (hi : RInv I s) : Y G d zX12_say [vr 170, vi x] (NC, I, J, layR sw) 0 0 (qi (PM (sp_say s x).2 (sp_say s x).1 I J sw)) := by
  refine Y_of rfl rfl (Nat.le_of_ble_eq_true rfl) rfl ?_
  unfold sp_say
  refine X_iload_n dX12_say_0 rfl ?_
  refine X_i2l dX12_say_1 rfl ?_
  refine X_ldc2 dX12_say_2 kc_X12_129 ?_
  refine X_ldc2 dX12_say_5 kc_X12_131 ?_
  by_cases h : x < nI 33 ∨ nI 126 < x
  · rw [if_pos h]
    refine X_cSi dX12_say_8 ck_X12_125 rfl rfl (by omega) (Nat.le_of_ble_eq_true rfl) (c_in_f (lo := nI 33) (hi := nI 126) (by decide) (by decide) (fun q => h.elim (fun h => absurd q.1 (Int32.not_le.mpr h)) (fun h => absurd q.2 (Int32.not_le.mpr h))) ?_)
    refine X_if_ne (tgt := 17) dX12_say_11 (by decide) (fun h11 => ?_) (fun h11 => ?_)
    · exact absurd rfl h11
    · refine X_bipush (v := (-2)) dX12_say_14 (by decide) ?_
      exact X_iret dX12_say_16 rfl ⟨_, rfl, PM_same hi⟩
  · rw [if_neg h]
    refine X_cSi dX12_say_8 ck_X12_125 rfl rfl (by omega) (Nat.le_of_ble_eq_true rfl) (c_in_t (lo := nI 33) (hi := nI 126) (by decide) (by decide) (Int32.not_lt.mp (fun q => h (Or.inl q))) (Int32.not_lt.mp (fun q => h (Or.inr q))) ?_)
    have hn := hi.1.1
    have hn2 := hv.1
    refine X_if_ne (tgt := 17) dX12_say_11 (by decide) (fun h11 => ?_) (fun h11 => ?_)
    · refine X_aload_n dX12_say_17 rfl ?_
      refine X_getI dX12_say_18 gf_X12_133 (by first | assumption | rfl) (by first | assumption | exact Nat.le_of_ble_eq_true rfl | omega) rfl ?_
      rw [hn]
      refine X_bipush (v := nI 80) dX12_say_21 (by decide) ?_
      refine X_icmp_ne (tgt := 29) dX12_say_23 (by decide) (fun h23 => ?_) (fun h23 => ?_)
      · have h80 : s.1.1 ≠ 80 := fun q => h23 (by rw [q])
        rw [if_neg (by omega)]
        refine X_aload_n dX12_say_29 rfl ?_
        refine X_getR dX12_say_30 gf_X12_7 (by first | assumption | rfl) (by first | assumption | exact Nat.le_of_ble_eq_true rfl | omega) rfl (by first | assumption | rfl) ?_
        refine X_aload_n dX12_say_33 rfl ?_
        refine X_getI dX12_say_34 gf_X12_133 (by first | assumption | rfl) (by first | assumption | exact Nat.le_of_ble_eq_true rfl | omega) rfl ?_
        rw [hn]
        refine X_iload_n dX12_say_37 rfl ?_
        refine X_iast dX12_say_38 (by first | assumption | rfl) (by first | assumption | exact Nat.le_of_ble_eq_true rfl | omega) rfl (by first | decide | omega) (by decide) ?_
        refine X_aload_n dX12_say_39 rfl ?_
        refine X_dup dX12_say_40 rfl ?_
        refine X_getI dX12_say_41 gf_X12_133 (by first | assumption | rfl) (by first | assumption | exact Nat.le_of_ble_eq_true rfl | omega) rfl ?_
        rw [sr_ne (show 170 ≠ 171 by decide), hn]
        refine X_iconst (v := nI 1) dX12_say_44 (by decide) ?_
        first | refine X_iaddN dX12_say_45 ?_ | refine X_iadd dX12_say_45 ?_
        refine X_putI dX12_say_46 gf_X12_133 (Or.inl rfl) (by first | assumption | rfl) (by first | assumption | exact Nat.le_of_ble_eq_true rfl | omega) rfl ?_
        refine X_aload_n dX12_say_49 rfl ?_
        refine X_getI dX12_say_50 gf_X12_133 (by first | assumption | rfl) (by first | assumption | exact Nat.le_of_ble_eq_true rfl | omega) rfl ?_
        rw [sr_eq, up_eq, sr_ne (show 170 ≠ 171 by decide)]
        refine X_iret dX12_say_53 rfl ⟨_, rfl, PM_mk ⟨⟨?_, fun i hi2 => ?_⟩, ?_, ?_⟩ (fun k hk => by rw [sr_ne (by omega), sr_ne (by omega)])⟩
        · rw [sr_eq, up_eq]
        · rw [sr_ne (by decide), sr_eq]
          dsimp only
          by_cases hj : i = s.1.1
          · subst hj; rw [up_eq, up_eq]
          · rw [up_ne hj, up_ne hj]
            exact hi.1.2 i (by dsimp only at hi2; omega)
        · exact hi.2.1.fr (fun f hf => by rw [sr_eq, up_ne (by simp at hf; omega)]) (fun k hk => by rw [sr_ne (by simp at hk; omega), sr_ne (by simp at hk; omega)])
        · intro n hn
          rw [sr_ne (show 205 ≠ 170 by decide), sr_ne (show 205 ≠ 171 by decide), sr_ne (show 204 ≠ 170 by decide), sr_ne (show 204 ≠ 171 by decide)]
          exact hi.2.2 n hn
      · have h80 : s.1.1 = 80 := (neq (by omega) (by decide)).mp h23
        rw [if_pos (by omega)]
        refine X_bipush (v := (-4)) dX12_say_26 (by decide) ?_
        exact X_iret dX12_say_28 rfl ⟨_, rfl, PM_same hi⟩
    · exact absurd h11 (by decide)
theorem M_wipe (hi : RInv I s) : Y G d zX12_wipe [vr 170] (NC, I, J, layR sw) 0 0 (qi (PM (sp_wipe s).2 (sp_wipe s).1 I J sw)) := by
  refine Y_of rfl rfl (Nat.le_of_ble_eq_true rfl) rfl ?_
  refine X_aload_n dX12_wipe_0 rfl ?_
  refine X_getI dX12_wipe_1 gf_X12_133 (by first | assumption | rfl) (by first | assumption | exact Nat.le_of_ble_eq_true rfl | omega) rfl ?_
  rw [hi.1.1]
  refine X_istore_n dX12_wipe_4 rfl rfl ?_
  refine X_aload_n dX12_wipe_5 rfl ?_
  refine X_iconst (v := nI 0) dX12_wipe_6 (by decide) ?_
  refine X_putI dX12_wipe_7 gf_X12_133 (Or.inl rfl) (by first | assumption | rfl) (by first | assumption | exact Nat.le_of_ble_eq_true rfl | omega) rfl ?_
  refine X_iload_n dX12_wipe_10 rfl ?_
  refine X_iret dX12_wipe_11 rfl ⟨_, rfl, PM_mk ⟨⟨?_, fun i hi2 => absurd hi2 (Nat.not_lt_zero i)⟩, ?_, ?_⟩ (srlt (by decide))⟩
  · rw [sr_eq, up_eq]; rfl
  · exact hi.2.1.fr (fun f hf => by rw [sr_eq, up_ne (by simp at hf; omega)]) (fun k hk => by rw [sr_ne (by simp at hk; omega)])
  · intro n hn
    rw [sr_ne (show 205 ≠ 170 by decide), sr_ne (show 204 ≠ 170 by decide)]
    exact hi.2.2 n hn
set_option maxRecDepth 20000 in
theorem M_want {x : Int32} (hd : 1 ≤ d) (hi : RInv I s) : Y G d zX12_want [vr 170, vi x] (NC, I, J, layR sw) 0 0 (qi (PM (sp_want s x).2 (sp_want s x).1 I J sw)) := by
  refine Y_of rfl rfl (Nat.le_of_ble_eq_true rfl) rfl ?_
  unfold sp_want
  refine X_iload_n dX12_want_0 rfl ?_
  refine X_i2l dX12_want_1 rfl ?_
  refine X_lconst (v := 1) dX12_want_2 (by decide) ?_
  refine X_ldc2 dX12_want_3 kc_X12_184 ?_
  by_cases h : x < nI 1 ∨ nI 15 < x
  · rw [if_pos h]
    refine X_cSi dX12_want_6 ck_X12_125 rfl rfl (by omega) (Nat.le_of_ble_eq_true rfl) (c_in_f (lo := nI 1) (hi := nI 15) (by decide) (by decide) (fun q => h.elim (fun h => absurd q.1 (Int32.not_le.mpr h)) (fun h => absurd q.2 (Int32.not_le.mpr h))) ?_)
    refine X_if_ne (tgt := 15) dX12_want_9 (by decide) (fun h11 => ?_) (fun h11 => ?_)
    · exact absurd rfl h11
    · refine X_bipush (v := (-2)) dX12_want_12 (by decide) ?_
      exact X_iret dX12_want_14 rfl ⟨_, rfl, PM_same hi⟩
  · rw [if_neg h]
    refine X_cSi dX12_want_6 ck_X12_125 rfl rfl (by omega) (Nat.le_of_ble_eq_true rfl) (c_in_t (lo := nI 1) (hi := nI 15) (by decide) (by decide) (Int32.not_lt.mp (fun q => h (Or.inl q))) (Int32.not_lt.mp (fun q => h (Or.inr q))) ?_)
    obtain ⟨a, ha1, ha2, rfl⟩ := in1 (b := 15) (by decide) (fun q => h (Or.inl q)) (Int32.not_lt.mp (fun q => h (Or.inr q)))
    rw [nI_clamp (by omega)]
    refine X_if_ne (tgt := 15) dX12_want_9 (by decide) (fun h9 => ?_) (fun h9 => ?_)
    · refine X_aload_n dX12_want_15 rfl ?_
      refine X_getI dX12_want_16 gf_X12_116 (by first | assumption | rfl) (by first | assumption | exact Nat.le_of_ble_eq_true rfl | omega) rfl ?_
      rw [hi.2.1.2.2.2.2.1]
      refine X_istore_n dX12_want_19 rfl rfl ?_
      refine X_aload_n dX12_want_20 rfl ?_
      refine X_iload_n dX12_want_21 rfl ?_
      refine X_putI dX12_want_22 gf_X12_116 (Or.inl rfl) (by first | assumption | rfl) (by first | assumption | exact Nat.le_of_ble_eq_true rfl | omega) rfl ?_
      refine X_iload_n dX12_want_25 rfl ?_
      refine X_iret dX12_want_26 rfl ⟨_, rfl, PM_mk ⟨⟨?_, fun i hi2 => ?_⟩, ?_, ?_⟩ (srlt (by decide))⟩
      · rw [sr_eq, up_ne (by decide)]; exact hi.1.1
      · rw [sr_ne (by decide)]; exact hi.1.2 i hi2
      · obtain ⟨a1, a2, a3, a4, a5, a6, a7, a8, a9⟩ := hi.2.1
        refine ⟨by rw [sr_eq, up_ne (by decide)]; exact a1, fun i hi => ?_, by rw [sr_eq, up_ne (by decide)]; exact a3, fun i hi w hw => by rw [sr_ne (by decide)]; exact a4 i hi w hw, by rw [sr_eq, up_eq]; rfl, by rw [sr_eq, up_ne (by decide)]; exact a6, fun j hj => by rw [sr_ne (by decide)]; exact a7 j hj, by rw [sr_eq, up_ne (by decide)]; exact a8, fun j hj => ?_⟩
        · rw [sr_ne (show 172 ≠ 170 by decide), sr_ne (show 173 ≠ 170 by decide), sr_ne (show 174 ≠ 170 by decide), sr_ne (show 175 ≠ 170 by decide)]
          exact a2 i hi
        · rw [sr_ne (show 197 ≠ 170 by decide), sr_ne (show 198 ≠ 170 by decide), sr_ne (show 199 ≠ 170 by decide)]
          exact a9 j hj
      · intro n hn
        rw [sr_ne (show 205 ≠ 170 by decide), sr_ne (show 204 ≠ 170 by decide)]
        exact hi.2.2 n hn
    · exact absurd h9 (by decide)
theorem M_free (hi : RInv I s) : Y G d zX12_free [vr 170] (NC, I, J, layR sw) 0 0 (qi (PM (sp_free s).2 (sp_free s).1 I J sw)) := by
  refine Y_of rfl rfl (Nat.le_of_ble_eq_true rfl) rfl ?_
  refine X_aload_n dX12_free_0 rfl ?_
  refine X_getI dX12_free_1 gf_X12_348 (by first | assumption | rfl) (by first | assumption | exact Nat.le_of_ble_eq_true rfl | omega) rfl ?_
  rw [hi.2.1.2.2.2.2.2.2.2.1]
  refine X_istore_n dX12_free_4 rfl rfl ?_
  refine X_aload_n dX12_free_5 rfl ?_
  refine X_iconst (v := nI 0) dX12_free_6 (by decide) ?_
  refine X_putI dX12_free_7 gf_X12_348 (Or.inl rfl) (by first | assumption | rfl) (by first | assumption | exact Nat.le_of_ble_eq_true rfl | omega) rfl ?_
  refine X_iload_n dX12_free_10 rfl ?_
  refine X_iret dX12_free_11 rfl ⟨_, rfl, PM_mk ⟨⟨?_, fun i hi2 => ?_⟩, ?_, ?_⟩ (srlt (by decide))⟩
  · rw [sr_eq, up_ne (by decide)]; exact hi.1.1
  · rw [sr_ne (by decide)]; exact hi.1.2 i hi2
  · obtain ⟨a1, a2, a3, a4, a5, a6, a7, a8, a9⟩ := hi.2.1
    refine ⟨by rw [sr_eq, up_ne (by decide)]; exact a1, fun i hi => ?_, by rw [sr_eq, up_ne (by decide)]; exact a3, fun i hi w hw => by rw [sr_ne (by decide)]; exact a4 i hi w hw, by rw [sr_eq, up_ne (by decide)]; exact a5, by rw [sr_eq, up_ne (by decide)]; exact a6, fun j hj => by rw [sr_ne (by decide)]; exact a7 j hj, by rw [sr_eq, up_eq]; rfl, fun j hj => absurd hj (Nat.not_lt_zero j)⟩
    rw [sr_ne (show 172 ≠ 170 by decide), sr_ne (show 173 ≠ 170 by decide), sr_ne (show 174 ≠ 170 by decide), sr_ne (show 175 ≠ 170 by decide)]
    exact a2 i hi
  · intro n hn
    rw [sr_ne (show 205 ≠ 170 by decide), sr_ne (show 204 ≠ 170 by decide)]
    exact hi.2.2 n hn
set_option maxRecDepth 20000 in
theorem M_told {x : Int32} (hd : 1 ≤ d) (hi : RInv I s) : Y G d zX12_told [vr 170, vi x] (NC, I, J, layR sw) 0 0 (qi (PM s (sp_told s x) I J sw)) := by
  obtain ⟨a1, a2, a3, a4, a5, a6, a7, a8, a9⟩ := hi.2.1
  refine Y_of rfl rfl (Nat.le_of_ble_eq_true rfl) rfl ?_
  unfold sp_told
  refine X_iload_n dX12_told_0 rfl ?_
  rcases icase x 10 (by decide) with h | ⟨a, ha, rfl⟩ | h
  · rw [if_pos (Or.inl h)]
    refine X_tableOut (tgt := 86) dX12_told_1 (Or.inl (Int32.lt_iff_toInt_lt.mp h)) (by decide) ?_
    refine X_iload_n dX12_told_86 rfl ?_
    refine X_i2l dX12_told_87 rfl ?_
    refine X_ldc2 dX12_told_88 kc_X12_298 ?_
    refine X_ldc2 dX12_told_91 kc_X12_343 ?_
    refine X_cSi dX12_told_94 ck_X12_125 rfl rfl (by omega) (Nat.le_of_ble_eq_true rfl) (c_in_f (lo := nI 5) (hi := nI 8) (by decide) (by decide) (fun q => absurd (Int32.lt_of_le_of_lt q.1 h) (by decide)) ?_)
    refine X_if_eq (tgt := 111) dX12_told_97 (by decide) (fun h97 => ?_) (fun h97 => ?_)
    · refine X_bipush (v := (-2)) dX12_told_111 (by decide) ?_
      exact X_iret dX12_told_113 rfl ⟨_, rfl, PM_same hi⟩
    · exact absurd rfl h97
  · rw [if_neg (fun q => q.elim (nneg (by omega)) (fun q => absurd ((nle (by omega) (by omega)).mp q) (by omega))), nI_clamp (by omega)]
    have tail : ∀ k, 5 ≤ k → k < 9 → X G d zX12_told 86 [(0, vr 170), (1, vi (nI k))] [] (NC, I, J, layR sw) 0 0 (qi (PM s (nI (dS s.2.1 (k - 4))) I J sw)) := by
      intro k h4 h9
      refine X_iload_n dX12_told_86 rfl ?_
      refine X_i2l dX12_told_87 rfl ?_
      refine X_ldc2 dX12_told_88 kc_X12_298 ?_
      refine X_ldc2 dX12_told_91 kc_X12_343 ?_
      refine X_cSi dX12_told_94 ck_X12_125 rfl rfl (by omega) (Nat.le_of_ble_eq_true rfl) (c_in_t (lo := nI 5) (hi := nI 8) (by decide) (by decide) ((nle (by omega) (by omega)).mpr h4) ((nle (by omega) (by omega)).mpr (by omega)) ?_)
      refine X_if_eq (tgt := 111) dX12_told_97 (by decide) (fun h97 => ?_) (fun h97 => ?_)
      · exact absurd h97 (by decide)
      refine X_aload_n dX12_told_100 rfl ?_
      refine X_getR dX12_told_101 gf_X12_28 (by first | assumption | rfl) (by first | assumption | exact Nat.le_of_ble_eq_true rfl | omega) rfl (by first | assumption | rfl) ?_
      refine X_iload_n dX12_told_104 rfl ?_
      refine X_iconst (v := nI 5) dX12_told_105 (by decide) ?_
      first | refine X_isubN dX12_told_106 (by omega) ?_ | refine X_isub dX12_told_106 ?_
      first | refine X_iald dX12_told_107 (by first | assumption | rfl) (by first | assumption | exact Nat.le_of_ble_eq_true rfl | omega) rfl (by first | decide | omega) (by decide) ?_ | refine X_ildA dX12_told_107 rfl (by omega) ?_ | refine X_ildM dX12_told_107 rfl (by omega) ?_ | refine X_sld dX12_told_107 rfl (by omega) (by omega) ?_
      rw [a7 (k - 5) (by omega), show k - 5 + 1 = k - 4 by omega]
      refine X_goto (tgt := 113) dX12_told_108 (by decide) ?_
      exact X_iret dX12_told_113 rfl ⟨_, rfl, PM_same hi⟩
    rcases (by omega : a = 0 ∨ a = 1 ∨ a = 2 ∨ a = 3 ∨ a = 4 ∨ a = 5 ∨ a = 6 ∨ a = 7 ∨ a = 8 ∨ a = 9) with rfl | rfl | rfl | rfl | rfl | rfl | rfl | rfl | rfl | rfl
    · refine X_tableIn (off := 55) (tgt := 56) dX12_told_1 (by decide) (by decide) (by decide) (by decide) ?_
      refine X_aload_n dX12_told_56 rfl ?_
      refine X_getI dX12_told_57 gf_X12_181 (by first | assumption | rfl) (by first | assumption | exact Nat.le_of_ble_eq_true rfl | omega) rfl ?_
      rw [a1]
      exact X_iret dX12_told_60 rfl ⟨_, rfl, PM_same hi⟩
    · refine X_tableIn (off := 60) (tgt := 61) dX12_told_1 (by decide) (by decide) (by decide) (by decide) ?_
      refine X_aload_n dX12_told_61 rfl ?_
      refine X_getI dX12_told_62 gf_X12_133 (by first | assumption | rfl) (by first | assumption | exact Nat.le_of_ble_eq_true rfl | omega) rfl ?_
      rw [hi.1.1]
      exact X_iret dX12_told_65 rfl ⟨_, rfl, PM_same hi⟩
    · refine X_tableIn (off := 65) (tgt := 66) dX12_told_1 (by decide) (by decide) (by decide) (by decide) ?_
      refine X_aload_n dX12_told_66 rfl ?_
      refine X_getI dX12_told_67 gf_X12_116 (by first | assumption | rfl) (by first | assumption | exact Nat.le_of_ble_eq_true rfl | omega) rfl ?_
      rw [a5]
      exact X_iret dX12_told_70 rfl ⟨_, rfl, PM_same hi⟩
    · refine X_tableIn (off := 70) (tgt := 71) dX12_told_1 (by decide) (by decide) (by decide) (by decide) ?_
      refine X_aload_n dX12_told_71 rfl ?_
      refine X_getI dX12_told_72 gf_X12_348 (by first | assumption | rfl) (by first | assumption | exact Nat.le_of_ble_eq_true rfl | omega) rfl ?_
      rw [a8]
      exact X_iret dX12_told_75 rfl ⟨_, rfl, PM_same hi⟩
    · refine X_tableIn (off := 75) (tgt := 76) dX12_told_1 (by decide) (by decide) (by decide) (by decide) ?_
      refine X_aload_n dX12_told_76 rfl ?_
      refine X_getI dX12_told_77 gf_X12_120 (by first | assumption | rfl) (by first | assumption | exact Nat.le_of_ble_eq_true rfl | omega) rfl ?_
      rw [a6]
      exact X_iret dX12_told_80 rfl ⟨_, rfl, PM_same hi⟩
    · refine X_tableIn (off := 85) (tgt := 86) dX12_told_1 (by decide) (by decide) (by decide) (by decide) ?_
      exact tail 5 (by decide) (by decide)
    · refine X_tableIn (off := 85) (tgt := 86) dX12_told_1 (by decide) (by decide) (by decide) (by decide) ?_
      exact tail 6 (by decide) (by decide)
    · refine X_tableIn (off := 85) (tgt := 86) dX12_told_1 (by decide) (by decide) (by decide) (by decide) ?_
      exact tail 7 (by decide) (by decide)
    · refine X_tableIn (off := 85) (tgt := 86) dX12_told_1 (by decide) (by decide) (by decide) (by decide) ?_
      exact tail 8 (by decide) (by decide)
    · refine X_tableIn (off := 80) (tgt := 81) dX12_told_1 (by decide) (by decide) (by decide) (by decide) ?_
      refine X_aload_n dX12_told_81 rfl ?_
      refine X_getI dX12_told_82 gf_X12_211 (by first | assumption | rfl) (by first | assumption | exact Nat.le_of_ble_eq_true rfl | omega) rfl ?_
      rw [a3]
      exact X_iret dX12_told_85 rfl ⟨_, rfl, PM_same hi⟩
  · rw [if_pos (Or.inr h.2)]
    refine X_tableOut (tgt := 86) dX12_told_1 (Or.inr (Int.lt_of_lt_of_le (by decide) (Int32.le_iff_toInt_le.mp h.2))) (by decide) ?_
    refine X_iload_n dX12_told_86 rfl ?_
    refine X_i2l dX12_told_87 rfl ?_
    refine X_ldc2 dX12_told_88 kc_X12_298 ?_
    refine X_ldc2 dX12_told_91 kc_X12_343 ?_
    refine X_cSi dX12_told_94 ck_X12_125 rfl rfl (by omega) (Nat.le_of_ble_eq_true rfl) (c_in_f (lo := nI 5) (hi := nI 8) (by decide) (by decide) (fun q => absurd (Int32.lt_of_le_of_lt q.2 (show nI 8 < nI 10 by decide)) (Int32.not_lt.mpr h.2)) ?_)
    refine X_if_eq (tgt := 111) dX12_told_97 (by decide) (fun h97 => ?_) (fun h97 => ?_)
    · refine X_bipush (v := (-2)) dX12_told_111 (by decide) ?_
      exact X_iret dX12_told_113 rfl ⟨_, rfl, PM_same hi⟩
    · exact absurd rfl h97
end RE
