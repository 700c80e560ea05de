section RM
variable {G : GG} {d : Nat} {sw : Bool} {I : Nat → Nat → Int32} {J : Nat → Nat → Int64} {s : SS} {n W : Nat} {c : Nat → Nat → Nat}
set_option maxRecDepth 20000 in
set_option maxHeartbeats 1000000 in
theorem m_mendNeedless {Q : Int32 → Mm → Prop} (hd : 4 ≤ d) (hc : RC I n c) (hv : VC n c) (hQ : ∀ I', FrM [173, 174, 175, 180, 181, 182, 183, 184, 185, 186] [23, 24] I I' → RC I' n (md3 c) → Q (nI (cnt (mp3 c) n)) (NC, I', J, layR sw)) : Y G d zX12_mendNeedless [vr 170] (NC, I, J, layR sw) 0 0 (qi Q) := by
  have hn := hv.1
  have mp : ∀ i, mp3 c i = true ↔ (c i 1 ≠ 99 ∧ hld c i < 4) := fun i => by unfold mp3; exact decide_eq_true_iff
  have loop2 : ∀ (m i : Nat) (I' : Nat → Nat → Int32), m = n - i → i ≤ n → FrM [173, 174, 175, 180, 181, 182, 183, 184, 185, 186] [23, 24] I I' → RC I' n (mix (md3 c) c i) → (∀ j, j < n → I' 186 j = if mp3 c j = true then nI (hld c j) else -6) → X G d zX12_mendNeedless 47 [(0, vr 170), (1, vi (nI (cnt (mp3 c) i))), (2, vi (nI i))] [] (NC, I', J, layR sw) 0 0 (qi Q) := by
    intro m
    induction m with
    | zero =>
      intro i I' hm him hF hc' hnew
      obtain rfl : i = n := by omega
      refine X_iload_n dX12_mendNeedless_47 rfl ?_
      refine X_aload_n dX12_mendNeedless_48 rfl ?_
      refine X_getI dX12_mendNeedless_49 gf_X12_181 (by first | assumption | rfl) (by first | assumption | exact Nat.le_of_ble_eq_true rfl | omega) rfl ?_
      rw [hc'.1]
      refine X_icmp_ge (tgt := 101) dX12_mendNeedless_52 (by decide) (fun b => ?_) (fun b => ?_)
      · refine X_iload_n dX12_mendNeedless_101 rfl ?_
        exact X_iret dX12_mendNeedless_102 rfl ⟨_, rfl, hQ I' hF (hc'.cg (fun j hj w _ => by rw [mix_lo hj]))⟩
      · exact absurd (Int32.le_refl _) b
    | succ m ih =>
      intro i I' hm him hF hc' hnew
      have hin : i < n := by omega
      have mi : mix (md3 c) c i i = c i := mix_hi (Nat.le_refl i)
      obtain ⟨c0, c1, c2, c3⟩ := hc'.2 i hin
      rw [mi] at c0 c1 c2 c3
      have n2 := hnew i hin
      refine X_iload_n dX12_mendNeedless_47 rfl ?_
      refine X_aload_n dX12_mendNeedless_48 rfl ?_
      refine X_getI dX12_mendNeedless_49 gf_X12_181 (by first | assumption | rfl) (by first | assumption | exact Nat.le_of_ble_eq_true rfl | omega) rfl ?_
      rw [hc'.1]
      refine X_icmp_ge (tgt := 101) dX12_mendNeedless_52 (by decide) (fun b => ?_) (fun b => ?_)
      · exact absurd ((nle (by omega) (by omega)).mp b) (by omega)
      refine X_aload_n dX12_mendNeedless_55 rfl ?_
      refine X_getR dX12_mendNeedless_56 gf_X12_55 (by first | assumption | rfl) (by first | assumption | exact Nat.le_of_ble_eq_true rfl | omega) rfl (by first | assumption | rfl) ?_
      refine X_iload_n dX12_mendNeedless_59 rfl ?_
      first | refine X_iald dX12_mendNeedless_60 (by first | assumption | rfl) (by first | assumption | exact Nat.le_of_ble_eq_true rfl | omega) rfl (by first | decide | omega) (by decide) ?_ | refine X_ildA dX12_mendNeedless_60 rfl (by omega) ?_ | refine X_ildM dX12_mendNeedless_60 rfl (by omega) ?_ | refine X_sld dX12_mendNeedless_60 rfl (by omega) (by omega) ?_
      rw [n2]
      by_cases hp : mp3 c i = true
      · have h4 := ((mp i).mp hp).2
        rw [if_pos hp] at n2 ⊢
        refine X_if_lt (tgt := 95) dX12_mendNeedless_61 (by decide) (fun b61 => ?_) (fun b61 => ?_)
        · exact absurd b61 (nneg (by omega))
        refine X_aload_n dX12_mendNeedless_64 rfl ?_
        refine X_getR dX12_mendNeedless_65 gf_X12_16 (by first | assumption | rfl) (by first | assumption | exact Nat.le_of_ble_eq_true rfl | omega) rfl (by first | assumption | rfl) ?_
        refine X_iload_n dX12_mendNeedless_68 rfl ?_
        refine X_bipush (v := (-6)) dX12_mendNeedless_69 (by decide) ?_
        refine X_iast dX12_mendNeedless_71 (by first | assumption | rfl) (by first | assumption | exact Nat.le_of_ble_eq_true rfl | omega) rfl (by first | decide | omega) (by decide) ?_
        refine X_aload_n dX12_mendNeedless_72 rfl ?_
        refine X_getR dX12_mendNeedless_73 gf_X12_19 (by first | assumption | rfl) (by first | assumption | exact Nat.le_of_ble_eq_true rfl | omega) rfl (by first | assumption | rfl) ?_
        refine X_iload_n dX12_mendNeedless_76 rfl ?_
        refine X_aload_n dX12_mendNeedless_77 rfl ?_
        refine X_getR dX12_mendNeedless_78 gf_X12_55 (by first | assumption | rfl) (by first | assumption | exact Nat.le_of_ble_eq_true rfl | omega) rfl (by first | assumption | rfl) ?_
        refine X_iload_n dX12_mendNeedless_81 rfl ?_
        first | refine X_iald dX12_mendNeedless_82 (by first | assumption | rfl) (by first | assumption | exact Nat.le_of_ble_eq_true rfl | omega) rfl (by first | decide | omega) (by decide) ?_ | refine X_ildA dX12_mendNeedless_82 rfl (by omega) ?_ | refine X_ildM dX12_mendNeedless_82 rfl (by omega) ?_ | refine X_sld dX12_mendNeedless_82 rfl (by omega) (by omega) ?_
        rw [sr_ne (show 186 ≠ 173 by decide), n2]
        refine X_iast dX12_mendNeedless_83 (by first | assumption | rfl) (by first | assumption | exact Nat.le_of_ble_eq_true rfl | omega) rfl (by first | decide | omega) (by decide) ?_
        refine X_aload_n dX12_mendNeedless_84 rfl ?_
        refine X_getR dX12_mendNeedless_85 gf_X12_22 (by first | assumption | rfl) (by first | assumption | exact Nat.le_of_ble_eq_true rfl | omega) rfl (by first | assumption | rfl) ?_
        refine X_iload_n dX12_mendNeedless_88 rfl ?_
        refine X_bipush (v := (-6)) dX12_mendNeedless_89 (by decide) ?_
        refine X_iast dX12_mendNeedless_91 (by first | assumption | rfl) (by first | assumption | exact Nat.le_of_ble_eq_true rfl | omega) rfl (by first | decide | omega) (by decide) ?_
        first | refine X_iinc1 dX12_mendNeedless_92 rfl rfl rfl ?_ | refine X_iinc dX12_mendNeedless_92 rfl rfl rfl rfl ?_
        first | refine X_iinc1 dX12_mendNeedless_95 rfl rfl rfl ?_ | refine X_iinc dX12_mendNeedless_95 rfl rfl rfl rfl ?_
        refine X_goto (tgt := 47) dX12_mendNeedless_98 (by decide) ?_
        have ih := ih (i + 1) _ (by omega) (by omega) (hF.tr (((FrM.c (k := 173) (f := up (I' 173) i (-6)) (by simp) (by decide)).tr (FrM.c (k := 174) (f := up (I' 174) i (nI (hld c i))) (by simp) (by decide))).tr (FrM.c (k := 175) (f := up (I' 175) i (-6)) (by simp) (by decide)))) ⟨?_, fun j hj => ?_⟩ (fun j hj => ?_)
        · rw [cnt_t hp] at ih
          rw [sr_ne (show 174 ≠ 173 by decide), sr_ne (show 175 ≠ 174 by decide), sr_ne (show 175 ≠ 173 by decide)]
          exact ih
        · rw [sr_ne (by decide), sr_ne (by decide), sr_ne (by decide)]; exact hc'.1
        · rw [sr_ne (show 172 ≠ 175 by decide), sr_ne (show 172 ≠ 174 by decide), sr_ne (show 172 ≠ 173 by decide), sr_ne (show 173 ≠ 175 by decide), sr_ne (show 173 ≠ 174 by decide), sr_eq, sr_ne (show 174 ≠ 175 by decide), sr_eq, sr_eq, mix_s]
          by_cases hji : j = i
          · subst hji
            rw [if_pos rfl, up_eq, up_eq, up_eq, c0]
            unfold md3
            rw [if_pos hp, if_pos hp, if_pos hp, if_pos hp]
            exact ⟨rfl, rfl, (enc_n (by omega)).symm, rfl⟩
          · rw [if_neg hji, up_ne hji, up_ne hji, up_ne hji]
            exact hc'.2 j hj
        · rw [sr_ne (by decide), sr_ne (by decide), sr_ne (by decide)]
          exact hnew j hj
      · rw [if_neg hp]
        refine X_if_lt (tgt := 95) dX12_mendNeedless_61 (by decide) (fun b61 => ?_) (fun b61 => ?_)
        · first | refine X_iinc1 dX12_mendNeedless_95 rfl rfl rfl ?_ | refine X_iinc dX12_mendNeedless_95 rfl rfl rfl rfl ?_
          refine X_goto (tgt := 47) dX12_mendNeedless_98 (by decide) ?_
          have ih := ih (i + 1) I' (by omega) (by omega) hF (hc'.cg (fun j hj w hw => by
            rw [mix_s]
            by_cases hji : j = i
            · rw [if_pos hji, hji, mi]; exact if_neg hp
            · rw [if_neg hji])) hnew
          rw [cnt_f hp] at ih
          exact ih
        · exact absurd (by decide) b61
  have loop1 : ∀ (m i : Nat) (I' : Nat → Nat → Int32), m = n - i → i ≤ n → FrM [180, 181, 182, 183, 184, 185, 186] [23, 24] I I' → (∀ j, j < i → I' 186 j = if mp3 c j = true then nI (hld c j) else -6) → X G d zX12_mendNeedless 4 [(0, vr 170), (1, vi (nI 0)), (2, vi (nI i))] [] (NC, I', J, layR sw) 0 0 (qi Q) := by
    intro m
    induction m with
    | zero =>
      intro i I' hm him hF hnew
      have hc' := RC_fm hc hF (by decide) (by decide)
      obtain rfl : i = n := by omega
      refine X_iload_n dX12_mendNeedless_4 rfl ?_
      refine X_aload_n dX12_mendNeedless_5 rfl ?_
      refine X_getI dX12_mendNeedless_6 gf_X12_181 (by first | assumption | rfl) (by first | assumption | exact Nat.le_of_ble_eq_true rfl | omega) rfl ?_
      rw [hc'.1]
      refine X_icmp_ge (tgt := 45) dX12_mendNeedless_9 (by decide) (fun b => ?_) (fun b => ?_)
      · refine X_iconst (v := nI 0) dX12_mendNeedless_45 (by decide) ?_
        refine X_istore_n dX12_mendNeedless_46 rfl rfl ?_
        exact loop2 i 0 I' rfl (Nat.zero_le i) (hF.sub (by simp) (by simp)) (hc'.cg (fun j hj w _ => by rw [mix_hi (Nat.zero_le j)])) hnew
      · exact absurd (Int32.le_refl _) b
    | succ m ih =>
      intro i I' hm him hF hnew
      have hc' := RC_fm hc hF (by decide) (by decide)
      have hin : i < n := by omega
      have tail : ∀ (I2 : Nat → Nat → Int32) (x : Int32), FrM [180, 181, 182, 183, 184, 185] [23, 24] I' I2 → x = (if mp3 c i = true then nI (hld c i) else -6) → X G d zX12_mendNeedless 38 [(0, vr 170), (1, vi (nI 0)), (2, vi (nI i))] [vi x, vi (nI i), vr 186] (NC, I2, J, layR sw) 0 0 (qi Q) := by
        intro I2 x f2 hx
        refine X_iast dX12_mendNeedless_38 (by first | assumption | rfl) (by first | assumption | exact Nat.le_of_ble_eq_true rfl | omega) rfl (by first | decide | omega) (by decide) ?_
        first | refine X_iinc1 dX12_mendNeedless_39 rfl rfl rfl ?_ | refine X_iinc dX12_mendNeedless_39 rfl rfl rfl rfl ?_
        refine X_goto (tgt := 4) dX12_mendNeedless_42 (by decide) ?_
        refine ih (i + 1) _ (by omega) (by omega) ((hF.tr (f2.sub (by simp) (by simp))).tr (FrM.c (by simp) (by decide))) (fun j hj => ?_)
        rw [sr_eq, f2.1 186 (by decide) (by decide)]
        by_cases hji : j = i
        · subst hji
          rw [up_eq, hx]
        · rw [up_ne hji]
          exact hnew j (by omega)
      refine X_iload_n dX12_mendNeedless_4 rfl ?_
      refine X_aload_n dX12_mendNeedless_5 rfl ?_
      refine X_getI dX12_mendNeedless_6 gf_X12_181 (by first | assumption | rfl) (by first | assumption | exact Nat.le_of_ble_eq_true rfl | omega) rfl ?_
      rw [hc'.1]
      refine X_icmp_ge (tgt := 45) dX12_mendNeedless_9 (by decide) (fun b => ?_) (fun b => ?_)
      · exact absurd ((nle (by omega) (by omega)).mp b) (by omega)
      refine X_aload_n dX12_mendNeedless_12 rfl ?_
      refine X_getR dX12_mendNeedless_13 gf_X12_55 (by first | assumption | rfl) (by first | assumption | exact Nat.le_of_ble_eq_true rfl | omega) rfl (by first | assumption | rfl) ?_
      refine X_iload_n dX12_mendNeedless_16 rfl ?_
      refine X_aload_n dX12_mendNeedless_17 rfl ?_
      refine X_getR dX12_mendNeedless_18 gf_X12_16 (by first | assumption | rfl) (by first | assumption | exact Nat.le_of_ble_eq_true rfl | omega) rfl (by first | assumption | rfl) ?_
      refine X_iload_n dX12_mendNeedless_21 rfl ?_
      first | refine X_iald dX12_mendNeedless_22 (by first | assumption | rfl) (by first | assumption | exact Nat.le_of_ble_eq_true rfl | omega) rfl (by first | decide | omega) (by decide) ?_ | refine X_ildA dX12_mendNeedless_22 rfl (by omega) ?_ | refine X_ildM dX12_mendNeedless_22 rfl (by omega) ?_ | refine X_sld dX12_mendNeedless_22 rfl (by omega) (by omega) ?_
      rw [(hc'.2 i hin).2.1]
      refine X_bipush (v := (-6)) dX12_mendNeedless_23 (by decide) ?_
      rcases (hv.2 i hin).2.2 with ⟨e1, e3⟩ | ⟨e1, e3⟩
      · rw [e1]
        refine X_icmp_ne (tgt := 33) dX12_mendNeedless_25 (by decide) (fun b25 => ?_) (fun b25 => ?_)
        · exact absurd rfl b25
        refine X_bipush (v := (-6)) dX12_mendNeedless_28 (by decide) ?_
        refine X_goto (tgt := 38) dX12_mendNeedless_30 (by decide) ?_
        exact tail I' _ FrM.rf (by rw [if_neg (fun q => ((mp i).mp q).1 e1)])
      · obtain ⟨n1, n2⟩ := enc_act e1
        refine X_icmp_ne (tgt := 33) dX12_mendNeedless_25 (by decide) (fun b25 => ?_) (fun b25 => ?_)
        · refine X_aload_n dX12_mendNeedless_33 rfl ?_
          refine X_iload_n dX12_mendNeedless_34 rfl ?_
          refine X_cVi dX12_mendNeedless_35 ck_X12_258 rfl rfl (by first | assumption | rfl) (by first | assumption | exact Nat.le_of_ble_eq_true rfl | omega) (by omega) (Nat.le_of_ble_eq_true rfl) (m_holderOf (by omega) hc' hv hin (fun I2 f2 => ?_))
          refine tail I2 _ f2 ?_
          by_cases h4 : hld c i < 4
          · rw [if_pos h4, if_pos ((mp i).mpr ⟨n1, h4⟩)]
          · rw [if_neg h4, if_neg (fun q => h4 ((mp i).mp q).2)]
        · exact absurd b25 n2
  refine Y_of rfl rfl (Nat.le_of_ble_eq_true rfl) rfl ?_
  refine X_iconst (v := nI 0) dX12_mendNeedless_0 (by decide) ?_
  refine X_istore_n dX12_mendNeedless_1 rfl rfl ?_
  refine X_iconst (v := nI 0) dX12_mendNeedless_2 (by decide) ?_
  refine X_istore_n dX12_mendNeedless_3 rfl rfl ?_
  exact loop1 n 0 I rfl (Nat.zero_le n) FrM.rf (fun j hj => absurd hj (Nat.not_lt_zero j))
set_option maxRecDepth 20000 in
set_option maxHeartbeats 1000000 in
theorem m_mendDead {Q : Int32 → Mm → Prop} (hd : 5 ≤ d) (hc : RC I n c) (hv : VC n c) (hw : I 170 12 = nI W) (hW : W < 16) (hQ : ∀ I', FrM [172, 173, 174, 175, 188] [9] I I' → RC I' (dro (mp4 W n c) c n).1 (dro (mp4 W n c) c n).2 → Q (nI (n - (dro (mp4 W n c) c n).1)) (NC, I', J, layR sw)) : Y G d zX12_mendDead [vr 170] (NC, I, J, layR sw) 0 0 (qi Q) := by
  have hn := hv.1
  have loop2 : ∀ (m i : Nat) (I' : Nat → Nat → Int32), m = n - i → i ≤ n → FrM [172, 173, 174, 175, 188] [9] I I' → RC I' n (dro (mp4 W n c) c i).2 → (∀ j, j < n → I' 188 j = nI (if mp4 W n c j = true then 1 else 0)) → X G d zX12_mendDead 65 [(0, vr 170), (1, vi (nI (dro (mp4 W n c) c i).1)), (2, vi (nI i))] [] (NC, I', J, layR sw) 0 0 (qi Q) := by
    intro m
    induction m with
    | zero =>
      intro i I' hm him hF hc' hg
      obtain rfl : i = n := by omega
      have hle := dro_le (mp4 W i c) c i
      refine X_iload_n dX12_mendDead_65 rfl ?_
      refine X_aload_n dX12_mendDead_66 rfl ?_
      refine X_getI dX12_mendDead_67 gf_X12_181 (by first | assumption | rfl) (by first | assumption | exact Nat.le_of_ble_eq_true rfl | omega) rfl ?_
      rw [hc'.1]
      refine X_icmp_ge (tgt := 139) dX12_mendDead_70 (by decide) (fun b => ?_) (fun b => ?_)
      · refine X_aload_n dX12_mendDead_139 rfl ?_
        refine X_getI dX12_mendDead_140 gf_X12_181 (by first | assumption | rfl) (by first | assumption | exact Nat.le_of_ble_eq_true rfl | omega) rfl ?_
        rw [hc'.1]
        refine X_iload_n dX12_mendDead_143 rfl ?_
        first | refine X_isubN dX12_mendDead_144 (by omega) ?_ | refine X_isub dX12_mendDead_144 ?_
        refine X_istore_n dX12_mendDead_145 rfl rfl ?_
        refine X_aload_n dX12_mendDead_146 rfl ?_
        refine X_iload_n dX12_mendDead_147 rfl ?_
        refine X_putI dX12_mendDead_148 gf_X12_181 (Or.inl rfl) (by first | assumption | rfl) (by first | assumption | exact Nat.le_of_ble_eq_true rfl | omega) rfl ?_
        refine X_iload_n dX12_mendDead_151 rfl ?_
        refine X_iret dX12_mendDead_152 rfl ⟨_, rfl, hQ _ (hF.tr (FrM.f (by simp))) ⟨?_, fun j hj => ?_⟩⟩
        · rw [sr_eq, up_eq]
        · rw [sr_ne (by decide), sr_ne (by decide), sr_ne (by decide), sr_ne (by decide)]; exact hc'.2 j (by omega)
      · exact absurd (Int32.le_refl _) b
    | succ m ih =>
      intro i I' hm him hF hc' hg
      have hin : i < n := by omega
      have hle := dro_le (mp4 W n c) c i
      have hdi : (dro (mp4 W n c) c i).2 i = c i := dro_hi _ c i i hle
      obtain ⟨c0, c1, c2, c3⟩ := hc'.2 i hin
      rw [hdi] at c0 c1 c2 c3
      refine X_iload_n dX12_mendDead_65 rfl ?_
      refine X_aload_n dX12_mendDead_66 rfl ?_
      refine X_getI dX12_mendDead_67 gf_X12_181 (by first | assumption | rfl) (by first | assumption | exact Nat.le_of_ble_eq_true rfl | omega) rfl ?_
      rw [hc'.1]
      refine X_icmp_ge (tgt := 139) dX12_mendDead_70 (by decide) (fun b => ?_) (fun b => ?_)
      · exact absurd ((nle (by omega) (by omega)).mp b) (by omega)
      refine X_aload_n dX12_mendDead_73 rfl ?_
      refine X_getR dX12_mendDead_74 gf_X12_61 (by first | assumption | rfl) (by first | assumption | exact Nat.le_of_ble_eq_true rfl | omega) rfl (by first | assumption | rfl) ?_
      refine X_iload_n dX12_mendDead_77 rfl ?_
      refine X_zald dX12_mendDead_78 (by first | assumption | rfl) (by first | assumption | exact Nat.le_of_ble_eq_true rfl | omega) rfl (by first | decide | omega) (by decide) ?_
      rw [hg i hin]
      by_cases hp : mp4 W n c i = true
      · rw [if_pos hp]
        have ih := ih (i + 1) I' (by omega) (by omega) hF (by rw [dro_t hp]; exact hc') hg
        rw [dro_t hp] at ih
        refine X_if_ne (tgt := 133) dX12_mendDead_79 (by decide) (fun b79 => ?_) (fun b79 => ?_)
        · first | refine X_iinc1 dX12_mendDead_133 rfl rfl rfl ?_ | refine X_iinc dX12_mendDead_133 rfl rfl rfl rfl ?_
          refine X_goto (tgt := 65) dX12_mendDead_136 (by decide) ?_
          exact ih
        · exact absurd b79 (by decide)
      · rw [if_neg hp]
        refine X_if_ne (tgt := 133) dX12_mendDead_79 (by decide) (fun b79 => ?_) (fun b79 => ?_)
        · exact absurd rfl b79
        refine X_aload_n dX12_mendDead_82 rfl ?_
        refine X_getR dX12_mendDead_83 gf_X12_13 (by first | assumption | rfl) (by first | assumption | exact Nat.le_of_ble_eq_true rfl | omega) rfl (by first | assumption | rfl) ?_
        refine X_iload_n dX12_mendDead_86 rfl ?_
        refine X_aload_n dX12_mendDead_87 rfl ?_
        refine X_getR dX12_mendDead_88 gf_X12_13 (by first | assumption | rfl) (by first | assumption | exact Nat.le_of_ble_eq_true rfl | omega) rfl (by first | assumption | rfl) ?_
        refine X_iload_n dX12_mendDead_91 rfl ?_
        first | refine X_iald dX12_mendDead_92 (by first | assumption | rfl) (by first | assumption | exact Nat.le_of_ble_eq_true rfl | omega) rfl (by first | decide | omega) (by decide) ?_ | refine X_ildA dX12_mendDead_92 rfl (by omega) ?_ | refine X_ildM dX12_mendDead_92 rfl (by omega) ?_ | refine X_sld dX12_mendDead_92 rfl (by omega) (by omega) ?_
        rw [c0]
        refine X_iast dX12_mendDead_93 (by first | assumption | rfl) (by first | assumption | exact Nat.le_of_ble_eq_true rfl | omega) rfl (by first | decide | omega) (by decide) ?_
        refine X_aload_n dX12_mendDead_94 rfl ?_
        refine X_getR dX12_mendDead_95 gf_X12_16 (by first | assumption | rfl) (by first | assumption | exact Nat.le_of_ble_eq_true rfl | omega) rfl (by first | assumption | rfl) ?_
        refine X_iload_n dX12_mendDead_98 rfl ?_
        refine X_aload_n dX12_mendDead_99 rfl ?_
        refine X_getR dX12_mendDead_100 gf_X12_16 (by first | assumption | rfl) (by first | assumption | exact Nat.le_of_ble_eq_true rfl | omega) rfl (by first | assumption | rfl) ?_
        refine X_iload_n dX12_mendDead_103 rfl ?_
        first | refine X_iald dX12_mendDead_104 (by first | assumption | rfl) (by first | assumption | exact Nat.le_of_ble_eq_true rfl | omega) rfl (by first | decide | omega) (by decide) ?_ | refine X_ildA dX12_mendDead_104 rfl (by omega) ?_ | refine X_ildM dX12_mendDead_104 rfl (by omega) ?_ | refine X_sld dX12_mendDead_104 rfl (by omega) (by omega) ?_
        rw [sr_ne (show 173 ≠ 172 by decide), c1]
        refine X_iast dX12_mendDead_105 (by first | assumption | rfl) (by first | assumption | exact Nat.le_of_ble_eq_true rfl | omega) rfl (by first | decide | omega) (by decide) ?_
        refine X_aload_n dX12_mendDead_106 rfl ?_
        refine X_getR dX12_mendDead_107 gf_X12_19 (by first | assumption | rfl) (by first | assumption | exact Nat.le_of_ble_eq_true rfl | omega) rfl (by first | assumption | rfl) ?_
        refine X_iload_n dX12_mendDead_110 rfl ?_
        refine X_aload_n dX12_mendDead_111 rfl ?_
        refine X_getR dX12_mendDead_112 gf_X12_19 (by first | assumption | rfl) (by first | assumption | exact Nat.le_of_ble_eq_true rfl | omega) rfl (by first | assumption | rfl) ?_
        refine X_iload_n dX12_mendDead_115 rfl ?_
        first | refine X_iald dX12_mendDead_116 (by first | assumption | rfl) (by first | assumption | exact Nat.le_of_ble_eq_true rfl | omega) rfl (by first | decide | omega) (by decide) ?_ | refine X_ildA dX12_mendDead_116 rfl (by omega) ?_ | refine X_ildM dX12_mendDead_116 rfl (by omega) ?_ | refine X_sld dX12_mendDead_116 rfl (by omega) (by omega) ?_
        rw [sr_ne (show 174 ≠ 173 by decide), sr_ne (show 174 ≠ 172 by decide), c2]
        refine X_iast dX12_mendDead_117 (by first | assumption | rfl) (by first | assumption | exact Nat.le_of_ble_eq_true rfl | omega) rfl (by first | decide | omega) (by decide) ?_
        refine X_aload_n dX12_mendDead_118 rfl ?_
        refine X_getR dX12_mendDead_119 gf_X12_22 (by first | assumption | rfl) (by first | assumption | exact Nat.le_of_ble_eq_true rfl | omega) rfl (by first | assumption | rfl) ?_
        refine X_iload_n dX12_mendDead_122 rfl ?_
        refine X_aload_n dX12_mendDead_123 rfl ?_
        refine X_getR dX12_mendDead_124 gf_X12_22 (by first | assumption | rfl) (by first | assumption | exact Nat.le_of_ble_eq_true rfl | omega) rfl (by first | assumption | rfl) ?_
        refine X_iload_n dX12_mendDead_127 rfl ?_
        first | refine X_iald dX12_mendDead_128 (by first | assumption | rfl) (by first | assumption | exact Nat.le_of_ble_eq_true rfl | omega) rfl (by first | decide | omega) (by decide) ?_ | refine X_ildA dX12_mendDead_128 rfl (by omega) ?_ | refine X_ildM dX12_mendDead_128 rfl (by omega) ?_ | refine X_sld dX12_mendDead_128 rfl (by omega) (by omega) ?_
        rw [sr_ne (show 175 ≠ 174 by decide), sr_ne (show 175 ≠ 173 by decide), sr_ne (show 175 ≠ 172 by decide), c3]
        refine X_iast dX12_mendDead_129 (by first | assumption | rfl) (by first | assumption | exact Nat.le_of_ble_eq_true rfl | omega) rfl (by first | decide | omega) (by decide) ?_
        first | refine X_iinc1 dX12_mendDead_130 rfl rfl rfl ?_ | refine X_iinc dX12_mendDead_130 rfl rfl rfl rfl ?_
        first | refine X_iinc1 dX12_mendDead_133 rfl rfl rfl ?_ | refine X_iinc dX12_mendDead_133 rfl rfl rfl rfl ?_
        refine X_goto (tgt := 65) dX12_mendDead_136 (by decide) ?_
        have ih := fun I2 => ih (i + 1) I2 (by omega) (by omega)
        rw [dro_f hp] at ih
        refine ih _ (hF.tr ((((FrM.c (by simp) (by decide)).tr (FrM.c (by simp) (by decide))).tr (FrM.c (by simp) (by decide))).tr (FrM.c (by simp) (by decide)))) ⟨?_, fun j hj => ?_⟩ (fun j hj => ?_)
        · rw [sr_ne (by decide), sr_ne (by decide), sr_ne (by decide), sr_ne (by decide)]; exact hc'.1
        · rw [sr_ne (show 172 ≠ 175 by decide), sr_ne (show 172 ≠ 174 by decide), sr_ne (show 172 ≠ 173 by decide), sr_eq, sr_ne (show 173 ≠ 175 by decide), sr_ne (show 173 ≠ 174 by decide), sr_eq, sr_ne (show 174 ≠ 175 by decide), sr_eq, sr_eq]
          show _ = enc (ext (dro (mp4 W n c) c i).1 (dro (mp4 W n c) c i).2 (c i) j 0) ∧ _ = enc (ext (dro (mp4 W n c) c i).1 (dro (mp4 W n c) c i).2 (c i) j 1) ∧ _ = enc (ext (dro (mp4 W n c) c i).1 (dro (mp4 W n c) c i).2 (c i) j 2) ∧ _ = enc (ext (dro (mp4 W n c) c i).1 (dro (mp4 W n c) c i).2 (c i) j 3)
          unfold ext
          by_cases hjl : j = (dro (mp4 W n c) c i).1
          · rw [if_pos hjl, hjl, up_eq, up_eq, up_eq, up_eq]
            exact ⟨rfl, rfl, rfl, rfl⟩
          · rw [if_neg hjl, up_ne hjl, up_ne hjl, up_ne hjl, up_ne hjl]
            exact hc'.2 j hj
        · rw [sr_ne (by decide), sr_ne (by decide), sr_ne (by decide), sr_ne (by decide)]
          exact hg j hj
  have loop1 : ∀ (m i : Nat) (I' : Nat → Nat → Int32), m = n - i → i ≤ n → FrM [188] [] I I' → (∀ j, j < i → I' 188 j = nI (if mp4 W n c j = true then 1 else 0)) → X G d zX12_mendDead 2 [(0, vr 170), (1, vi (nI i))] [] (NC, I', J, layR sw) 0 0 (qi Q) := by
    intro m
    induction m with
    | zero =>
      intro i I' hm him hF hg
      have hc' := RC_fm hc hF (by decide) (by decide)
      obtain rfl : i = n := by omega
      refine X_iload_n dX12_mendDead_2 rfl ?_
      refine X_aload_n dX12_mendDead_3 rfl ?_
      refine X_getI dX12_mendDead_4 gf_X12_181 (by first | assumption | rfl) (by first | assumption | exact Nat.le_of_ble_eq_true rfl | omega) rfl ?_
      rw [hc'.1]
      refine X_icmp_ge (tgt := 61) dX12_mendDead_7 (by decide) (fun b => ?_) (fun b => ?_)
      · refine X_iconst (v := nI 0) dX12_mendDead_61 (by decide) ?_
        refine X_istore_n dX12_mendDead_62 rfl rfl ?_
        refine X_iconst (v := nI 0) dX12_mendDead_63 (by decide) ?_
        refine X_istore_n dX12_mendDead_64 rfl rfl ?_
        exact loop2 i 0 I' rfl (Nat.zero_le i) (hF.sub (by simp) (by simp)) hc' hg
      · exact absurd (Int32.le_refl _) b
    | succ m ih =>
      intro i I' hm him hF hg
      have hc' := RC_fm hc hF (by decide) (by decide)
      have hin : i < n := by omega
      have v2 := (hv.2 i hin).2.1
      have ht := (hv.2 i hin).1
      have tail : ∀ x : Nat, x < 2 → x = (if mp4 W n c i = true then 1 else 0) → X G d zX12_mendDead 54 [(0, vr 170), (1, vi (nI i))] [vi (nI x), vi (nI i), vr 188] (NC, I', J, layR sw) 0 0 (qi Q) := by
        intro x hx2 hx
        have hxz : nI x = 0 ∨ nI x = 1 := by
          rcases (by omega : x = 0 ∨ x = 1) with rfl | rfl
          · exact Or.inl rfl
          · exact Or.inr rfl
        refine X_zast dX12_mendDead_54 (by first | assumption | rfl) (by first | assumption | exact Nat.le_of_ble_eq_true rfl | omega) rfl (by first | decide | omega) (by decide) (by first | exact Or.inl rfl | exact Or.inr rfl | assumption | decide) ?_
        first | refine X_iinc1 dX12_mendDead_55 rfl rfl rfl ?_ | refine X_iinc dX12_mendDead_55 rfl rfl rfl rfl ?_
        refine X_goto (tgt := 2) dX12_mendDead_58 (by decide) ?_
        refine ih (i + 1) _ (by omega) (by omega) (hF.tr (FrM.c (by simp) (by decide))) (fun j hj => ?_)
        rw [sr_eq]
        by_cases hji : j = i
        · subst hji
          rw [up_eq, hx]
        · rw [up_ne hji]
          exact hg j (by omega)
      refine X_iload_n dX12_mendDead_2 rfl ?_
      refine X_aload_n dX12_mendDead_3 rfl ?_
      refine X_getI dX12_mendDead_4 gf_X12_181 (by first | assumption | rfl) (by first | assumption | exact Nat.le_of_ble_eq_true rfl | omega) rfl ?_
      rw [hc'.1]
      refine X_icmp_ge (tgt := 61) dX12_mendDead_7 (by decide) (fun b => ?_) (fun b => ?_)
      · exact absurd ((nle (by omega) (by omega)).mp b) (by omega)
      refine X_aload_n dX12_mendDead_10 rfl ?_
      refine X_getR dX12_mendDead_11 gf_X12_61 (by first | assumption | rfl) (by first | assumption | exact Nat.le_of_ble_eq_true rfl | omega) rfl (by first | assumption | rfl) ?_
      refine X_iload_n dX12_mendDead_14 rfl ?_
      refine X_aload_n dX12_mendDead_15 rfl ?_
      refine X_iload_n dX12_mendDead_16 rfl ?_
      refine X_cVi dX12_mendDead_17 ck_X12_255 rfl rfl (by first | assumption | rfl) (by first | assumption | exact Nat.le_of_ble_eq_true rfl | omega) (by omega) (Nat.le_of_ble_eq_true rfl) (m_isDead (by omega) hc' hv (by rw [hF.2 12 (by simp)]; exact hw) hW hin ?_)
      by_cases hb : (liv c W n (i + 1)).testBit (c i 0) = true
      · rw [if_pos hb]
        refine X_if_ne (tgt := 49) dX12_mendDead_20 (by decide) (fun b20 => ?_) (fun b20 => ?_)
        · exact absurd rfl b20
        refine X_aload_n dX12_mendDead_23 rfl ?_
        refine X_getR dX12_mendDead_24 gf_X12_16 (by first | assumption | rfl) (by first | assumption | exact Nat.le_of_ble_eq_true rfl | omega) rfl (by first | assumption | rfl) ?_
        refine X_iload_n dX12_mendDead_27 rfl ?_
        first | refine X_iald dX12_mendDead_28 (by first | assumption | rfl) (by first | assumption | exact Nat.le_of_ble_eq_true rfl | omega) rfl (by first | decide | omega) (by decide) ?_ | refine X_ildA dX12_mendDead_28 rfl (by omega) ?_ | refine X_ildM dX12_mendDead_28 rfl (by omega) ?_ | refine X_sld dX12_mendDead_28 rfl (by omega) (by omega) ?_
        rw [(hc'.2 i hin).2.1]
        refine X_bipush (v := (-6)) dX12_mendDead_29 (by decide) ?_
        rcases (hv.2 i hin).2.2 with ⟨e1, e3⟩ | ⟨e1, e3⟩
        · rw [e1]
          refine X_icmp_ne (tgt := 53) dX12_mendDead_31 (by decide) (fun b31 => ?_) (fun b31 => ?_)
          · exact absurd rfl b31
          refine X_aload_n dX12_mendDead_34 rfl ?_
          refine X_getR dX12_mendDead_35 gf_X12_19 (by first | assumption | rfl) (by first | assumption | exact Nat.le_of_ble_eq_true rfl | omega) rfl (by first | assumption | rfl) ?_
          refine X_iload_n dX12_mendDead_38 rfl ?_
          first | refine X_iald dX12_mendDead_39 (by first | assumption | rfl) (by first | assumption | exact Nat.le_of_ble_eq_true rfl | omega) rfl (by first | decide | omega) (by decide) ?_ | refine X_ildA dX12_mendDead_39 rfl (by omega) ?_ | refine X_ildM dX12_mendDead_39 rfl (by omega) ?_ | refine X_sld dX12_mendDead_39 rfl (by omega) (by omega) ?_
          rw [(hc'.2 i hin).2.2.1, enc_n (by unfold opd at v2; omega)]
          refine X_aload_n dX12_mendDead_40 rfl ?_
          refine X_getR dX12_mendDead_41 gf_X12_13 (by first | assumption | rfl) (by first | assumption | exact Nat.le_of_ble_eq_true rfl | omega) rfl (by first | assumption | rfl) ?_
          refine X_iload_n dX12_mendDead_44 rfl ?_
          first | refine X_iald dX12_mendDead_45 (by first | assumption | rfl) (by first | assumption | exact Nat.le_of_ble_eq_true rfl | omega) rfl (by first | decide | omega) (by decide) ?_ | refine X_ildA dX12_mendDead_45 rfl (by omega) ?_ | refine X_ildM dX12_mendDead_45 rfl (by omega) ?_ | refine X_sld dX12_mendDead_45 rfl (by omega) (by omega) ?_
          rw [hc'.t hv hin]
          refine X_icmp_ne (tgt := 53) dX12_mendDead_46 (by decide) (fun b46 => ?_) (fun b46 => ?_)
          · refine X_iconst (v := nI 0) dX12_mendDead_53 (by decide) ?_
            refine tail 0 (by decide) ?_
            rw [if_neg (by simp [mp4, hb, e1]; exact fun q => b46 (by rw [q]))]
          · have := (neq (by unfold opd at v2; omega) (by omega)).mp b46
            refine X_iconst (v := nI 1) dX12_mendDead_49 (by decide) ?_
            refine X_goto (tgt := 54) dX12_mendDead_50 (by decide) ?_
            refine tail 1 (by decide) ?_
            rw [if_pos (by simp [mp4, e1, this])]
        · obtain ⟨n1, n2⟩ := enc_act e1
          refine X_icmp_ne (tgt := 53) dX12_mendDead_31 (by decide) (fun b31 => ?_) (fun b31 => ?_)
          · refine X_iconst (v := nI 0) dX12_mendDead_53 (by decide) ?_
            refine tail 0 (by decide) ?_
            rw [if_neg (by simp [mp4, hb, n1])]
          · exact absurd b31 n2
      · rw [if_neg hb]
        refine X_if_ne (tgt := 49) dX12_mendDead_20 (by decide) (fun b20 => ?_) (fun b20 => ?_)
        · refine X_iconst (v := nI 1) dX12_mendDead_49 (by decide) ?_
          refine X_goto (tgt := 54) dX12_mendDead_50 (by decide) ?_
          refine tail 1 (by decide) ?_
          rw [if_pos (by simp [mp4, hb])]
        · exact absurd b20 (by decide)
  refine Y_of rfl rfl (Nat.le_of_ble_eq_true rfl) rfl ?_
  refine X_iconst (v := nI 0) dX12_mendDead_0 (by decide) ?_
  refine X_istore_n dX12_mendDead_1 rfl rfl ?_
  exact loop1 n 0 I rfl (Nat.zero_le n) FrM.rf (fun j hj => absurd hj (Nat.not_lt_zero j))
set_option maxRecDepth 20000 in
theorem m_mendBy {Q : Int32 → Mm → Prop} {k : Nat} (hd : 6 ≤ d) (hc : RC I n c) (hv : VC n c) (hw : I 170 12 = nI W) (hW : W < 16) (hk1 : 1 ≤ k) (hk4 : k ≤ 4) (hQ : ∀ I', FrM [172, 173, 174, 175, 179, 180, 181, 182, 183, 184, 185, 186, 187, 188] [9, 23, 24] I I' → RC I' (mdC W (n, c) k).2.1 (mdC W (n, c) k).2.2 → Q (nI (mdC W (n, c) k).1) (NC, I', J, layR sw)) : Y G d zX12_mendBy [vr 170, vi (nI k)] (NC, I, J, layR sw) 0 0 (qi Q) := by
  refine Y_of rfl rfl (Nat.le_of_ble_eq_true rfl) rfl ?_
  refine X_iload_n dX12_mendBy_0 rfl ?_
  rcases (by omega : k = 1 ∨ k = 2 ∨ k = 3 ∨ k = 4) with rfl | rfl | rfl | rfl
  · refine X_tableIn (off := 27) (tgt := 28) dX12_mendBy_1 (by decide) (by decide) (by decide) (by decide) ?_
    refine X_aload_n dX12_mendBy_28 rfl ?_
    refine X_cVi dX12_mendBy_29 ck_X12_264 rfl rfl (by first | assumption | rfl) (by first | assumption | exact Nat.le_of_ble_eq_true rfl | omega) (by omega) (Nat.le_of_ble_eq_true rfl) (m_mendKnown (by omega) hc hv (fun I' hF hc' => ?_))
    exact X_iret dX12_mendBy_32 rfl ⟨_, rfl, hQ I' (hF.sub (by simp) (by simp)) hc'⟩
  · refine X_tableIn (off := 32) (tgt := 33) dX12_mendBy_1 (by decide) (by decide) (by decide) (by decide) ?_
    refine X_aload_n dX12_mendBy_33 rfl ?_
    refine X_cVi dX12_mendBy_34 ck_X12_268 rfl rfl (by first | assumption | rfl) (by first | assumption | exact Nat.le_of_ble_eq_true rfl | omega) (by omega) (Nat.le_of_ble_eq_true rfl) (m_mendDigits (by omega) hc hv (fun I' hF hc' => ?_))
    exact X_iret dX12_mendBy_37 rfl ⟨_, rfl, hQ I' (hF.sub (by simp) (by simp)) hc'⟩
  · refine X_tableIn (off := 37) (tgt := 38) dX12_mendBy_1 (by decide) (by decide) (by decide) (by decide) ?_
    refine X_aload_n dX12_mendBy_38 rfl ?_
    refine X_cVi dX12_mendBy_39 ck_X12_271 rfl rfl (by first | assumption | rfl) (by first | assumption | exact Nat.le_of_ble_eq_true rfl | omega) (by omega) (Nat.le_of_ble_eq_true rfl) (m_mendNeedless (by omega) hc hv (fun I' hF hc' => ?_))
    exact X_iret dX12_mendBy_42 rfl ⟨_, rfl, hQ I' (hF.sub (by simp) (by simp)) hc'⟩
  · refine X_tableOut (tgt := 43) dX12_mendBy_1 (Or.inr (by decide)) (by decide) ?_
    refine X_aload_n dX12_mendBy_43 rfl ?_
    refine X_cVi dX12_mendBy_44 ck_X12_274 rfl rfl (by first | assumption | rfl) (by first | assumption | exact Nat.le_of_ble_eq_true rfl | omega) (by omega) (Nat.le_of_ble_eq_true rfl) (m_mendDead (by omega) hc hv hw hW (fun I' hF hc' => ?_))
    exact X_iret dX12_mendBy_47 rfl ⟨_, rfl, hQ I' (hF.sub (by simp) (by simp)) hc'⟩
theorem M_mend {x : Int32} (hd : 7 ≤ d) (hv : VSt s) (hi : RInv I s) : Y G d zX12_mend [vr 170, vi x] (NC, I, J, layR sw) 0 0 (qi (PM (sp_mend s x).2 (sp_mend s x).1 I J sw)) := by
  have hW := hv.2.1.2.2.1.2
  refine Y_of rfl rfl (Nat.le_of_ble_eq_true rfl) rfl ?_
  unfold sp_mend
  refine X_iload_n dX12_mend_0 rfl ?_
  refine X_i2l dX12_mend_1 rfl ?_
  refine X_lconst (v := 1) dX12_mend_2 (by decide) ?_
  refine X_ldc2 dX12_mend_3 kc_X12_277 ?_
  by_cases h : x < nI 1 ∨ nI 4 < x
  · rw [if_pos h]
    refine X_cSi dX12_mend_6 ck_X12_125 rfl rfl (by omega) (Nat.le_of_ble_eq_true rfl) (c_in_f (lo := nI 1) (hi := nI 4) (by decide) (by decide) (fun q => h.elim (fun h => absurd h (Int32.not_lt.mpr q.1)) (fun h => absurd h (Int32.not_lt.mpr q.2))) ?_)
    refine X_if_eq (tgt := 20) dX12_mend_9 (by decide) (fun b => ?_) (fun b => ?_)
    · refine X_bipush (v := (-2)) dX12_mend_20 (by decide) ?_
      exact X_iret dX12_mend_22 rfl ⟨_, rfl, PM_same hi⟩
    · exact absurd rfl b
  · rw [if_neg h]
    have h1 : ¬ x < nI 1 := fun q => h (Or.inl q)
    have h2 : x ≤ nI 4 := Int32.not_lt.mp (fun q => h (Or.inr q))
    obtain ⟨a, a1, a2, rfl⟩ := in1 (by decide) h1 h2
    rw [nI_clamp (by omega)]
    refine X_cSi dX12_mend_6 ck_X12_125 rfl rfl (by omega) (Nat.le_of_ble_eq_true rfl) (c_in_t (lo := nI 1) (hi := nI 4) (by decide) (by decide) (Int32.not_lt.mp h1) h2 ?_)
    refine X_if_eq (tgt := 20) dX12_mend_9 (by decide) (fun b => ?_) (fun b => ?_)
    · exact absurd b (by decide)
    · refine X_aload_n dX12_mend_12 rfl ?_
      refine X_iload_n dX12_mend_13 rfl ?_
      refine X_cVi dX12_mend_14 ck_X12_279 rfl rfl (by first | assumption | rfl) (by first | assumption | exact Nat.le_of_ble_eq_true rfl | omega) (by omega) (Nat.le_of_ble_eq_true rfl) (m_mendBy (by omega) hi.2.1.rc hv.2.1.1 hi.2.1.2.2.2.2.1 (by omega) a1 a2 (fun I' hF hc' => ?_))
      refine X_goto (tgt := 22) dX12_mend_17 (by decide) ?_
      exact X_iret dX12_mend_22 rfl ⟨_, rfl, PM_mk (RInv_code hi hF (by decide) (by decide) hc') (hF.lo (by decide))⟩
end RM
