section CM
variable {G : GG} {d : Nat} {sw : Bool} {I : Nat → Nat → Int32} {J : Nat → Nat → Int64} {s : SS} {n W : Nat} {c : Nat → Nat → Nat}
/-- three parts written anew -/
theorem put3_at {e : Nat → Nat → Nat} {i x y z : Nat} (j w : Nat) : put1 (put1 (put1 e i 1 x) i 2 y) i 3 z j w = if j = i then (if w = 1 then x else if w = 2 then y else if w = 3 then z else e i w) else e j w := by
  unfold put1
  by_cases h : j = i
  · subst h
    by_cases h3 : w = 3
    · simp [h3]
    · by_cases h2 : w = 2
      · simp [h2]
      · by_cases h1 : w = 1
        · simp [h1]
        · simp [h1, h2, h3]
  · simp [h]
set_option maxRecDepth 20000 in
theorem c_workOutDigits {Q : Int32 → Mm → Prop} (hd : 2 ≤ d) (hc : CR I 8 n c) (hv : VC n c) (hQ : ∀ I', Fr [9] I I' → CR I' 8 n (md2 c) → Q (nI (cnt (mp2 c) n)) (NC, I', J, layR sw)) : Y G d zX6_workOutDigits [vr 111, vr 8] (NC, I, J, layR sw) 0 0 (qi Q) := by
  have hn := hv.1
  refine Y_of rfl rfl (Nat.le_of_ble_eq_true rfl) rfl ?_
  refine X_iconst (v := nI 0) dX6_workOutDigits_0 (by decide) ?_
  refine X_istore_n dX6_workOutDigits_1 rfl rfl ?_
  refine X_iconst (v := nI 0) dX6_workOutDigits_2 (by decide) ?_
  refine X_istore_n dX6_workOutDigits_3 rfl rfl ?_
  have loop : ∀ (m i : Nat) (I' : Nat → Nat → Int32), m = n - i → i ≤ n → Fr [9] I I' → CR I' 8 n (mix (md2 c) c i) → X G d zX6_workOutDigits 4 [(0, vr 111), (1, vr 8), (2, vi (nI (cnt (mp2 c) i))), (3, vi (nI i))] [] (NC, I', J, layR sw) 0 0 (qi Q) := by
    intro m
    induction m with
    | zero =>
      intro i I' hm him hF hc'
      obtain rfl : i = n := by omega
      refine X_iload_n dX6_workOutDigits_4 rfl ?_
      refine X_aload_n dX6_workOutDigits_5 rfl ?_
      refine X_getI dX6_workOutDigits_6 gf_X6_40 (by first | assumption | rfl) (by first | assumption | exact Nat.le_of_ble_eq_true rfl | omega) rfl ?_
      rw [hc'.1]
      refine X_icmp_ge (tgt := 96) dX6_workOutDigits_9 (by decide) (fun b => ?_) (fun b => ?_)
      · refine X_iload_n dX6_workOutDigits_96 rfl ?_
        exact X_iret dX6_workOutDigits_97 rfl ⟨_, rfl, hQ I' hF (hc'.cg (fun j hj w _ => by rw [mix_lo hj]))⟩
      · exact absurd (Int32.le_refl _) b
    | succ m ih =>
      intro i I' hm him hF hc'
      have hin : i < n := by omega
      obtain ⟨v0, v2, v3⟩ := hv.2 i hin
      have mi : mix (md2 c) c i i = c i := mix_hi (Nat.le_refl i)
      have pw : ∀ w, w < 4 → I' (8 + 1) (i * 4 + w) = enc (c i w) := fun w hw => by rw [hc'.2 i hin w hw, mi]
      have l2 : c i 2 < 200 := by unfold opd at v2; omega
      have l3 : c i 3 < 200 := VS_lt (hv.2 i hin) 3 (by decide)
      have no : ¬ mp2 c i = true → ∀ x y z, X G d zX6_workOutDigits 90 [(0, vr 111), (1, vr 8), (2, vi (nI (cnt (mp2 c) i))), (3, vi (nI i)), (4, x), (5, y), (6, z)] [] (NC, I', J, layR sw) 0 0 (qi Q) := by
        intro hp x y z
        first | refine X_iinc1 dX6_workOutDigits_90 rfl rfl rfl ?_ | refine X_iinc dX6_workOutDigits_90 rfl rfl rfl rfl ?_
        refine X_goto (tgt := 4) dX6_workOutDigits_93 (by decide) ?_
        refine weak (lv' := [(0, vr 111), (1, vr 8), (2, vi (nI (cnt (mp2 c) i))), (3, vi (nI (i + 1)))]) (fun q hq => List.mem_append_left _ hq) ?_
        have ih := ih (i + 1) I' (by omega) (by omega) hF (hc'.cg (fun j hj w hw => by
          rw [mix_s]
          by_cases hji : j = i
          · rw [if_pos hji, hji, mi]; exact if_neg hp
          · rw [if_neg hji]))
        rw [cnt_f hp] at ih
        exact ih
      refine X_iload_n dX6_workOutDigits_4 rfl ?_
      refine X_aload_n dX6_workOutDigits_5 rfl ?_
      refine X_getI dX6_workOutDigits_6 gf_X6_40 (by first | assumption | rfl) (by first | assumption | exact Nat.le_of_ble_eq_true rfl | omega) rfl ?_
      rw [hc'.1]
      refine X_icmp_ge (tgt := 96) dX6_workOutDigits_9 (by decide) (fun b => ?_) (fun b => ?_)
      · exact absurd ((nle (by omega) (by omega)).mp b) (by omega)
      refine X_aload_n dX6_workOutDigits_12 rfl ?_
      refine X_iload_n dX6_workOutDigits_13 rfl ?_
      refine X_iconst (v := nI 1) dX6_workOutDigits_14 (by decide) ?_
      refine X_cVi dX6_workOutDigits_15 ck_X6_50 rfl rfl (by first | assumption | rfl) (by first | assumption | exact Nat.le_of_ble_eq_true rfl | omega) (by omega) (Nat.le_of_ble_eq_true rfl) (c_part cd8 hc'.1 hn hin (by decide) ?_)
      rw [pw 1 (by decide)]
      refine X_istore dX6_workOutDigits_18 rfl rfl ?_
      refine X_aload_n dX6_workOutDigits_20 rfl ?_
      refine X_iload_n dX6_workOutDigits_21 rfl ?_
      refine X_iconst (v := nI 2) dX6_workOutDigits_22 (by decide) ?_
      refine X_cVi dX6_workOutDigits_23 ck_X6_50 rfl rfl (by first | assumption | rfl) (by first | assumption | exact Nat.le_of_ble_eq_true rfl | omega) (by omega) (Nat.le_of_ble_eq_true rfl) (c_part cd8 hc'.1 hn hin (by decide) ?_)
      rw [pw 2 (by decide)]
      refine X_istore dX6_workOutDigits_26 rfl rfl ?_
      refine X_aload_n dX6_workOutDigits_28 rfl ?_
      refine X_iload_n dX6_workOutDigits_29 rfl ?_
      refine X_iconst (v := nI 3) dX6_workOutDigits_30 (by decide) ?_
      refine X_cVi dX6_workOutDigits_31 ck_X6_50 rfl rfl (by first | assumption | rfl) (by first | assumption | exact Nat.le_of_ble_eq_true rfl | omega) (by omega) (Nat.le_of_ble_eq_true rfl) (c_part cd8 hc'.1 hn hin (by decide) ?_)
      rw [pw 3 (by decide)]
      refine X_istore dX6_workOutDigits_34 rfl rfl ?_
      refine X_iload dX6_workOutDigits_36 rfl ?_
      refine X_cSi dX6_workOutDigits_38 ck_X6_65 rfl rfl (by omega) (Nat.le_of_ble_eq_true rfl) (c_isActE (v3.elim (fun q => Or.inl q.1) (fun q => Or.inr q.1)) ?_)
      by_cases h1 : c i 1 = 99
      · rw [if_pos h1]
        refine X_if_eq (tgt := 90) dX6_workOutDigits_41 (by decide) (fun b41 => ?_) (fun b41 => ?_)
        · exact no (by simp [mp2, h1]) _ _ _
        · exact absurd rfl b41
      · rw [if_neg h1]
        obtain ⟨e1, e3⟩ := v3.resolve_left (fun q => h1 q.1)
        refine X_if_eq (tgt := 90) dX6_workOutDigits_41 (by decide) (fun b41 => ?_) (fun b41 => ?_)
        · exact absurd b41 (by decide)
        refine X_iload dX6_workOutDigits_44 rfl ?_
        refine X_cSi dX6_workOutDigits_46 ck_X6_68 rfl rfl (by omega) (Nat.le_of_ble_eq_true rfl) (c_isDigit l2 ?_)
        by_cases h2 : 10 ≤ c i 2 ∧ c i 2 < 18
        · rw [if_pos h2]
          refine X_if_eq (tgt := 90) dX6_workOutDigits_49 (by decide) (fun b49 => ?_) (fun b49 => ?_)
          · exact absurd b49 (by decide)
          refine X_iload dX6_workOutDigits_52 rfl ?_
          refine X_cSi dX6_workOutDigits_54 ck_X6_68 rfl rfl (by omega) (Nat.le_of_ble_eq_true rfl) (c_isDigit l3 ?_)
          by_cases h3 : 10 ≤ c i 3 ∧ c i 3 < 18
          · rw [if_pos h3]
            have hp : mp2 c i = true := by simp [mp2, h1, h2.1, h3.1]
            have ha := av_lt (a := c i 1) (y := c i 3 - 10) (show c i 2 - 10 < 8 by omega)
            refine X_if_eq (tgt := 90) dX6_workOutDigits_57 (by decide) (fun b57 => ?_) (fun b57 => ?_)
            · exact absurd b57 (by decide)
            rw [enc_n (v := c i 2) (by omega), enc_n (v := c i 3) (by omega)]
            refine X_aload_n dX6_workOutDigits_60 rfl ?_
            refine X_iload_n dX6_workOutDigits_61 rfl ?_
            refine X_bipush (v := (-6)) dX6_workOutDigits_62 (by decide) ?_
            refine X_iload dX6_workOutDigits_64 rfl ?_
            refine X_iload dX6_workOutDigits_66 rfl ?_
            refine X_bipush (v := nI 10) dX6_workOutDigits_68 (by decide) ?_
            first | refine X_isubN dX6_workOutDigits_70 (by omega) ?_ | refine X_isub dX6_workOutDigits_70 ?_
            refine X_iload dX6_workOutDigits_71 rfl ?_
            refine X_bipush (v := nI 10) dX6_workOutDigits_73 (by decide) ?_
            first | refine X_isubN dX6_workOutDigits_75 (by omega) ?_ | refine X_isub dX6_workOutDigits_75 ?_
            refine X_cSi dX6_workOutDigits_76 ck_X6_71 rfl rfl (by omega) (Nat.le_of_ble_eq_true rfl) (c_act (by omega) (Or.inr e1) (by omega) (by omega) ?_)
            refine X_bipush (v := nI 10) dX6_workOutDigits_79 (by decide) ?_
            first | refine X_iaddN dX6_workOutDigits_81 ?_ | refine X_iadd dX6_workOutDigits_81 ?_
            refine X_bipush (v := (-6)) dX6_workOutDigits_82 (by decide) ?_
            rw [show nI (av (c i 1) (c i 2 - 10) (c i 3 - 10) + 10) = enc (10 + av (c i 1) (c i 2 - 10) (c i 3 - 10)) by rw [enc_n (by omega), Nat.add_comm], ← enc_99]
            refine X_cVv dX6_workOutDigits_84 ck_X6_75 rfl rfl (by first | assumption | rfl) (by first | assumption | exact Nat.le_of_ble_eq_true rfl | omega) (by omega) (Nat.le_of_ble_eq_true rfl) (c_rewrite (by omega) cd8 hc' hn hin (fun I2 hc2 f2 => ?_))
            first | refine X_iinc1 dX6_workOutDigits_87 rfl rfl rfl ?_ | refine X_iinc dX6_workOutDigits_87 rfl rfl rfl rfl ?_
            first | refine X_iinc1 dX6_workOutDigits_90 rfl rfl rfl ?_ | refine X_iinc dX6_workOutDigits_90 rfl rfl rfl rfl ?_
            refine X_goto (tgt := 4) dX6_workOutDigits_93 (by decide) ?_
            refine weak (lv' := [(0, vr 111), (1, vr 8), (2, vi (nI (cnt (mp2 c) i + 1))), (3, vi (nI (i + 1)))]) (fun q hq => List.mem_append_left _ hq) ?_
            have ih := ih (i + 1) I2 (by omega) (by omega) (hF.tr f2) (hc2.cg (fun j hj w hw => by
              rw [mix_s, put3_at]
              by_cases hji : j = i
              · rw [if_pos hji, if_pos hji, mi]
                show (if mp2 c i = true then (if w = 0 then c i 0 else if w = 2 then 10 + av (c i 1) (c i 2 - 10) (c i 3 - 10) else 99) else c i w) = _
                rw [if_pos hp]
                rcases (by omega : w = 0 ∨ w = 1 ∨ w = 2 ∨ w = 3) with rfl | rfl | rfl | rfl <;> rfl
              · rw [if_neg hji, if_neg hji]))
            rw [cnt_t hp] at ih
            exact ih
          · rw [if_neg h3]
            refine X_if_eq (tgt := 90) dX6_workOutDigits_57 (by decide) (fun b57 => ?_) (fun b57 => ?_)
            · exact no (by simp [mp2]; unfold opd at e3; omega) _ _ _
            · exact absurd rfl b57
        · rw [if_neg h2]
          refine X_if_eq (tgt := 90) dX6_workOutDigits_49 (by decide) (fun b49 => ?_) (fun b49 => ?_)
          · exact no (by simp [mp2]; unfold opd at v2; omega) _ _ _
          · exact absurd rfl b49
  exact loop n 0 I rfl (Nat.zero_le n) Fr.rf (hc.cg (fun j hj w _ => by rw [mix_hi (Nat.zero_le j)]))
set_option maxRecDepth 20000 in
theorem c_copyNeedless {Q : Int32 → Mm → Prop} (hd : 4 ≤ d) (hc : CR I 8 n c) (hv : VC n c) (hQ : ∀ I', Fr [9, 112, 115, 116, 117, 118, 119, 120] I I' → CR I' 8 n (md3 c) → Q (nI (cnt (mp3 c) n)) (NC, I', J, layR sw)) : Y G d zX6_copyNeedless [vr 111, vr 8] (NC, I, J, layR sw) 0 0 (qi Q) := by
  have hn := hv.1
  refine Y_of rfl rfl (Nat.le_of_ble_eq_true rfl) rfl ?_
  refine X_aload_n dX6_copyNeedless_0 rfl ?_
  refine X_getR dX6_copyNeedless_1 gf_X6_12 (by first | assumption | rfl) (by first | assumption | exact Nat.le_of_ble_eq_true rfl | omega) rfl (by first | assumption | rfl) ?_
  refine X_aload_n dX6_copyNeedless_4 rfl ?_
  refine X_cVv dX6_copyNeedless_5 ck_X6_79 rfl rfl (by first | assumption | rfl) (by first | assumption | exact Nat.le_of_ble_eq_true rfl | omega) (by omega) (Nat.le_of_ble_eq_true rfl) (c_followSorts (by omega) fa112 hc hv (fun I1 f1 e1 e2 => ?_))
  have hc1 : CR I1 8 n c := CR_fr hc f1 (by simp) (by simp)
  refine X_iconst (v := nI 0) dX6_copyNeedless_8 (by decide) ?_
  refine X_istore_n dX6_copyNeedless_9 rfl rfl ?_
  refine X_iconst (v := nI 0) dX6_copyNeedless_10 (by decide) ?_
  refine X_istore_n dX6_copyNeedless_11 rfl rfl ?_
  have loop : ∀ (m i : Nat) (I' : Nat → Nat → Int32), m = n - i → i ≤ n → Fr [9] I1 I' → CR I' 8 n (mix (md3 c) c i) → X G d zX6_copyNeedless 12 [(0, vr 111), (1, vr 8), (2, vi (nI (cnt (mp3 c) i))), (3, vi (nI i))] [] (NC, I', J, layR sw) 0 0 (qi Q) := by
    intro m
    induction m with
    | zero =>
      intro i I' hm him hF hc'
      obtain rfl : i = n := by omega
      refine X_iload_n dX6_copyNeedless_12 rfl ?_
      refine X_aload_n dX6_copyNeedless_13 rfl ?_
      refine X_getI dX6_copyNeedless_14 gf_X6_40 (by first | assumption | rfl) (by first | assumption | exact Nat.le_of_ble_eq_true rfl | omega) rfl ?_
      rw [hc'.1]
      refine X_icmp_ge (tgt := 69) dX6_copyNeedless_17 (by decide) (fun b => ?_) (fun b => ?_)
      · refine X_iload_n dX6_copyNeedless_69 rfl ?_
        exact X_iret dX6_copyNeedless_70 rfl ⟨_, rfl, hQ I' ((f1.sub (by simp)).tr (hF.sub (by simp))) (hc'.cg (fun j hj w _ => by rw [mix_lo hj]))⟩
      · exact absurd (Int32.le_refl _) b
    | succ m ih =>
      intro i I' hm him hF hc'
      have hin : i < n := by omega
      obtain ⟨v0, v2, v3⟩ := hv.2 i hin
      have mi : mix (md3 c) c i i = c i := mix_hi (Nat.le_refl i)
      have pw : ∀ w, w < 4 → I' (8 + 1) (i * 4 + w) = enc (c i w) := fun w hw => by rw [hc'.2 i hin w hw, mi]
      have no : ¬ mp3 c i = true → ∀ x, X G d zX6_copyNeedless 63 [(0, vr 111), (1, vr 8), (2, vi (nI (cnt (mp3 c) i))), (3, vi (nI i)), (4, x)] [] (NC, I', J, layR sw) 0 0 (qi Q) := by
        intro hp x
        first | refine X_iinc1 dX6_copyNeedless_63 rfl rfl rfl ?_ | refine X_iinc dX6_copyNeedless_63 rfl rfl rfl rfl ?_
        refine X_goto (tgt := 12) dX6_copyNeedless_66 (by decide) ?_
        refine weak (lv' := [(0, vr 111), (1, vr 8), (2, vi (nI (cnt (mp3 c) i))), (3, vi (nI (i + 1)))]) (fun q hq => List.mem_append_left _ hq) ?_
        have ih := ih (i + 1) I' (by omega) (by omega) hF (hc'.cg (fun j hj w hw => by
          rw [mix_s]
          by_cases hji : j = i
          · rw [if_pos hji, hji, mi]; exact if_neg hp
          · rw [if_neg hji]))
        rw [cnt_f hp] at ih
        exact ih
      refine X_iload_n dX6_copyNeedless_12 rfl ?_
      refine X_aload_n dX6_copyNeedless_13 rfl ?_
      refine X_getI dX6_copyNeedless_14 gf_X6_40 (by first | assumption | rfl) (by first | assumption | exact Nat.le_of_ble_eq_true rfl | omega) rfl ?_
      rw [hc'.1]
      refine X_icmp_ge (tgt := 69) dX6_copyNeedless_17 (by decide) (fun b => ?_) (fun b => ?_)
      · exact absurd ((nle (by omega) (by omega)).mp b) (by omega)
      refine X_aload_n dX6_copyNeedless_20 rfl ?_
      refine X_getR dX6_copyNeedless_21 gf_X6_12 (by first | assumption | rfl) (by first | assumption | exact Nat.le_of_ble_eq_true rfl | omega) rfl (by first | assumption | rfl) ?_
      refine X_iload_n dX6_copyNeedless_24 rfl ?_
      refine X_cVi dX6_copyNeedless_25 ck_X6_82 rfl rfl (by first | assumption | rfl) (by first | assumption | exact Nat.le_of_ble_eq_true rfl | omega) (by omega) (Nat.le_of_ble_eq_true rfl) (c_holderOfMade fa112 hv hin (fun r h => by rw [hF (112 + 3) (by simp)]; exact e1 i (by omega) r h) (by rw [hF (112 + 4) (by simp)]; exact e2 i hin) ?_)
      refine X_istore dX6_copyNeedless_28 rfl rfl ?_
      refine X_iload dX6_copyNeedless_30 rfl ?_
      refine X_bipush (v := (-6)) dX6_copyNeedless_32 (by decide) ?_
      by_cases hh : hld c i < 4
      · rw [if_pos hh]
        refine X_icmp_eq (tgt := 63) dX6_copyNeedless_34 (by decide) (fun b34 => ?_) (fun b34 => ?_)
        · exact absurd (show nI (hld c i) < 0 by rw [b34]; decide) (nneg (by omega))
        refine X_aload_n dX6_copyNeedless_37 rfl ?_
        refine X_iload_n dX6_copyNeedless_38 rfl ?_
        refine X_iconst (v := nI 1) dX6_copyNeedless_39 (by decide) ?_
        refine X_cVi dX6_copyNeedless_40 ck_X6_50 rfl rfl (by first | assumption | rfl) (by first | assumption | exact Nat.le_of_ble_eq_true rfl | omega) (by omega) (Nat.le_of_ble_eq_true rfl) (c_part cd8 hc'.1 hn hin (by decide) ?_)
        rw [pw 1 (by decide)]
        refine X_cSi dX6_copyNeedless_43 ck_X6_65 rfl rfl (by omega) (Nat.le_of_ble_eq_true rfl) (c_isActE (v3.elim (fun q => Or.inl q.1) (fun q => Or.inr q.1)) ?_)
        by_cases h1 : c i 1 = 99
        · rw [if_pos h1]
          refine X_if_eq (tgt := 63) dX6_copyNeedless_46 (by decide) (fun b46 => ?_) (fun b46 => ?_)
          · exact no (by simp [mp3, h1]) _
          · exact absurd rfl b46
        · rw [if_neg h1]
          have hp : mp3 c i = true := by simp [mp3, h1, hh]
          refine X_if_eq (tgt := 63) dX6_copyNeedless_46 (by decide) (fun b46 => ?_) (fun b46 => ?_)
          · exact absurd b46 (by decide)
          refine X_aload_n dX6_copyNeedless_49 rfl ?_
          refine X_iload_n dX6_copyNeedless_50 rfl ?_
          refine X_bipush (v := (-6)) dX6_copyNeedless_51 (by decide) ?_
          refine X_iload dX6_copyNeedless_53 rfl ?_
          refine X_bipush (v := (-6)) dX6_copyNeedless_55 (by decide) ?_
          rw [← enc_n (v := hld c i) (by omega), ← enc_99]
          refine X_cVv dX6_copyNeedless_57 ck_X6_75 rfl rfl (by first | assumption | rfl) (by first | assumption | exact Nat.le_of_ble_eq_true rfl | omega) (by omega) (Nat.le_of_ble_eq_true rfl) (c_rewrite (by omega) cd8 hc' hn hin (fun I2 hc2 f2 => ?_))
          first | refine X_iinc1 dX6_copyNeedless_60 rfl rfl rfl ?_ | refine X_iinc dX6_copyNeedless_60 rfl rfl rfl rfl ?_
          first | refine X_iinc1 dX6_copyNeedless_63 rfl rfl rfl ?_ | refine X_iinc dX6_copyNeedless_63 rfl rfl rfl rfl ?_
          refine X_goto (tgt := 12) dX6_copyNeedless_66 (by decide) ?_
          refine weak (lv' := [(0, vr 111), (1, vr 8), (2, vi (nI (cnt (mp3 c) i + 1))), (3, vi (nI (i + 1)))]) (fun q hq => List.mem_append_left _ hq) ?_
          have ih := ih (i + 1) I2 (by omega) (by omega) (hF.tr f2) (hc2.cg (fun j hj w hw => by
            rw [mix_s, put3_at]
            by_cases hji : j = i
            · rw [if_pos hji, if_pos hji, mi]
              show (if mp3 c i = true then (if w = 0 then c i 0 else if w = 2 then hld c i else 99) else c i w) = _
              rw [if_pos hp]
              rcases (by omega : w = 0 ∨ w = 1 ∨ w = 2 ∨ w = 3) with rfl | rfl | rfl | rfl <;> rfl
            · rw [if_neg hji, if_neg hji]))
          rw [cnt_t hp] at ih
          exact ih
      · rw [if_neg hh]
        refine X_icmp_eq (tgt := 63) dX6_copyNeedless_34 (by decide) (fun b34 => ?_) (fun b34 => ?_)
        · exact no (by simp [mp3, hh]) _
        · exact absurd rfl b34
  exact loop n 0 I1 rfl (Nat.zero_le n) Fr.rf (hc1.cg (fun j hj w _ => by rw [mix_hi (Nat.zero_le j)]))
theorem bts_bit (p : Nat → Bool) : ∀ n i, i < n → (bts p n).testBit i = p i
  | 0, i, h => absurd h (Nat.not_lt_zero i)
  | n + 1, i, h => by
    by_cases hp : p n = true
    · rw [bts_t hp, Nat.testBit_or, Nat.testBit_two_pow]
      by_cases hi : i = n
      · subst hi; simp [hp]
      · rw [bts_bit p n i (by omega)]; simp [Ne.symm hi]
    · rw [bts_f hp]
      by_cases hi : i = n
      · subst hi
        rw [Nat.testBit_lt_two_pow (bts_lt p i)]
        cases hq : p i
        · rfl
        · exact absurd hq hp
      · exact bts_bit p n i (by omega)
set_option maxRecDepth 20000 in
set_option maxHeartbeats 1000000 in
theorem c_dropUseless {Q : Int32 → Mm → Prop} (hd : 4 ≤ d) (hc : CR I 8 n c) (hv : VC n c) (hW : W < 16) (hQ : ∀ I', Fr [8, 9, 113] I I' → CR I' 8 (dro (mp4 W n c) c n).1 (dro (mp4 W n c) c n).2 → Q (nI (n - (dro (mp4 W n c) c n).1)) (NC, I', J, layR sw)) : Y G d zX6_dropUseless [vr 111, vr 8, vi (nI W)] (NC, I, J, layR sw) 0 0 (qi Q) := by
  have hn := hv.1
  refine Y_of rfl rfl (Nat.le_of_ble_eq_true rfl) rfl ?_
  refine X_aload_n dX6_dropUseless_0 rfl ?_
  refine X_getR dX6_dropUseless_1 gf_X6_12 (by first | assumption | rfl) (by first | assumption | exact Nat.le_of_ble_eq_true rfl | omega) rfl (by first | assumption | rfl) ?_
  refine X_aload_n dX6_dropUseless_4 rfl ?_
  refine X_iload_n dX6_dropUseless_5 rfl ?_
  refine X_cVv dX6_dropUseless_6 ck_X6_86 rfl rfl (by first | assumption | rfl) (by first | assumption | exact Nat.le_of_ble_eq_true rfl | omega) (by omega) (Nat.le_of_ble_eq_true rfl) (c_followLive (by omega) fa112 hc hv hW (fun I1 f1 e1 => ?_))
  have hc1 : CR I1 8 n c := CR_fr hc f1 (by simp) (by simp)
  refine X_aload_n dX6_dropUseless_9 rfl ?_
  refine X_getI dX6_dropUseless_10 gf_X6_40 (by first | assumption | rfl) (by first | assumption | exact Nat.le_of_ble_eq_true rfl | omega) rfl ?_
  rw [hc1.1]
  refine X_istore_n dX6_dropUseless_13 rfl rfl ?_
  refine X_iconst (v := nI 0) dX6_dropUseless_14 (by decide) ?_
  refine X_istore dX6_dropUseless_15 rfl rfl ?_
  refine X_iconst (v := nI 0) dX6_dropUseless_17 (by decide) ?_
  refine X_istore dX6_dropUseless_18 rfl rfl ?_
  have hbl := bts_lt (mp4 W n c) n
  have hbl2 : bts (mp4 W n c) n < 4096 := Nat.lt_of_lt_of_le hbl (Nat.pow_le_pow_right (by decide) hn)
  have loop2 : ∀ (m i : Nat) (I' : Nat → Nat → Int32), m = n - i → i ≤ n → Fr [9] I1 I' → CR I' 8 n (dro (mp4 W n c) c i).2 → X G d zX6_dropUseless 100 [(0, vr 111), (1, vr 8), (2, vi (nI W)), (3, vi (nI n)), (4, vi (nI (bts (mp4 W n c) n))), (5, vi (nI (dro (mp4 W n c) c i).1)), (6, vi (nI i))] [] (NC, I', J, layR sw) 0 0 (qi Q) := by
    intro m
    induction m with
    | zero =>
      intro i I' hm him hF hc'
      obtain rfl : i = n := by omega
      have hle := dro_le (mp4 W i c) c i
      refine X_iload dX6_dropUseless_100 rfl ?_
      refine X_iload_n dX6_dropUseless_102 rfl ?_
      refine X_icmp_ge (tgt := 165) dX6_dropUseless_103 (by decide) (fun b => ?_) (fun b => ?_)
      · refine X_aload_n dX6_dropUseless_165 rfl ?_
        refine X_iload dX6_dropUseless_166 rfl ?_
        refine X_putI dX6_dropUseless_168 gf_X6_40 (Or.inl rfl) (by first | assumption | rfl) (by first | assumption | exact Nat.le_of_ble_eq_true rfl | omega) rfl ?_
        refine X_iload_n dX6_dropUseless_171 rfl ?_
        refine X_iload dX6_dropUseless_172 rfl ?_
        first | refine X_isubN dX6_dropUseless_174 (by omega) ?_ | refine X_isub dX6_dropUseless_174 ?_
        refine X_iret dX6_dropUseless_175 rfl ⟨_, rfl, hQ _ ((f1.sub (by simp)).tr ((hF.sub (by simp)).tr (Fr.sr (by simp)))) ⟨?_, fun j hj w hw => ?_⟩⟩
        · rw [sr_eq, up_eq]
        · rw [sr_ne (by decide)]; exact hc'.2 j (by omega) w hw
      · exact absurd (Int32.le_refl _) b
    | succ m ih =>
      intro i I' hm him hF hc'
      have hin : i < n := by omega
      have hle := dro_le (mp4 W n c) c i
      have hdi : (dro (mp4 W n c) c i).2 i = c i := dro_hi _ c i i hle
      have hvd : VC n (dro (mp4 W n c) c i).2 := ⟨hn, fun j hj => by
        by_cases hjl : j < (dro (mp4 W n c) c i).1
        · obtain ⟨k, h1, h2⟩ := dro_in (mp4 W n c) c i j hjl
          rw [h2]; exact hv.2 k (by omega)
        · rw [dro_hi _ c i j (by omega)]; exact hv.2 j hj⟩
      refine X_iload dX6_dropUseless_100 rfl ?_
      refine X_iload_n dX6_dropUseless_102 rfl ?_
      refine X_icmp_ge (tgt := 165) dX6_dropUseless_103 (by decide) (fun b => ?_) (fun b => ?_)
      · exact absurd ((nle (by omega) (by omega)).mp b) (by omega)
      refine X_iload dX6_dropUseless_106 rfl ?_
      refine X_iload dX6_dropUseless_108 rfl ?_
      first | refine X_ishrN dX6_dropUseless_110 (by omega) (by omega) ?_ | refine X_ishr dX6_dropUseless_110 ?_
      refine X_iconst (v := nI 1) dX6_dropUseless_111 (by decide) ?_
      first | refine X_iandN dX6_dropUseless_112 ?_ | refine X_iandC dX6_dropUseless_112 ?_ | refine X_iand dX6_dropUseless_112 ?_
      rw [Nat.and_one_is_mod, bit_mod, bts_bit _ n i hin]
      by_cases hp : mp4 W n c i = true
      · rw [if_pos hp]
        have ih := ih (i + 1) I' (by omega) (by omega) hF (by rw [dro_t hp]; exact hc')
        rw [dro_t hp] at ih
        refine X_if_ne (tgt := 159) dX6_dropUseless_113 (by decide) (fun b113 => ?_) (fun b113 => ?_)
        · first | refine X_iinc1 dX6_dropUseless_159 rfl rfl rfl ?_ | refine X_iinc dX6_dropUseless_159 rfl rfl rfl rfl ?_
          refine X_goto (tgt := 100) dX6_dropUseless_162 (by decide) ?_
          exact ih
        · exact absurd b113 (by decide)
      · rw [if_neg hp]
        refine X_if_ne (tgt := 159) dX6_dropUseless_113 (by decide) (fun b113 => ?_) (fun b113 => ?_)
        · exact absurd rfl b113
        refine X_aload_n dX6_dropUseless_116 rfl ?_
        refine X_iload dX6_dropUseless_117 rfl ?_
        refine X_aload_n dX6_dropUseless_119 rfl ?_
        refine X_iload dX6_dropUseless_120 rfl ?_
        refine X_cVi dX6_dropUseless_122 ck_X6_90 rfl rfl (by first | assumption | rfl) (by first | assumption | exact Nat.le_of_ble_eq_true rfl | omega) (by omega) (Nat.le_of_ble_eq_true rfl) (c_tgt (by omega) cd8 hc' hvd hin ?_)
        rw [hdi, ← enc_n (v := c i 0) (by have := (hv.2 i hin).1; omega)]
        refine X_iconst (v := nI 0) dX6_dropUseless_125 (by decide) ?_
        refine X_cVv dX6_dropUseless_126 ck_X6_61 rfl rfl (by first | assumption | rfl) (by first | assumption | exact Nat.le_of_ble_eq_true rfl | omega) (by omega) (Nat.le_of_ble_eq_true rfl) (c_change cd8 hc' hn (by omega) (by decide) (fun I2 hc2 f2 => ?_))
        have pw : ∀ w, w < 4 → 1 ≤ w → I2 (8 + 1) (i * 4 + w) = enc (c i w) := fun w hw h1 => by
          rw [hc2.2 i hin w hw]
          unfold put1
          rw [if_neg (by omega), hdi]
        refine X_aload_n dX6_dropUseless_129 rfl ?_
        refine X_iload dX6_dropUseless_130 rfl ?_
        refine X_aload_n dX6_dropUseless_132 rfl ?_
        refine X_iload dX6_dropUseless_133 rfl ?_
        refine X_iconst (v := nI 1) dX6_dropUseless_135 (by decide) ?_
        refine X_cVi dX6_dropUseless_136 ck_X6_50 rfl rfl (by first | assumption | rfl) (by first | assumption | exact Nat.le_of_ble_eq_true rfl | omega) (by omega) (Nat.le_of_ble_eq_true rfl) (c_part cd8 hc2.1 hn hin (by decide) ?_)
        rw [pw 1 (by decide) (by decide)]
        refine X_aload_n dX6_dropUseless_139 rfl ?_
        refine X_iload dX6_dropUseless_140 rfl ?_
        refine X_iconst (v := nI 2) dX6_dropUseless_142 (by decide) ?_
        refine X_cVi dX6_dropUseless_143 ck_X6_50 rfl rfl (by first | assumption | rfl) (by first | assumption | exact Nat.le_of_ble_eq_true rfl | omega) (by omega) (Nat.le_of_ble_eq_true rfl) (c_part cd8 hc2.1 hn hin (by decide) ?_)
        rw [pw 2 (by decide) (by decide)]
        refine X_aload_n dX6_dropUseless_146 rfl ?_
        refine X_iload dX6_dropUseless_147 rfl ?_
        refine X_iconst (v := nI 3) dX6_dropUseless_149 (by decide) ?_
        refine X_cVi dX6_dropUseless_150 ck_X6_50 rfl rfl (by first | assumption | rfl) (by first | assumption | exact Nat.le_of_ble_eq_true rfl | omega) (by omega) (Nat.le_of_ble_eq_true rfl) (c_part cd8 hc2.1 hn hin (by decide) ?_)
        rw [pw 3 (by decide) (by decide)]
        refine X_cVv dX6_dropUseless_153 ck_X6_75 rfl rfl (by first | assumption | rfl) (by first | assumption | exact Nat.le_of_ble_eq_true rfl | omega) (by omega) (Nat.le_of_ble_eq_true rfl) (c_rewrite (by omega) cd8 hc2 hn (by omega) (fun I3 hc3 f3 => ?_))
        have ih := ih (i + 1) I3 (by omega) (by omega) ((hF.tr f2).tr f3) (by
          rw [dro_f hp]
          exact hc3.cg (fun j hj w hw => by
            show ext (dro (mp4 W n c) c i).1 (dro (mp4 W n c) c i).2 (c i) j w = _
            unfold ext put1
            by_cases hjl : j = (dro (mp4 W n c) c i).1
            · rw [if_pos hjl]
              rcases (by omega : w = 0 ∨ w = 1 ∨ w = 2 ∨ w = 3) with rfl | rfl | rfl | rfl <;> simp [hjl]
            · rw [if_neg hjl]; simp [hjl]))
        rw [dro_f hp] at ih
        first | refine X_iinc1 dX6_dropUseless_156 rfl rfl rfl ?_ | refine X_iinc dX6_dropUseless_156 rfl rfl rfl rfl ?_
        first | refine X_iinc1 dX6_dropUseless_159 rfl rfl rfl ?_ | refine X_iinc dX6_dropUseless_159 rfl rfl rfl rfl ?_
        refine X_goto (tgt := 100) dX6_dropUseless_162 (by decide) ?_
        exact ih
  have loop1 : ∀ (m i : Nat), m = n - i → i ≤ n → X G d zX6_dropUseless 20 [(0, vr 111), (1, vr 8), (2, vi (nI W)), (3, vi (nI n)), (4, vi (nI (bts (mp4 W n c) i))), (5, vi (nI i))] [] (NC, I1, J, layR sw) 0 0 (qi Q) := by
    intro m
    induction m with
    | zero =>
      intro i hm him
      obtain rfl : i = n := by omega
      refine X_iload dX6_dropUseless_20 rfl ?_
      refine X_iload_n dX6_dropUseless_22 rfl ?_
      refine X_icmp_ge (tgt := 94) dX6_dropUseless_23 (by decide) (fun b => ?_) (fun b => ?_)
      · refine X_iconst (v := nI 0) dX6_dropUseless_94 (by decide) ?_
        refine X_istore dX6_dropUseless_95 rfl rfl ?_
        refine X_iconst (v := nI 0) dX6_dropUseless_97 (by decide) ?_
        refine X_istore dX6_dropUseless_98 rfl rfl ?_
        exact loop2 i 0 I1 rfl (Nat.zero_le i) Fr.rf hc1
      · exact absurd (Int32.le_refl _) b
    | succ m ih =>
      intro i hm him
      have hin : i < n := by omega
      have ht := (hv.2 i hin).1
      have v2 := (hv.2 i hin).2.1
      have ih := ih (i + 1) (by omega) (by omega)
      have hit : mp4 W n c i = true → ∀ x, X G d zX6_dropUseless 79 [(0, vr 111), (1, vr 8), (2, vi (nI W)), (3, vi (nI n)), (4, vi (nI (bts (mp4 W n c) i))), (5, vi (nI i)), (6, vi x)] [] (NC, I1, J, layR sw) 0 0 (qi Q) := by
        intro hp x
        rw [bts_t hp] at ih
        refine X_iload dX6_dropUseless_79 rfl ?_
        refine X_iconst (v := nI 1) dX6_dropUseless_81 (by decide) ?_
        refine X_iload dX6_dropUseless_82 rfl ?_
        first | refine X_ishl1 dX6_dropUseless_84 (by omega) ?_ | refine X_ishl dX6_dropUseless_84 ?_
        first | refine X_iorN dX6_dropUseless_85 ?_ | refine X_ior dX6_dropUseless_85 ?_
        refine X_istore dX6_dropUseless_86 rfl rfl ?_
        first | refine X_iinc1 dX6_dropUseless_88 rfl rfl rfl ?_ | refine X_iinc dX6_dropUseless_88 rfl rfl rfl rfl ?_
        refine X_goto (tgt := 20) dX6_dropUseless_91 (by decide) ?_
        refine weak (lv' := [(0, vr 111), (1, vr 8), (2, vi (nI W)), (3, vi (nI n)), (4, vi (nI (bts (mp4 W n c) i ||| 2 ^ i))), (5, vi (nI (i + 1)))]) (fun q hq => List.mem_append_left _ hq) ?_
        exact ih
      have last : ∀ e : Nat, e < 2 → (e = 1 ↔ (c i 1 = 99 ∧ c i 2 = c i 0)) → X G d zX6_dropUseless 61 [(0, vr 111), (1, vr 8), (2, vi (nI W)), (3, vi (nI n)), (4, vi (nI (bts (mp4 W n c) i))), (5, vi (nI i)), (6, vi (nI e))] [] (NC, I1, J, layR sw) 0 0 (qi Q) := by
        intro e he2 he
        refine X_iload dX6_dropUseless_61 rfl ?_
        refine X_if_ne (tgt := 79) dX6_dropUseless_63 (by decide) (fun b63 => ?_) (fun b63 => ?_)
        · have h1 : e = 1 := by
            have : e ≠ 0 := fun q => b63 (by rw [q]; rfl)
            omega
          exact hit (by simp [mp4, he.mp h1]) _
        have h0 : e = 0 := (neq (b := 0) (by omega) (by decide)).mp b63
        refine X_aload_n dX6_dropUseless_66 rfl ?_
        refine X_getR dX6_dropUseless_67 gf_X6_12 (by first | assumption | rfl) (by first | assumption | exact Nat.le_of_ble_eq_true rfl | omega) rfl (by first | assumption | rfl) ?_
        refine X_aload_n dX6_dropUseless_70 rfl ?_
        refine X_iload dX6_dropUseless_71 rfl ?_
        refine X_cVi dX6_dropUseless_73 ck_X6_93 rfl rfl (by first | assumption | rfl) (by first | assumption | exact Nat.le_of_ble_eq_true rfl | omega) (by omega) (Nat.le_of_ble_eq_true rfl) (c_isDead (by omega) fa112 hc1 hv hin hW (e1 (i + 1) (by omega)) ?_)
        by_cases hb : (liv c W n (i + 1)).testBit (c i 0) = true
        · rw [if_pos hb]
          have hp : ¬ mp4 W n c i = true := by
            have : ¬ (c i 1 = 99 ∧ c i 2 = c i 0) := fun q => by have := he.mpr q; omega
            simp [mp4, hb, this]
          rw [bts_f hp] at ih
          refine X_if_eq (tgt := 88) dX6_dropUseless_76 (by decide) (fun b76 => ?_) (fun b76 => ?_)
          · first | refine X_iinc1 dX6_dropUseless_88 rfl rfl rfl ?_ | refine X_iinc dX6_dropUseless_88 rfl rfl rfl rfl ?_
            refine X_goto (tgt := 20) dX6_dropUseless_91 (by decide) ?_
            refine weak (lv' := [(0, vr 111), (1, vr 8), (2, vi (nI W)), (3, vi (nI n)), (4, vi (nI (bts (mp4 W n c) i))), (5, vi (nI (i + 1)))]) (fun q hq => List.mem_append_left _ hq) ?_
            exact ih
          · exact absurd rfl b76
        · rw [if_neg hb]
          refine X_if_eq (tgt := 88) dX6_dropUseless_76 (by decide) (fun b76 => ?_) (fun b76 => ?_)
          · exact absurd b76 (by decide)
          · exact hit (by simp [mp4, hb]) _
      refine X_iload dX6_dropUseless_20 rfl ?_
      refine X_iload_n dX6_dropUseless_22 rfl ?_
      refine X_icmp_ge (tgt := 94) dX6_dropUseless_23 (by decide) (fun b => ?_) (fun b => ?_)
      · exact absurd ((nle (by omega) (by omega)).mp b) (by omega)
      refine X_aload_n dX6_dropUseless_26 rfl ?_
      refine X_iload dX6_dropUseless_27 rfl ?_
      refine X_iconst (v := nI 1) dX6_dropUseless_29 (by decide) ?_
      refine X_cVi dX6_dropUseless_30 ck_X6_50 rfl rfl (by first | assumption | rfl) (by first | assumption | exact Nat.le_of_ble_eq_true rfl | omega) (by omega) (Nat.le_of_ble_eq_true rfl) (c_part cd8 hc1.1 hn hin (by decide) ?_)
      rw [show I1 (8 + 1) (i * 4 + 1) = enc (c i 1) from hc1.2 i hin 1 (by decide)]
      refine X_bipush (v := (-6)) dX6_dropUseless_33 (by decide) ?_
      rcases (hv.2 i hin).2.2 with ⟨q1, q3⟩ | ⟨q1, q3⟩
      · rw [q1]
        refine X_icmp_ne (tgt := 58) dX6_dropUseless_35 (by decide) (fun b35 => ?_) (fun b35 => ?_)
        · exact absurd rfl b35
        refine X_aload_n dX6_dropUseless_38 rfl ?_
        refine X_iload dX6_dropUseless_39 rfl ?_
        refine X_iconst (v := nI 2) dX6_dropUseless_41 (by decide) ?_
        refine X_cVi dX6_dropUseless_42 ck_X6_50 rfl rfl (by first | assumption | rfl) (by first | assumption | exact Nat.le_of_ble_eq_true rfl | omega) (by omega) (Nat.le_of_ble_eq_true rfl) (c_part cd8 hc1.1 hn hin (by decide) ?_)
        rw [show I1 (8 + 1) (i * 4 + 2) = enc (c i 2) from hc1.2 i hin 2 (by decide), enc_n (by unfold opd at v2; omega)]
        refine X_aload_n dX6_dropUseless_45 rfl ?_
        refine X_iload dX6_dropUseless_46 rfl ?_
        refine X_cVi dX6_dropUseless_48 ck_X6_90 rfl rfl (by first | assumption | rfl) (by first | assumption | exact Nat.le_of_ble_eq_true rfl | omega) (by omega) (Nat.le_of_ble_eq_true rfl) (c_tgt (by omega) cd8 hc1 hv hin ?_)
        refine X_icmp_ne (tgt := 58) dX6_dropUseless_51 (by decide) (fun b51 => ?_) (fun b51 => ?_)
        · refine X_iconst (v := nI 0) dX6_dropUseless_58 (by decide) ?_
          refine X_istore dX6_dropUseless_59 rfl rfl ?_
          exact last 0 (by decide) ⟨fun q => by omega, fun q => absurd (by rw [q.2]) b51⟩
        · have := (neq (by unfold opd at v2; omega) (by omega)).mp b51
          refine X_iconst (v := nI 1) dX6_dropUseless_54 (by decide) ?_
          refine X_goto (tgt := 59) dX6_dropUseless_55 (by decide) ?_
          refine X_istore dX6_dropUseless_59 rfl rfl ?_
          exact last 1 (by decide) ⟨fun _ => ⟨q1, this⟩, fun _ => rfl⟩
      · refine X_icmp_ne (tgt := 58) dX6_dropUseless_35 (by decide) (fun b35 => ?_) (fun b35 => ?_)
        · refine X_iconst (v := nI 0) dX6_dropUseless_58 (by decide) ?_
          refine X_istore dX6_dropUseless_59 rfl rfl ?_
          exact last 0 (by decide) ⟨fun q => by omega, fun q => absurd q.1 (enc_act q1).1⟩
        · exact absurd b35 (enc_act q1).2
  exact loop1 n 0 rfl (Nat.zero_le n)
set_option maxRecDepth 20000 in
theorem c_mendOnce {Q : Int32 → Mm → Prop} {k : Nat} (hd : 5 ≤ d) (hc : CR I 8 n c) (hv : VC n c) (hW : W < 16) (hk1 : 1 ≤ k) (hk4 : k ≤ 4) (hQ : ∀ I', Fr [8, 9, 112, 113, 114, 115, 116, 117, 118, 119, 120] I I' → CR I' 8 (mdC W (n, c) k).2.1 (mdC W (n, c) k).2.2 → Q (nI (mdC W (n, c) k).1) (NC, I', J, layR sw)) : Y G d zX6_mendOnce [vr 111, vi (nI k), vr 8, vi (nI W)] (NC, I, J, layR sw) 0 0 (qi Q) := by
  refine Y_of rfl rfl (Nat.le_of_ble_eq_true rfl) rfl ?_
  refine X_iload_n dX6_mendOnce_0 rfl ?_
  rcases (by omega : k = 1 ∨ k = 2 ∨ k = 3 ∨ k = 4) with rfl | rfl | rfl | rfl
  · refine X_tableIn (off := 27) (tgt := 28) dX6_mendOnce_1 (by decide) (by decide) (by decide) (by decide) ?_
    refine X_aload_n dX6_mendOnce_28 rfl ?_
    refine X_aload_n dX6_mendOnce_29 rfl ?_
    refine X_cVi dX6_mendOnce_30 ck_X6_18 rfl rfl (by first | assumption | rfl) (by first | assumption | exact Nat.le_of_ble_eq_true rfl | omega) (by omega) (Nat.le_of_ble_eq_true rfl) (c_writeKnown (by omega) hc hv (fun I' hF hc' => ?_))
    exact X_iret dX6_mendOnce_33 rfl ⟨_, rfl, hQ I' (hF.sub (by simp)) hc'⟩
  · refine X_tableIn (off := 33) (tgt := 34) dX6_mendOnce_1 (by decide) (by decide) (by decide) (by decide) ?_
    refine X_aload_n dX6_mendOnce_34 rfl ?_
    refine X_aload_n dX6_mendOnce_35 rfl ?_
    refine X_cVi dX6_mendOnce_36 ck_X6_22 rfl rfl (by first | assumption | rfl) (by first | assumption | exact Nat.le_of_ble_eq_true rfl | omega) (by omega) (Nat.le_of_ble_eq_true rfl) (c_workOutDigits (by omega) hc hv (fun I' hF hc' => ?_))
    exact X_iret dX6_mendOnce_39 rfl ⟨_, rfl, hQ I' (hF.sub (by simp)) hc'⟩
  · refine X_tableIn (off := 39) (tgt := 40) dX6_mendOnce_1 (by decide) (by decide) (by decide) (by decide) ?_
    refine X_aload_n dX6_mendOnce_40 rfl ?_
    refine X_aload_n dX6_mendOnce_41 rfl ?_
    refine X_cVi dX6_mendOnce_42 ck_X6_25 rfl rfl (by first | assumption | rfl) (by first | assumption | exact Nat.le_of_ble_eq_true rfl | omega) (by omega) (Nat.le_of_ble_eq_true rfl) (c_copyNeedless (by omega) hc hv (fun I' hF hc' => ?_))
    exact X_iret dX6_mendOnce_45 rfl ⟨_, rfl, hQ I' (hF.sub (by simp)) hc'⟩
  · refine X_tableOut (tgt := 46) dX6_mendOnce_1 (Or.inr (by decide)) (by decide) ?_
    refine X_aload_n dX6_mendOnce_46 rfl ?_
    refine X_aload_n dX6_mendOnce_47 rfl ?_
    refine X_iload_n dX6_mendOnce_48 rfl ?_
    refine X_cVi dX6_mendOnce_49 ck_X6_28 rfl rfl (by first | assumption | rfl) (by first | assumption | exact Nat.le_of_ble_eq_true rfl | omega) (by omega) (Nat.le_of_ble_eq_true rfl) (c_dropUseless (by omega) hc hv hW (fun I' hF hc' => ?_))
    exact X_iret dX6_mendOnce_52 rfl ⟨_, rfl, hQ I' (hF.sub (by simp)) hc'⟩
/-- another code on the desk -/
def setC (s : SS) (C : CC) : SS := (s.1, (C, s.2.1.2), s.2.2)
theorem CInv_code {I' : Nat → Nat → Int32} {l : List Nat} {C : CC} (hi : CInv I s) (hv : VSt s) (hF : Fr l I I') (hl : l.all (fun k => decide (k = 8) || decide (k = 9) || decide (102 ≤ k)) = true) (hc : CR I' 8 C.1 C.2) : CInv I' (setC s C) := by
  have hh : ∀ j, j < 102 → j ≠ 8 → j ≠ 9 → I' j = I j := fun j h1 h2 h3 => hF j (fun q => by
    have := List.all_eq_true.mp hl j q
    simp only [Bool.or_eq_true, decide_eq_true_eq] at this
    omega)
  have hN := hv.2.1.2.2.2.2.1
  refine ⟨hi.1.fr (by rw [hh 1 (by omega) (by omega) (by omega)]) (hh 2 (by omega) (by omega) (by omega)), ?_, hi.2.2.fr hv (fun j a b => hh j (by omega) (by omega) (by omega))⟩
  obtain ⟨h1, h2, h3, h4, h5, h6⟩ := hi.2.1
  refine ⟨hc, h2.fr (by rw [hh (7 + 3) (by omega) (by omega) (by omega)]) (hh _ (by omega) (by omega) (by omega)), by rw [hh 7 (by omega) (by omega) (by omega)]; exact h3, fun j hj => by rw [hh (7 + 6) (by omega) (by omega) (by omega)]; exact h4 j hj, by rw [hh 7 (by omega) (by omega) (by omega)]; exact h5, fun j hj => ?_⟩
  have hj : j < dN s.2.1 := hj
  exact ⟨(h6 j hj).1.fr (by rw [hh _ (by omega) (by omega) (by omega)]) (hh _ (by omega) (by omega) (by omega)), (h6 j hj).2.fr (by rw [hh _ (by omega) (by omega) (by omega)]) (hh _ (by omega) (by omega) (by omega))⟩
theorem VSt_code {C : CC} (hv : VSt s) (h : VC C.1 C.2) : VSt (setC s C) := ⟨hv.1, ⟨h, hv.2.1.2⟩, hv.2.2⟩
def sp_mend (s : SS) (x : Int32) : Int32 × SS := if x < nI 1 ∨ nI 4 < x then (-2, s) else (nI (mdC (dW s.2.1) (dC s.2.1) x.toNatClampNeg).1, setC s (mdC (dW s.2.1) (dC s.2.1) x.toNatClampNeg).2)
set_option maxRecDepth 20000 in
theorem C_mend {x : Int32} (hd : 6 ≤ d) (hv : VSt s) (hi : CInv I s) : Y G d zX11_mend [vr 0, vi x] (NC, I, J, layR sw) 0 0 (qi (PC (sp_mend s x).2 (sp_mend s x).1 I J)) := by
  have hW := hv.2.1.2.2.1.2
  refine Y_of rfl rfl (Nat.le_of_ble_eq_true rfl) rfl ?_
  unfold sp_mend
  refine X_iload_n dX11_mend_0 rfl ?_
  refine X_iconst (v := nI 1) dX11_mend_1 (by decide) ?_
  refine X_icmp_lt (tgt := 10) dX11_mend_2 (by decide) (fun b => ?_) (fun b => ?_)
  · rw [if_pos (Or.inl b)]
    refine X_bipush (v := (-2)) dX11_mend_10 (by decide) ?_
    exact X_iret dX11_mend_12 rfl ⟨_, rfl, PC_same hi⟩
  refine X_iload_n dX11_mend_5 rfl ?_
  refine X_iconst (v := nI 4) dX11_mend_6 (by decide) ?_
  refine X_icmp_le (tgt := 13) dX11_mend_7 (by decide) (fun b7 => ?_) (fun b7 => ?_)
  · rw [if_neg (fun q => q.elim b (fun q => absurd b7 (Int32.not_le.mpr q)))]
    obtain ⟨a, a1, a2, rfl⟩ := in1 (by decide) b b7
    rw [nI_clamp (by omega)]
    refine X_aload_n dX11_mend_13 rfl ?_
    refine X_getR dX11_mend_14 gf_X11_41 (by first | assumption | rfl) (by first | assumption | exact Nat.le_of_ble_eq_true rfl | omega) rfl (by first | assumption | rfl) ?_
    refine X_iload_n dX11_mend_17 rfl ?_
    refine X_aload_n dX11_mend_18 rfl ?_
    refine X_getR dX11_mend_19 gf_X11_19 (by first | assumption | rfl) (by first | assumption | exact Nat.le_of_ble_eq_true rfl | omega) rfl (by first | assumption | rfl) ?_
    refine X_getR dX11_mend_22 gf_X11_106 (by first | assumption | rfl) (by first | assumption | exact Nat.le_of_ble_eq_true rfl | omega) rfl (by first | assumption | rfl) ?_
    refine X_aload_n dX11_mend_25 rfl ?_
    refine X_getR dX11_mend_26 gf_X11_19 (by first | assumption | rfl) (by first | assumption | exact Nat.le_of_ble_eq_true rfl | omega) rfl (by first | assumption | rfl) ?_
    refine X_getI dX11_mend_29 gf_X11_120 (by first | assumption | rfl) (by first | assumption | exact Nat.le_of_ble_eq_true rfl | omega) rfl ?_
    rw [hi.2.1.2.2.1]
    refine X_cVi dX11_mend_32 ck_X11_177 rfl rfl (by first | assumption | rfl) (by first | assumption | exact Nat.le_of_ble_eq_true rfl | omega) (by omega) (Nat.le_of_ble_eq_true rfl) (c_mendOnce (by omega) hi.2.1.1 hv.2.1.1 (by omega) a1 a2 (fun I' hF hc' => ?_))
    exact X_iret dX11_mend_35 rfl ⟨_, rfl, PC_mk (CInv_code hi hv hF (by decide) hc') _ hF (by decide)⟩
  · rw [if_pos (Or.inr (Int32.not_le.mp b7))]
    refine X_bipush (v := (-2)) dX11_mend_10 (by decide) ?_
    exact X_iret dX11_mend_12 rfl ⟨_, rfl, PC_same hi⟩
end CM
