section CL
variable {G : GG} {d : Nat} {sw : Bool} {I : Nat → Nat → Int32} {J : Nat → Nat → Int64} {s : SS} {n W : Nat} {c : Nat → Nat → Nat}
theorem or_idem (a b : Nat) : (a ||| b) ||| b = a ||| b := by rw [Nat.or_assoc, Nat.or_self]
set_option maxRecDepth 20000 in
set_option maxHeartbeats 1000000 in
theorem c_follow {Q : Mm → Prop} (hd : 4 ≤ d) (hc : CR I 8 n c) (hv : VC n c) (hQ : ∀ I', Fr [122, 123, 124, 125, 126, 127] I I' → LK I' n c → Q (NC, I', J, layR sw)) : Y G d zX5_follow [vr 121, vr 8] (NC, I, J, layR sw) 0 0 (qv Q) := by
  have hn := hv.1
  have loop2 : ∀ (m i : Nat) (I' : Nat → Nat → Int32), m = n - i → i ≤ n → Fr [122, 123, 124, 125, 126, 127] I I' → LK I' i c → X G d zX5_follow 38 [(0, vr 121), (1, vr 8), (2, vi (nI i))] [] (NC, I', J, layR sw) 0 0 (qv Q) := by
    intro m
    induction m with
    | zero =>
      intro i I' hm him hF hL
      have hc' : CR I' 8 n c := CR_fr hc hF (by simp) (by simp)
      obtain rfl : i = n := by omega
      refine X_iload_n dX5_follow_38 rfl ?_
      refine X_aload_n dX5_follow_39 rfl ?_
      refine X_getI dX5_follow_40 gf_X5_36 (by first | assumption | rfl) (by first | assumption | exact Nat.le_of_ble_eq_true rfl | omega) rfl ?_
      rw [hc'.1]
      refine X_icmp_ge (tgt := 131) dX5_follow_43 (by decide) (fun b => ?_) (fun b => ?_)
      · exact X_vret dX5_follow_131 rfl ⟨rfl, hQ I' hF hL⟩
      · exact absurd (Int32.le_refl _) b
    | succ m ih =>
      intro i I' hm him hF hL
      have hc' : CR I' 8 n c := CR_fr hc hF (by simp) (by simp)
      have hin : i < n := by omega
      obtain ⟨v0, v2, v3⟩ := hv.2 i hin
      obtain ⟨a1, a2, a3⟩ := hL
      refine X_iload_n dX5_follow_38 rfl ?_
      refine X_aload_n dX5_follow_39 rfl ?_
      refine X_getI dX5_follow_40 gf_X5_36 (by first | assumption | rfl) (by first | assumption | exact Nat.le_of_ble_eq_true rfl | omega) rfl ?_
      rw [hc'.1]
      refine X_icmp_ge (tgt := 131) dX5_follow_43 (by decide) (fun b => ?_) (fun b => ?_)
      · exact absurd ((nle (by omega) (by omega)).mp b) (by omega)
      refine X_aload_n dX5_follow_46 rfl ?_
      refine X_getR dX5_follow_47 gf_X5_18 (by first | assumption | rfl) (by first | assumption | exact Nat.le_of_ble_eq_true rfl | omega) rfl (by first | assumption | rfl) ?_
      refine X_iload_n dX5_follow_50 rfl ?_
      refine X_iconst (v := nI 0) dX5_follow_51 (by decide) ?_
      refine X_iast dX5_follow_52 (by first | assumption | rfl) (by first | assumption | exact Nat.le_of_ble_eq_true rfl | omega) rfl (by first | decide | omega) (by decide) ?_
      refine X_aload_n dX5_follow_53 rfl ?_
      refine X_iload_n dX5_follow_54 rfl ?_
      refine X_iconst (v := nI 0) dX5_follow_55 (by decide) ?_
      refine X_aload_n dX5_follow_56 rfl ?_
      refine X_iload_n dX5_follow_57 rfl ?_
      refine X_iconst (v := nI 2) dX5_follow_58 (by decide) ?_
      generalize hI1 : sr I' 124 (up (I' 124) i (nI 0)) = I1
      have o1 : ∀ k, k ≠ 124 → I1 k = I' k := fun k h => by rw [← hI1, sr_ne h]
      have hc1 : CR I1 8 n c := hc'.fr (by rw [o1 8 (by decide)]) (o1 9 (by decide))
      refine X_cVi dX5_follow_59 ck_X5_42 rfl rfl (by first | assumption | rfl) (by first | assumption | exact Nat.le_of_ble_eq_true rfl | omega) (by omega) (Nat.le_of_ble_eq_true rfl) (c_part cd8 hc1.1 hn hin (by decide) ?_)
      rw [show I1 (8 + 1) (i * 4 + 2) = enc (c i 2) from hc1.2 i hin 2 (by decide)]
      refine X_cVv dX5_follow_62 ck_X5_46 rfl rfl (by first | assumption | rfl) (by first | assumption | exact Nat.le_of_ble_eq_true rfl | omega) (by omega) (Nat.le_of_ble_eq_true rfl) (c_noteReading (c := c) (R := rdr c i) (N := rdg c i) (E := 0) (by omega) (by omega) (by decide) (Or.inl v2) (fun r h => by rw [o1 122 (by decide)]; exact a1 i (Nat.le_refl i) r h) (fun v h => by rw [o1 126 (by decide), o1 127 (by decide)]; exact a3 v h) (by rw [← hI1, sr_eq, up_eq]) (fun I2 f2 p1 p2 p3 p4 => ?_))
      have hc2 : CR I2 8 n c := CR_fr hc1 f2 (by simp) (by simp)
      refine X_aload_n dX5_follow_65 rfl ?_
      refine X_iload_n dX5_follow_66 rfl ?_
      refine X_iconst (v := nI 1) dX5_follow_67 (by decide) ?_
      refine X_aload_n dX5_follow_68 rfl ?_
      refine X_iload_n dX5_follow_69 rfl ?_
      refine X_iconst (v := nI 3) dX5_follow_70 (by decide) ?_
      refine X_cVi dX5_follow_71 ck_X5_42 rfl rfl (by first | assumption | rfl) (by first | assumption | exact Nat.le_of_ble_eq_true rfl | omega) (by omega) (Nat.le_of_ble_eq_true rfl) (c_part cd8 hc2.1 hn hin (by decide) ?_)
      rw [show I2 (8 + 1) (i * 4 + 3) = enc (c i 3) from hc2.2 i hin 3 (by decide)]
      refine X_cVv dX5_follow_74 ck_X5_46 rfl rfl (by first | assumption | rfl) (by first | assumption | exact Nat.le_of_ble_eq_true rfl | omega) (by omega) (Nat.le_of_ble_eq_true rfl) (c_noteReading (c := c) (E := 0 ||| nb (srcv c i (c i 2))) (by omega) (by omega) (by decide) (v3.elim (fun q => Or.inr q.2) (fun q => Or.inl q.2)) (fun r h => by rw [f2 122 (by simp), o1 122 (by decide)]; exact a1 i (Nat.le_refl i) r h) p4 p3 (fun I3 f3 q1 q2 q3 q4 => ?_))
      have hc3 : CR I3 8 n c := CR_fr hc2 f3 (by simp) (by simp)
      refine X_aload_n dX5_follow_77 rfl ?_
      refine X_getR dX5_follow_78 gf_X5_21 (by first | assumption | rfl) (by first | assumption | exact Nat.le_of_ble_eq_true rfl | omega) rfl (by first | assumption | rfl) ?_
      refine X_iload_n dX5_follow_81 rfl ?_
      refine X_aload_n dX5_follow_82 rfl ?_
      refine X_iload_n dX5_follow_83 rfl ?_
      refine X_cSi dX5_follow_84 ck_X5_50 rfl rfl (by omega) (Nat.le_of_ble_eq_true rfl) (c_usersAhead (by omega) hc3 hv hin ?_)
      refine X_iast dX5_follow_87 (by first | assumption | rfl) (by first | assumption | exact Nat.le_of_ble_eq_true rfl | omega) rfl (by first | decide | omega) (by decide) ?_
      refine X_iload_n dX5_follow_88 rfl ?_
      refine X_iconst (v := nI 4) dX5_follow_89 (by decide) ?_
      first | refine X_imulN dX5_follow_90 ?_ | refine X_imul dX5_follow_90 ?_
      refine X_istore_n dX5_follow_91 rfl rfl ?_
      refine X_aload_n dX5_follow_92 rfl ?_
      refine X_getR dX5_follow_93 gf_X5_9 (by first | assumption | rfl) (by first | assumption | exact Nat.le_of_ble_eq_true rfl | omega) rfl (by first | assumption | rfl) ?_
      refine X_iload_n dX5_follow_96 rfl ?_
      refine X_aload_n dX5_follow_97 rfl ?_
      refine X_getR dX5_follow_98 gf_X5_9 (by first | assumption | rfl) (by first | assumption | exact Nat.le_of_ble_eq_true rfl | omega) rfl (by first | assumption | rfl) ?_
      refine X_iload_n dX5_follow_101 rfl ?_
      refine X_iconst (v := nI 4) dX5_follow_102 (by decide) ?_
      first | refine X_iaddN dX5_follow_103 ?_ | refine X_iadd dX5_follow_103 ?_
      refine X_iconst (v := nI 4) dX5_follow_104 (by decide) ?_
      first | refine X_copyI dX5_follow_105 ac_X5_54 ac_2 ac_3 ac_4 (by first | assumption | rfl) (by first | assumption | rfl) (by first | assumption | exact Nat.le_of_ble_eq_true rfl | omega) (by first | assumption | exact Nat.le_of_ble_eq_true rfl | omega) rfl rfl rfl (by omega) (by omega) (by decide) (by decide) (by omega) (Nat.le_of_ble_eq_true rfl) ?_ | refine X_copyL dX5_follow_105 ac_X5_54 ac_2 ac_3 ac_4 (by first | assumption | rfl) (by first | assumption | rfl) (by first | assumption | exact Nat.le_of_ble_eq_true rfl | omega) (by first | assumption | exact Nat.le_of_ble_eq_true rfl | omega) rfl rfl rfl (by omega) (by omega) (by decide) (by decide) (by omega) (Nat.le_of_ble_eq_true rfl) ?_
      refine X_aload_n dX5_follow_108 rfl ?_
      refine X_getR dX5_follow_109 gf_X5_9 (by first | assumption | rfl) (by first | assumption | exact Nat.le_of_ble_eq_true rfl | omega) rfl (by first | assumption | rfl) ?_
      refine X_iload_n dX5_follow_112 rfl ?_
      refine X_iconst (v := nI 4) dX5_follow_113 (by decide) ?_
      first | refine X_iaddN dX5_follow_114 ?_ | refine X_iadd dX5_follow_114 ?_
      refine X_aload_n dX5_follow_115 rfl ?_
      refine X_iload_n dX5_follow_116 rfl ?_
      generalize hI4 : sr I3 125 (up (I3 125) i (nI (awt c i))) = I4
      have o4 : ∀ k, k ≠ 125 → I4 k = I3 k := fun k h => by rw [← hI4, sr_ne h]
      have g122 : I4 122 = I' 122 := by rw [o4 122 (by decide), f3 122 (by simp), f2 122 (by simp), o1 122 (by decide)]
      generalize hI5 : sr I4 122 (va_cpy (I4 122) (I4 122) (i * 4) (i * 4 + 4) 4) = I5
      have o5 : ∀ k, k ≠ 122 → I5 k = I4 k := fun k h => by rw [← hI5, sr_ne h]
      have e2 : ∀ p, p ≤ i → ∀ r, r < 4 → I5 122 (p * 4 + r) = nI (vlu c p r) := fun p h1 r h2 => by
        rw [← hI5, sr_eq, g122]
        unfold va_cpy
        rw [if_neg (by omega)]
        exact a1 p h1 r h2
      have e3 : ∀ r, r < 4 → I5 122 ((i + 1) * 4 + r) = nI (vlu c i r) := fun r h2 => by
        rw [← hI5, sr_eq, g122]
        unfold va_cpy
        rw [if_pos (by omega), show i * 4 + ((i + 1) * 4 + r - (i * 4 + 4)) = i * 4 + r by omega]
        exact a1 i (Nat.le_refl i) r h2
      have hc5 : CR I5 8 n c := hc3.fr (by rw [o5 8 (by decide), o4 8 (by decide)]) (by rw [o5 9 (by decide), o4 9 (by decide)])
      refine X_cVi dX5_follow_117 ck_X5_60 rfl rfl (by first | assumption | rfl) (by first | assumption | exact Nat.le_of_ble_eq_true rfl | omega) (by omega) (Nat.le_of_ble_eq_true rfl) (c_tgt (by omega) cd8 hc5 hv hin ?_)
      first | refine X_iaddN dX5_follow_120 ?_ | refine X_iadd dX5_follow_120 ?_
      refine X_iconst (v := nI 4) dX5_follow_121 (by decide) ?_
      refine X_iload_n dX5_follow_122 rfl ?_
      first | refine X_iaddN dX5_follow_123 ?_ | refine X_iadd dX5_follow_123 ?_
      refine X_iast dX5_follow_124 (by first | assumption | rfl) (by first | assumption | exact Nat.le_of_ble_eq_true rfl | omega) rfl (by first | decide | omega) (by decide) ?_
      first | refine X_iinc1 dX5_follow_125 rfl rfl rfl ?_ | refine X_iinc dX5_follow_125 rfl rfl rfl rfl ?_
      refine X_goto (tgt := 38) dX5_follow_128 (by decide) ?_
      refine weak (lv' := [(0, vr 121), (1, vr 8), (2, vi (nI (i + 1)))]) (fun q hq => List.mem_append_left _ hq) ?_
      have t1 : Fr [122, 123, 124, 125, 126, 127] I' I1 := by rw [← hI1]; exact Fr.sr (by simp)
      have t4 : Fr [122, 123, 124, 125, 126, 127] I3 I4 := by rw [← hI4]; exact Fr.sr (by simp)
      have t5 : Fr [122, 123, 124, 125, 126, 127] I4 I5 := by rw [← hI5]; exact Fr.sr (by simp)
      have hF6 : Fr [122, 123, 124, 125, 126, 127] I I5 := ((((hF.tr t1).tr (f2.sub (by simp))).tr (f3.sub (by simp))).tr t4).tr t5
      refine ih (i + 1) _ (by omega) (by omega) (hF6.tr (Fr.sr (by simp))) ⟨fun p h1 r h2 => ?_, fun k hk => ?_, fun v hvv => ?_⟩
      · rw [sr_eq]
        by_cases hpi : p = i + 1
        · subst hpi
          show _ = nI (up (vlu c i) (c i 0) (4 + i) r)
          by_cases hrt : r = c i 0
          · rw [hrt, show (i + 1) * 4 + c i 0 = i * 4 + 4 + c i 0 by omega, up_eq, up_eq]
          · rw [up_ne (by omega), up_ne hrt]
            exact e3 r h2
        · rw [up_ne (by omega)]
          exact e2 p (by omega) r h2
      · rw [sr_ne (show 123 ≠ 122 by decide), sr_ne (show 124 ≠ 122 by decide), sr_ne (show 125 ≠ 122 by decide), o5 123 (by decide), o5 124 (by decide), o5 125 (by decide), o4 123 (by decide), o4 124 (by decide), ← hI4, sr_eq, q1, q1, f3 125 (by simp), f2 125 (by simp), o1 125 (by decide)]
        by_cases hki : k = i
        · subst hki
          refine ⟨?_, ?_, ?_, ?_⟩
          · rw [up_ne (by omega), p1, show 2 * k = 2 * k + 0 from rfl, up_eq]
          · rw [up_eq]
          · rw [q3, Nat.zero_or]; rfl
          · rw [up_eq]
        · obtain ⟨b1, b2, b3, b4⟩ := a2 k (by omega)
          refine ⟨?_, ?_, ?_, ?_⟩
          · rw [up_ne (by omega), p1, up_ne (by omega), o1 123 (by decide)]; exact b1
          · rw [up_ne (by omega), p1, up_ne (by omega), o1 123 (by decide)]; exact b2
          · rw [q2 k hki, p2 k hki, ← hI1, sr_eq, up_ne hki]; exact b3
          · rw [up_ne hki]; exact b4
      · rw [sr_ne (show 126 ≠ 122 by decide), sr_ne (show 127 ≠ 122 by decide), o5 126 (by decide), o5 127 (by decide), o4 126 (by decide), o4 127 (by decide), (q4 v hvv).1, (q4 v hvv).2]
        refine ⟨?_, ?_⟩
        · congr 1
          show _ = rdr c (i + 1) v
          unfold rdr
          by_cases h1 : v = srcv c i (c i 2)
          · rw [bts_t (by simp [← h1]), if_pos h1]
            by_cases h2 : v = srcv c i (c i 3)
            · rw [if_pos h2, or_idem]
            · rw [if_neg h2]
          · rw [if_neg h1]
            by_cases h2 : v = srcv c i (c i 3)
            · rw [bts_t (by simp [← h2]), if_pos h2]
            · rw [bts_f (by simp [Ne.symm h1, Ne.symm h2]), if_neg h2]
        · congr 1
          show _ = rdg c i v + (if v = srcv c i (c i 2) then 1 else 0) + (if v = srcv c i (c i 3) then 1 else 0)
          by_cases h1 : v = srcv c i (c i 2)
          · by_cases h2 : v = srcv c i (c i 3)
            · rw [if_pos h1, if_pos h2, if_pos h1, if_pos h2]
            · rw [if_pos h1, if_neg h2, if_pos h1, if_neg h2]
          · by_cases h2 : v = srcv c i (c i 3)
            · rw [if_neg h1, if_pos h2, if_neg h1, if_pos h2]
            · rw [if_neg h1, if_neg h2, if_neg h1, if_neg h2]; rfl
  have loop1 : ∀ (m i : Nat) (I' : Nat → Nat → Int32), m = 4 - i → i ≤ 4 → Fr [122, 123, 124, 125, 126, 127] I I' → (∀ r, r < i → I' 122 r = nI r) → (∀ v, v < 16 → I' 126 v = nI 0 ∧ I' 127 v = nI 0) → X G d zX5_follow 18 [(0, vr 121), (1, vr 8), (2, vi (nI i))] [] (NC, I', J, layR sw) 0 0 (qv Q) := by
    intro m
    induction m with
    | zero =>
      intro i I' hm him hF hr hz
      obtain rfl : i = 4 := by omega
      refine X_iload_n dX5_follow_18 rfl ?_
      refine X_iconst (v := nI 4) dX5_follow_19 (by decide) ?_
      refine X_icmp_ge (tgt := 36) dX5_follow_20 (by decide) (fun b => ?_) (fun b => ?_)
      · refine X_iconst (v := nI 0) dX5_follow_36 (by decide) ?_
        refine X_istore_n dX5_follow_37 rfl rfl ?_
        refine loop2 n 0 I' rfl (Nat.zero_le n) hF ⟨fun p h1 r h2 => ?_, fun k hk => absurd hk (Nat.not_lt_zero k), hz⟩
        obtain rfl : p = 0 := by omega
        rw [Nat.zero_mul, Nat.zero_add]
        exact hr r h2
      · exact absurd (by decide) b
    | succ m ih =>
      intro i I' hm him hF hr hz
      refine X_iload_n dX5_follow_18 rfl ?_
      refine X_iconst (v := nI 4) dX5_follow_19 (by decide) ?_
      refine X_icmp_ge (tgt := 36) dX5_follow_20 (by decide) (fun b => ?_) (fun b => ?_)
      · exact absurd ((nle (by omega) (by omega)).mp b) (by omega)
      refine X_aload_n dX5_follow_23 rfl ?_
      refine X_getR dX5_follow_24 gf_X5_9 (by first | assumption | rfl) (by first | assumption | exact Nat.le_of_ble_eq_true rfl | omega) rfl (by first | assumption | rfl) ?_
      refine X_iload_n dX5_follow_27 rfl ?_
      refine X_iload_n dX5_follow_28 rfl ?_
      refine X_iast dX5_follow_29 (by first | assumption | rfl) (by first | assumption | exact Nat.le_of_ble_eq_true rfl | omega) rfl (by first | decide | omega) (by decide) ?_
      first | refine X_iinc1 dX5_follow_30 rfl rfl rfl ?_ | refine X_iinc dX5_follow_30 rfl rfl rfl rfl ?_
      refine X_goto (tgt := 18) dX5_follow_33 (by decide) ?_
      refine ih (i + 1) _ (by omega) (by omega) (hF.tr (Fr.sr (by simp))) (fun r h => ?_) (fun v h => by rw [sr_ne (by decide), sr_ne (by decide)]; exact hz v h)
      rw [sr_eq]
      by_cases hri : r = i
      · rw [hri, up_eq]
      · rw [up_ne hri]; exact hr r (by omega)
  refine Y_of rfl rfl (Nat.le_of_ble_eq_true rfl) rfl ?_
  refine X_aload_n dX5_follow_0 rfl ?_
  refine X_getR dX5_follow_1 gf_X5_24 (by first | assumption | rfl) (by first | assumption | exact Nat.le_of_ble_eq_true rfl | omega) rfl (by first | assumption | rfl) ?_
  refine X_iconst (v := nI 0) dX5_follow_4 (by decide) ?_
  refine X_cSv dX5_follow_5 ck_X5_30 rfl rfl (by omega) (Nat.le_of_ble_eq_true rfl) (c_fill rfl (by decide) (by decide) (fun I1 f1 e1 => ?_))
  refine X_aload_n dX5_follow_8 rfl ?_
  refine X_getR dX5_follow_9 gf_X5_27 (by first | assumption | rfl) (by first | assumption | exact Nat.le_of_ble_eq_true rfl | omega) rfl (by first | assumption | rfl) ?_
  refine X_iconst (v := nI 0) dX5_follow_12 (by decide) ?_
  refine X_cSv dX5_follow_13 ck_X5_30 rfl rfl (by omega) (Nat.le_of_ble_eq_true rfl) (c_fill rfl (by decide) (by decide) (fun I2 f2 e2 => ?_))
  refine X_iconst (v := nI 0) dX5_follow_16 (by decide) ?_
  refine X_istore_n dX5_follow_17 rfl rfl ?_
  exact loop1 4 0 I2 rfl (by decide) ((f1.sub (by simp)).tr (f2.sub (by simp))) (fun r h => absurd h (Nat.not_lt_zero r)) (fun v h => ⟨by rw [f2 126 (by simp)]; exact e1 v h, e2 v h⟩)
set_option maxRecDepth 20000 in
theorem c_mustFollow {Q : Int32 → Mm → Prop} {i : Nat} (hn : n ≤ 12) (hi : i < n) (hL : LK I n c) (hQ : Q (nI (ned c i ||| awt c i)) (NC, I, J, layR sw)) : Y G d zX5_mustFollow [vr 121, vi (nI i)] (NC, I, J, layR sw) 0 0 (qi Q) := by
  obtain ⟨b1, b2, b3, b4⟩ := hL.2.1 i hi
  refine Y_of rfl rfl (Nat.le_of_ble_eq_true rfl) rfl ?_
  refine X_aload_n dX5_mustFollow_0 rfl ?_
  refine X_getR dX5_mustFollow_1 gf_X5_18 (by first | assumption | rfl) (by first | assumption | exact Nat.le_of_ble_eq_true rfl | omega) rfl (by first | assumption | rfl) ?_
  refine X_iload_n dX5_mustFollow_4 rfl ?_
  first | refine X_iald dX5_mustFollow_5 (by first | assumption | rfl) (by first | assumption | exact Nat.le_of_ble_eq_true rfl | omega) rfl (by first | decide | omega) (by decide) ?_ | refine X_ildA dX5_mustFollow_5 rfl (by omega) ?_ | refine X_ildM dX5_mustFollow_5 rfl (by omega) ?_ | refine X_sld dX5_mustFollow_5 rfl (by omega) (by omega) ?_
  rw [b3]
  refine X_aload_n dX5_mustFollow_6 rfl ?_
  refine X_getR dX5_mustFollow_7 gf_X5_21 (by first | assumption | rfl) (by first | assumption | exact Nat.le_of_ble_eq_true rfl | omega) rfl (by first | assumption | rfl) ?_
  refine X_iload_n dX5_mustFollow_10 rfl ?_
  first | refine X_iald dX5_mustFollow_11 (by first | assumption | rfl) (by first | assumption | exact Nat.le_of_ble_eq_true rfl | omega) rfl (by first | decide | omega) (by decide) ?_ | refine X_ildA dX5_mustFollow_11 rfl (by omega) ?_ | refine X_ildM dX5_mustFollow_11 rfl (by omega) ?_ | refine X_sld dX5_mustFollow_11 rfl (by omega) (by omega) ?_
  rw [b4]
  first | refine X_iorN dX5_mustFollow_12 ?_ | refine X_ior dX5_mustFollow_12 ?_
  exact X_iret dX5_mustFollow_13 rfl ⟨_, rfl, hQ⟩
def sp_behind (s : SS) (x : Int32) : Int32 := if x < 0 ∨ nI (dC s.2.1).1 ≤ x then -1 else nI (ned (dC s.2.1).2 x.toNatClampNeg ||| awt (dC s.2.1).2 x.toNatClampNeg)
def sp_reads (s : SS) (x k : Int32) : Int32 := if x < 0 ∨ nI (dC s.2.1).1 ≤ x then -1 else if k = nI 0 then enc (srcv (dC s.2.1).2 x.toNatClampNeg ((dC s.2.1).2 x.toNatClampNeg 2)) else if k = nI 1 then enc (srcv (dC s.2.1).2 x.toNatClampNeg ((dC s.2.1).2 x.toNatClampNeg 3)) else -2
set_option maxRecDepth 20000 in
theorem C_behind {x : Int32} (hd : 5 ≤ d) (hv : VSt s) (hi : CInv I s) : Y G d zX11_behind [vr 0, vi x] (NC, I, J, layR sw) 0 0 (qi (PC s (sp_behind s x) I J)) := by
  have hn := hv.2.1.1.1
  refine Y_of rfl rfl (Nat.le_of_ble_eq_true rfl) rfl ?_
  unfold sp_behind
  rcases scase hn x with h | ⟨a, ha, rfl⟩
  · rw [if_pos h]
    refine X_aload_n dX11_behind_0 rfl ?_
    refine X_iload_n dX11_behind_1 rfl ?_
    refine X_cVi dX11_behind_2 ck_X11_123 rfl rfl (by first | assumption | rfl) (by first | assumption | exact Nat.le_of_ble_eq_true rfl | omega) (by omega) (Nat.le_of_ble_eq_true rfl) (c_isNoStep_t hi.2.1.1.1 h ?_)
    refine X_if_eq (tgt := 10) dX11_behind_5 (by decide) (fun b => ?_) (fun b => ?_)
    · exact absurd b (by decide)
    · refine X_iconst (v := (-1)) dX11_behind_8 (by decide) ?_
      exact X_iret dX11_behind_9 rfl ⟨_, rfl, PC_same hi⟩
  · rw [if_neg (scase_n hn ha), nI_clamp (by omega)]
    refine X_aload_n dX11_behind_0 rfl ?_
    refine X_iload_n dX11_behind_1 rfl ?_
    refine X_cVi dX11_behind_2 ck_X11_123 rfl rfl (by first | assumption | rfl) (by first | assumption | exact Nat.le_of_ble_eq_true rfl | omega) (by omega) (Nat.le_of_ble_eq_true rfl) (c_isNoStep_f hi.2.1.1.1 hn ha ?_)
    refine X_if_eq (tgt := 10) dX11_behind_5 (by decide) (fun b => ?_) (fun b => ?_)
    · refine X_aload_n dX11_behind_10 rfl ?_
      refine X_getR dX11_behind_11 gf_X11_48 (by first | assumption | rfl) (by first | assumption | exact Nat.le_of_ble_eq_true rfl | omega) rfl (by first | assumption | rfl) ?_
      refine X_aload_n dX11_behind_14 rfl ?_
      refine X_getR dX11_behind_15 gf_X11_19 (by first | assumption | rfl) (by first | assumption | exact Nat.le_of_ble_eq_true rfl | omega) rfl (by first | assumption | rfl) ?_
      refine X_getR dX11_behind_18 gf_X11_106 (by first | assumption | rfl) (by first | assumption | exact Nat.le_of_ble_eq_true rfl | omega) rfl (by first | assumption | rfl) ?_
      refine X_cVv dX11_behind_21 ck_X11_184 rfl rfl (by first | assumption | rfl) (by first | assumption | exact Nat.le_of_ble_eq_true rfl | omega) (by omega) (Nat.le_of_ble_eq_true rfl) (c_follow (by omega) hi.2.1.1 hv.2.1.1 (fun I' hF hL => ?_))
      refine X_aload_n dX11_behind_24 rfl ?_
      refine X_getR dX11_behind_25 gf_X11_48 (by first | assumption | rfl) (by first | assumption | exact Nat.le_of_ble_eq_true rfl | omega) rfl (by first | assumption | rfl) ?_
      refine X_iload_n dX11_behind_28 rfl ?_
      refine X_cVi dX11_behind_29 ck_X11_187 rfl rfl (by first | assumption | rfl) (by first | assumption | exact Nat.le_of_ble_eq_true rfl | omega) (by omega) (Nat.le_of_ble_eq_true rfl) (c_mustFollow hn ha hL ?_)
      exact X_iret dX11_behind_32 rfl ⟨_, rfl, PC_scr hi hv _ hF (by decide)⟩
    · exact absurd rfl b
set_option maxRecDepth 20000 in
theorem C_reads {x k : Int32} (hd : 5 ≤ d) (hv : VSt s) (hi : CInv I s) : Y G d zX11_reads [vr 0, vi x, vi k] (NC, I, J, layR sw) 0 0 (qi (PC s (sp_reads s x k) I J)) := by
  have hn := hv.2.1.1.1
  refine Y_of rfl rfl (Nat.le_of_ble_eq_true rfl) rfl ?_
  unfold sp_reads
  rcases scase hn x with h | ⟨a, ha, rfl⟩
  · rw [if_pos h]
    refine X_aload_n dX11_reads_0 rfl ?_
    refine X_iload_n dX11_reads_1 rfl ?_
    refine X_cVi dX11_reads_2 ck_X11_123 rfl rfl (by first | assumption | rfl) (by first | assumption | exact Nat.le_of_ble_eq_true rfl | omega) (by omega) (Nat.le_of_ble_eq_true rfl) (c_isNoStep_t hi.2.1.1.1 h ?_)
    refine X_if_eq (tgt := 10) dX11_reads_5 (by decide) (fun b => ?_) (fun b => ?_)
    · exact absurd b (by decide)
    · refine X_iconst (v := (-1)) dX11_reads_8 (by decide) ?_
      exact X_iret dX11_reads_9 rfl ⟨_, rfl, PC_same hi⟩
  · rw [if_neg (scase_n hn ha), nI_clamp (by omega)]
    refine X_aload_n dX11_reads_0 rfl ?_
    refine X_iload_n dX11_reads_1 rfl ?_
    refine X_cVi dX11_reads_2 ck_X11_123 rfl rfl (by first | assumption | rfl) (by first | assumption | exact Nat.le_of_ble_eq_true rfl | omega) (by omega) (Nat.le_of_ble_eq_true rfl) (c_isNoStep_f hi.2.1.1.1 hn ha ?_)
    refine X_if_eq (tgt := 10) dX11_reads_5 (by decide) (fun b => ?_) (fun b => ?_)
    · refine X_iload_n dX11_reads_10 rfl ?_
      by_cases h0 : k = nI 0
      · rw [if_pos h0]
        subst h0
        refine X_if_eq (tgt := 22) dX11_reads_11 (by decide) (fun b11 => ?_) (fun b11 => ?_)
        · refine X_aload_n dX11_reads_22 rfl ?_
          refine X_getR dX11_reads_23 gf_X11_48 (by first | assumption | rfl) (by first | assumption | exact Nat.le_of_ble_eq_true rfl | omega) rfl (by first | assumption | rfl) ?_
          refine X_aload_n dX11_reads_26 rfl ?_
          refine X_getR dX11_reads_27 gf_X11_19 (by first | assumption | rfl) (by first | assumption | exact Nat.le_of_ble_eq_true rfl | omega) rfl (by first | assumption | rfl) ?_
          refine X_getR dX11_reads_30 gf_X11_106 (by first | assumption | rfl) (by first | assumption | exact Nat.le_of_ble_eq_true rfl | omega) rfl (by first | assumption | rfl) ?_
          refine X_cVv dX11_reads_33 ck_X11_184 rfl rfl (by first | assumption | rfl) (by first | assumption | exact Nat.le_of_ble_eq_true rfl | omega) (by omega) (Nat.le_of_ble_eq_true rfl) (c_follow (by omega) hi.2.1.1 hv.2.1.1 (fun I' hF hL => ?_))
          refine X_aload_n dX11_reads_36 rfl ?_
          refine X_getR dX11_reads_37 gf_X11_48 (by first | assumption | rfl) (by first | assumption | exact Nat.le_of_ble_eq_true rfl | omega) rfl (by first | assumption | rfl) ?_
          refine X_getR dX11_reads_40 gf_X11_215 (by first | assumption | rfl) (by first | assumption | exact Nat.le_of_ble_eq_true rfl | omega) rfl (by first | assumption | rfl) ?_
          refine X_iconst (v := nI 2) dX11_reads_43 (by decide) ?_
          refine X_iload_n dX11_reads_44 rfl ?_
          first | refine X_imulN dX11_reads_45 ?_ | refine X_imul dX11_reads_45 ?_
          refine X_iload_n dX11_reads_46 rfl ?_
          first | refine X_iaddN dX11_reads_47 ?_ | refine X_iadd dX11_reads_47 ?_
          first | refine X_iald dX11_reads_48 (by first | assumption | rfl) (by first | assumption | exact Nat.le_of_ble_eq_true rfl | omega) rfl (by first | decide | omega) (by decide) ?_ | refine X_ildA dX11_reads_48 rfl (by omega) ?_ | refine X_ildM dX11_reads_48 rfl (by omega) ?_ | refine X_sld dX11_reads_48 rfl (by omega) (by omega) ?_
          rw [show 2 * a + 0 = 2 * a from rfl, (hL.2.1 a ha).1]
          exact X_iret dX11_reads_49 rfl ⟨_, rfl, PC_scr hi hv _ hF (by decide)⟩
        · exact absurd rfl b11
      · rw [if_neg h0]
        refine X_if_eq (tgt := 22) dX11_reads_11 (by decide) (fun b11 => ?_) (fun b11 => ?_)
        · exact absurd b11 h0
        refine X_iload_n dX11_reads_14 rfl ?_
        refine X_iconst (v := nI 1) dX11_reads_15 (by decide) ?_
        by_cases h1 : k = nI 1
        · rw [if_pos h1]
          subst h1
          refine X_icmp_eq (tgt := 22) dX11_reads_16 (by decide) (fun b16 => ?_) (fun b16 => ?_)
          · refine X_aload_n dX11_reads_22 rfl ?_
            refine X_getR dX11_reads_23 gf_X11_48 (by first | assumption | rfl) (by first | assumption | exact Nat.le_of_ble_eq_true rfl | omega) rfl (by first | assumption | rfl) ?_
            refine X_aload_n dX11_reads_26 rfl ?_
            refine X_getR dX11_reads_27 gf_X11_19 (by first | assumption | rfl) (by first | assumption | exact Nat.le_of_ble_eq_true rfl | omega) rfl (by first | assumption | rfl) ?_
            refine X_getR dX11_reads_30 gf_X11_106 (by first | assumption | rfl) (by first | assumption | exact Nat.le_of_ble_eq_true rfl | omega) rfl (by first | assumption | rfl) ?_
            refine X_cVv dX11_reads_33 ck_X11_184 rfl rfl (by first | assumption | rfl) (by first | assumption | exact Nat.le_of_ble_eq_true rfl | omega) (by omega) (Nat.le_of_ble_eq_true rfl) (c_follow (by omega) hi.2.1.1 hv.2.1.1 (fun I' hF hL => ?_))
            refine X_aload_n dX11_reads_36 rfl ?_
            refine X_getR dX11_reads_37 gf_X11_48 (by first | assumption | rfl) (by first | assumption | exact Nat.le_of_ble_eq_true rfl | omega) rfl (by first | assumption | rfl) ?_
            refine X_getR dX11_reads_40 gf_X11_215 (by first | assumption | rfl) (by first | assumption | exact Nat.le_of_ble_eq_true rfl | omega) rfl (by first | assumption | rfl) ?_
            refine X_iconst (v := nI 2) dX11_reads_43 (by decide) ?_
            refine X_iload_n dX11_reads_44 rfl ?_
            first | refine X_imulN dX11_reads_45 ?_ | refine X_imul dX11_reads_45 ?_
            refine X_iload_n dX11_reads_46 rfl ?_
            first | refine X_iaddN dX11_reads_47 ?_ | refine X_iadd dX11_reads_47 ?_
            first | refine X_iald dX11_reads_48 (by first | assumption | rfl) (by first | assumption | exact Nat.le_of_ble_eq_true rfl | omega) rfl (by first | decide | omega) (by decide) ?_ | refine X_ildA dX11_reads_48 rfl (by omega) ?_ | refine X_ildM dX11_reads_48 rfl (by omega) ?_ | refine X_sld dX11_reads_48 rfl (by omega) (by omega) ?_
            rw [(hL.2.1 a ha).2.1]
            exact X_iret dX11_reads_49 rfl ⟨_, rfl, PC_scr hi hv _ hF (by decide)⟩
          · exact absurd rfl b16
        · rw [if_neg h1]
          refine X_icmp_eq (tgt := 22) dX11_reads_16 (by decide) (fun b16 => ?_) (fun b16 => ?_)
          · exact absurd b16 h1
          refine X_bipush (v := (-2)) dX11_reads_19 (by decide) ?_
          exact X_iret dX11_reads_21 rfl ⟨_, rfl, PC_same hi⟩
    · exact absurd rfl b
end CL
