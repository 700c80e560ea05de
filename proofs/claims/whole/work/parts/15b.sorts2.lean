section CS
variable {G : GG} {d : Nat} {sw : Bool} {I : Nat → Nat → Int32} {J : Nat → Nat → Int64} {s : SS} {n W : Nat} {c : Nat → Nat → Nat}
set_option maxRecDepth 20000 in
theorem c_sortMade {Q : Int32 → Mm → Prop} {f i B : Nat} {S : SO} {rg : Nat → Nat} (hd : 2 ≤ d) (hf : IsFa f) (hc : CR I 8 n c) (hv : VC n c) (hi : i < n) (hS : FS I f S) (hB : SOk S B) (hB2 : B < 38) (hrg : ∀ r, r < 4 → rg r < S.1) (hr : ∀ r, r < 4 → I (f + 3) (i * 4 + r) = nI (rg r))
    (hQ : ∀ I', Fr [f, f + 5, f + 6, f + 7, f + 8] I I' → FS I' f (sSt S rg (c i)).2 → Q (nI (sSt S rg (c i)).1) (NC, I', J, layR sw)) : Y G d zX3_sortMade [vr f, vr 8, vi (nI i)] (NC, I, J, layR sw) 0 0 (qi Q) := by
  have hff := hf
  obtain ⟨s0, ⟨s1, s2, s3, s4, s5, s6, s7, s8⟩, hlr, hb1, hb2⟩ := hff
  have k0 : f < NC := by show f < 206; omega
  have hn := hv.1
  obtain ⟨v0, v2, v3⟩ := hv.2 i hi
  unfold sSt at hQ
  refine Y_of rfl rfl (Nat.le_of_ble_eq_true rfl) rfl ?_
  refine X_aload_n dX3_sortMade_0 rfl ?_
  refine X_iload_n dX3_sortMade_1 rfl ?_
  refine X_iconst (v := nI 1) dX3_sortMade_2 (by decide) ?_
  refine X_cVi dX3_sortMade_3 ck_X3_59 rfl rfl (by first | assumption | rfl) (by first | assumption | exact Nat.le_of_ble_eq_true rfl | omega) (by omega) (Nat.le_of_ble_eq_true rfl) (c_part cd8 hc.1 hv.1 hi (by decide) ?_)
  rw [hc.2 i hi 1 (by decide)]
  refine X_istore_n dX3_sortMade_6 rfl rfl ?_
  refine X_aload_n dX3_sortMade_7 rfl ?_
  refine X_iload_n dX3_sortMade_8 rfl ?_
  refine X_aload_n dX3_sortMade_9 rfl ?_
  refine X_iload_n dX3_sortMade_10 rfl ?_
  refine X_iconst (v := nI 2) dX3_sortMade_11 (by decide) ?_
  refine X_cVi dX3_sortMade_12 ck_X3_59 rfl rfl (by first | assumption | rfl) (by first | assumption | exact Nat.le_of_ble_eq_true rfl | omega) (by omega) (Nat.le_of_ble_eq_true rfl) (c_part cd8 hc.1 hv.1 hi (by decide) ?_)
  rw [hc.2 i hi 2 (by decide)]
  refine X_cVi dX3_sortMade_15 ck_X3_89 rfl rfl (by first | assumption | rfl) (by first | assumption | exact Nat.le_of_ble_eq_true rfl | omega) (by omega) (Nat.le_of_ble_eq_true rfl) (c_sortOperand (by omega) hf (by omega) v2 hS hB (by omega) hr (fun I1 f1 S1 => ?_))
  obtain ⟨a1, a2, a3, a4⟩ := sOp_ok (v := c i 2) hB hrg
  refine X_istore dX3_sortMade_18 rfl rfl ?_
  refine X_iload_n dX3_sortMade_20 rfl ?_
  refine X_bipush (v := (-6)) dX3_sortMade_21 (by decide) ?_
  rcases v3 with ⟨e1, e3⟩ | ⟨e1, e3⟩
  · rw [e1] at hQ ⊢
    rw [if_pos rfl] at hQ
    refine X_icmp_ne (tgt := 29) dX3_sortMade_23 (by decide) (fun b => ?_) (fun b => ?_)
    · exact absurd rfl b
    refine X_iload dX3_sortMade_26 rfl ?_
    exact X_iret dX3_sortMade_28 rfl ⟨_, rfl, hQ I1 (f1.sub (by simp)) S1⟩
  · obtain ⟨n1, n2⟩ := enc_act e1
    rw [if_neg n1] at hQ
    have hc1 : CR I1 8 n c := CR_fr hc f1 (by simp; omega) (by simp; omega)
    refine X_icmp_ne (tgt := 29) dX3_sortMade_23 (by decide) (fun b => ?_) (fun b => ?_)
    · refine X_aload_n dX3_sortMade_29 rfl ?_
      refine X_iload_n dX3_sortMade_30 rfl ?_
      refine X_aload_n dX3_sortMade_31 rfl ?_
      refine X_iload_n dX3_sortMade_32 rfl ?_
      refine X_iconst (v := nI 3) dX3_sortMade_33 (by decide) ?_
      refine X_cVi dX3_sortMade_34 ck_X3_59 rfl rfl (by first | assumption | rfl) (by first | assumption | exact Nat.le_of_ble_eq_true rfl | omega) (by omega) (Nat.le_of_ble_eq_true rfl) (c_part cd8 hc1.1 hv.1 hi (by decide) ?_)
      rw [hc1.2 i hi 3 (by decide)]
      refine X_cVi dX3_sortMade_37 ck_X3_89 rfl rfl (by first | assumption | rfl) (by first | assumption | exact Nat.le_of_ble_eq_true rfl | omega) (by omega) (Nat.le_of_ble_eq_true rfl) (c_sortOperand (by omega) hf (by omega) e3 S1 a1 (by omega) (fun r h => by rw [f1 (f + 3) (by simp)]; exact hr r h) (fun I2 f2 S2 => ?_))
      obtain ⟨b1, b2, b3, b4⟩ := sOp_ok (v := c i 3) a1 a4
      have hl1 := b1.1.2
      generalize sOp S rg (c i 2) = P1 at *
      generalize sOp P1.2 rg (c i 3) = P2 at *
      obtain ⟨m1, m2⟩ := nxx_lt (a := c i 1) (Nat.lt_of_lt_of_le a2 b3) b2
      have fin : X G d zX3_sortMade 88 [(0, vr f), (1, vr 8), (2, vi (nI i)), (3, vi (enc (c i 1))), (4, vi (nI P1.1)), (5, vi (nI P2.1))] [vi (nI (nyy (c i 1) P1.1 P2.1)), vi (nI (nxx (c i 1) P1.1 P2.1)), vi (enc (c i 1)), vr f] (NC, I2, J, layR sw) 0 0 (qi Q) := by
        refine X_cVi dX3_sortMade_88 ck_X3_92 rfl rfl (by first | assumption | rfl) (by first | assumption | exact Nat.le_of_ble_eq_true rfl | omega) (by omega) (Nat.le_of_ble_eq_true rfl) (c_sortOfAct hf e1 S2 b1 (by omega) (by omega) (by omega) (fun I3 f3 S3 => ?_))
        exact X_iret dX3_sortMade_91 rfl ⟨_, rfl, hQ I3 (((f1.sub (by simp)).tr (f2.sub (by simp))).tr (f3.sub (by simp))) S3⟩
      unfold nxx nyy at fin
      refine X_istore dX3_sortMade_40 rfl rfl ?_
      refine X_iload_n dX3_sortMade_42 rfl ?_
      refine X_bipush (v := nI 45) dX3_sortMade_43 (by decide) ?_
      refine X_icmp_eq (tgt := 59) dX3_sortMade_45 (by decide) (fun b45 => ?_) (fun b45 => ?_)
      · have h45 : c i 1 = 45 := by
          rw [enc_n n1] at b45
          unfold iact at e1
          exact (neq (by omega) (by omega)).mp b45
        rw [if_neg (by omega), if_neg (by omega)] at fin
        refine X_iconst (v := nI 0) dX3_sortMade_59 (by decide) ?_
        refine X_istore dX3_sortMade_60 rfl rfl ?_
        refine X_aload_n dX3_sortMade_62 rfl ?_
        refine X_iload_n dX3_sortMade_63 rfl ?_
        refine X_iload dX3_sortMade_64 rfl ?_
        refine X_if_eq (tgt := 74) dX3_sortMade_66 (by decide) (fun b66 => ?_) (fun b66 => ?_)
        · refine X_iload dX3_sortMade_74 rfl ?_
          refine X_iload dX3_sortMade_76 rfl ?_
          refine X_if_eq (tgt := 86) dX3_sortMade_78 (by decide) (fun b78 => ?_) (fun b78 => ?_)
          · refine X_iload dX3_sortMade_86 rfl ?_
            refine weak (lv' := [(0, vr f), (1, vr 8), (2, vi (nI i)), (3, vi (enc (c i 1))), (4, vi (nI P1.1)), (5, vi (nI P2.1))]) (fun q hq => List.mem_append_left _ hq) ?_
            exact fin
          · exact absurd rfl b78
        · exact absurd rfl b66
      · have h45 : c i 1 ≠ 45 := fun q => b45 (by rw [q]; rfl)
        refine X_iload dX3_sortMade_48 rfl ?_
        refine X_iload dX3_sortMade_50 rfl ?_
        refine X_icmp_ge (tgt := 59) dX3_sortMade_52 (by decide) (fun b52 => ?_) (fun b52 => ?_)
        · have := (nle (by omega) (by omega)).mp b52
          rw [if_neg (by omega), if_neg (by omega)] at fin
          refine X_iconst (v := nI 0) dX3_sortMade_59 (by decide) ?_
          refine X_istore dX3_sortMade_60 rfl rfl ?_
          refine X_aload_n dX3_sortMade_62 rfl ?_
          refine X_iload_n dX3_sortMade_63 rfl ?_
          refine X_iload dX3_sortMade_64 rfl ?_
          refine X_if_eq (tgt := 74) dX3_sortMade_66 (by decide) (fun b66 => ?_) (fun b66 => ?_)
          · refine X_iload dX3_sortMade_74 rfl ?_
            refine X_iload dX3_sortMade_76 rfl ?_
            refine X_if_eq (tgt := 86) dX3_sortMade_78 (by decide) (fun b78 => ?_) (fun b78 => ?_)
            · refine X_iload dX3_sortMade_86 rfl ?_
              refine weak (lv' := [(0, vr f), (1, vr 8), (2, vi (nI i)), (3, vi (enc (c i 1))), (4, vi (nI P1.1)), (5, vi (nI P2.1))]) (fun q hq => List.mem_append_left _ hq) ?_
              exact fin
            · exact absurd rfl b78
          · exact absurd rfl b66
        · have : ¬ P1.1 ≤ P2.1 := fun q => b52 ((nle (by omega) (by omega)).mpr q)
          rw [if_pos ⟨h45, by omega⟩, if_pos ⟨h45, by omega⟩] at fin
          refine X_iconst (v := nI 1) dX3_sortMade_55 (by decide) ?_
          refine X_goto (tgt := 60) dX3_sortMade_56 (by decide) ?_
          refine X_istore dX3_sortMade_60 rfl rfl ?_
          refine X_aload_n dX3_sortMade_62 rfl ?_
          refine X_iload_n dX3_sortMade_63 rfl ?_
          refine X_iload dX3_sortMade_64 rfl ?_
          refine X_if_eq (tgt := 74) dX3_sortMade_66 (by decide) (fun b66 => ?_) (fun b66 => ?_)
          · exact absurd b66 (by decide)
          · refine X_iload dX3_sortMade_69 rfl ?_
            refine X_goto (tgt := 76) dX3_sortMade_71 (by decide) ?_
            refine X_iload dX3_sortMade_76 rfl ?_
            refine X_if_eq (tgt := 86) dX3_sortMade_78 (by decide) (fun b78 => ?_) (fun b78 => ?_)
            · exact absurd b78 (by decide)
            · refine X_iload dX3_sortMade_81 rfl ?_
              refine X_goto (tgt := 88) dX3_sortMade_83 (by decide) ?_
              refine weak (lv' := [(0, vr f), (1, vr 8), (2, vi (nI i)), (3, vi (enc (c i 1))), (4, vi (nI P1.1)), (5, vi (nI P2.1))]) (fun q hq => List.mem_append_left _ hq) ?_
              exact fin
    · exact absurd b n2
set_option maxRecDepth 20000 in
theorem c_followSorts {Q : Mm → Prop} {f : Nat} (hd : 3 ≤ d) (hf : IsFa f) (hc : CR I 8 n c) (hv : VC n c) (hQ : ∀ I', Fr [f, f + 3, f + 4, f + 5, f + 6, f + 7, f + 8] I I' → (∀ p, p ≤ n → ∀ r, r < 4 → I' (f + 3) (p * 4 + r) = nI ((so c p).2 r)) → (∀ i, i < n → I' (f + 4) i = nI (smd c i)) → Q (NC, I', J, layR sw)) : Y G d zX3_followSorts [vr f, vr 8] (NC, I, J, layR sw) 0 0 (qv Q) := by
  have hff := hf
  obtain ⟨s0, ⟨s1, s2, s3, s4, s5, s6, s7, s8⟩, hlr, hb1, hb2⟩ := hff
  obtain ⟨r0, r1, r2, r3, r4, r5, r6, r7⟩ := hlr sw
  have k0 : f < NC := by show f < 206; omega
  have k3 : f + 3 < NC := by show f + 3 < 206; omega
  have k4 : f + 4 < NC := by show f + 4 < 206; omega
  have k5 : f + 5 < NC := by show f + 5 < 206; omega
  have k6 : f + 6 < NC := by show f + 6 < 206; omega
  have hn := hv.1
  have loop2 : ∀ (m i : Nat) (I' : Nat → Nat → Int32), m = n - i → i ≤ n → Fr [f, f + 3, f + 4, f + 5, f + 6, f + 7, f + 8] I I' → FS I' f (so c i).1 → (∀ p, p ≤ i → ∀ r, r < 4 → I' (f + 3) (p * 4 + r) = nI ((so c p).2 r)) → (∀ j, j < i → I' (f + 4) j = nI (smd c j)) → X G d zX3_followSorts 45 [(0, vr f), (1, vr 8), (2, vi (nI i))] [] (NC, I', J, layR sw) 0 0 (qv Q) := by
    intro m
    induction m with
    | zero =>
      intro i I' hm him hF hS hp hmd
      have hc' : CR I' 8 n c := CR_fr hc hF (by simp; omega) (by simp; omega)
      obtain rfl : i = n := by omega
      refine X_iload_n dX3_followSorts_45 rfl ?_
      refine X_aload_n dX3_followSorts_46 rfl ?_
      refine X_getI dX3_followSorts_47 gf_X3_36 (by first | assumption | rfl) (by first | assumption | exact Nat.le_of_ble_eq_true rfl | omega) rfl ?_
      rw [hc'.1]
      refine X_icmp_ge (tgt := 111) dX3_followSorts_50 (by decide) (fun b => ?_) (fun b => ?_)
      · exact X_vret dX3_followSorts_111 rfl ⟨rfl, hQ I' hF hp hmd⟩
      · exact absurd (Int32.le_refl _) b
    | succ m ih =>
      intro i I' hm him hF hS hp hmd
      have hc' : CR I' 8 n c := CR_fr hc hF (by simp; omega) (by simp; omega)
      have hin : i < n := by omega
      obtain ⟨o1, o2⟩ := so_ok hv.2 i (by omega)
      have ht := (hv.2 i hin).1
      refine X_iload_n dX3_followSorts_45 rfl ?_
      refine X_aload_n dX3_followSorts_46 rfl ?_
      refine X_getI dX3_followSorts_47 gf_X3_36 (by first | assumption | rfl) (by first | assumption | exact Nat.le_of_ble_eq_true rfl | omega) rfl ?_
      rw [hc'.1]
      refine X_icmp_ge (tgt := 111) dX3_followSorts_50 (by decide) (fun b => ?_) (fun b => ?_)
      · exact absurd ((nle (by omega) (by omega)).mp b) (by omega)
      refine X_iload_n dX3_followSorts_53 rfl ?_
      refine X_iconst (v := nI 4) dX3_followSorts_54 (by decide) ?_
      first | refine X_imulN dX3_followSorts_55 ?_ | refine X_imul dX3_followSorts_55 ?_
      refine X_istore_n dX3_followSorts_56 rfl rfl ?_
      refine X_aload_n dX3_followSorts_57 rfl ?_
      refine X_getR dX3_followSorts_58 gf_X3_21 (by first | assumption | rfl) (by first | assumption | exact Nat.le_of_ble_eq_true rfl | omega) rfl (by first | assumption | rfl) ?_
      refine X_iload_n dX3_followSorts_61 rfl ?_
      refine X_aload_n dX3_followSorts_62 rfl ?_
      refine X_aload_n dX3_followSorts_63 rfl ?_
      refine X_iload_n dX3_followSorts_64 rfl ?_
      refine X_cVi dX3_followSorts_65 ck_X3_86 rfl rfl (by first | assumption | rfl) (by first | assumption | exact Nat.le_of_ble_eq_true rfl | omega) (by omega) (Nat.le_of_ble_eq_true rfl) (c_sortMade (by omega) hf hc' hv hin hS o1 (by omega) o2 (hp i (Nat.le_refl i)) (fun I1 f1 S1 => ?_))
      refine X_iast dX3_followSorts_68 (by first | assumption | rfl) (by first | assumption | exact Nat.le_of_ble_eq_true rfl | omega) rfl (by first | decide | omega) (by decide) ?_
      generalize hI2 : sr I1 (f + 4) (up (I1 (f + 4)) i (nI (sSt (so c i).1 (so c i).2 (c i)).1)) = I2
      have g3 : I2 (f + 3) = I' (f + 3) := by rw [← hI2, sr_ne (by omega), f1 (f + 3) (by simp)]
      have g4 : I2 (f + 4) = up (I' (f + 4)) i (nI (smd c i)) := by rw [← hI2, sr_eq, f1 (f + 4) (by simp)]; rfl
      have go : ∀ k, k ≠ f + 4 → I2 k = I1 k := fun k h => by rw [← hI2, sr_ne h]
      have hF2 : Fr [f, f + 3, f + 4, f + 5, f + 6, f + 7, f + 8] I I2 := (hF.tr (f1.sub (by simp))).tr (by rw [← hI2]; exact Fr.sr (by simp))
      refine X_aload_n dX3_followSorts_69 rfl ?_
      refine X_getR dX3_followSorts_70 gf_X3_18 (by first | assumption | rfl) (by first | assumption | exact Nat.le_of_ble_eq_true rfl | omega) rfl (by first | assumption | rfl) ?_
      refine X_iload_n dX3_followSorts_73 rfl ?_
      refine X_aload_n dX3_followSorts_74 rfl ?_
      refine X_getR dX3_followSorts_75 gf_X3_18 (by first | assumption | rfl) (by first | assumption | exact Nat.le_of_ble_eq_true rfl | omega) rfl (by first | assumption | rfl) ?_
      refine X_iload_n dX3_followSorts_78 rfl ?_
      refine X_iconst (v := nI 4) dX3_followSorts_79 (by decide) ?_
      first | refine X_iaddN dX3_followSorts_80 ?_ | refine X_iadd dX3_followSorts_80 ?_
      refine X_iconst (v := nI 4) dX3_followSorts_81 (by decide) ?_
      first | refine X_copyI dX3_followSorts_82 ac_X3_49 ac_2 ac_3 ac_4 (by first | assumption | rfl) (by first | assumption | rfl) (by first | assumption | exact Nat.le_of_ble_eq_true rfl | omega) (by first | assumption | exact Nat.le_of_ble_eq_true rfl | omega) rfl rfl rfl (by omega) (by omega) (by decide) (by decide) (by omega) (Nat.le_of_ble_eq_true rfl) ?_ | refine X_copyL dX3_followSorts_82 ac_X3_49 ac_2 ac_3 ac_4 (by first | assumption | rfl) (by first | assumption | rfl) (by first | assumption | exact Nat.le_of_ble_eq_true rfl | omega) (by first | assumption | exact Nat.le_of_ble_eq_true rfl | omega) rfl rfl rfl (by omega) (by omega) (by decide) (by decide) (by omega) (Nat.le_of_ble_eq_true rfl) ?_
      refine X_aload_n dX3_followSorts_85 rfl ?_
      refine X_getR dX3_followSorts_86 gf_X3_18 (by first | assumption | rfl) (by first | assumption | exact Nat.le_of_ble_eq_true rfl | omega) rfl (by first | assumption | rfl) ?_
      refine X_iload_n dX3_followSorts_89 rfl ?_
      refine X_iconst (v := nI 4) dX3_followSorts_90 (by decide) ?_
      first | refine X_iaddN dX3_followSorts_91 ?_ | refine X_iadd dX3_followSorts_91 ?_
      refine X_aload_n dX3_followSorts_92 rfl ?_
      refine X_iload_n dX3_followSorts_93 rfl ?_
      have hF3 : Fr [f, f + 3, f + 4, f + 5, f + 6, f + 7, f + 8] I (sr I2 (f + 3) (va_cpy (I2 (f + 3)) (I2 (f + 3)) (i * 4) (i * 4 + 4) 4)) := hF2.tr (Fr.sr (by simp))
      generalize hI3 : sr I2 (f + 3) (va_cpy (I2 (f + 3)) (I2 (f + 3)) (i * 4) (i * 4 + 4) 4) = I3 at hF3
      have go3 : ∀ k, k ≠ f + 3 → I3 k = I2 k := fun k h => by rw [← hI3, sr_ne h]
      have hc3 : CR I3 8 n c := CR_fr hc hF3 (by simp; omega) (by simp; omega)
      have e2 : ∀ p, p ≤ i → ∀ r, r < 4 → I3 (f + 3) (p * 4 + r) = nI ((so c p).2 r) := fun p h1 r h2 => by
        rw [← hI3, sr_eq, g3]
        unfold va_cpy
        rw [if_neg (by omega)]
        exact hp p h1 r h2
      have e3 : ∀ r, r < 4 → I3 (f + 3) ((i + 1) * 4 + r) = nI ((so c i).2 r) := fun r h2 => by
        rw [← hI3, sr_eq, g3]
        unfold va_cpy
        rw [if_pos (by omega), show i * 4 + ((i + 1) * 4 + r - (i * 4 + 4)) = i * 4 + r by omega]
        exact hp i (Nat.le_refl i) r h2
      refine X_cVi dX3_followSorts_94 ck_X3_42 rfl rfl (by first | assumption | rfl) (by first | assumption | exact Nat.le_of_ble_eq_true rfl | omega) (by omega) (Nat.le_of_ble_eq_true rfl) (c_tgt (by omega) cd8 hc3 hv hin ?_)
      first | refine X_iaddN dX3_followSorts_97 ?_ | refine X_iadd dX3_followSorts_97 ?_
      refine X_aload_n dX3_followSorts_98 rfl ?_
      refine X_getR dX3_followSorts_99 gf_X3_21 (by first | assumption | rfl) (by first | assumption | exact Nat.le_of_ble_eq_true rfl | omega) rfl (by first | assumption | rfl) ?_
      refine X_iload_n dX3_followSorts_102 rfl ?_
      first | refine X_iald dX3_followSorts_103 (by first | assumption | rfl) (by first | assumption | exact Nat.le_of_ble_eq_true rfl | omega) rfl (by first | decide | omega) (by decide) ?_ | refine X_ildA dX3_followSorts_103 rfl (by omega) ?_ | refine X_ildM dX3_followSorts_103 rfl (by omega) ?_ | refine X_sld dX3_followSorts_103 rfl (by omega) (by omega) ?_
      rw [go3 (f + 4) (by omega), g4, up_eq]
      refine X_iast dX3_followSorts_104 (by first | assumption | rfl) (by first | assumption | exact Nat.le_of_ble_eq_true rfl | omega) rfl (by first | decide | omega) (by decide) ?_
      first | refine X_iinc1 dX3_followSorts_105 rfl rfl rfl ?_ | refine X_iinc dX3_followSorts_105 rfl rfl rfl rfl ?_
      refine X_goto (tgt := 45) dX3_followSorts_108 (by decide) ?_
      refine weak (lv' := [(0, vr f), (1, vr 8), (2, vi (nI (i + 1)))]) (fun q hq => List.mem_append_left _ hq) ?_
      refine ih (i + 1) _ (by omega) (by omega) (hF3.tr (Fr.sr (by simp))) ?_ (fun p h1 r h2 => ?_) (fun j hj => ?_)
      · obtain ⟨w1, w2, w3⟩ := S1
        refine ⟨?_, fun g hg => ?_, fun q hq => ?_⟩
        · rw [sr_ne (by omega), go3 f (by omega), go f (by omega)]; exact w1
        · rw [sr_ne (by omega), go3 (f + 5) (by omega), go (f + 5) (by omega)]; exact w2 g hg
        · rw [sr_ne (by omega), sr_ne (by omega), sr_ne (by omega), go3 (f + 6) (by omega), go (f + 6) (by omega), go3 (f + 7) (by omega), go (f + 7) (by omega), go3 (f + 8) (by omega), go (f + 8) (by omega)]; exact w3 q hq
      · rw [sr_eq]
        by_cases hpi : p = i + 1
        · subst hpi
          show _ = nI (up (so c i).2 (c i 0) (smd c i) r)
          by_cases hrt : r = c i 0
          · rw [hrt, show (i + 1) * 4 + c i 0 = i * 4 + 4 + c i 0 by omega, up_eq, up_eq]
          · rw [up_ne (by omega), up_ne hrt]
            exact e3 r h2
        · rw [up_ne (by omega)]
          exact e2 p (by omega) r h2
      · rw [sr_ne (by omega), go3 (f + 4) (by omega), g4]
        by_cases hji : j = i
        · rw [hji, up_eq]
        · rw [up_ne hji]; exact hmd j (by omega)
  have loop1 : ∀ (m i : Nat) (I' : Nat → Nat → Int32), m = 4 - i → i ≤ 4 → Fr [f, f + 3, f + 4, f + 5, f + 6, f + 7, f + 8] I I' → FS I' f (so c 0).1 → (∀ r, r < i → I' (f + 3) r = nI r) → X G d zX3_followSorts 25 [(0, vr f), (1, vr 8), (2, vi (nI i))] [] (NC, I', J, layR sw) 0 0 (qv Q) := by
    intro m
    induction m with
    | zero =>
      intro i I' hm him hF hS hp
      obtain rfl : i = 4 := by omega
      refine X_iload_n dX3_followSorts_25 rfl ?_
      refine X_iconst (v := nI 4) dX3_followSorts_26 (by decide) ?_
      refine X_icmp_ge (tgt := 43) dX3_followSorts_27 (by decide) (fun b => ?_) (fun b => ?_)
      · refine X_iconst (v := nI 0) dX3_followSorts_43 (by decide) ?_
        refine X_istore_n dX3_followSorts_44 rfl rfl ?_
        refine loop2 n 0 I' rfl (Nat.zero_le n) hF hS (fun p h1 r h2 => ?_) (fun j hj => absurd hj (Nat.not_lt_zero j))
        obtain rfl : p = 0 := by omega
        rw [Nat.zero_mul, Nat.zero_add]
        exact hp r h2
      · exact absurd (by decide) b
    | succ m ih =>
      intro i I' hm him hF hS hp
      refine X_iload_n dX3_followSorts_25 rfl ?_
      refine X_iconst (v := nI 4) dX3_followSorts_26 (by decide) ?_
      refine X_icmp_ge (tgt := 43) dX3_followSorts_27 (by decide) (fun b => ?_) (fun b => ?_)
      · exact absurd ((nle (by omega) (by omega)).mp b) (by omega)
      refine X_aload_n dX3_followSorts_30 rfl ?_
      refine X_getR dX3_followSorts_31 gf_X3_18 (by first | assumption | rfl) (by first | assumption | exact Nat.le_of_ble_eq_true rfl | omega) rfl (by first | assumption | rfl) ?_
      refine X_iload_n dX3_followSorts_34 rfl ?_
      refine X_iload_n dX3_followSorts_35 rfl ?_
      refine X_iast dX3_followSorts_36 (by first | assumption | rfl) (by first | assumption | exact Nat.le_of_ble_eq_true rfl | omega) rfl (by first | decide | omega) (by decide) ?_
      first | refine X_iinc1 dX3_followSorts_37 rfl rfl rfl ?_ | refine X_iinc dX3_followSorts_37 rfl rfl rfl rfl ?_
      refine X_goto (tgt := 25) dX3_followSorts_40 (by decide) ?_
      refine ih (i + 1) _ (by omega) (by omega) (hF.tr (Fr.sr (by simp))) ?_ (fun r h => ?_)
      · obtain ⟨w1, w2, w3⟩ := hS
        refine ⟨?_, fun g hg => ?_, fun q hq => ?_⟩
        · rw [sr_ne (by omega)]; exact w1
        · rw [sr_ne (by omega)]; exact w2 g hg
        · rw [sr_ne (by omega), sr_ne (by omega), sr_ne (by omega)]; exact w3 q hq
      · rw [sr_eq]
        by_cases hri : r = i
        · rw [hri, up_eq]
        · rw [up_ne hri]; exact hp r (by omega)
  refine Y_of rfl rfl (Nat.le_of_ble_eq_true rfl) rfl ?_
  refine X_aload_n dX3_followSorts_0 rfl ?_
  refine X_iconst (v := nI 4) dX3_followSorts_1 (by decide) ?_
  refine X_putI dX3_followSorts_2 gf_X3_77 (Or.inl rfl) (by first | assumption | rfl) (by first | assumption | exact Nat.le_of_ble_eq_true rfl | omega) rfl ?_
  refine X_aload_n dX3_followSorts_5 rfl ?_
  refine X_getR dX3_followSorts_6 gf_X3_24 (by first | assumption | rfl) (by first | assumption | exact Nat.le_of_ble_eq_true rfl | omega) rfl (by first | assumption | rfl) ?_
  refine X_bipush (v := (-6)) dX3_followSorts_9 (by decide) ?_
  refine X_cSv dX3_followSorts_11 ck_X3_80 rfl rfl (by omega) (Nat.le_of_ble_eq_true rfl) (c_fill s5 (by decide) k5 (fun I1 f1 e1 => ?_))
  refine X_aload_n dX3_followSorts_14 rfl ?_
  refine X_getR dX3_followSorts_15 gf_X3_27 (by first | assumption | rfl) (by first | assumption | exact Nat.le_of_ble_eq_true rfl | omega) rfl (by first | assumption | rfl) ?_
  refine X_bipush (v := (-6)) dX3_followSorts_18 (by decide) ?_
  refine X_cSv dX3_followSorts_20 ck_X3_80 rfl rfl (by omega) (Nat.le_of_ble_eq_true rfl) (c_fill s6 (by decide) k6 (fun I2 f2 e2 => ?_))
  refine X_iconst (v := nI 0) dX3_followSorts_23 (by decide) ?_
  refine X_istore_n dX3_followSorts_24 rfl rfl ?_
  refine loop1 4 0 I2 rfl (by decide) (((Fr.sr (by simp)).tr (f1.sub (by simp))).tr (f2.sub (by simp))) ⟨?_, fun g hg => ?_, fun q hq => ⟨?_, fun h => absurd rfl h⟩⟩ (fun r h => absurd h (Nat.not_lt_zero r))
  · rw [f2 f (by simp), f1 f (by simp), sr_eq, up_eq]; rfl
  · rw [f2 (f + 5) (by simp), e1 g hg]; rfl
  · rw [e2 q hq]; rfl
set_option maxRecDepth 20000 in
theorem c_holderOfMade {Q : Int32 → Mm → Prop} {f i : Nat} (hf : IsFa f) (hv : VC n c) (hi : i < n) (hr : ∀ r, r < 4 → I (f + 3) (i * 4 + r) = nI ((so c i).2 r)) (hm : I (f + 4) i = nI (smd c i)) (hQ : Q (if hld c i < 4 then nI (hld c i) else -6) (NC, I, J, layR sw)) : Y G d zX3_holderOfMade [vr f, vi (nI i)] (NC, I, J, layR sw) 0 0 (qi Q) := by
  obtain ⟨s0, ⟨s1, s2, s3, s4, s5, s6, s7, s8⟩, hlr, hb1, hb2⟩ := hf
  obtain ⟨r0, r1, r2, r3, r4, r5, r6, r7⟩ := hlr sw
  have k0 : f < NC := by show f < 206; omega
  have k3 : f + 3 < NC := by show f + 3 < 206; omega
  have k4 : f + 4 < NC := by show f + 4 < 206; omega
  have hn := hv.1
  obtain ⟨l1, l2⟩ := smd_lt hv hi
  have loop : ∀ (m r : Nat), m = 4 - r → r ≤ 4 → hld c i = frs (fun r => decide ((so c i).2 r = smd c i)) r m → X G d zX3_holderOfMade 2 [(0, vr f), (1, vi (nI i)), (2, vi (nI r))] [] (NC, I, J, layR sw) 0 0 (qi Q) := by
    intro m
    induction m with
    | zero =>
      intro r hm4 hr4 hh
      obtain rfl : r = 4 := by omega
      rw [show hld c i = 4 from hh, if_neg (by decide)] at hQ
      refine X_iload_n dX3_holderOfMade_2 rfl ?_
      refine X_iconst (v := nI 4) dX3_holderOfMade_3 (by decide) ?_
      refine X_icmp_ge (tgt := 34) dX3_holderOfMade_4 (by decide) (fun b => ?_) (fun b => ?_)
      · refine X_bipush (v := (-6)) dX3_holderOfMade_34 (by decide) ?_
        exact X_iret dX3_holderOfMade_36 rfl ⟨_, rfl, hQ⟩
      · exact absurd (by decide) b
    | succ m ih =>
      intro r hm4 hr4 hh
      have hlr := l2 r (by omega)
      refine X_iload_n dX3_holderOfMade_2 rfl ?_
      refine X_iconst (v := nI 4) dX3_holderOfMade_3 (by decide) ?_
      refine X_icmp_ge (tgt := 34) dX3_holderOfMade_4 (by decide) (fun b => ?_) (fun b => ?_)
      · exact absurd ((nle (by omega) (by omega)).mp b) (by omega)
      refine X_aload_n dX3_holderOfMade_7 rfl ?_
      refine X_getR dX3_holderOfMade_8 gf_X3_18 (by first | assumption | rfl) (by first | assumption | exact Nat.le_of_ble_eq_true rfl | omega) rfl (by first | assumption | rfl) ?_
      refine X_iload_n dX3_holderOfMade_11 rfl ?_
      refine X_iconst (v := nI 4) dX3_holderOfMade_12 (by decide) ?_
      first | refine X_imulN dX3_holderOfMade_13 ?_ | refine X_imul dX3_holderOfMade_13 ?_
      refine X_iload_n dX3_holderOfMade_14 rfl ?_
      first | refine X_iaddN dX3_holderOfMade_15 ?_ | refine X_iadd dX3_holderOfMade_15 ?_
      first | refine X_iald dX3_holderOfMade_16 (by first | assumption | rfl) (by first | assumption | exact Nat.le_of_ble_eq_true rfl | omega) rfl (by first | decide | omega) (by decide) ?_ | refine X_ildA dX3_holderOfMade_16 rfl (by omega) ?_ | refine X_ildM dX3_holderOfMade_16 rfl (by omega) ?_ | refine X_sld dX3_holderOfMade_16 rfl (by omega) (by omega) ?_
      rw [hr r (by omega)]
      refine X_aload_n dX3_holderOfMade_17 rfl ?_
      refine X_getR dX3_holderOfMade_18 gf_X3_21 (by first | assumption | rfl) (by first | assumption | exact Nat.le_of_ble_eq_true rfl | omega) rfl (by first | assumption | rfl) ?_
      refine X_iload_n dX3_holderOfMade_21 rfl ?_
      first | refine X_iald dX3_holderOfMade_22 (by first | assumption | rfl) (by first | assumption | exact Nat.le_of_ble_eq_true rfl | omega) rfl (by first | decide | omega) (by decide) ?_ | refine X_ildA dX3_holderOfMade_22 rfl (by omega) ?_ | refine X_ildM dX3_holderOfMade_22 rfl (by omega) ?_ | refine X_sld dX3_holderOfMade_22 rfl (by omega) (by omega) ?_
      rw [hm]
      refine X_icmp_ne (tgt := 28) dX3_holderOfMade_23 (by decide) (fun b23 => ?_) (fun b23 => ?_)
      · have hne : ¬ (so c i).2 r = smd c i := fun q => b23 (by rw [q])
        first | refine X_iinc1 dX3_holderOfMade_28 rfl rfl rfl ?_ | refine X_iinc dX3_holderOfMade_28 rfl rfl rfl rfl ?_
        refine X_goto (tgt := 2) dX3_holderOfMade_31 (by decide) ?_
        refine ih (r + 1) (by omega) (by omega) ?_
        rw [hh]
        show (if decide ((so c i).2 r = smd c i) = true then r else frs _ (r + 1) m) = _
        rw [if_neg (by simpa using hne)]
      · have he := (neq (by omega) (by omega)).mp b23
        have : hld c i = r := by
          rw [hh]
          show (if decide ((so c i).2 r = smd c i) = true then r else frs _ (r + 1) m) = _
          rw [if_pos (by simpa using he)]
        rw [this, if_pos (by omega)] at hQ
        refine X_iload_n dX3_holderOfMade_26 rfl ?_
        exact X_iret dX3_holderOfMade_27 rfl ⟨_, rfl, hQ⟩
  refine Y_of rfl rfl (Nat.le_of_ble_eq_true rfl) rfl ?_
  refine X_iconst (v := nI 0) dX3_holderOfMade_0 (by decide) ?_
  refine X_istore_n dX3_holderOfMade_1 rfl rfl ?_
  exact loop 4 0 rfl (by decide) rfl
def sp_sort (s : SS) (x y : Int32) : Int32 := if (x < 0 ∨ nI (dC s.2.1).1 < x) ∨ (y < 0 ∨ nI 4 ≤ y) then -1 else nI ((so (dC s.2.1).2 x.toNatClampNeg).2 y.toNatClampNeg)
set_option maxRecDepth 20000 in
theorem C_sort {x y : Int32} (hd : 4 ≤ d) (hv : VSt s) (hi : CInv I s) : Y G d zX11_sort [vr 0, vi x, vi y] (NC, I, J, layR sw) 0 0 (qi (PC s (sp_sort s x y) I J)) := by
  have hn := hv.2.1.1.1
  refine Y_of rfl rfl (Nat.le_of_ble_eq_true rfl) rfl ?_
  unfold sp_sort
  rcases pcase hn x with h | ⟨a, ha, rfl⟩
  · rw [if_pos (Or.inl h)]
    refine X_aload_n dX11_sort_0 rfl ?_
    refine X_iload_n dX11_sort_1 rfl ?_
    refine X_cVi dX11_sort_2 ck_X11_145 rfl rfl (by first | assumption | rfl) (by first | assumption | exact Nat.le_of_ble_eq_true rfl | omega) (by omega) (Nat.le_of_ble_eq_true rfl) (c_isNoPlace_t hi.2.1.1.1 h ?_)
    refine X_if_ne (tgt := 15) dX11_sort_5 (by decide) (fun b => ?_) (fun b => ?_)
    · refine X_iconst (v := (-1)) dX11_sort_15 (by decide) ?_
      exact X_iret dX11_sort_16 rfl ⟨_, rfl, PC_same hi⟩
    · exact absurd b (by decide)
  · refine X_aload_n dX11_sort_0 rfl ?_
    refine X_iload_n dX11_sort_1 rfl ?_
    refine X_cVi dX11_sort_2 ck_X11_145 rfl rfl (by first | assumption | rfl) (by first | assumption | exact Nat.le_of_ble_eq_true rfl | omega) (by omega) (Nat.le_of_ble_eq_true rfl) (c_isNoPlace_f hi.2.1.1.1 hn ha ?_)
    refine X_if_ne (tgt := 15) dX11_sort_5 (by decide) (fun b => ?_) (fun b => ?_)
    · exact absurd rfl b
    refine X_iload_n dX11_sort_8 rfl ?_
    rcases scase (n := 4) (by decide) y with h | ⟨t, ht, rfl⟩
    · rw [if_pos (Or.inr h)]
      refine X_cSi dX11_sort_9 ck_X11_165 rfl rfl (by omega) (Nat.le_of_ble_eq_true rfl) (c_isNoReg_t h ?_)
      refine X_if_eq (tgt := 17) dX11_sort_12 (by decide) (fun b12 => ?_) (fun b12 => ?_)
      · exact absurd b12 (by decide)
      · refine X_iconst (v := (-1)) dX11_sort_15 (by decide) ?_
        exact X_iret dX11_sort_16 rfl ⟨_, rfl, PC_same hi⟩
    · rw [if_neg (fun q => q.elim (pcase_n hn ha) (scase_n (by decide) ht)), nI_clamp (by omega), nI_clamp (by omega)]
      refine X_cSi dX11_sort_9 ck_X11_165 rfl rfl (by omega) (Nat.le_of_ble_eq_true rfl) (c_isNoReg_f ht ?_)
      refine X_if_eq (tgt := 17) dX11_sort_12 (by decide) (fun b12 => ?_) (fun b12 => ?_)
      · refine X_aload_n dX11_sort_17 rfl ?_
        refine X_getR dX11_sort_18 gf_X11_34 (by first | assumption | rfl) (by first | assumption | exact Nat.le_of_ble_eq_true rfl | omega) rfl (by first | assumption | rfl) ?_
        refine X_aload_n dX11_sort_21 rfl ?_
        refine X_getR dX11_sort_22 gf_X11_19 (by first | assumption | rfl) (by first | assumption | exact Nat.le_of_ble_eq_true rfl | omega) rfl (by first | assumption | rfl) ?_
        refine X_getR dX11_sort_25 gf_X11_106 (by first | assumption | rfl) (by first | assumption | exact Nat.le_of_ble_eq_true rfl | omega) rfl (by first | assumption | rfl) ?_
        refine X_cVv dX11_sort_28 ck_X11_155 rfl rfl (by first | assumption | rfl) (by first | assumption | exact Nat.le_of_ble_eq_true rfl | omega) (by omega) (Nat.le_of_ble_eq_true rfl) (c_followSorts (by omega) fa102 hi.2.1.1 hv.2.1.1 (fun I' hF hl _ => ?_))
        refine X_aload_n dX11_sort_31 rfl ?_
        refine X_getR dX11_sort_32 gf_X11_34 (by first | assumption | rfl) (by first | assumption | exact Nat.le_of_ble_eq_true rfl | omega) rfl (by first | assumption | rfl) ?_
        refine X_getR dX11_sort_35 gf_X11_174 (by first | assumption | rfl) (by first | assumption | exact Nat.le_of_ble_eq_true rfl | omega) rfl (by first | assumption | rfl) ?_
        refine X_iload_n dX11_sort_38 rfl ?_
        refine X_iconst (v := nI 4) dX11_sort_39 (by decide) ?_
        first | refine X_imulN dX11_sort_40 ?_ | refine X_imul dX11_sort_40 ?_
        refine X_iload_n dX11_sort_41 rfl ?_
        first | refine X_iaddN dX11_sort_42 ?_ | refine X_iadd dX11_sort_42 ?_
        first | refine X_iald dX11_sort_43 (by first | assumption | rfl) (by first | assumption | exact Nat.le_of_ble_eq_true rfl | omega) rfl (by first | decide | omega) (by decide) ?_ | refine X_ildA dX11_sort_43 rfl (by omega) ?_ | refine X_ildM dX11_sort_43 rfl (by omega) ?_ | refine X_sld dX11_sort_43 rfl (by omega) (by omega) ?_
        rw [hl a ha t ht]
        exact X_iret dX11_sort_44 rfl ⟨_, rfl, PC_scr hi hv _ hF (by decide)⟩
      · exact absurd rfl b12
/-- bits of those below n that pass a test -/
def bts (p : Nat → Bool) : Nat → Nat
  | 0 => 0
  | i + 1 => if p i = true then bts p i ||| 2 ^ i else bts p i
theorem bts_lt (p : Nat → Bool) : ∀ n, bts p n < 2 ^ n
  | 0 => Nat.zero_lt_one
  | n + 1 => by
    have := bts_lt p n
    unfold bts
    split
    · exact Nat.or_lt_two_pow (Nat.lt_of_lt_of_le this (Nat.pow_le_pow_right (by decide) (Nat.le_succ n))) (Nat.pow_lt_pow_right (by decide) (Nat.lt_succ_self n))
    · exact Nat.lt_of_lt_of_le this (Nat.pow_le_pow_right (by decide) (Nat.le_succ n))
theorem bts_t {p : Nat → Bool} {i : Nat} (h : p i = true) : bts p (i + 1) = bts p i ||| 2 ^ i := if_pos h
theorem bts_f {p : Nat → Bool} {i : Nat} (h : ¬ p i = true) : bts p (i + 1) = bts p i := if_neg h
def sp_bad (s : SS) (x : Int32) : Int32 := if x = nI 0 then nI (bts (fun i => !(liv (dC s.2.1).2 (dW s.2.1) (dC s.2.1).1 (i + 1)).testBit ((dC s.2.1).2 i 0)) (dC s.2.1).1) else if x = nI 1 then nI (bts (fun i => decide (hld (dC s.2.1).2 i < 4)) (dC s.2.1).1) else -2
set_option maxRecDepth 20000 in
theorem C_bad {x : Int32} (hd : 4 ≤ d) (hv : VSt s) (hi : CInv I s) : Y G d zX11_bad [vr 0, vi x] (NC, I, J, layR sw) 0 0 (qi (PC s (sp_bad s x) I J)) := by
  have hn := hv.2.1.1.1
  have hW := hv.2.1.2.2.1.2
  have hc := hi.2.1.1
  have hvc := hv.2.1.1
  unfold sp_bad
  by_cases h0 : x = nI 0
  · rw [if_pos h0]
    subst h0
    refine Y_of rfl rfl (Nat.le_of_ble_eq_true rfl) rfl ?_
    refine X_iload_n dX11_bad_0 rfl ?_
    refine X_if_eq (tgt := 12) dX11_bad_1 (by decide) (fun b => ?_) (fun b => ?_)
    · refine X_iload_n dX11_bad_12 rfl ?_
      refine X_if_ne (tgt := 40) dX11_bad_13 (by decide) (fun b13 => ?_) (fun b13 => ?_)
      · exact absurd rfl b13
      refine X_aload_n dX11_bad_16 rfl ?_
      refine X_getR dX11_bad_17 gf_X11_34 (by first | assumption | rfl) (by first | assumption | exact Nat.le_of_ble_eq_true rfl | omega) rfl (by first | assumption | rfl) ?_
      refine X_aload_n dX11_bad_20 rfl ?_
      refine X_getR dX11_bad_21 gf_X11_19 (by first | assumption | rfl) (by first | assumption | exact Nat.le_of_ble_eq_true rfl | omega) rfl (by first | assumption | rfl) ?_
      refine X_getR dX11_bad_24 gf_X11_106 (by first | assumption | rfl) (by first | assumption | exact Nat.le_of_ble_eq_true rfl | omega) rfl (by first | assumption | rfl) ?_
      refine X_aload_n dX11_bad_27 rfl ?_
      refine X_getR dX11_bad_28 gf_X11_19 (by first | assumption | rfl) (by first | assumption | exact Nat.le_of_ble_eq_true rfl | omega) rfl (by first | assumption | rfl) ?_
      refine X_getI dX11_bad_31 gf_X11_120 (by first | assumption | rfl) (by first | assumption | exact Nat.le_of_ble_eq_true rfl | omega) rfl ?_
      rw [hi.2.1.2.2.1]
      refine X_cVv dX11_bad_34 ck_X11_148 rfl rfl (by first | assumption | rfl) (by first | assumption | exact Nat.le_of_ble_eq_true rfl | omega) (by omega) (Nat.le_of_ble_eq_true rfl) (c_followLive (by omega) fa102 hc hvc (by omega) (fun I' hF hl => ?_))
      have hc' : CR I' 8 (dC s.2.1).1 (dC s.2.1).2 := CR_fr hc hF (by simp) (by simp)
      refine X_goto (tgt := 54) dX11_bad_37 (by decide) ?_
      refine X_iconst (v := nI 0) dX11_bad_54 (by decide) ?_
      refine X_istore_n dX11_bad_55 rfl rfl ?_
      refine X_iconst (v := nI 0) dX11_bad_56 (by decide) ?_
      refine X_istore_n dX11_bad_57 rfl rfl ?_
      have loop : ∀ (m i : Nat), m = (dC s.2.1).1 - i → i ≤ (dC s.2.1).1 → X G d zX11_bad 58 [(0, vr 0), (1, vi (nI 0)), (2, vi (nI (bts (fun i => !(liv (dC s.2.1).2 (dW s.2.1) (dC s.2.1).1 (i + 1)).testBit ((dC s.2.1).2 i 0)) i))), (3, vi (nI i))] [] (NC, I', J, layR sw) 0 0 (qi (PC s (nI (bts (fun i => !(liv (dC s.2.1).2 (dW s.2.1) (dC s.2.1).1 (i + 1)).testBit ((dC s.2.1).2 i 0)) (dC s.2.1).1)) I J)) := by
        intro m
        induction m with
        | zero =>
          intro i hm him
          obtain rfl : i = (dC s.2.1).1 := by omega
          refine X_iload_n dX11_bad_58 rfl ?_
          refine X_aload_n dX11_bad_59 rfl ?_
          refine X_getR dX11_bad_60 gf_X11_19 (by first | assumption | rfl) (by first | assumption | exact Nat.le_of_ble_eq_true rfl | omega) rfl (by first | assumption | rfl) ?_
          refine X_getR dX11_bad_63 gf_X11_106 (by first | assumption | rfl) (by first | assumption | exact Nat.le_of_ble_eq_true rfl | omega) rfl (by first | assumption | rfl) ?_
          refine X_getI dX11_bad_66 gf_X11_116 (by first | assumption | rfl) (by first | assumption | exact Nat.le_of_ble_eq_true rfl | omega) rfl ?_
          rw [hc'.1]
          refine X_icmp_ge (tgt := 131) dX11_bad_69 (by decide) (fun b69 => ?_) (fun b69 => ?_)
          · refine X_iload_n dX11_bad_131 rfl ?_
            exact X_iret dX11_bad_132 rfl ⟨_, rfl, PC_scr hi hv _ hF (by decide)⟩
          · exact absurd (Int32.le_refl _) b69
        | succ m ih =>
          intro i hm him
          have ih := ih (i + 1) (by omega) (by omega)
          refine X_iload_n dX11_bad_58 rfl ?_
          refine X_aload_n dX11_bad_59 rfl ?_
          refine X_getR dX11_bad_60 gf_X11_19 (by first | assumption | rfl) (by first | assumption | exact Nat.le_of_ble_eq_true rfl | omega) rfl (by first | assumption | rfl) ?_
          refine X_getR dX11_bad_63 gf_X11_106 (by first | assumption | rfl) (by first | assumption | exact Nat.le_of_ble_eq_true rfl | omega) rfl (by first | assumption | rfl) ?_
          refine X_getI dX11_bad_66 gf_X11_116 (by first | assumption | rfl) (by first | assumption | exact Nat.le_of_ble_eq_true rfl | omega) rfl ?_
          rw [hc'.1]
          refine X_icmp_ge (tgt := 131) dX11_bad_69 (by decide) (fun b69 => ?_) (fun b69 => ?_)
          · exact absurd ((nle (by omega) (by omega)).mp b69) (by omega)
          refine X_iload_n dX11_bad_72 rfl ?_
          refine X_if_ne (tgt := 94) dX11_bad_73 (by decide) (fun b73 => ?_) (fun b73 => ?_)
          · exact absurd rfl b73
          refine X_aload_n dX11_bad_76 rfl ?_
          refine X_getR dX11_bad_77 gf_X11_34 (by first | assumption | rfl) (by first | assumption | exact Nat.le_of_ble_eq_true rfl | omega) rfl (by first | assumption | rfl) ?_
          refine X_aload_n dX11_bad_80 rfl ?_
          refine X_getR dX11_bad_81 gf_X11_19 (by first | assumption | rfl) (by first | assumption | exact Nat.le_of_ble_eq_true rfl | omega) rfl (by first | assumption | rfl) ?_
          refine X_getR dX11_bad_84 gf_X11_106 (by first | assumption | rfl) (by first | assumption | exact Nat.le_of_ble_eq_true rfl | omega) rfl (by first | assumption | rfl) ?_
          refine X_iload_n dX11_bad_87 rfl ?_
          refine X_cVi dX11_bad_88 ck_X11_158 rfl rfl (by first | assumption | rfl) (by first | assumption | exact Nat.le_of_ble_eq_true rfl | omega) (by omega) (Nat.le_of_ble_eq_true rfl) (c_isDead (by omega) fa102 hc' hvc (by omega) (by omega) (hl (i + 1) (by omega)) ?_)
          refine X_goto (tgt := 112) dX11_bad_91 (by decide) ?_
          refine X_istore dX11_bad_112 rfl rfl ?_
          refine X_iload dX11_bad_114 rfl ?_
          by_cases ht : (liv (dC s.2.1).2 (dW s.2.1) (dC s.2.1).1 (i + 1)).testBit ((dC s.2.1).2 i 0) = true
          · rw [if_pos ht]
            rw [bts_f (by simp [ht])] at ih
            refine X_if_eq (tgt := 125) dX11_bad_116 (by decide) (fun b116 => ?_) (fun b116 => ?_)
            · first | refine X_iinc1 dX11_bad_125 rfl rfl rfl ?_ | refine X_iinc dX11_bad_125 rfl rfl rfl rfl ?_
              refine X_goto (tgt := 58) dX11_bad_128 (by decide) ?_
              refine weak (lv' := [(0, vr 0), (1, vi (nI 0)), (2, vi (nI (bts (fun i => !(liv (dC s.2.1).2 (dW s.2.1) (dC s.2.1).1 (i + 1)).testBit ((dC s.2.1).2 i 0)) i))), (3, vi (nI (i + 1)))]) (fun q hq => List.mem_append_left _ hq) ?_
              exact ih
            · exact absurd rfl b116
          · rw [if_neg ht]
            rw [bts_t (by simp [ht])] at ih
            refine X_if_eq (tgt := 125) dX11_bad_116 (by decide) (fun b116 => ?_) (fun b116 => ?_)
            · exact absurd b116 (by decide)
            · refine X_iload_n dX11_bad_119 rfl ?_
              refine X_iconst (v := nI 1) dX11_bad_120 (by decide) ?_
              refine X_iload_n dX11_bad_121 rfl ?_
              first | refine X_ishl1 dX11_bad_122 (by omega) ?_ | refine X_ishl dX11_bad_122 ?_
              first | refine X_iorN dX11_bad_123 ?_ | refine X_ior dX11_bad_123 ?_
              refine X_istore_n dX11_bad_124 rfl rfl ?_
              first | refine X_iinc1 dX11_bad_125 rfl rfl rfl ?_ | refine X_iinc dX11_bad_125 rfl rfl rfl rfl ?_
              refine X_goto (tgt := 58) dX11_bad_128 (by decide) ?_
              refine weak (lv' := [(0, vr 0), (1, vi (nI 0)), (2, vi (nI (bts (fun i => !(liv (dC s.2.1).2 (dW s.2.1) (dC s.2.1).1 (i + 1)).testBit ((dC s.2.1).2 i 0)) i ||| 2 ^ i))), (3, vi (nI (i + 1)))]) (fun q hq => List.mem_append_left _ hq) ?_
              exact ih
      exact loop (dC s.2.1).1 0 rfl (Nat.zero_le _)
    · exact absurd rfl b
  · rw [if_neg h0]
    by_cases h1 : x = nI 1
    · rw [if_pos h1]
      subst h1
      refine Y_of rfl rfl (Nat.le_of_ble_eq_true rfl) rfl ?_
      refine X_iload_n dX11_bad_0 rfl ?_
      refine X_if_eq (tgt := 12) dX11_bad_1 (by decide) (fun b => ?_) (fun b => ?_)
      · exact absurd b (by decide)
      refine X_iload_n dX11_bad_4 rfl ?_
      refine X_iconst (v := nI 1) dX11_bad_5 (by decide) ?_
      refine X_icmp_eq (tgt := 12) dX11_bad_6 (by decide) (fun b6 => ?_) (fun b6 => ?_)
      · refine X_iload_n dX11_bad_12 rfl ?_
        refine X_if_ne (tgt := 40) dX11_bad_13 (by decide) (fun b13 => ?_) (fun b13 => ?_)
        · refine X_aload_n dX11_bad_40 rfl ?_
          refine X_getR dX11_bad_41 gf_X11_34 (by first | assumption | rfl) (by first | assumption | exact Nat.le_of_ble_eq_true rfl | omega) rfl (by first | assumption | rfl) ?_
          refine X_aload_n dX11_bad_44 rfl ?_
          refine X_getR dX11_bad_45 gf_X11_19 (by first | assumption | rfl) (by first | assumption | exact Nat.le_of_ble_eq_true rfl | omega) rfl (by first | assumption | rfl) ?_
          refine X_getR dX11_bad_48 gf_X11_106 (by first | assumption | rfl) (by first | assumption | exact Nat.le_of_ble_eq_true rfl | omega) rfl (by first | assumption | rfl) ?_
          refine X_cVv dX11_bad_51 ck_X11_155 rfl rfl (by first | assumption | rfl) (by first | assumption | exact Nat.le_of_ble_eq_true rfl | omega) (by omega) (Nat.le_of_ble_eq_true rfl) (c_followSorts (by omega) fa102 hc hvc (fun I' hF hl hmd => ?_))
          have hc' : CR I' 8 (dC s.2.1).1 (dC s.2.1).2 := CR_fr hc hF (by simp) (by simp)
          refine X_iconst (v := nI 0) dX11_bad_54 (by decide) ?_
          refine X_istore_n dX11_bad_55 rfl rfl ?_
          refine X_iconst (v := nI 0) dX11_bad_56 (by decide) ?_
          refine X_istore_n dX11_bad_57 rfl rfl ?_
          have loop : ∀ (m i : Nat), m = (dC s.2.1).1 - i → i ≤ (dC s.2.1).1 → X G d zX11_bad 58 [(0, vr 0), (1, vi (nI 1)), (2, vi (nI (bts (fun i => decide (hld (dC s.2.1).2 i < 4)) i))), (3, vi (nI i))] [] (NC, I', J, layR sw) 0 0 (qi (PC s (nI (bts (fun i => decide (hld (dC s.2.1).2 i < 4)) (dC s.2.1).1)) I J)) := by
            intro m
            induction m with
            | zero =>
              intro i hm him
              obtain rfl : i = (dC s.2.1).1 := by omega
              refine X_iload_n dX11_bad_58 rfl ?_
              refine X_aload_n dX11_bad_59 rfl ?_
              refine X_getR dX11_bad_60 gf_X11_19 (by first | assumption | rfl) (by first | assumption | exact Nat.le_of_ble_eq_true rfl | omega) rfl (by first | assumption | rfl) ?_
              refine X_getR dX11_bad_63 gf_X11_106 (by first | assumption | rfl) (by first | assumption | exact Nat.le_of_ble_eq_true rfl | omega) rfl (by first | assumption | rfl) ?_
              refine X_getI dX11_bad_66 gf_X11_116 (by first | assumption | rfl) (by first | assumption | exact Nat.le_of_ble_eq_true rfl | omega) rfl ?_
              rw [hc'.1]
              refine X_icmp_ge (tgt := 131) dX11_bad_69 (by decide) (fun b69 => ?_) (fun b69 => ?_)
              · refine X_iload_n dX11_bad_131 rfl ?_
                exact X_iret dX11_bad_132 rfl ⟨_, rfl, PC_scr hi hv _ hF (by decide)⟩
              · exact absurd (Int32.le_refl _) b69
            | succ m ih =>
              intro i hm him
              have ih := ih (i + 1) (by omega) (by omega)
              refine X_iload_n dX11_bad_58 rfl ?_
              refine X_aload_n dX11_bad_59 rfl ?_
              refine X_getR dX11_bad_60 gf_X11_19 (by first | assumption | rfl) (by first | assumption | exact Nat.le_of_ble_eq_true rfl | omega) rfl (by first | assumption | rfl) ?_
              refine X_getR dX11_bad_63 gf_X11_106 (by first | assumption | rfl) (by first | assumption | exact Nat.le_of_ble_eq_true rfl | omega) rfl (by first | assumption | rfl) ?_
              refine X_getI dX11_bad_66 gf_X11_116 (by first | assumption | rfl) (by first | assumption | exact Nat.le_of_ble_eq_true rfl | omega) rfl ?_
              rw [hc'.1]
              refine X_icmp_ge (tgt := 131) dX11_bad_69 (by decide) (fun b69 => ?_) (fun b69 => ?_)
              · exact absurd ((nle (by omega) (by omega)).mp b69) (by omega)
              refine X_iload_n dX11_bad_72 rfl ?_
              refine X_if_ne (tgt := 94) dX11_bad_73 (by decide) (fun b73 => ?_) (fun b73 => ?_)
              · refine X_aload_n dX11_bad_94 rfl ?_
                refine X_getR dX11_bad_95 gf_X11_34 (by first | assumption | rfl) (by first | assumption | exact Nat.le_of_ble_eq_true rfl | omega) rfl (by first | assumption | rfl) ?_
                refine X_iload_n dX11_bad_98 rfl ?_
                refine X_cVi dX11_bad_99 ck_X11_162 rfl rfl (by first | assumption | rfl) (by first | assumption | exact Nat.le_of_ble_eq_true rfl | omega) (by omega) (Nat.le_of_ble_eq_true rfl) (c_holderOfMade fa102 hvc (i := i) (by omega) (hl i (by omega)) (hmd i (by omega)) ?_)
                refine X_bipush (v := (-6)) dX11_bad_102 (by decide) ?_
                by_cases ht : hld (dC s.2.1).2 i < 4
                · rw [if_pos ht]
                  rw [bts_t (by simp [ht])] at ih
                  refine X_icmp_eq (tgt := 111) dX11_bad_104 (by decide) (fun b104 => ?_) (fun b104 => ?_)
                  · exact absurd (show nI (hld (dC s.2.1).2 i) < 0 by rw [b104]; decide) (nneg (by omega))
                  refine X_iconst (v := nI 1) dX11_bad_107 (by decide) ?_
                  refine X_goto (tgt := 112) dX11_bad_108 (by decide) ?_
                  refine X_istore dX11_bad_112 rfl rfl ?_
                  refine X_iload dX11_bad_114 rfl ?_
                  refine X_if_eq (tgt := 125) dX11_bad_116 (by decide) (fun b116 => ?_) (fun b116 => ?_)
                  · exact absurd b116 (by decide)
                  · refine X_iload_n dX11_bad_119 rfl ?_
                    refine X_iconst (v := nI 1) dX11_bad_120 (by decide) ?_
                    refine X_iload_n dX11_bad_121 rfl ?_
                    first | refine X_ishl1 dX11_bad_122 (by omega) ?_ | refine X_ishl dX11_bad_122 ?_
                    first | refine X_iorN dX11_bad_123 ?_ | refine X_ior dX11_bad_123 ?_
                    refine X_istore_n dX11_bad_124 rfl rfl ?_
                    first | refine X_iinc1 dX11_bad_125 rfl rfl rfl ?_ | refine X_iinc dX11_bad_125 rfl rfl rfl rfl ?_
                    refine X_goto (tgt := 58) dX11_bad_128 (by decide) ?_
                    refine weak (lv' := [(0, vr 0), (1, vi (nI 1)), (2, vi (nI (bts (fun i => decide (hld (dC s.2.1).2 i < 4)) i ||| 2 ^ i))), (3, vi (nI (i + 1)))]) (fun q hq => List.mem_append_left _ hq) ?_
                    exact ih
                · rw [if_neg ht]
                  rw [bts_f (by simp [ht])] at ih
                  refine X_icmp_eq (tgt := 111) dX11_bad_104 (by decide) (fun b104 => ?_) (fun b104 => ?_)
                  · refine X_iconst (v := nI 0) dX11_bad_111 (by decide) ?_
                    refine X_istore dX11_bad_112 rfl rfl ?_
                    refine X_iload dX11_bad_114 rfl ?_
                    refine X_if_eq (tgt := 125) dX11_bad_116 (by decide) (fun b116 => ?_) (fun b116 => ?_)
                    · first | refine X_iinc1 dX11_bad_125 rfl rfl rfl ?_ | refine X_iinc dX11_bad_125 rfl rfl rfl rfl ?_
                      refine X_goto (tgt := 58) dX11_bad_128 (by decide) ?_
                      refine weak (lv' := [(0, vr 0), (1, vi (nI 1)), (2, vi (nI (bts (fun i => decide (hld (dC s.2.1).2 i < 4)) i))), (3, vi (nI (i + 1)))]) (fun q hq => List.mem_append_left _ hq) ?_
                      exact ih
                    · exact absurd rfl b116
                  · exact absurd rfl b104
              · exact absurd b73 (by decide)
          exact loop (dC s.2.1).1 0 rfl (Nat.zero_le _)
        · exact absurd b13 (by decide)
      · exact absurd rfl b6
    · rw [if_neg h1]
      refine Y_of rfl rfl (Nat.le_of_ble_eq_true rfl) rfl ?_
      refine X_iload_n dX11_bad_0 rfl ?_
      refine X_if_eq (tgt := 12) dX11_bad_1 (by decide) (fun b => ?_) (fun b => ?_)
      · exact absurd b h0
      refine X_iload_n dX11_bad_4 rfl ?_
      refine X_iconst (v := nI 1) dX11_bad_5 (by decide) ?_
      refine X_icmp_eq (tgt := 12) dX11_bad_6 (by decide) (fun b6 => ?_) (fun b6 => ?_)
      · exact absurd b6 h1
      refine X_bipush (v := (-2)) dX11_bad_9 (by decide) ?_
      exact X_iret dX11_bad_11 rfl ⟨_, rfl, PC_same hi⟩
end CS
