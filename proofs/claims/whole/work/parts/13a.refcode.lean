section RP
variable {G : GG} {d : Nat} {sw : Bool} {I : Nat → Nat → Int32} {J : Nat → Nat → Int64} {s : SS}
/-- the steps told by the signs from b up to t -/
def Tl (sg : Nat → Int32) (b t n : Nat) (c : Nat → Nat → Nat) : Prop := DL sg b n c ∧ ((n = 0 ∧ t = b) ∨ (1 ≤ n ∧ t + 1 = pos b c n))
def rdR (P : Nat → Int32) (n : Nat) (c : Nat → Nat → Nat) : Prop := ∀ q, q < n → ∀ w, w < 4 → P (4 * q + w) = enc (c q w)
theorem rdR_add {P : Nat → Int32} {n : Nat} {c : Nat → Nat → Nat} (h : rdR P n c) : rdR (up (up (up (up P (4 * n) (enc (c n 0))) (4 * n + 1) (enc (c n 1))) (4 * n + 2) (enc (c n 2))) (4 * n + 3) (enc (c n 3))) (n + 1) c := by
  intro q hq w hw
  by_cases hqi : q = n
  · subst hqi
    rcases (by omega : w = 0 ∨ w = 1 ∨ w = 2 ∨ w = 3) with rfl | rfl | rfl | rfl
    · rw [up_ne (by omega), up_ne (by omega), up_ne (by omega)]; exact up_eq
    · rw [up_ne (by omega), up_ne (by omega)]; exact up_eq
    · rw [up_ne (by omega)]; exact up_eq
    · exact up_eq
  · rw [up_ne (by omega), up_ne (by omega), up_ne (by omega), up_ne (by omega)]
    exact h q (by omega) w hw
set_option maxRecDepth 20000 in
set_option maxHeartbeats 4000000 in
theorem m_readSteps {Q : Int32 → Mm → Prop} {sg : Nat → Int32} {b t n : Nat} {c : Nat → Nat → Nat} (hd : 2 ≤ d) (hT : Tl sg b t n c) (ht : t ≤ 80) (hn : n ≤ 12) (hb : b ≤ 80) (hsg : ∀ i, i < t → I 171 i = sg i)
    (hQ : ∀ P, rdR P n c → Q (nI n) (NC, sr I 178 P, J, layR sw)) : Y G d zX12_readSteps [vr 170, vi (nI b), vi (nI t)] (NC, I, J, layR sw) 0 0 (qi Q) := by
  obtain ⟨hD, hE⟩ := hT
  have loop : ∀ (m k : Nat) (P : Nat → Int32), m = n - k → k ≤ n → rdR P k c → ∀ x5 : List (Nat × AV), (x5 = [] ∨ ∃ z, x5 = [(5, vi z)]) → X G d zX12_readSteps 5 ([(0, vr 170), (1, vi (nI b)), (2, vi (nI t)), (3, vi (nI k)), (4, vi (nI (pos b c k)))] ++ x5) [] (NC, sr I 178 P, J, layR sw) 0 0 (qi Q) := by
    intro m
    induction m with
    | zero =>
      intro k P hm hk hP x5 hx5
      obtain rfl : k = n := by omega
      have hpe : t ≤ pos b c k ∧ pos b c k ≤ 81 := by
        rcases hE with ⟨h1, h2⟩ | ⟨h1, h2⟩
        · rw [h1]; exact ⟨Nat.le_of_eq h2, show b ≤ 81 by omega⟩
        · omega
      refine weak (lv' := [(0, vr 170), (1, vi (nI b)), (2, vi (nI t)), (3, vi (nI k)), (4, vi (nI (pos b c k)))]) (fun q hq => List.mem_append_left _ hq) ?_
      refine X_iload dX12_readSteps_5 rfl ?_
      refine X_iload_n dX12_readSteps_7 rfl ?_
      refine X_icmp_ge (tgt := 160) dX12_readSteps_8 (by decide) (fun h8 => ?_) (fun h8 => ?_)
      · refine X_iload_n dX12_readSteps_160 rfl ?_
        exact X_iret dX12_readSteps_161 rfl ⟨_, rfl, hQ P hP⟩
      · refine absurd ((nle (by omega) (by omega)).mpr (by omega)) h8
    | succ m ih =>
      intro k P hm hk hP x5 hx5
      have hlt : k < n := by omega
      have hmono := pos_mono (b := b) (c := c) n hlt
      have hsl := slen_ge (c k)
      have hq : pos b c k + slen (c k) ≤ t := by omega
      obtain ⟨s1, s2, s3⟩ := hD k hlt
      have hs : ∀ j, j < slen (c k) → sr I 178 P 171 (pos b c k + j) = sg (pos b c k + j) := fun j hj => by rw [sr_ne (by decide)]; exact hsg _ (by omega)
      have e0 : sr I 178 P 171 (pos b c k) = sg (pos b c k) := hs 0 (by omega)
      have e2 := hs 2 (by omega)
      obtain ⟨a, ha1, ha2, ha⟩ : ∃ a, 97 ≤ a ∧ a ≤ 100 ∧ sg (pos b c k) = nI a := by
        rcases opOf_cases (sg (pos b c k)) with ⟨a, h1, h2, h3, _⟩ | ⟨a, h1, h2, h3, h4⟩ | ⟨_, _, h4⟩
        · exact ⟨a, h1, h2, h3⟩
        · omega
        · omega
      have hs0 : nI (a - 97) = enc (c k 0) := by
        rw [enc_n (by omega), s1, ha]
        unfold opOf
        rw [if_pos ⟨(nle (by omega) (by omega)).mpr ha1, (nle (by omega) (by omega)).mpr ha2⟩, nI_clamp (by omega)]
      refine weak (lv' := [(0, vr 170), (1, vi (nI b)), (2, vi (nI t)), (3, vi (nI k)), (4, vi (nI (pos b c k)))]) (fun q hq => List.mem_append_left _ hq) ?_
      refine X_iload dX12_readSteps_5 rfl ?_
      refine X_iload_n dX12_readSteps_7 rfl ?_
      refine X_icmp_ge (tgt := 160) dX12_readSteps_8 (by decide) (fun h8 => ?_) (fun h8 => ?_)
      · exact absurd ((nle (by omega) (by omega)).mp h8) (by omega)
      refine X_aload_n dX12_readSteps_11 rfl ?_
      refine X_getR dX12_readSteps_12 gf_X12_31 (by first | assumption | rfl) (by first | assumption | exact Nat.le_of_ble_eq_true rfl | omega) rfl (by first | assumption | rfl) ?_
      refine X_iconst (v := nI 4) dX12_readSteps_15 (by decide) ?_
      refine X_iload_n dX12_readSteps_16 rfl ?_
      first | refine X_imulN dX12_readSteps_17 ?_ | refine X_imul dX12_readSteps_17 ?_
      refine X_aload_n dX12_readSteps_18 rfl ?_
      refine X_getR dX12_readSteps_19 gf_X12_7 (by first | assumption | rfl) (by first | assumption | exact Nat.le_of_ble_eq_true rfl | omega) rfl (by first | assumption | rfl) ?_
      refine X_iload dX12_readSteps_22 rfl ?_
      first | refine X_iald dX12_readSteps_24 (by first | assumption | rfl) (by first | assumption | exact Nat.le_of_ble_eq_true rfl | omega) rfl (by first | decide | omega) (by decide) ?_ | refine X_ildA dX12_readSteps_24 rfl (by omega) ?_ | refine X_ildM dX12_readSteps_24 rfl (by omega) ?_ | refine X_sld dX12_readSteps_24 rfl (by omega) (by omega) ?_
      rw [e0, ha]
      refine X_bipush (v := nI 97) dX12_readSteps_25 (by decide) ?_
      first | refine X_isubN dX12_readSteps_27 (by omega) ?_ | refine X_isub dX12_readSteps_27 ?_
      rw [hs0]
      refine X_iast dX12_readSteps_28 (by first | assumption | rfl) (by first | assumption | exact Nat.le_of_ble_eq_true rfl | omega) rfl (by first | decide | omega) (by decide) ?_
      rw [sr_eq, sr_sr]
      have e2' : sr I 178 (up P (4 * k) (enc (c k 0))) 171 (pos b c k + 2) = sg (pos b c k + 2) := by rw [sr_ne (by decide)]; rw [sr_ne (by decide)] at e2; exact e2
      refine X_aload_n dX12_readSteps_29 rfl ?_
      refine X_getR dX12_readSteps_30 gf_X12_7 (by first | assumption | rfl) (by first | assumption | exact Nat.le_of_ble_eq_true rfl | omega) rfl (by first | assumption | rfl) ?_
      refine X_iload dX12_readSteps_33 rfl ?_
      refine X_iconst (v := nI 2) dX12_readSteps_35 (by decide) ?_
      first | refine X_iaddN dX12_readSteps_36 ?_ | refine X_iadd dX12_readSteps_36 ?_
      first | refine X_iald dX12_readSteps_37 (by first | assumption | rfl) (by first | assumption | exact Nat.le_of_ble_eq_true rfl | omega) rfl (by first | decide | omega) (by decide) ?_ | refine X_ildA dX12_readSteps_37 rfl (by omega) ?_ | refine X_ildM dX12_readSteps_37 rfl (by omega) ?_ | refine X_sld dX12_readSteps_37 rfl (by omega) (by omega) ?_
      rw [e2']
      rcases s3 with ⟨t1, t2, t3, t4, t5⟩ | ⟨t1, t2, t3, t4, t5, t6⟩
      · have hsl3 : slen (c k) = 3 := by unfold slen; rw [if_pos t1]
        refine X_cSi dX12_readSteps_38 ck_X12_148 rfl rfl (by omega) (Nat.le_of_ble_eq_true rfl) (m_isAct ?_)
        rw [t2]
        refine X_istore dX12_readSteps_41 rfl rfl ?_
        refine X_aload_n dX12_readSteps_43 rfl ?_
        refine X_getR dX12_readSteps_44 gf_X12_31 (by first | assumption | rfl) (by first | assumption | exact Nat.le_of_ble_eq_true rfl | omega) rfl (by first | assumption | rfl) ?_
        refine X_iconst (v := nI 4) dX12_readSteps_47 (by decide) ?_
        refine X_iload_n dX12_readSteps_48 rfl ?_
        first | refine X_imulN dX12_readSteps_49 ?_ | refine X_imul dX12_readSteps_49 ?_
        refine X_iconst (v := nI 1) dX12_readSteps_50 (by decide) ?_
        first | refine X_iaddN dX12_readSteps_51 ?_ | refine X_iadd dX12_readSteps_51 ?_
        refine X_iload dX12_readSteps_52 rfl ?_
        refine X_if_eq (tgt := 69) dX12_readSteps_54 (by decide) (fun b1 => ?_) (fun b1 => ?_)
        · refine X_bipush (v := (-6)) dX12_readSteps_69 (by decide) ?_
          rw [show (-6 : Int32) = enc (c k 1) by rw [t1]; rfl]
          refine X_iast dX12_readSteps_71 (by first | assumption | rfl) (by first | assumption | exact Nat.le_of_ble_eq_true rfl | omega) rfl (by first | decide | omega) (by decide) ?_
          rw [sr_eq, sr_sr]
          refine X_aload_n dX12_readSteps_72 rfl ?_
          refine X_getR dX12_readSteps_73 gf_X12_31 (by first | assumption | rfl) (by first | assumption | exact Nat.le_of_ble_eq_true rfl | omega) rfl (by first | assumption | rfl) ?_
          refine X_iconst (v := nI 4) dX12_readSteps_76 (by decide) ?_
          refine X_iload_n dX12_readSteps_77 rfl ?_
          first | refine X_imulN dX12_readSteps_78 ?_ | refine X_imul dX12_readSteps_78 ?_
          refine X_iconst (v := nI 2) dX12_readSteps_79 (by decide) ?_
          first | refine X_iaddN dX12_readSteps_80 ?_ | refine X_iadd dX12_readSteps_80 ?_
          refine X_aload_n dX12_readSteps_81 rfl ?_
          refine X_getR dX12_readSteps_82 gf_X12_7 (by first | assumption | rfl) (by first | assumption | exact Nat.le_of_ble_eq_true rfl | omega) rfl (by first | assumption | rfl) ?_
          refine X_iload dX12_readSteps_85 rfl ?_
          refine X_if_eq (tgt := 97) dX12_readSteps_87 (by decide) (fun b2 => ?_) (fun b2 => ?_)
          · refine X_iload dX12_readSteps_97 rfl ?_
            refine X_iconst (v := nI 2) dX12_readSteps_99 (by decide) ?_
            first | refine X_iaddN dX12_readSteps_100 ?_ | refine X_iadd dX12_readSteps_100 ?_
            first | refine X_iald dX12_readSteps_101 (by first | assumption | rfl) (by first | assumption | exact Nat.le_of_ble_eq_true rfl | omega) rfl (by first | decide | omega) (by decide) ?_ | refine X_ildA dX12_readSteps_101 rfl (by omega) ?_ | refine X_ildM dX12_readSteps_101 rfl (by omega) ?_ | refine X_sld dX12_readSteps_101 rfl (by omega) (by omega) ?_
            rw [sr_ne (show 171 ≠ 178 by decide)]
            rw [sr_ne (show 171 ≠ 178 by decide)] at e2
            rw [e2]
            refine X_cSi dX12_readSteps_102 ck_X12_173 rfl rfl (by omega) (Nat.le_of_ble_eq_true rfl) (m_operandOf (by omega) (by rw [← t3]; exact t4) ?_)
            rw [← t3]
            refine X_iast dX12_readSteps_105 (by first | assumption | rfl) (by first | assumption | exact Nat.le_of_ble_eq_true rfl | omega) rfl (by first | decide | omega) (by decide) ?_
            rw [sr_eq, sr_sr]
            refine X_aload_n dX12_readSteps_106 rfl ?_
            refine X_getR dX12_readSteps_107 gf_X12_31 (by first | assumption | rfl) (by first | assumption | exact Nat.le_of_ble_eq_true rfl | omega) rfl (by first | assumption | rfl) ?_
            refine X_iconst (v := nI 4) dX12_readSteps_110 (by decide) ?_
            refine X_iload_n dX12_readSteps_111 rfl ?_
            first | refine X_imulN dX12_readSteps_112 ?_ | refine X_imul dX12_readSteps_112 ?_
            refine X_iconst (v := nI 3) dX12_readSteps_113 (by decide) ?_
            first | refine X_iaddN dX12_readSteps_114 ?_ | refine X_iadd dX12_readSteps_114 ?_
            refine X_iload dX12_readSteps_115 rfl ?_
            refine X_if_eq (tgt := 135) dX12_readSteps_117 (by decide) (fun b3 => ?_) (fun b3 => ?_)
            · refine X_bipush (v := (-6)) dX12_readSteps_135 (by decide) ?_
              rw [show (-6 : Int32) = enc (c k 3) by rw [t5]; rfl]
              refine X_iast dX12_readSteps_137 (by first | assumption | rfl) (by first | assumption | exact Nat.le_of_ble_eq_true rfl | omega) rfl (by first | decide | omega) (by decide) ?_
              rw [sr_eq, sr_sr]
              refine X_iload dX12_readSteps_138 rfl ?_
              refine X_iload dX12_readSteps_140 rfl ?_
              refine X_if_eq (tgt := 150) dX12_readSteps_142 (by decide) (fun b4 => ?_) (fun b4 => ?_)
              · refine X_iconst (v := nI 4) dX12_readSteps_150 (by decide) ?_
                first | refine X_iaddN dX12_readSteps_151 ?_ | refine X_iadd dX12_readSteps_151 ?_
                refine X_istore dX12_readSteps_152 rfl rfl ?_
                first | refine X_iinc1 dX12_readSteps_154 rfl rfl rfl ?_ | refine X_iinc dX12_readSteps_154 rfl rfl rfl rfl ?_
                refine X_goto (tgt := 5) dX12_readSteps_157 (by decide) ?_
                have hp1 : pos b c k + 4 = pos b c (k + 1) := by show _ = pos b c k + slen (c k) + 1; omega
                rw [hp1]
                exact ih (k + 1) _ (by omega) (by omega) (rdR_add hP) [(5, vi (nI 0))] (Or.inr ⟨_, rfl⟩)
              · exact absurd rfl b4
            · exact absurd rfl b3
          · exact absurd rfl b2
        · exact absurd rfl b1
      · have hne : c k 1 ≠ 99 := by unfold iact at t1; omega
        have hsl5 : slen (c k) = 5 := by unfold slen; rw [if_neg hne]
        have hA : isA (sg (pos b c k + 2)) = true := by
          rw [t2]
          unfold iact at t1
          rcases t1 with h | h | h | h <;> rw [h] <;> decide
        have e3 := hs 3 (by omega)
        have e4 := hs 4 (by omega)
        rw [sr_ne (show 171 ≠ 178 by decide)] at e2 e3 e4
        refine X_cSi dX12_readSteps_38 ck_X12_148 rfl rfl (by omega) (Nat.le_of_ble_eq_true rfl) (m_isAct ?_)
        rw [hA]
        refine X_istore dX12_readSteps_41 rfl rfl ?_
        refine X_aload_n dX12_readSteps_43 rfl ?_
        refine X_getR dX12_readSteps_44 gf_X12_31 (by first | assumption | rfl) (by first | assumption | exact Nat.le_of_ble_eq_true rfl | omega) rfl (by first | assumption | rfl) ?_
        refine X_iconst (v := nI 4) dX12_readSteps_47 (by decide) ?_
        refine X_iload_n dX12_readSteps_48 rfl ?_
        first | refine X_imulN dX12_readSteps_49 ?_ | refine X_imul dX12_readSteps_49 ?_
        refine X_iconst (v := nI 1) dX12_readSteps_50 (by decide) ?_
        first | refine X_iaddN dX12_readSteps_51 ?_ | refine X_iadd dX12_readSteps_51 ?_
        refine X_iload dX12_readSteps_52 rfl ?_
        refine X_if_eq (tgt := 69) dX12_readSteps_54 (by decide) (fun b1 => ?_) (fun b1 => ?_)
        · exact absurd b1 (by decide)
        refine X_aload_n dX12_readSteps_57 rfl ?_
        refine X_getR dX12_readSteps_58 gf_X12_7 (by first | assumption | rfl) (by first | assumption | exact Nat.le_of_ble_eq_true rfl | omega) rfl (by first | assumption | rfl) ?_
        refine X_iload dX12_readSteps_61 rfl ?_
        refine X_iconst (v := nI 2) dX12_readSteps_63 (by decide) ?_
        first | refine X_iaddN dX12_readSteps_64 ?_ | refine X_iadd dX12_readSteps_64 ?_
        first | refine X_iald dX12_readSteps_65 (by first | assumption | rfl) (by first | assumption | exact Nat.le_of_ble_eq_true rfl | omega) rfl (by first | decide | omega) (by decide) ?_ | refine X_ildA dX12_readSteps_65 rfl (by omega) ?_ | refine X_ildM dX12_readSteps_65 rfl (by omega) ?_ | refine X_sld dX12_readSteps_65 rfl (by omega) (by omega) ?_
        refine X_goto (tgt := 71) dX12_readSteps_66 (by decide) ?_
        rw [sr_ne (show 171 ≠ 178 by decide), e2, t2, ← enc_n hne]
        refine X_iast dX12_readSteps_71 (by first | assumption | rfl) (by first | assumption | exact Nat.le_of_ble_eq_true rfl | omega) rfl (by first | decide | omega) (by decide) ?_
        rw [sr_eq, sr_sr]
        refine X_aload_n dX12_readSteps_72 rfl ?_
        refine X_getR dX12_readSteps_73 gf_X12_31 (by first | assumption | rfl) (by first | assumption | exact Nat.le_of_ble_eq_true rfl | omega) rfl (by first | assumption | rfl) ?_
        refine X_iconst (v := nI 4) dX12_readSteps_76 (by decide) ?_
        refine X_iload_n dX12_readSteps_77 rfl ?_
        first | refine X_imulN dX12_readSteps_78 ?_ | refine X_imul dX12_readSteps_78 ?_
        refine X_iconst (v := nI 2) dX12_readSteps_79 (by decide) ?_
        first | refine X_iaddN dX12_readSteps_80 ?_ | refine X_iadd dX12_readSteps_80 ?_
        refine X_aload_n dX12_readSteps_81 rfl ?_
        refine X_getR dX12_readSteps_82 gf_X12_7 (by first | assumption | rfl) (by first | assumption | exact Nat.le_of_ble_eq_true rfl | omega) rfl (by first | assumption | rfl) ?_
        refine X_iload dX12_readSteps_85 rfl ?_
        refine X_if_eq (tgt := 97) dX12_readSteps_87 (by decide) (fun b2 => ?_) (fun b2 => ?_)
        · exact absurd b2 (by decide)
        refine X_iload dX12_readSteps_90 rfl ?_
        refine X_iconst (v := nI 3) dX12_readSteps_92 (by decide) ?_
        first | refine X_iaddN dX12_readSteps_93 ?_ | refine X_iadd dX12_readSteps_93 ?_
        refine X_goto (tgt := 101) dX12_readSteps_94 (by decide) ?_
        first | refine X_iald dX12_readSteps_101 (by first | assumption | rfl) (by first | assumption | exact Nat.le_of_ble_eq_true rfl | omega) rfl (by first | decide | omega) (by decide) ?_ | refine X_ildA dX12_readSteps_101 rfl (by omega) ?_ | refine X_ildM dX12_readSteps_101 rfl (by omega) ?_ | refine X_sld dX12_readSteps_101 rfl (by omega) (by omega) ?_
        rw [sr_ne (show 171 ≠ 178 by decide), e3]
        refine X_cSi dX12_readSteps_102 ck_X12_173 rfl rfl (by omega) (Nat.le_of_ble_eq_true rfl) (m_operandOf (by omega) (by rw [← t3]; exact t4) ?_)
        rw [← t3]
        refine X_iast dX12_readSteps_105 (by first | assumption | rfl) (by first | assumption | exact Nat.le_of_ble_eq_true rfl | omega) rfl (by first | decide | omega) (by decide) ?_
        rw [sr_eq, sr_sr]
        refine X_aload_n dX12_readSteps_106 rfl ?_
        refine X_getR dX12_readSteps_107 gf_X12_31 (by first | assumption | rfl) (by first | assumption | exact Nat.le_of_ble_eq_true rfl | omega) rfl (by first | assumption | rfl) ?_
        refine X_iconst (v := nI 4) dX12_readSteps_110 (by decide) ?_
        refine X_iload_n dX12_readSteps_111 rfl ?_
        first | refine X_imulN dX12_readSteps_112 ?_ | refine X_imul dX12_readSteps_112 ?_
        refine X_iconst (v := nI 3) dX12_readSteps_113 (by decide) ?_
        first | refine X_iaddN dX12_readSteps_114 ?_ | refine X_iadd dX12_readSteps_114 ?_
        refine X_iload dX12_readSteps_115 rfl ?_
        refine X_if_eq (tgt := 135) dX12_readSteps_117 (by decide) (fun b3 => ?_) (fun b3 => ?_)
        · exact absurd b3 (by decide)
        refine X_aload_n dX12_readSteps_120 rfl ?_
        refine X_getR dX12_readSteps_121 gf_X12_7 (by first | assumption | rfl) (by first | assumption | exact Nat.le_of_ble_eq_true rfl | omega) rfl (by first | assumption | rfl) ?_
        refine X_iload dX12_readSteps_124 rfl ?_
        refine X_iconst (v := nI 4) dX12_readSteps_126 (by decide) ?_
        first | refine X_iaddN dX12_readSteps_127 ?_ | refine X_iadd dX12_readSteps_127 ?_
        first | refine X_iald dX12_readSteps_128 (by first | assumption | rfl) (by first | assumption | exact Nat.le_of_ble_eq_true rfl | omega) rfl (by first | decide | omega) (by decide) ?_ | refine X_ildA dX12_readSteps_128 rfl (by omega) ?_ | refine X_ildM dX12_readSteps_128 rfl (by omega) ?_ | refine X_sld dX12_readSteps_128 rfl (by omega) (by omega) ?_
        rw [sr_ne (show 171 ≠ 178 by decide), e4]
        refine X_cSi dX12_readSteps_129 ck_X12_173 rfl rfl (by omega) (Nat.le_of_ble_eq_true rfl) (m_operandOf (by omega) (by rw [← t5]; exact t6) ?_)
        rw [← t5]
        refine X_goto (tgt := 137) dX12_readSteps_132 (by decide) ?_
        refine X_iast dX12_readSteps_137 (by first | assumption | rfl) (by first | assumption | exact Nat.le_of_ble_eq_true rfl | omega) rfl (by first | decide | omega) (by decide) ?_
        rw [sr_eq, sr_sr]
        refine X_iload dX12_readSteps_138 rfl ?_
        refine X_iload dX12_readSteps_140 rfl ?_
        refine X_if_eq (tgt := 150) dX12_readSteps_142 (by decide) (fun b4 => ?_) (fun b4 => ?_)
        · exact absurd b4 (by decide)
        refine X_bipush (v := nI 6) dX12_readSteps_145 (by decide) ?_
        refine X_goto (tgt := 151) dX12_readSteps_147 (by decide) ?_
        first | refine X_iaddN dX12_readSteps_151 ?_ | refine X_iadd dX12_readSteps_151 ?_
        refine X_istore dX12_readSteps_152 rfl rfl ?_
        first | refine X_iinc1 dX12_readSteps_154 rfl rfl rfl ?_ | refine X_iinc dX12_readSteps_154 rfl rfl rfl rfl ?_
        refine X_goto (tgt := 5) dX12_readSteps_157 (by decide) ?_
        have hp1 : pos b c k + 6 = pos b c (k + 1) := by show _ = pos b c k + slen (c k) + 1; omega
        rw [hp1]
        exact ih (k + 1) _ (by omega) (by omega) (rdR_add hP) [(5, vi (nI 1))] (Or.inr ⟨_, rfl⟩)
  have e : sr I 178 (I 178) = I := by
    funext j
    by_cases h : j = 178
    · subst h; rw [sr_eq]
    · rw [sr_ne h]
  refine Y_of rfl rfl (Nat.le_of_ble_eq_true rfl) rfl ?_
  refine X_iconst (v := nI 0) dX12_readSteps_0 (by decide) ?_
  refine X_istore_n dX12_readSteps_1 rfl rfl ?_
  refine X_iload_n dX12_readSteps_2 rfl ?_
  refine X_istore dX12_readSteps_3 rfl rfl ?_
  have := loop n 0 (I 178) rfl (Nat.zero_le n) (fun q hq => absurd hq (Nat.not_lt_zero q)) [] (Or.inl rfl)
  rw [e] at this
  exact this
end RP
