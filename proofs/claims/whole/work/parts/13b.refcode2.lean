section RP
variable {G : GG} {d : Nat} {sw : Bool} {I : Nat → Nat → Int32} {J : Nat → Nat → Int64} {s : SS}
theorem P1_E {p p' : PT} {a x y : Nat} (e : tkE p a x y = some p') : pu p' = 6 := by
  unfold tkE at e
  split at e
  · cases e
  · split at e <;> (cases e; rfl)
theorem P1_tk {rule : Bool} {p p' : PT} {x : Int32} (hw : PW rule p) (e : tk rule p x = some p') : pu p' = 1 → (pG p').1 = 0 := by
  intro h
  unfold tk at e
  split at e
  · split at e
    · cases e; exact absurd h (by simp [pu])
    · cases e
  split at e
  · split at e
    · cases e; exact absurd h (by simp [pu])
    · cases e
  split at e
  · split at e
    · cases e; exact absurd h (by simp [pu])
    · exact absurd (P1_E e) (by omega)
  split at e
  · split at e
    · cases e
    · cases e; exact absurd h (by simp [pu])
  split at e
  · exact absurd (P1_E e) (by omega)
  by_cases h7 : x = nI 59 ∧ (side p).1 < (if rule = true then 3 else 12)
  · rw [if_pos h7] at e
    cases e; exact absurd h (by simp [pu])
  rw [if_neg h7] at e
  by_cases h8 : x = nI 62 ∧ rule = true ∧ pR p = false
  · rw [if_pos h8] at e
    cases e
    exact hw.2.2.2.2.2.2.2.2.2.2.2.1 h8.2.2
  · rw [if_neg h8] at e
    cases e
theorem P1_fin {sg : Nat → Int32} {rule : Bool} : ∀ (m i : Nat) (p p' : PT), PW rule p → (pu p = 1 → (pG p).1 = 0) → fin rule sg m p i = some p' → (pu p' = 1 → (pG p').1 = 0) := by
  intro m
  induction m with
  | zero =>
    intro i p p' hw h e
    cases e
    exact h
  | succ m ih =>
    intro i p p' hw h e
    cases ht : tk rule p (sg i) with
    | none =>
      have : fin rule sg (m + 1) p i = none := by
        show (match tk rule p (sg i) with | none => none | some p' => fin rule sg m p' (i + 1)) = none
        rw [ht]
      rw [this] at e
      cases e
    | some q =>
      rw [fin_s ht] at e
      exact ih (i + 1) q p' (PW_tk hw ht) (P1_tk hw ht) e
theorem Tl_left {sg : Nat → Int32} {p : PT} {n : Nat} (hw : PW false p) (hd : Dv sg p n) (ho : okE false p) : Tl sg 0 n (pL p).1 (pL p).2 := by
  have hR : pR p = false := by
    cases hq : pR p with
    | false => rfl
    | true => exact absurd (hw.2.2.2.2.2.2.2.2.2.2.1 hq).1 (by decide)
  have eb : bs p = 0 := by unfold bs; rw [if_neg (by rw [hR]; decide)]
  have es : side p = pL p := by unfold side; rw [if_neg (by rw [hR]; decide)]
  rcases ho with h | h
  · have := hw.2.2.2.2.2.2.2.2.2.1 h
    rw [hR] at this
    exact absurd this (by decide)
  · refine ⟨hd.1, Or.inr ⟨?_, ?_⟩⟩
    · have := hw.2.2.2.2.2.2.2.2.2.2.2.2 h.1
      rw [es] at this
      exact this
    · have := hd.2.2.2.2.2.2.2.1 h.1
      rw [eb, es] at this
      exact this
theorem Tl_rule {sg : Nat → Int32} {p : PT} {n : Nat} (hw : PW true p) (hd : Dv sg p n) (ho : okE true p) (h1p : pu p = 1 → (pG p).1 = 0) : ∃ mk, mk < n ∧ sg mk = nI 62 ∧ (∀ q, q < mk → sg q ≠ nI 62) ∧ Tl sg 0 mk (pL p).1 (pL p).2 ∧ Tl sg (mk + 1) n (pG p).1 (pG p).2 := by
  have hR : pR p = true := by
    rcases ho with h | h
    · exact hw.2.2.2.2.2.2.2.2.2.1 h
    · exact h.2
  have eb : bs p = pos 0 (pL p).2 (pL p).1 := by unfold bs; rw [if_pos hR]
  have es : side p = pG p := by unfold side; rw [if_pos hR]
  obtain ⟨mk, m1, m2, m3, m4⟩ := hd.2.2.2.2.2.2.2.2.2.2.2.2 hR
  have h1 := (hw.2.2.2.2.2.2.2.2.2.2.1 hR).2
  refine ⟨mk, m2, m3, m4, ⟨hd.1, Or.inr ⟨h1, m1⟩⟩, ?_, ?_⟩
  · have := hd.2.1
    rw [eb, es, ← m1] at this
    exact this
  · rcases ho with h | h
    · left
      have hlt := hd.2.2.1 (by omega)
      have h0 := h1p h
      rw [eb, es, ← m1, h0] at hlt
      exact ⟨h0, hlt⟩
    · right
      have := hd.2.2.2.2.2.2.2.1 h.1
      rw [eb, es, ← m1] at this
      have h2 := hw.2.2.2.2.2.2.2.2.2.2.2.2 h.1
      rw [es] at h2
      exact ⟨h2, this⟩
set_option maxRecDepth 20000 in
set_option maxHeartbeats 4000000 in
theorem M_code (hd : 4 ≤ d) (hv : VSt s) (hi : RInv I s) : Y G d zX12_code [vr 170] (NC, I, J, layR sw) 0 0 (qi (PM (sp_code s).2 (sp_code s).1 I J sw)) := by
  refine Y_of rfl rfl (Nat.le_of_ble_eq_true rfl) rfl ?_
  refine X_aload_n dX12_code_0 rfl ?_
  refine X_iconst (v := nI 0) dX12_code_1 (by decide) ?_
  refine X_cVi dX12_code_2 ck_X12_169 rfl rfl (by first | assumption | rfl) (by first | assumption | exact Nat.le_of_ble_eq_true rfl | omega) (by omega) (Nat.le_of_ble_eq_true rfl) (m_faultOf (rule := false) (by omega) hi.1.1 hv.1 hi.1.2 (fun q a ha1 ha I' f => ?_) (fun p q1 q2 q3 I' f => ?_))
  · have e : sp_code s = (-5, s) := by unfold sp_code; exact if_pos q
    rw [e]
    refine X_if_lt (tgt := 11) dX12_code_5 (by decide) (fun b => ?_) (fun b => ?_)
    · exact absurd b (nneg (by have := hv.1; omega))
    refine X_bipush (v := (-5)) dX12_code_8 (by decide) ?_
    exact X_iret dX12_code_10 rfl ⟨_, rfl, PM_FM hi f⟩
  · have e : sp_code s = (nI (pL p).1, ((0, s.1.2), (pL p, s.2.1.2), s.2.2)) := by unfold sp_code; rw [if_neg (fun h => h q3), q1]
    rw [e]
    obtain ⟨hw, hD⟩ := Dv_fin s.1.1 0 p0 p (PW_0 false) (Dv_0 _) q1
    rw [Nat.zero_add] at hD
    have hT := Tl_left hw hD q2
    have hi2 := hi.FM f
    have hn := hw.2.1.1
    refine X_if_lt (tgt := 11) dX12_code_5 (by decide) (fun b => ?_) (fun b => ?_)
    · refine X_aload_n dX12_code_11 rfl ?_
      refine X_aload_n dX12_code_12 rfl ?_
      refine X_iconst (v := nI 0) dX12_code_13 (by decide) ?_
      refine X_aload_n dX12_code_14 rfl ?_
      refine X_getI dX12_code_15 gf_X12_133 (by first | assumption | rfl) (by first | assumption | exact Nat.le_of_ble_eq_true rfl | omega) rfl ?_
      rw [hi2.1.1]
      refine X_cVi dX12_code_18 ck_X12_177 rfl rfl (by first | assumption | rfl) (by first | assumption | exact Nat.le_of_ble_eq_true rfl | omega) (by omega) (Nat.le_of_ble_eq_true rfl) (m_readSteps (by omega) hT hv.1 hn (by decide) hi2.1.2 (fun P hP => ?_))
      refine X_putI dX12_code_21 gf_X12_181 (Or.inl rfl) (by first | assumption | rfl) (by first | assumption | exact Nat.le_of_ble_eq_true rfl | omega) rfl ?_
      refine X_iconst (v := nI 0) dX12_code_24 (by decide) ?_
      refine X_istore_n dX12_code_25 rfl rfl ?_
      have loop : ∀ (m i : Nat) (I1 : Nat → Nat → Int32), m = (pL p).1 - i → i ≤ (pL p).1 → I1 170 9 = nI (pL p).1 → (∀ q, q < i → I1 172 q = enc ((pL p).2 q 0) ∧ I1 173 q = enc ((pL p).2 q 1) ∧ I1 174 q = enc ((pL p).2 q 2) ∧ I1 175 q = enc ((pL p).2 q 3)) → (∀ g, g ≠ 9 → I1 170 g = I' 170 g) → I1 178 = P → (∀ k, k ≠ 170 → k ≠ 172 → k ≠ 173 → k ≠ 174 → k ≠ 175 → k ≠ 178 → I1 k = I' k) → X G d zX12_code 26 [(0, vr 170), (1, vi (nI i))] [] (NC, I1, J, layR sw) 0 0 (qi (PM ((0, s.1.2), (pL p, s.2.1.2), s.2.2) (nI (pL p).1) I J sw)) := by
        intro m
        induction m with
        | zero =>
          intro i I1 hm hin h9 hc hg h178 ho
          obtain rfl : i = (pL p).1 := by omega
          refine X_iload_n dX12_code_26 rfl ?_
          refine X_aload_n dX12_code_27 rfl ?_
          refine X_getI dX12_code_28 gf_X12_181 (by first | assumption | rfl) (by first | assumption | exact Nat.le_of_ble_eq_true rfl | omega) rfl ?_
          rw [h9]
          refine X_icmp_ge (tgt := 102) dX12_code_31 (by decide) (fun b31 => ?_) (fun b31 => ?_)
          · refine X_aload_n dX12_code_102 rfl ?_
            refine X_iconst (v := nI 0) dX12_code_103 (by decide) ?_
            refine X_putI dX12_code_104 gf_X12_133 (Or.inl rfl) (by first | assumption | rfl) (by first | assumption | exact Nat.le_of_ble_eq_true rfl | omega) rfl ?_
            refine X_aload_n dX12_code_107 rfl ?_
            refine X_getI dX12_code_108 gf_X12_181 (by first | assumption | rfl) (by first | assumption | exact Nat.le_of_ble_eq_true rfl | omega) rfl ?_
            rw [sr_eq, up_ne (by decide), h9]
            obtain ⟨a1, a2, a3, a4, a5, a6, a7, a8, a9⟩ := hi2.2.1
            refine X_iret dX12_code_111 rfl ⟨_, rfl, PM_mk ⟨⟨?_, fun i hi3 => absurd hi3 (Nat.not_lt_zero i)⟩, ?_, ?_⟩ (fun k hk => ?_)⟩
            · rw [sr_eq, up_eq]
            · refine ⟨by rw [sr_eq, up_ne (by decide)]; exact h9, fun i hi => ?_, by rw [sr_eq, up_ne (by decide), hg 11 (by decide)]; exact a3, fun i hi w hw => by rw [sr_ne (by decide), ho 176 (by decide) (by decide) (by decide) (by decide) (by decide) (by decide)]; exact a4 i hi w hw, by rw [sr_eq, up_ne (by decide), hg 12 (by decide)]; exact a5, by rw [sr_eq, up_ne (by decide), hg 13 (by decide)]; exact a6, fun j hj => by rw [sr_ne (by decide), ho 177 (by decide) (by decide) (by decide) (by decide) (by decide) (by decide)]; exact a7 j hj, by rw [sr_eq, up_ne (by decide), hg 39 (by decide)]; exact a8, fun j hj => ?_⟩
              · rw [sr_ne (show 172 ≠ 170 by decide), sr_ne (show 173 ≠ 170 by decide), sr_ne (show 174 ≠ 170 by decide), sr_ne (show 175 ≠ 170 by decide)]
                exact hc i hi
              · rw [sr_ne (show 197 ≠ 170 by decide), sr_ne (show 198 ≠ 170 by decide), sr_ne (show 199 ≠ 170 by decide), ho 197 (by decide) (by decide) (by decide) (by decide) (by decide) (by decide), ho 198 (by decide) (by decide) (by decide) (by decide) (by decide) (by decide), ho 199 (by decide) (by decide) (by decide) (by decide) (by decide) (by decide)]
                exact a9 j hj
            · intro n hn
              rw [sr_ne (show 205 ≠ 170 by decide), sr_ne (show 204 ≠ 170 by decide), ho 204 (by decide) (by decide) (by decide) (by decide) (by decide) (by decide), ho 205 (by decide) (by decide) (by decide) (by decide) (by decide) (by decide)]
              exact hi2.2.2 n hn
            · rw [sr_ne (by omega), ho k (by omega) (by omega) (by omega) (by omega) (by omega) (by omega), f.1 k (by omega)]
          · exact absurd (Int32.le_refl _) b31
        | succ m ih =>
          intro i I1 hm hin h9 hc hg h178 ho
          have hlt : i < (pL p).1 := by omega
          have r0 : I1 178 (4 * i) = enc ((pL p).2 i 0) := by rw [h178]; exact hP i hlt 0 (by decide)
          have r1 : I1 178 (4 * i + 1) = enc ((pL p).2 i 1) := by rw [h178]; exact hP i hlt 1 (by decide)
          have r2 : I1 178 (4 * i + 2) = enc ((pL p).2 i 2) := by rw [h178]; exact hP i hlt 2 (by decide)
          have r3 : I1 178 (4 * i + 3) = enc ((pL p).2 i 3) := by rw [h178]; exact hP i hlt 3 (by decide)
          refine X_iload_n dX12_code_26 rfl ?_
          refine X_aload_n dX12_code_27 rfl ?_
          refine X_getI dX12_code_28 gf_X12_181 (by first | assumption | rfl) (by first | assumption | exact Nat.le_of_ble_eq_true rfl | omega) rfl ?_
          rw [h9]
          refine X_icmp_ge (tgt := 102) dX12_code_31 (by decide) (fun b31 => ?_) (fun b31 => ?_)
          · exact absurd ((nle (by omega) (by omega)).mp b31) (by omega)
          refine X_aload_n dX12_code_34 rfl ?_
          refine X_getR dX12_code_35 gf_X12_13 (by first | assumption | rfl) (by first | assumption | exact Nat.le_of_ble_eq_true rfl | omega) rfl (by first | assumption | rfl) ?_
          refine X_iload_n dX12_code_38 rfl ?_
          refine X_aload_n dX12_code_39 rfl ?_
          refine X_getR dX12_code_40 gf_X12_31 (by first | assumption | rfl) (by first | assumption | exact Nat.le_of_ble_eq_true rfl | omega) rfl (by first | assumption | rfl) ?_
          refine X_iconst (v := nI 4) dX12_code_43 (by decide) ?_
          refine X_iload_n dX12_code_44 rfl ?_
          first | refine X_imulN dX12_code_45 ?_ | refine X_imul dX12_code_45 ?_
          first | refine X_iald dX12_code_46 (by first | assumption | rfl) (by first | assumption | exact Nat.le_of_ble_eq_true rfl | omega) rfl (by first | decide | omega) (by decide) ?_ | refine X_ildA dX12_code_46 rfl (by omega) ?_ | refine X_ildM dX12_code_46 rfl (by omega) ?_ | refine X_sld dX12_code_46 rfl (by omega) (by omega) ?_
          rw [r0]
          refine X_iast dX12_code_47 (by first | assumption | rfl) (by first | assumption | exact Nat.le_of_ble_eq_true rfl | omega) rfl (by first | decide | omega) (by decide) ?_
          refine X_aload_n dX12_code_48 rfl ?_
          refine X_getR dX12_code_49 gf_X12_16 (by first | assumption | rfl) (by first | assumption | exact Nat.le_of_ble_eq_true rfl | omega) rfl (by first | assumption | rfl) ?_
          refine X_iload_n dX12_code_52 rfl ?_
          refine X_aload_n dX12_code_53 rfl ?_
          refine X_getR dX12_code_54 gf_X12_31 (by first | assumption | rfl) (by first | assumption | exact Nat.le_of_ble_eq_true rfl | omega) rfl (by first | assumption | rfl) ?_
          refine X_iconst (v := nI 4) dX12_code_57 (by decide) ?_
          refine X_iload_n dX12_code_58 rfl ?_
          first | refine X_imulN dX12_code_59 ?_ | refine X_imul dX12_code_59 ?_
          refine X_iconst (v := nI 1) dX12_code_60 (by decide) ?_
          first | refine X_iaddN dX12_code_61 ?_ | refine X_iadd dX12_code_61 ?_
          first | refine X_iald dX12_code_62 (by first | assumption | rfl) (by first | assumption | exact Nat.le_of_ble_eq_true rfl | omega) rfl (by first | decide | omega) (by decide) ?_ | refine X_ildA dX12_code_62 rfl (by omega) ?_ | refine X_ildM dX12_code_62 rfl (by omega) ?_ | refine X_sld dX12_code_62 rfl (by omega) (by omega) ?_
          rw [sr_ne (show 178 ≠ 172 by decide), r1]
          refine X_iast dX12_code_63 (by first | assumption | rfl) (by first | assumption | exact Nat.le_of_ble_eq_true rfl | omega) rfl (by first | decide | omega) (by decide) ?_
          refine X_aload_n dX12_code_64 rfl ?_
          refine X_getR dX12_code_65 gf_X12_19 (by first | assumption | rfl) (by first | assumption | exact Nat.le_of_ble_eq_true rfl | omega) rfl (by first | assumption | rfl) ?_
          refine X_iload_n dX12_code_68 rfl ?_
          refine X_aload_n dX12_code_69 rfl ?_
          refine X_getR dX12_code_70 gf_X12_31 (by first | assumption | rfl) (by first | assumption | exact Nat.le_of_ble_eq_true rfl | omega) rfl (by first | assumption | rfl) ?_
          refine X_iconst (v := nI 4) dX12_code_73 (by decide) ?_
          refine X_iload_n dX12_code_74 rfl ?_
          first | refine X_imulN dX12_code_75 ?_ | refine X_imul dX12_code_75 ?_
          refine X_iconst (v := nI 2) dX12_code_76 (by decide) ?_
          first | refine X_iaddN dX12_code_77 ?_ | refine X_iadd dX12_code_77 ?_
          first | refine X_iald dX12_code_78 (by first | assumption | rfl) (by first | assumption | exact Nat.le_of_ble_eq_true rfl | omega) rfl (by first | decide | omega) (by decide) ?_ | refine X_ildA dX12_code_78 rfl (by omega) ?_ | refine X_ildM dX12_code_78 rfl (by omega) ?_ | refine X_sld dX12_code_78 rfl (by omega) (by omega) ?_
          rw [sr_ne (show 178 ≠ 173 by decide), sr_ne (show 178 ≠ 172 by decide), r2]
          refine X_iast dX12_code_79 (by first | assumption | rfl) (by first | assumption | exact Nat.le_of_ble_eq_true rfl | omega) rfl (by first | decide | omega) (by decide) ?_
          refine X_aload_n dX12_code_80 rfl ?_
          refine X_getR dX12_code_81 gf_X12_22 (by first | assumption | rfl) (by first | assumption | exact Nat.le_of_ble_eq_true rfl | omega) rfl (by first | assumption | rfl) ?_
          refine X_iload_n dX12_code_84 rfl ?_
          refine X_aload_n dX12_code_85 rfl ?_
          refine X_getR dX12_code_86 gf_X12_31 (by first | assumption | rfl) (by first | assumption | exact Nat.le_of_ble_eq_true rfl | omega) rfl (by first | assumption | rfl) ?_
          refine X_iconst (v := nI 4) dX12_code_89 (by decide) ?_
          refine X_iload_n dX12_code_90 rfl ?_
          first | refine X_imulN dX12_code_91 ?_ | refine X_imul dX12_code_91 ?_
          refine X_iconst (v := nI 3) dX12_code_92 (by decide) ?_
          first | refine X_iaddN dX12_code_93 ?_ | refine X_iadd dX12_code_93 ?_
          first | refine X_iald dX12_code_94 (by first | assumption | rfl) (by first | assumption | exact Nat.le_of_ble_eq_true rfl | omega) rfl (by first | decide | omega) (by decide) ?_ | refine X_ildA dX12_code_94 rfl (by omega) ?_ | refine X_ildM dX12_code_94 rfl (by omega) ?_ | refine X_sld dX12_code_94 rfl (by omega) (by omega) ?_
          rw [sr_ne (show 178 ≠ 174 by decide), sr_ne (show 178 ≠ 173 by decide), sr_ne (show 178 ≠ 172 by decide), r3]
          refine X_iast dX12_code_95 (by first | assumption | rfl) (by first | assumption | exact Nat.le_of_ble_eq_true rfl | omega) rfl (by first | decide | omega) (by decide) ?_
          first | refine X_iinc1 dX12_code_96 rfl rfl rfl ?_ | refine X_iinc dX12_code_96 rfl rfl rfl rfl ?_
          refine X_goto (tgt := 26) dX12_code_99 (by decide) ?_
          refine ih (i + 1) _ (by omega) (by omega) ?_ (fun q hq => ?_) (fun g hg2 => ?_) ?_ (fun k h1 h2 h3 h4 h5 h6 => ?_)
          · rw [sr_ne (by decide), sr_ne (by decide), sr_ne (by decide), sr_ne (by decide)]; exact h9
          · have x2 : ∀ f2, sr (sr (sr (sr I1 172 (up (I1 172) i (enc ((pL p).2 i 0)))) 173 (up (sr I1 172 (up (I1 172) i (enc ((pL p).2 i 0))) 173) i (enc ((pL p).2 i 1)))) 174 (up (sr (sr I1 172 (up (I1 172) i (enc ((pL p).2 i 0)))) 173 (up (sr I1 172 (up (I1 172) i (enc ((pL p).2 i 0))) 173) i (enc ((pL p).2 i 1))) 174) i (enc ((pL p).2 i 2)))) 175 f2 172 = up (I1 172) i (enc ((pL p).2 i 0)) := fun f2 => by rw [sr_ne (by decide), sr_ne (by decide), sr_ne (by decide), sr_eq]
            rw [x2, sr_eq, sr_ne (show 173 ≠ 175 by decide), sr_ne (show 173 ≠ 174 by decide), sr_eq, sr_ne (show 174 ≠ 175 by decide), sr_eq, sr_ne (show 174 ≠ 173 by decide), sr_ne (show 174 ≠ 172 by decide), sr_ne (show 173 ≠ 172 by decide), sr_ne (show 175 ≠ 174 by decide), sr_ne (show 175 ≠ 173 by decide), sr_ne (show 175 ≠ 172 by decide)]
            by_cases hqi : q = i
            · subst hqi
              rw [up_eq, up_eq, up_eq, up_eq]
              exact ⟨rfl, rfl, rfl, rfl⟩
            · rw [up_ne hqi, up_ne hqi, up_ne hqi, up_ne hqi]
              exact hc q (by omega)
          · rw [sr_ne (by decide), sr_ne (by decide), sr_ne (by decide), sr_ne (by decide)]; exact hg g hg2
          · rw [sr_ne (by decide), sr_ne (by decide), sr_ne (by decide), sr_ne (by decide)]; exact h178
          · rw [sr_ne h5, sr_ne h4, sr_ne h3, sr_ne h2]; exact ho k h1 h2 h3 h4 h5 h6
      refine loop _ 0 _ rfl (Nat.zero_le _) ?_ (fun q hq => absurd hq (Nat.not_lt_zero q)) (fun g hg => ?_) ?_ (fun k h1 h2 h3 h4 h5 h6 => ?_)
      · rw [sr_eq, up_eq]
      · rw [sr_eq, up_ne hg, sr_ne (by decide)]
      · rw [sr_ne (by decide), sr_eq]
      · rw [sr_ne h1, sr_ne h6]
    · exact absurd (by decide) b
end RP
