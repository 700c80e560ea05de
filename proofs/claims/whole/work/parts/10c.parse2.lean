section PA
variable {G : GG} {d : Nat} {sw : Bool} {I : Nat → Nat → Int32} {J : Nat → Nat → Int64} {s : SS}
set_option maxRecDepth 20000 in
set_option maxHeartbeats 4000000 in
theorem c_takes {Q : Int32 → Mm → Prop} {rule : Bool} {p : PT} {x : Int32} (hd : 5 ≤ d) (hp : PRm I rule p) (hw : PW rule p)
    (hN : tk rule p x = none → ∀ I', FP I I' → Q (nI 0) (NC, I', J, layR sw)) (hS : ∀ p', tk rule p x = some p' → ∀ I', PRm I' rule p' → FP I I' → Q (nI 1) (NC, I', J, layR sw)) : Y G d zX7_takes [vr 1, vi x] (NC, I, J, layR sw) 0 0 (qi Q) := by
  have hp' := hp
  obtain ⟨m1, m2, m3, m4, m5, m6, m7, m8⟩ := hp'
  have ht01 : pu p = 0 ∨ pu p = 1 → X G d zX7_takes 44 [(0, vr 1), (1, vi x)] [] (NC, I, J, layR sw) 0 0 (qi Q) := by
    intro hu
    have htk : tk rule p x = if opOf x < 4 then some (2, pR p, pL p, pG p, opOf x, pa p, pf p) else none := by
      unfold tk
      rw [if_pos hu]
    refine X_aload_n dX7_takes_44 rfl ?_
    refine X_iload_n dX7_takes_45 rfl ?_
    refine X_cSi dX7_takes_46 ck_X7_44 rfl rfl (by omega) (Nat.le_of_ble_eq_true rfl) (c_operandOf ?_)
    refine X_putI dX7_takes_49 gf_X7_48 (Or.inl rfl) (by first | assumption | rfl) (by first | assumption | exact Nat.le_of_ble_eq_true rfl | omega) rfl ?_
    refine X_aload_n dX7_takes_52 rfl ?_
    refine X_iconst (v := nI 2) dX7_takes_53 (by decide) ?_
    refine X_putI dX7_takes_54 gf_X7_37 (Or.inl rfl) (by first | assumption | rfl) (by first | assumption | exact Nat.le_of_ble_eq_true rfl | omega) rfl ?_
    refine X_aload_n dX7_takes_57 rfl ?_
    refine X_getI dX7_takes_58 gf_X7_48 (by first | assumption | rfl) (by first | assumption | exact Nat.le_of_ble_eq_true rfl | omega) rfl ?_
    rw [sr_eq, up_ne (show 7 ≠ 6 by decide), sr_eq, up_eq, sr_sr]
    by_cases h4 : opOf x < 4
    · rw [if_pos h4] at htk
      have e7 : enc (opOf x) = nI (opOf x) := enc_n (by omega)
      rw [e7]
      refine X_cSi dX7_takes_61 ck_X7_51 rfl rfl (by omega) (Nat.le_of_ble_eq_true rfl) (c_isNoReg_f h4 ?_)
      refine X_if_ne (tgt := 71) dX7_takes_64 (by decide) (fun h64 => ?_) (fun h64 => ?_)
      · exact absurd rfl h64
      refine X_iconst (v := nI 1) dX7_takes_67 (by decide) ?_
      refine X_goto (tgt := 72) dX7_takes_68 (by decide) ?_
      refine X_zret dX7_takes_72 rfl (by decide) ⟨_, rfl, hS _ htk _ ⟨?_, ?_, ?_, fun _ => ?_, fun q => absurd q (by simp [pu]), fun q => absurd q (by simp [pu]), ?_, ?_⟩ ⟨by rw [sr_eq, up_ne (by decide), up_ne (by decide)], fun j hj => by rw [sr_ne (by simp at hj; omega)]⟩⟩
      · rw [sr_eq, up_ne (by decide), up_ne (by decide)]; exact m1
      · rw [sr_eq, up_ne (by decide), up_ne (by decide)]; exact m2
      · rw [sr_eq, up_eq]
      · rw [sr_eq, up_ne (by decide), up_eq]; exact e7.symm
      · exact m7.fr (by rw [sr_ne (by decide)]) (by rw [sr_ne (by decide)])
      · exact m8.fr (by rw [sr_ne (by decide)]) (by rw [sr_ne (by decide)])
    · rw [if_neg h4] at htk
      refine X_cSi dX7_takes_61 ck_X7_51 rfl rfl (by omega) (Nat.le_of_ble_eq_true rfl) (c_isNoReg_t (enc_big h4 (opOf_lt x)) ?_)
      refine X_if_ne (tgt := 71) dX7_takes_64 (by decide) (fun h64 => ?_) (fun h64 => ?_)
      · refine X_iconst (v := nI 0) dX7_takes_71 (by decide) ?_
        exact X_zret dX7_takes_72 rfl (by first | rfl | (simp; done) | decide) ⟨_, rfl, hN htk _ ⟨by rw [sr_eq, up_ne (by decide), up_ne (by decide)], fun j hj => by rw [sr_ne (by simp at hj; omega)]⟩⟩
      · exact absurd h64 (by decide)
  refine Y_of rfl rfl (Nat.le_of_ble_eq_true rfl) rfl ?_
  refine X_aload_n dX7_takes_0 rfl ?_
  refine X_getI dX7_takes_1 gf_X7_37 (by first | assumption | rfl) (by first | assumption | exact Nat.le_of_ble_eq_true rfl | omega) rfl ?_
  rw [m3]
  have hle := hw.1
  rcases (by omega : pu p = 0 ∨ pu p = 1 ∨ pu p = 2 ∨ pu p = 3 ∨ pu p = 4 ∨ pu p = 5 ∨ pu p = 6) with hu | hu | hu | hu | hu | hu | hu
  · rw [hu]
    refine X_tableIn (off := 40) (tgt := 44) dX7_takes_4 (by decide) (by decide) (by decide) (by decide) ?_
    exact ht01 (Or.inl hu)
  · rw [hu]
    refine X_tableIn (off := 40) (tgt := 44) dX7_takes_4 (by decide) (by decide) (by decide) (by decide) ?_
    exact ht01 (Or.inr hu)
  · have htk : tk rule p x = if x = nI 61 then some (3, p.2) else none := by
      unfold tk
      rw [if_neg (by omega), if_pos hu]
    rw [hu]
    refine X_tableIn (off := 69) (tgt := 73) dX7_takes_4 (by decide) (by decide) (by decide) (by decide) ?_
    refine X_aload_n dX7_takes_73 rfl ?_
    refine X_iconst (v := nI 3) dX7_takes_74 (by decide) ?_
    refine X_putI dX7_takes_75 gf_X7_37 (Or.inl rfl) (by first | assumption | rfl) (by first | assumption | exact Nat.le_of_ble_eq_true rfl | omega) rfl ?_
    refine X_iload_n dX7_takes_78 rfl ?_
    refine X_bipush (v := nI 61) dX7_takes_79 (by decide) ?_
    refine X_icmp_ne (tgt := 88) dX7_takes_81 (by decide) (fun h81 => ?_) (fun h81 => ?_)
    · rw [if_neg h81] at htk
      refine X_iconst (v := nI 0) dX7_takes_88 (by decide) ?_
      exact X_zret dX7_takes_89 rfl (by first | rfl | (simp; done) | decide) ⟨_, rfl, hN htk _ (FP.fd (by decide))⟩
    · rw [if_pos h81] at htk
      refine X_iconst (v := nI 1) dX7_takes_84 (by decide) ?_
      refine X_goto (tgt := 89) dX7_takes_85 (by decide) ?_
      refine X_zret dX7_takes_89 rfl (by decide) ⟨_, rfl, hS _ htk _ ⟨?_, ?_, ?_, fun _ => ?_, fun q => absurd q (by simp [pu]), fun q => absurd q (by simp [pu]), ?_, ?_⟩ (FP.fd (by decide))⟩
      · rw [sr_eq, up_ne (by decide)]; exact m1
      · rw [sr_eq, up_ne (by decide)]; exact m2
      · rw [sr_eq, up_eq]
      · rw [sr_eq, up_ne (by decide)]; exact m4 (by omega)
      · exact m7.fr (by rw [sr_ne (by decide)]) (by rw [sr_ne (by decide)])
      · exact m8.fr (by rw [sr_ne (by decide)]) (by rw [sr_ne (by decide)])
  · rw [hu]
    refine X_tableIn (off := 86) (tgt := 90) dX7_takes_4 (by decide) (by decide) (by decide) (by decide) ?_
    refine X_aload_n dX7_takes_90 rfl ?_
    refine X_iload_n dX7_takes_91 rfl ?_
    refine X_cVi dX7_takes_92 ck_X7_54 rfl rfl (by first | assumption | rfl) (by first | assumption | exact Nat.le_of_ble_eq_true rfl | omega) (by omega) (Nat.le_of_ble_eq_true rfl) (c_takesMaking (by omega) hp hw hu (fun q => ?_) (fun p' q I' c1 c2 => ?_))
    · exact X_zret dX7_takes_95 rfl (by first | rfl | (simp; done) | decide) ⟨_, rfl, hN q _ FP.rf⟩
    · exact X_zret dX7_takes_95 rfl (by first | rfl | (simp; done) | decide) ⟨_, rfl, hS p' q I' c1 c2⟩
  · have htk : tk rule p x = if opOf x = 99 then none else some (5, pR p, pL p, pG p, pt p, pa p, opOf x) := by
      unfold tk
      rw [if_neg (by omega), if_neg (by omega), if_neg (by omega), if_pos hu]
    rw [hu]
    refine X_tableIn (off := 92) (tgt := 96) dX7_takes_4 (by decide) (by decide) (by decide) (by decide) ?_
    refine X_aload_n dX7_takes_96 rfl ?_
    refine X_iload_n dX7_takes_97 rfl ?_
    refine X_cSi dX7_takes_98 ck_X7_44 rfl rfl (by omega) (Nat.le_of_ble_eq_true rfl) (c_operandOf ?_)
    refine X_putI dX7_takes_101 gf_X7_57 (Or.inl rfl) (by first | assumption | rfl) (by first | assumption | exact Nat.le_of_ble_eq_true rfl | omega) rfl ?_
    refine X_aload_n dX7_takes_104 rfl ?_
    refine X_iconst (v := nI 5) dX7_takes_105 (by decide) ?_
    refine X_putI dX7_takes_106 gf_X7_37 (Or.inl rfl) (by first | assumption | rfl) (by first | assumption | exact Nat.le_of_ble_eq_true rfl | omega) rfl ?_
    refine X_aload_n dX7_takes_109 rfl ?_
    refine X_getI dX7_takes_110 gf_X7_57 (by first | assumption | rfl) (by first | assumption | exact Nat.le_of_ble_eq_true rfl | omega) rfl ?_
    refine X_bipush (v := (-6)) dX7_takes_113 (by decide) ?_
    rw [sr_eq, up_ne (show 9 ≠ 6 by decide), sr_eq, up_eq, sr_sr]
    refine X_icmp_eq (tgt := 122) dX7_takes_115 (by decide) (fun h115 => ?_) (fun h115 => ?_)
    · have h9 := (enc_m6 (opOf_lt x)).mp h115
      rw [if_pos h9] at htk
      refine X_iconst (v := nI 0) dX7_takes_122 (by decide) ?_
      exact X_zret dX7_takes_123 rfl (by first | rfl | (simp; done) | decide) ⟨_, rfl, hN htk _ ⟨by rw [sr_eq, up_ne (by decide), up_ne (by decide)], fun j hj => by rw [sr_ne (by simp at hj; omega)]⟩⟩
    · have h9 : opOf x ≠ 99 := fun q => h115 ((enc_m6 (opOf_lt x)).mpr q)
      rw [if_neg h9] at htk
      refine X_iconst (v := nI 1) dX7_takes_118 (by decide) ?_
      refine X_goto (tgt := 123) dX7_takes_119 (by decide) ?_
      refine X_zret dX7_takes_123 rfl (by decide) ⟨_, rfl, hS _ htk _ ⟨?_, ?_, ?_, fun _ => ?_, fun _ => ?_, fun _ => ?_, ?_, ?_⟩ ⟨by rw [sr_eq, up_ne (by decide), up_ne (by decide)], fun j hj => by rw [sr_ne (by simp at hj; omega)]⟩⟩
      · rw [sr_eq, up_ne (by decide), up_ne (by decide)]; exact m1
      · rw [sr_eq, up_ne (by decide), up_ne (by decide)]; exact m2
      · rw [sr_eq, up_eq]
      · rw [sr_eq, up_ne (by decide), up_ne (by decide)]; exact m4 (by omega)
      · rw [sr_eq, up_ne (by decide), up_ne (by decide)]; exact m5 (Or.inl hu)
      · rw [sr_eq, up_ne (by decide), up_eq]
      · exact m7.fr (by rw [sr_ne (by decide)]) (by rw [sr_ne (by decide)])
      · exact m8.fr (by rw [sr_ne (by decide)]) (by rw [sr_ne (by decide)])
  · have htk : tk rule p x = tkE p (pa p) (pf p) (opOf x) := by
      unfold tk
      rw [if_neg (by omega), if_neg (by omega), if_neg (by omega), if_neg (by omega), if_pos hu]
    have ha := hw.2.2.2.2.2.2.2.1 (Or.inr hu)
    have hf := hw.2.2.2.2.2.2.2.2.1 hu
    rw [hu]
    refine X_tableIn (off := 120) (tgt := 124) dX7_takes_4 (by decide) (by decide) (by decide) (by decide) ?_
    refine X_aload_n dX7_takes_124 rfl ?_
    refine X_aload_n dX7_takes_125 rfl ?_
    refine X_getI dX7_takes_126 gf_X7_60 (by first | assumption | rfl) (by first | assumption | exact Nat.le_of_ble_eq_true rfl | omega) rfl ?_
    refine X_aload_n dX7_takes_129 rfl ?_
    refine X_getI dX7_takes_130 gf_X7_57 (by first | assumption | rfl) (by first | assumption | exact Nat.le_of_ble_eq_true rfl | omega) rfl ?_
    refine X_iload_n dX7_takes_133 rfl ?_
    rw [m5 (Or.inr hu), m6 hu]
    refine X_cSi dX7_takes_134 ck_X7_44 rfl rfl (by omega) (Nat.le_of_ble_eq_true rfl) (c_operandOf ?_)
    refine X_cVi dX7_takes_137 ck_X7_63 rfl rfl (by first | assumption | rfl) (by first | assumption | exact Nat.le_of_ble_eq_true rfl | omega) (by omega) (Nat.le_of_ble_eq_true rfl) (c_endsStep (a := pa p) (x := pf p) (y := opOf x) (by omega) hp hw (by omega) (by omega) (by unfold iact at ha; omega) (by unfold opd at hf; omega) (opOf_lt x) (fun q => ?_) (fun p' q I' c1 c2 => ?_))
    · exact X_zret dX7_takes_140 rfl (by first | rfl | (simp; done) | decide) ⟨_, rfl, hN (htk.trans q) _ FP.rf⟩
    · exact X_zret dX7_takes_140 rfl (by first | rfl | (simp; done) | decide) ⟨_, rfl, hS p' (htk.trans q) I' c1 c2⟩
  · rw [hu]
    refine X_tableOut (tgt := 141) dX7_takes_4 (Or.inr (by decide)) (by decide) ?_
    refine X_aload_n dX7_takes_141 rfl ?_
    refine X_iload_n dX7_takes_142 rfl ?_
    refine X_cVi dX7_takes_143 ck_X7_67 rfl rfl (by first | assumption | rfl) (by first | assumption | exact Nat.le_of_ble_eq_true rfl | omega) (by omega) (Nat.le_of_ble_eq_true rfl) (c_takesMore hp hw hu (fun q => ?_) (fun p' q I' c1 c2 => ?_))
    · exact X_zret dX7_takes_146 rfl (by first | rfl | (simp; done) | decide) ⟨_, rfl, hN q _ FP.rf⟩
    · exact X_zret dX7_takes_146 rfl (by first | rfl | (simp; done) | decide) ⟨_, rfl, hS p' q I' c1 c2⟩
/-- the state of reading behind all signs -/
def fin (rule : Bool) (sg : Nat → Int32) : Nat → PT → Nat → Option PT
  | 0, p, _ => some p
  | m + 1, p, i => match tk rule p (sg i) with
    | none => none
    | some p' => fin rule sg m p' (i + 1)
theorem ff_0 {rule : Bool} {sg : Nat → Int32} {n i : Nat} {p : PT} : ff rule sg n 0 p i = if pu p = 1 ∨ (pu p = 6 ∧ pR p = rule) then -6 else nI n := rfl
theorem ff_n {rule : Bool} {sg : Nat → Int32} {n m i : Nat} {p : PT} (h : tk rule p (sg i) = none) : ff rule sg n (m + 1) p i = nI i := by
  show (match tk rule p (sg i) with | none => nI i | some p' => ff rule sg n m p' (i + 1)) = nI i
  rw [h]
theorem ff_s {rule : Bool} {sg : Nat → Int32} {n m i : Nat} {p p' : PT} (h : tk rule p (sg i) = some p') : ff rule sg n (m + 1) p i = ff rule sg n m p' (i + 1) := by
  show (match tk rule p (sg i) with | none => nI i | some p' => ff rule sg n m p' (i + 1)) = _
  rw [h]
theorem fin_s {rule : Bool} {sg : Nat → Int32} {m i : Nat} {p p' : PT} (h : tk rule p (sg i) = some p') : fin rule sg (m + 1) p i = fin rule sg m p' (i + 1) := by
  show (match tk rule p (sg i) with | none => none | some p' => fin rule sg m p' (i + 1)) = _
  rw [h]
def okE (rule : Bool) (p : PT) : Prop := pu p = 1 ∨ (pu p = 6 ∧ pR p = rule)
set_option maxRecDepth 20000 in
set_option maxHeartbeats 4000000 in
theorem c_parse {Q : Int32 → Mm → Prop} {rule : Bool} {n : Nat} {sg : Nat → Int32} (hd : 6 ≤ d) (hc : I 1 3 = nI n) (hn : n ≤ 80) (hsg : ∀ i, i < n → I 2 i = sg i)
    (hF : ff rule sg n n p0 0 ≠ -6 → ∀ I', FP I I' → Q (ff rule sg n n p0 0) (NC, I', J, layR sw)) (hS : ∀ p, fin rule sg n p0 0 = some p → okE rule p → ff rule sg n n p0 0 = -6 → PW rule p → ∀ I', PRm I' rule p → FP I I' → Q (-6) (NC, I', J, layR sw)) : Y G d zX7_parse [vr 1, vi (nI rule.toNat)] (NC, I, J, layR sw) 0 0 (qi Q) := by
  have loop : ∀ (m i : Nat) (p : PT) (I1 : Nat → Nat → Int32), m = n - i → i ≤ n → PRm I1 rule p → PW rule p → FP I I1 → ff rule sg n n p0 0 = ff rule sg n m p i → fin rule sg n p0 0 = fin rule sg m p i → X G d zX7_parse 33 [(0, vr 1), (1, vi (nI rule.toNat)), (2, vi (nI i))] [] (NC, I1, J, layR sw) 0 0 (qi Q) := by
    intro m
    induction m with
    | zero =>
      intro i p I1 hm hi hp hw hf e1 e2
      obtain rfl : i = n := by omega
      have hp' := hp
      obtain ⟨m1, m2, m3, m4, m5, m6, m7, m8⟩ := hp'
      rw [ff_0] at e1
      have hle := hw.1
      have bad : ¬ okE rule p → X G d zX7_parse 94 [(0, vr 1), (1, vi (nI rule.toNat)), (2, vi (nI i))] [] (NC, I1, J, layR sw) 0 0 (qi Q) := by
        intro h
        unfold okE at h
        rw [if_neg h] at e1
        refine X_iconst (v := nI 0) dX7_parse_94 (by decide) ?_
        refine X_istore_n dX7_parse_95 rfl rfl ?_
        refine X_iload_n dX7_parse_96 rfl ?_
        refine X_if_eq (tgt := 105) dX7_parse_97 (by decide) (fun h97 => ?_) (fun h97 => ?_)
        · refine X_aload_n dX7_parse_105 rfl ?_
          refine X_getI dX7_parse_106 gf_X7_25 (by first | assumption | rfl) (by first | assumption | exact Nat.le_of_ble_eq_true rfl | omega) rfl ?_
          rw [hf.1, hc]
          have hq := hF (by rw [e1]; exact fun q => absurd (by rw [q]; decide : nI i < 0) (nneg (by omega))) I1 hf
          rw [e1] at hq
          exact X_iret dX7_parse_109 rfl ⟨_, rfl, hq⟩
        · exact absurd rfl h97
      have good : okE rule p → X G d zX7_parse 90 [(0, vr 1), (1, vi (nI rule.toNat)), (2, vi (nI i))] [] (NC, I1, J, layR sw) 0 0 (qi Q) := by
        intro h
        have h' := h
        unfold okE at h'
        rw [if_pos h'] at e1
        refine X_iconst (v := nI 1) dX7_parse_90 (by decide) ?_
        refine X_goto (tgt := 95) dX7_parse_91 (by decide) ?_
        refine X_istore_n dX7_parse_95 rfl rfl ?_
        refine X_iload_n dX7_parse_96 rfl ?_
        refine X_if_eq (tgt := 105) dX7_parse_97 (by decide) (fun h97 => ?_) (fun h97 => ?_)
        · exact absurd h97 (by decide)
        refine X_bipush (v := (-6)) dX7_parse_100 (by decide) ?_
        refine X_goto (tgt := 109) dX7_parse_102 (by decide) ?_
        exact X_iret dX7_parse_109 rfl ⟨_, rfl, hS p e2 h e1 hw I1 hp hf⟩
      refine X_iload_n dX7_parse_33 rfl ?_
      refine X_aload_n dX7_parse_34 rfl ?_
      refine X_getI dX7_parse_35 gf_X7_25 (by first | assumption | rfl) (by first | assumption | exact Nat.le_of_ble_eq_true rfl | omega) rfl ?_
      rw [hf.1, hc]
      refine X_icmp_ge (tgt := 62) dX7_parse_38 (by decide) (fun h38 => ?_) (fun h38 => ?_)
      · refine X_aload_n dX7_parse_62 rfl ?_
        refine X_getI dX7_parse_63 gf_X7_37 (by first | assumption | rfl) (by first | assumption | exact Nat.le_of_ble_eq_true rfl | omega) rfl ?_
        rw [m3]
        refine X_iconst (v := nI 1) dX7_parse_66 (by decide) ?_
        refine X_icmp_eq (tgt := 90) dX7_parse_67 (by decide) (fun h67 => ?_) (fun h67 => ?_)
        · exact good (Or.inl ((neq (by omega) (by decide)).mp h67))
        have h67 : pu p ≠ 1 := fun q => h67 (by rw [q])
        refine X_aload_n dX7_parse_70 rfl ?_
        refine X_getI dX7_parse_71 gf_X7_37 (by first | assumption | rfl) (by first | assumption | exact Nat.le_of_ble_eq_true rfl | omega) rfl ?_
        rw [m3]
        refine X_bipush (v := nI 6) dX7_parse_74 (by decide) ?_
        refine X_icmp_ne (tgt := 94) dX7_parse_76 (by decide) (fun h76 => ?_) (fun h76 => ?_)
        · exact bad (fun q => q.elim h67 (fun q => h76 (by rw [q.1])))
        have h76 : pu p = 6 := (neq (by omega) (by decide)).mp h76
        refine X_aload_n dX7_parse_79 rfl ?_
        refine X_getI dX7_parse_80 gf_X7_34 (by first | assumption | rfl) (by first | assumption | exact Nat.le_of_ble_eq_true rfl | omega) rfl ?_
        rw [m2]
        refine X_aload_n dX7_parse_83 rfl ?_
        refine X_getI dX7_parse_84 gf_X7_30 (by first | assumption | rfl) (by first | assumption | exact Nat.le_of_ble_eq_true rfl | omega) rfl ?_
        rw [m1]
        refine X_icmp_ne (tgt := 94) dX7_parse_87 (by decide) (fun h87 => ?_) (fun h87 => ?_)
        · exact bad (fun q => q.elim h67 (fun q => h87 (by rw [q.2])))
        · refine good (Or.inr ⟨h76, ?_⟩)
          cases hR : pR p <;> cases rule <;> first | rfl | (rw [hR] at h87; exact absurd h87 (by decide))
      · exact absurd (Int32.le_refl _) h38
    | succ m ih =>
      intro i p I1 hm hi hp hw hf e1 e2
      have hlt : i < n := by omega
      refine X_iload_n dX7_parse_33 rfl ?_
      refine X_aload_n dX7_parse_34 rfl ?_
      refine X_getI dX7_parse_35 gf_X7_25 (by first | assumption | rfl) (by first | assumption | exact Nat.le_of_ble_eq_true rfl | omega) rfl ?_
      rw [hf.1, hc]
      refine X_icmp_ge (tgt := 62) dX7_parse_38 (by decide) (fun h38 => ?_) (fun h38 => ?_)
      · exact absurd ((nle (by omega) (by omega)).mp h38) (by omega)
      refine X_aload_n dX7_parse_41 rfl ?_
      refine X_aload_n dX7_parse_42 rfl ?_
      refine X_getR dX7_parse_43 gf_X7_9 (by first | assumption | rfl) (by first | assumption | exact Nat.le_of_ble_eq_true rfl | omega) rfl (by first | assumption | rfl) ?_
      refine X_iload_n dX7_parse_46 rfl ?_
      first | refine X_iald dX7_parse_47 (by first | assumption | rfl) (by first | assumption | exact Nat.le_of_ble_eq_true rfl | omega) rfl (by first | decide | omega) (by decide) ?_ | refine X_ildA dX7_parse_47 rfl (by omega) ?_ | refine X_ildM dX7_parse_47 rfl (by omega) ?_ | refine X_sld dX7_parse_47 rfl (by omega) (by omega) ?_
      rw [hf.2 2 (by decide), hsg i hlt]
      refine X_cVi dX7_parse_48 ck_X7_40 rfl rfl (by first | assumption | rfl) (by first | assumption | exact Nat.le_of_ble_eq_true rfl | omega) (by omega) (Nat.le_of_ble_eq_true rfl) (c_takes (by omega) hp hw (fun q I2 f2 => ?_) (fun p' q I2 c2 f2 => ?_))
      · rw [ff_n q] at e1
        refine X_if_ne (tgt := 56) dX7_parse_51 (by decide) (fun h51 => ?_) (fun h51 => ?_)
        · exact absurd rfl h51
        refine X_iload_n dX7_parse_54 rfl ?_
        have hq := hF (by rw [e1]; exact fun q => absurd (by rw [q]; decide : nI i < 0) (nneg (by omega))) I2 (hf.tr f2)
        rw [e1] at hq
        exact X_iret dX7_parse_55 rfl ⟨_, rfl, hq⟩
      · rw [ff_s q] at e1
        rw [fin_s q] at e2
        refine X_if_ne (tgt := 56) dX7_parse_51 (by decide) (fun h51 => ?_) (fun h51 => ?_)
        · first | refine X_iinc1 dX7_parse_56 rfl rfl rfl ?_ | refine X_iinc dX7_parse_56 rfl rfl rfl rfl ?_
          refine X_goto (tgt := 33) dX7_parse_59 (by decide) ?_
          exact ih (i + 1) p' I2 (by omega) (by omega) c2 (PW_tk hw q) (hf.tr f2) e1 e2
        · exact absurd h51 (by decide)
  refine Y_of rfl rfl (Nat.le_of_ble_eq_true rfl) rfl ?_
  refine X_aload_n dX7_parse_0 rfl ?_
  refine X_getR dX7_parse_1 gf_X7_18 (by first | assumption | rfl) (by first | assumption | exact Nat.le_of_ble_eq_true rfl | omega) rfl (by first | assumption | rfl) ?_
  refine X_iconst (v := nI 0) dX7_parse_4 (by decide) ?_
  refine X_putI dX7_parse_5 gf_X7_29 (Or.inl rfl) (by first | assumption | rfl) (by first | assumption | exact Nat.le_of_ble_eq_true rfl | omega) rfl ?_
  refine X_aload_n dX7_parse_8 rfl ?_
  refine X_getR dX7_parse_9 gf_X7_22 (by first | assumption | rfl) (by first | assumption | exact Nat.le_of_ble_eq_true rfl | omega) rfl (by first | assumption | rfl) ?_
  refine X_iconst (v := nI 0) dX7_parse_12 (by decide) ?_
  refine X_putI dX7_parse_13 gf_X7_29 (Or.inl rfl) (by first | assumption | rfl) (by first | assumption | exact Nat.le_of_ble_eq_true rfl | omega) rfl ?_
  refine X_aload_n dX7_parse_16 rfl ?_
  refine X_iload_n dX7_parse_17 rfl ?_
  refine X_putZ dX7_parse_18 gf_X7_30 (Or.inl rfl) (by first | assumption | rfl) (by first | assumption | exact Nat.le_of_ble_eq_true rfl | omega) rfl (by cases rule <;> decide) ?_
  refine X_aload_n dX7_parse_21 rfl ?_
  refine X_iconst (v := nI 0) dX7_parse_22 (by decide) ?_
  refine X_putZ dX7_parse_23 gf_X7_34 (Or.inl rfl) (by first | assumption | rfl) (by first | assumption | exact Nat.le_of_ble_eq_true rfl | omega) rfl (by first | exact Or.inl rfl | exact Or.inr rfl | assumption | decide) ?_
  refine X_aload_n dX7_parse_26 rfl ?_
  refine X_iconst (v := nI 0) dX7_parse_27 (by decide) ?_
  refine X_putI dX7_parse_28 gf_X7_37 (Or.inl rfl) (by first | assumption | rfl) (by first | assumption | exact Nat.le_of_ble_eq_true rfl | omega) rfl ?_
  refine X_iconst (v := nI 0) dX7_parse_31 (by decide) ?_
  refine X_istore_n dX7_parse_32 rfl rfl ?_
  generalize hI1 : (sr (sr (sr (sr I 3 (up (I 3) 1 (nI 0))) 5 (up (sr I 3 (up (I 3) 1 (nI 0)) 5) 1 (nI 0))) 1 (up (sr (sr I 3 (up (I 3) 1 (nI 0))) 5 (up (sr I 3 (up (I 3) 1 (nI 0)) 5) 1 (nI 0)) 1) 4 (nI rule.toNat))) 1 (up ((sr (sr (sr I 3 (up (I 3) 1 (nI 0))) 5 (up (sr I 3 (up (I 3) 1 (nI 0)) 5) 1 (nI 0))) 1 (up (sr (sr I 3 (up (I 3) 1 (nI 0))) 5 (up (sr I 3 (up (I 3) 1 (nI 0)) 5) 1 (nI 0)) 1) 4 (nI rule.toNat))) 1) 5 (nI 0))) = I1
  have k1 : I1 1 4 = nI rule.toNat := by rw [← hI1, sr_eq, up_ne (by decide), sr_eq, up_eq]
  have k2 : I1 1 5 = nI 0 := by rw [← hI1, sr_eq, up_eq]
  have k3 : I1 1 3 = I 1 3 := by rw [← hI1, sr_eq, up_ne (by decide), sr_eq, up_ne (by decide), sr_ne (by decide), sr_ne (by decide)]
  have k4 : I1 3 1 = nI 0 := by rw [← hI1, sr_ne (by decide), sr_ne (by decide), sr_ne (by decide), sr_eq, up_eq]
  have k5 : I1 5 1 = nI 0 := by rw [← hI1, sr_ne (by decide), sr_ne (by decide), sr_eq, up_eq]
  have k6 : ∀ j, j ∉ [1, 3, 4, 5, 6] → I1 j = I j := fun j hj => by rw [← hI1, sr_ne (by simp at hj; omega), sr_ne (by simp at hj; omega), sr_ne (by simp at hj; omega), sr_ne (by simp at hj; omega)]
  refine loop n 0 p0 _ rfl (Nat.zero_le n) ⟨?_, ?_, ?_, fun q => absurd q (by decide), fun q => absurd q (by decide), fun q => absurd q (by decide), ⟨?_, fun i hi => absurd hi (Nat.not_lt_zero i)⟩, ⟨?_, fun i hi => absurd hi (Nat.not_lt_zero i)⟩⟩ (PW_0 rule) ⟨?_, fun j hj => ?_⟩ rfl rfl
  · rw [sr_eq, up_ne (by decide)]; exact k1
  · rw [sr_eq, up_ne (by decide)]; exact k2
  · rw [sr_eq, up_eq]; rfl
  · rw [sr_ne (by decide)]; exact k4
  · rw [sr_ne (by decide)]; exact k5
  · rw [sr_eq, up_ne (by decide)]; exact k3
  · rw [sr_ne (by simp at hj; omega)]; exact k6 j hj
end PA
