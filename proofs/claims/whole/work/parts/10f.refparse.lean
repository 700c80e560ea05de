def rst (p : PT) : Nat := if pu p = 0 then 0 else if pu p = 1 then 6 else pu p - 1
def srd (p : PT) : Nat := if pu p = 6 then (side p).1 else (side p).1 + 1
def RRm (I : Nat → Nat → Int32) (rule : Bool) (p : PT) : Prop := I 170 2 = nI (srd p) ∧ I 170 3 = nI (mst rule) ∧ I 170 4 = nI (pR p).toNat
def FM (I I' : Nat → Nat → Int32) : Prop := (∀ j, j ≠ 170 → I' j = I j) ∧ ∀ f, f ≠ 2 → f ≠ 3 → f ≠ 4 → I' 170 f = I 170 f
theorem FM.rf {I : Nat → Nat → Int32} : FM I I := ⟨fun _ _ => rfl, fun _ _ _ _ => rfl⟩
theorem FM.tr {I I1 I2 : Nat → Nat → Int32} (h1 : FM I I1) (h2 : FM I1 I2) : FM I I2 := ⟨fun j hj => (h2.1 j hj).trans (h1.1 j hj), fun f a b c => (h2.2 f a b c).trans (h1.2 f a b c)⟩
theorem FM.fd {I : Nat → Nat → Int32} {f : Nat} {x : Int32} (hf : f = 2 ∨ f = 3 ∨ f = 4) : FM I (sr I 170 (up (I 170) f x)) := ⟨fun j hj => sr_ne hj, fun g a b c => by rw [sr_eq, up_ne (by omega)]⟩
section RP
variable {G : GG} {d : Nat} {sw : Bool} {I : Nat → Nat → Int32} {J : Nat → Nat → Int64} {s : SS}
theorem RInv.FM {I' : Nat → Nat → Int32} (hi : RInv I s) (h : FM I I') : RInv I' s := hi.fr (fun f hf => h.2 f (by simp at hf; omega) (by simp at hf; omega) (by simp at hf; omega)) (fun k hk => h.1 k (by simp at hk; omega))
theorem PM_FM {I' : Nat → Nat → Int32} {a : Int32} (hi : RInv I s) (h : FM I I') : PM s a I J sw a (NC, I', J, layR sw) := PM_mk (hi.FM h) (fun k hk => h.1 k (by omega))
theorem m_isAct {Q : Int32 → Mm → Prop} {M : Mm} {x : Int32} (hQ : Q (nI (isA x).toNat) M) : Y G d zX12_isAct [vi x] M 0 0 (qi Q) := by
  refine Y_of rfl rfl (Nat.le_of_ble_eq_true rfl) rfl ?_
  have t1 : isA x = true → X G d zX12_isAct 24 [(0, vi x)] [] M 0 0 (qi Q) := by
    intro h
    rw [h] at hQ
    refine X_iconst (v := nI 1) dX12_isAct_24 (by decide) ?_
    refine X_goto (tgt := 29) dX12_isAct_25 (by decide) ?_
    exact X_zret dX12_isAct_29 rfl (by first | rfl | (simp; done) | decide) ⟨_, rfl, hQ⟩
  refine X_iload_n dX12_isAct_0 rfl ?_
  refine X_bipush (v := nI 43) dX12_isAct_1 (by decide) ?_
  refine X_icmp_eq (tgt := 24) dX12_isAct_3 (by decide) (fun h3 => ?_) (fun h3 => ?_)
  · exact t1 (by subst h3; decide)
  refine X_iload_n dX12_isAct_6 rfl ?_
  refine X_bipush (v := nI 45) dX12_isAct_7 (by decide) ?_
  refine X_icmp_eq (tgt := 24) dX12_isAct_9 (by decide) (fun h9 => ?_) (fun h9 => ?_)
  · exact t1 (by subst h9; decide)
  refine X_iload_n dX12_isAct_12 rfl ?_
  refine X_bipush (v := nI 42) dX12_isAct_13 (by decide) ?_
  refine X_icmp_eq (tgt := 24) dX12_isAct_15 (by decide) (fun h15 => ?_) (fun h15 => ?_)
  · exact t1 (by subst h15; decide)
  refine X_iload_n dX12_isAct_18 rfl ?_
  refine X_bipush (v := nI 109) dX12_isAct_19 (by decide) ?_
  refine X_icmp_ne (tgt := 28) dX12_isAct_21 (by decide) (fun h21 => ?_) (fun h21 => ?_)
  · have h : isA x = false := by unfold isA; simp [h3, h9, h15, h21]
    rw [h] at hQ
    refine X_iconst (v := nI 0) dX12_isAct_28 (by decide) ?_
    exact X_zret dX12_isAct_29 rfl (by first | rfl | (simp; done) | decide) ⟨_, rfl, hQ⟩
  · exact t1 (by subst h21; decide)
theorem m_isOperand_t {Q : Int32 → Mm → Prop} {M : Mm} {x : Int32} (hd : 1 ≤ d) (h : opOf x ≠ 99) (hQ : Q (nI 1) M) : Y G d zX12_isOperand [vi x] M 0 0 (qi Q) := by
  refine Y_of rfl rfl (Nat.le_of_ble_eq_true rfl) rfl ?_
  refine X_iload_n dX12_isOperand_0 rfl ?_
  refine X_i2l dX12_isOperand_1 rfl ?_
  refine X_ldc2 dX12_isOperand_2 kc_X12_136 ?_
  refine X_ldc2 dX12_isOperand_5 kc_X12_138 ?_
  rcases opOf_cases x with ⟨a, h1, h2, rfl, _⟩ | ⟨a, h1, h2, rfl, _⟩ | ⟨_, _, h3⟩
  · refine X_cSi dX12_isOperand_8 ck_X12_125 rfl rfl (by omega) (Nat.le_of_ble_eq_true rfl) (c_in_t (lo := nI 97) (hi := nI 100) (by decide) (by decide) ((nle (by omega) (by omega)).mpr h1) ((nle (by omega) (by omega)).mpr h2) ?_)
    refine X_if_ne (tgt := 28) dX12_isOperand_11 (by decide) (fun b => ?_) (fun b => ?_)
    · refine X_iconst (v := nI 1) dX12_isOperand_28 (by decide) ?_
      refine X_goto (tgt := 33) dX12_isOperand_29 (by decide) ?_
      exact X_zret dX12_isOperand_33 rfl (by first | rfl | (simp; done) | decide) ⟨_, rfl, hQ⟩
    · exact absurd b (by decide)
  · refine X_cSi dX12_isOperand_8 ck_X12_125 rfl rfl (by omega) (Nat.le_of_ble_eq_true rfl) (c_in_f (lo := nI 97) (hi := nI 100) (by decide) (by decide) (fun q => absurd ((nle (by omega) (by omega)).mp q.1) (by omega)) ?_)
    refine X_if_ne (tgt := 28) dX12_isOperand_11 (by decide) (fun b => ?_) (fun b => ?_)
    · exact absurd rfl b
    refine X_iload_n dX12_isOperand_14 rfl ?_
    refine X_i2l dX12_isOperand_15 rfl ?_
    refine X_ldc2 dX12_isOperand_16 kc_X12_140 ?_
    refine X_ldc2 dX12_isOperand_19 kc_X12_142 ?_
    refine X_cSi dX12_isOperand_22 ck_X12_125 rfl rfl (by omega) (Nat.le_of_ble_eq_true rfl) (c_in_t (lo := nI 48) (hi := nI 55) (by decide) (by decide) ((nle (by omega) (by omega)).mpr h1) ((nle (by omega) (by omega)).mpr h2) ?_)
    refine X_if_eq (tgt := 32) dX12_isOperand_25 (by decide) (fun b2 => ?_) (fun b2 => ?_)
    · exact absurd b2 (by decide)
    refine X_iconst (v := nI 1) dX12_isOperand_28 (by decide) ?_
    refine X_goto (tgt := 33) dX12_isOperand_29 (by decide) ?_
    exact X_zret dX12_isOperand_33 rfl (by first | rfl | (simp; done) | decide) ⟨_, rfl, hQ⟩
  · exact absurd h3 h
theorem m_isOperand_f {Q : Int32 → Mm → Prop} {M : Mm} {x : Int32} (hd : 1 ≤ d) (h : opOf x = 99) (hQ : Q (nI 0) M) : Y G d zX12_isOperand [vi x] M 0 0 (qi Q) := by
  refine Y_of rfl rfl (Nat.le_of_ble_eq_true rfl) rfl ?_
  refine X_iload_n dX12_isOperand_0 rfl ?_
  refine X_i2l dX12_isOperand_1 rfl ?_
  refine X_ldc2 dX12_isOperand_2 kc_X12_136 ?_
  refine X_ldc2 dX12_isOperand_5 kc_X12_138 ?_
  rcases opOf_cases x with ⟨a, h1, h2, rfl, h3⟩ | ⟨a, h1, h2, rfl, h3⟩ | ⟨h1, h2, _⟩
  · omega
  · omega
  · refine X_cSi dX12_isOperand_8 ck_X12_125 rfl rfl (by omega) (Nat.le_of_ble_eq_true rfl) (c_in_f (lo := nI 97) (hi := nI 100) (by decide) (by decide) h1 ?_)
    refine X_if_ne (tgt := 28) dX12_isOperand_11 (by decide) (fun b => ?_) (fun b => ?_)
    · exact absurd rfl b
    refine X_iload_n dX12_isOperand_14 rfl ?_
    refine X_i2l dX12_isOperand_15 rfl ?_
    refine X_ldc2 dX12_isOperand_16 kc_X12_140 ?_
    refine X_ldc2 dX12_isOperand_19 kc_X12_142 ?_
    refine X_cSi dX12_isOperand_22 ck_X12_125 rfl rfl (by omega) (Nat.le_of_ble_eq_true rfl) (c_in_f (lo := nI 48) (hi := nI 55) (by decide) (by decide) h2 ?_)
    refine X_if_eq (tgt := 32) dX12_isOperand_25 (by decide) (fun b2 => ?_) (fun b2 => ?_)
    · refine X_iconst (v := nI 0) dX12_isOperand_32 (by decide) ?_
      exact X_zret dX12_isOperand_33 rfl (by first | rfl | (simp; done) | decide) ⟨_, rfl, hQ⟩
    · exact absurd rfl b2
theorem m_operandOf {Q : Int32 → Mm → Prop} {M : Mm} {x : Int32} (hd : 1 ≤ d) (h : opOf x ≠ 99) (hQ : Q (enc (opOf x)) M) : Y G d zX12_operandOf [vi x] M 0 0 (qi Q) := by
  refine Y_of rfl rfl (Nat.le_of_ble_eq_true rfl) rfl ?_
  refine X_iload_n dX12_operandOf_0 rfl ?_
  refine X_i2l dX12_operandOf_1 rfl ?_
  refine X_ldc2 dX12_operandOf_2 kc_X12_136 ?_
  refine X_ldc2 dX12_operandOf_5 kc_X12_138 ?_
  rcases opOf_cases x with ⟨a, h1, h2, rfl, h3⟩ | ⟨a, h1, h2, rfl, h3⟩ | ⟨_, _, h3⟩
  · rw [enc_n h, h3] at hQ
    refine X_cSi dX12_operandOf_8 ck_X12_125 rfl rfl (by omega) (Nat.le_of_ble_eq_true rfl) (c_in_t (lo := nI 97) (hi := nI 100) (by decide) (by decide) ((nle (by omega) (by omega)).mpr h1) ((nle (by omega) (by omega)).mpr h2) ?_)
    refine X_if_eq (tgt := 21) dX12_operandOf_11 (by decide) (fun b => ?_) (fun b => ?_)
    · exact absurd b (by decide)
    refine X_iload_n dX12_operandOf_14 rfl ?_
    refine X_bipush (v := nI 97) dX12_operandOf_15 (by decide) ?_
    first | refine X_isubN dX12_operandOf_17 (by omega) ?_ | refine X_isub dX12_operandOf_17 ?_
    refine X_goto (tgt := 28) dX12_operandOf_18 (by decide) ?_
    exact X_iret dX12_operandOf_28 rfl ⟨_, rfl, hQ⟩
  · rw [enc_n h, h3] at hQ
    refine X_cSi dX12_operandOf_8 ck_X12_125 rfl rfl (by omega) (Nat.le_of_ble_eq_true rfl) (c_in_f (lo := nI 97) (hi := nI 100) (by decide) (by decide) (fun q => absurd ((nle (by omega) (by omega)).mp q.1) (by omega)) ?_)
    refine X_if_eq (tgt := 21) dX12_operandOf_11 (by decide) (fun b => ?_) (fun b => ?_)
    · refine X_bipush (v := nI 10) dX12_operandOf_21 (by decide) ?_
      refine X_iload_n dX12_operandOf_23 rfl ?_
      first | refine X_iaddN dX12_operandOf_24 ?_ | refine X_iadd dX12_operandOf_24 ?_
      refine X_bipush (v := nI 48) dX12_operandOf_25 (by decide) ?_
      first | refine X_isubN dX12_operandOf_27 (by omega) ?_ | refine X_isub dX12_operandOf_27 ?_
      rw [show a - 48 + 10 = 10 + a - 48 by omega] at hQ
      exact X_iret dX12_operandOf_28 rfl ⟨_, rfl, hQ⟩
    · exact absurd rfl b
  · exact absurd h3 h
theorem side_le {rule : Bool} {p : PT} (hw : PW rule p) : (side p).1 ≤ 12 := by
  unfold side
  split
  · exact hw.2.2.1.1
  · exact hw.2.1.1
theorem op4 {x : Int32} : opOf x < 4 ↔ (nI 97 ≤ x ∧ x ≤ nI 100) := by
  rcases opOf_cases x with ⟨a, h1, h2, rfl, h3⟩ | ⟨a, h1, h2, rfl, h3⟩ | ⟨h1, _, h3⟩
  · exact ⟨fun _ => ⟨(nle (by omega) (by omega)).mpr h1, (nle (by omega) (by omega)).mpr h2⟩, fun _ => by omega⟩
  · exact ⟨fun q => by omega, fun q => absurd ((nle (by omega) (by omega)).mp q.1) (by omega)⟩
  · exact ⟨fun q => by omega, fun q => absurd q h1⟩
set_option maxRecDepth 20000 in
set_option maxHeartbeats 4000000 in
theorem m_stepOf {Q : Int32 → Mm → Prop} {rule : Bool} {p : PT} {x : Int32} (hd : 2 ≤ d) (hp : RRm I rule p) (hw : PW rule p)
    (hN : tk rule p x = none → Q (-1) (NC, I, J, layR sw)) (hS : ∀ p', tk rule p x = some p' → ∀ I', RRm I' rule p' → FM I I' → Q (nI (rst p')) (NC, I', J, layR sw)) : Y G d zX12_stepOf [vr 170, vi (nI (rst p)), vi x, vi (nI rule.toNat)] (NC, I, J, layR sw) 0 0 (qi Q) := by
  obtain ⟨m1, m2, m3⟩ := hp
  have hle := hw.1
  have hsl := side_le hw
  have ht0 : pu p = 0 ∨ pu p = 1 → X G d zX12_stepOf 44 [(0, vr 170), (1, vi (nI (rst p))), (2, vi x), (3, vi (nI rule.toNat))] [] (NC, I, J, layR sw) 0 0 (qi Q) := by
    intro hu
    have htk : tk rule p x = if opOf x < 4 then some (2, pR p, pL p, pG p, opOf x, pa p, pf p) else none := by
      unfold tk
      rw [if_pos hu]
    refine X_iload_n dX12_stepOf_44 rfl ?_
    refine X_i2l dX12_stepOf_45 rfl ?_
    refine X_ldc2 dX12_stepOf_46 kc_X12_136 ?_
    refine X_ldc2 dX12_stepOf_49 kc_X12_138 ?_
    by_cases h4 : opOf x < 4
    · rw [if_pos h4] at htk
      refine X_cSi dX12_stepOf_52 ck_X12_125 rfl rfl (by omega) (Nat.le_of_ble_eq_true rfl) (c_in_t (lo := nI 97) (hi := nI 100) (by decide) (by decide) (op4.mp h4).1 (op4.mp h4).2 ?_)
      refine X_if_eq (tgt := 62) dX12_stepOf_55 (by decide) (fun b => ?_) (fun b => ?_)
      · exact absurd b (by decide)
      refine X_iconst (v := nI 1) dX12_stepOf_58 (by decide) ?_
      refine X_goto (tgt := 63) dX12_stepOf_59 (by decide) ?_
      exact X_iret dX12_stepOf_63 rfl ⟨_, rfl, hS _ htk I ⟨by rw [m1]; unfold srd; rw [if_neg (by omega), if_neg (by simp [pu])]; rfl, m2, m3⟩ FM.rf⟩
    · rw [if_neg h4] at htk
      refine X_cSi dX12_stepOf_52 ck_X12_125 rfl rfl (by omega) (Nat.le_of_ble_eq_true rfl) (c_in_f (lo := nI 97) (hi := nI 100) (by decide) (by decide) (fun q => h4 (op4.mpr q)) ?_)
      refine X_if_eq (tgt := 62) dX12_stepOf_55 (by decide) (fun b => ?_) (fun b => ?_)
      · refine X_iconst (v := (-1)) dX12_stepOf_62 (by decide) ?_
        exact X_iret dX12_stepOf_63 rfl ⟨_, rfl, hN htk⟩
      · exact absurd rfl b
  refine Y_of rfl rfl (Nat.le_of_ble_eq_true rfl) rfl ?_
  refine X_iload_n dX12_stepOf_0 rfl ?_
  rcases (by omega : pu p = 0 ∨ pu p = 1 ∨ pu p = 2 ∨ pu p = 3 ∨ pu p = 4 ∨ pu p = 5 ∨ pu p = 6) with hu | hu | hu | hu | hu | hu | hu
  · have hr : rst p = 0 := by unfold rst; rw [if_pos hu]
    have := ht0 (Or.inl hu)
    rw [hr] at this ⊢
    refine X_tableIn (off := 43) (tgt := 44) dX12_stepOf_1 (by decide) (by decide) (by decide) (by decide) ?_
    exact this
  · have hr : rst p = 6 := by unfold rst; rw [if_neg (by omega), if_pos hu]
    have := ht0 (Or.inr hu)
    rw [hr] at this ⊢
    refine X_tableIn (off := 43) (tgt := 44) dX12_stepOf_1 (by decide) (by decide) (by decide) (by decide) ?_
    exact this
  · have hr : rst p = 1 := by unfold rst; rw [if_neg (by omega), if_neg (by omega), hu]
    rw [hr]
    have htk : tk rule p x = if x = nI 61 then some (3, p.2) else none := by
      unfold tk
      rw [if_neg (by omega), if_pos hu]
    refine X_tableIn (off := 63) (tgt := 64) dX12_stepOf_1 (by decide) (by decide) (by decide) (by decide) ?_
    refine X_iload_n dX12_stepOf_64 rfl ?_
    refine X_bipush (v := nI 61) dX12_stepOf_65 (by decide) ?_
    refine X_icmp_ne (tgt := 74) dX12_stepOf_67 (by decide) (fun h67 => ?_) (fun h67 => ?_)
    · rw [if_neg h67] at htk
      refine X_iconst (v := (-1)) dX12_stepOf_74 (by decide) ?_
      exact X_iret dX12_stepOf_75 rfl ⟨_, rfl, hN htk⟩
    · rw [if_pos h67] at htk
      refine X_iconst (v := nI 2) dX12_stepOf_70 (by decide) ?_
      refine X_goto (tgt := 75) dX12_stepOf_71 (by decide) ?_
      exact X_iret dX12_stepOf_75 rfl ⟨_, rfl, hS _ htk I ⟨by rw [m1]; unfold srd; rw [if_neg (by omega), if_neg (by simp [pu])]; rfl, m2, m3⟩ FM.rf⟩
  · have hr : rst p = 2 := by unfold rst; rw [if_neg (by omega), if_neg (by omega), hu]
    rw [hr]
    have htk : tk rule p x = if isA x = true then some (4, pR p, pL p, pG p, pt p, x.toNatClampNeg, pf p) else tkE p 99 (opOf x) 99 := by
      unfold tk
      rw [if_neg (by omega), if_neg (by omega), if_pos hu]
    refine X_tableIn (off := 75) (tgt := 76) dX12_stepOf_1 (by decide) (by decide) (by decide) (by decide) ?_
    refine X_iload_n dX12_stepOf_76 rfl ?_
    by_cases ho : opOf x = 99
    · refine X_cSi dX12_stepOf_77 ck_X12_144 rfl rfl (by omega) (Nat.le_of_ble_eq_true rfl) (m_isOperand_f (by omega) ho ?_)
      refine X_if_eq (tgt := 87) dX12_stepOf_80 (by decide) (fun b => ?_) (fun b => ?_)
      · refine X_iload_n dX12_stepOf_87 rfl ?_
        refine X_cSi dX12_stepOf_88 ck_X12_148 rfl rfl (by omega) (Nat.le_of_ble_eq_true rfl) (m_isAct ?_)
        cases hA : isA x with
        | true =>
          rw [hA, if_pos rfl] at htk
          refine X_if_eq (tgt := 98) dX12_stepOf_91 (by decide) (fun b2 => ?_) (fun b2 => ?_)
          · exact absurd b2 (by decide)
          refine X_iconst (v := nI 3) dX12_stepOf_94 (by decide) ?_
          refine X_goto (tgt := 99) dX12_stepOf_95 (by decide) ?_
          exact X_iret dX12_stepOf_99 rfl ⟨_, rfl, hS _ htk I ⟨by rw [m1]; unfold srd; rw [if_neg (by omega), if_neg (by simp [pu])]; rfl, m2, m3⟩ FM.rf⟩
        | false =>
          rw [hA, if_neg (by decide)] at htk
          have : tkE p 99 (opOf x) 99 = none := by unfold tkE; rw [if_pos (Or.inl ho)]
          rw [this] at htk
          refine X_if_eq (tgt := 98) dX12_stepOf_91 (by decide) (fun b2 => ?_) (fun b2 => ?_)
          · refine X_iconst (v := (-1)) dX12_stepOf_98 (by decide) ?_
            exact X_iret dX12_stepOf_99 rfl ⟨_, rfl, hN htk⟩
          · exact absurd rfl b2
      · exact absurd rfl b
    · rw [opA ho, if_neg (by decide)] at htk
      refine X_cSi dX12_stepOf_77 ck_X12_144 rfl rfl (by omega) (Nat.le_of_ble_eq_true rfl) (m_isOperand_t (by omega) ho ?_)
      refine X_if_eq (tgt := 87) dX12_stepOf_80 (by decide) (fun b => ?_) (fun b => ?_)
      · exact absurd b (by decide)
      refine X_iconst (v := nI 5) dX12_stepOf_83 (by decide) ?_
      refine X_goto (tgt := 99) dX12_stepOf_84 (by decide) ?_
      have hc : ¬ (opOf x = 99 ∨ (99 ≠ 99 ∧ 99 = 99)) := fun q => q.elim ho (fun q => q.1 rfl)
      unfold tkE at htk
      rw [if_neg hc] at htk
      by_cases hR : pR p = true
      · rw [if_pos hR] at htk
        have es : side p = pG p := by unfold side; rw [if_pos hR]
        exact X_iret dX12_stepOf_99 rfl ⟨_, rfl, hS _ htk I ⟨by rw [m1]; unfold srd; rw [if_neg (by omega), es]; rfl, m2, by rw [m3, hR]⟩ FM.rf⟩
      · rw [if_neg hR] at htk
        have hR2 : pR p = false := by cases hq : pR p <;> simp_all
        have es : side p = pL p := by unfold side; rw [if_neg hR]
        exact X_iret dX12_stepOf_99 rfl ⟨_, rfl, hS _ htk I ⟨by rw [m1]; unfold srd; rw [if_neg (by omega), es]; rfl, m2, by rw [m3, hR2]⟩ FM.rf⟩
  · have hr : rst p = 3 := by unfold rst; rw [if_neg (by omega), if_neg (by omega), hu]
    rw [hr]
    have htk : tk rule p x = if opOf x = 99 then none else some (5, pR p, pL p, pG p, pt p, pa p, opOf x) := by
      unfold tk
      rw [if_neg (by omega), if_neg (by omega), if_neg (by omega), if_pos hu]
    refine X_tableIn (off := 99) (tgt := 100) dX12_stepOf_1 (by decide) (by decide) (by decide) (by decide) ?_
    refine X_iload_n dX12_stepOf_100 rfl ?_
    by_cases ho : opOf x = 99
    · rw [if_pos ho] at htk
      refine X_cSi dX12_stepOf_101 ck_X12_144 rfl rfl (by omega) (Nat.le_of_ble_eq_true rfl) (m_isOperand_f (by omega) ho ?_)
      refine X_if_eq (tgt := 111) dX12_stepOf_104 (by decide) (fun b => ?_) (fun b => ?_)
      · refine X_iconst (v := (-1)) dX12_stepOf_111 (by decide) ?_
        exact X_iret dX12_stepOf_112 rfl ⟨_, rfl, hN htk⟩
      · exact absurd rfl b
    · rw [if_neg ho] at htk
      refine X_cSi dX12_stepOf_101 ck_X12_144 rfl rfl (by omega) (Nat.le_of_ble_eq_true rfl) (m_isOperand_t (by omega) ho ?_)
      refine X_if_eq (tgt := 111) dX12_stepOf_104 (by decide) (fun b => ?_) (fun b => ?_)
      · exact absurd b (by decide)
      refine X_iconst (v := nI 4) dX12_stepOf_107 (by decide) ?_
      refine X_goto (tgt := 112) dX12_stepOf_108 (by decide) ?_
      exact X_iret dX12_stepOf_112 rfl ⟨_, rfl, hS _ htk I ⟨by rw [m1]; unfold srd; rw [if_neg (by omega), if_neg (by simp [pu])]; rfl, m2, m3⟩ FM.rf⟩
  · have hr : rst p = 4 := by unfold rst; rw [if_neg (by omega), if_neg (by omega), hu]
    rw [hr]
    have ha := hw.2.2.2.2.2.2.2.1 (Or.inr hu)
    have hf := hw.2.2.2.2.2.2.2.2.1 hu
    have ha9 : pa p ≠ 99 := by unfold iact at ha; omega
    have htk : tk rule p x = tkE p (pa p) (pf p) (opOf x) := by
      unfold tk
      rw [if_neg (by omega), if_neg (by omega), if_neg (by omega), if_neg (by omega), if_pos hu]
    refine X_tableIn (off := 112) (tgt := 113) dX12_stepOf_1 (by decide) (by decide) (by decide) (by decide) ?_
    refine X_iload_n dX12_stepOf_113 rfl ?_
    by_cases ho : opOf x = 99
    · have : tkE p (pa p) (pf p) (opOf x) = none := by unfold tkE; rw [if_pos (Or.inr ⟨ha9, ho⟩)]
      rw [this] at htk
      refine X_cSi dX12_stepOf_114 ck_X12_144 rfl rfl (by omega) (Nat.le_of_ble_eq_true rfl) (m_isOperand_f (by omega) ho ?_)
      refine X_if_eq (tgt := 124) dX12_stepOf_117 (by decide) (fun b => ?_) (fun b => ?_)
      · refine X_iconst (v := (-1)) dX12_stepOf_124 (by decide) ?_
        exact X_iret dX12_stepOf_125 rfl ⟨_, rfl, hN htk⟩
      · exact absurd rfl b
    · have hc : ¬ (pf p = 99 ∨ (pa p ≠ 99 ∧ opOf x = 99)) := fun q => q.elim (opd_ne hf) (fun q => ho q.2)
      unfold tkE at htk
      rw [if_neg hc] at htk
      refine X_cSi dX12_stepOf_114 ck_X12_144 rfl rfl (by omega) (Nat.le_of_ble_eq_true rfl) (m_isOperand_t (by omega) ho ?_)
      refine X_if_eq (tgt := 124) dX12_stepOf_117 (by decide) (fun b => ?_) (fun b => ?_)
      · exact absurd b (by decide)
      refine X_iconst (v := nI 5) dX12_stepOf_120 (by decide) ?_
      refine X_goto (tgt := 125) dX12_stepOf_121 (by decide) ?_
      by_cases hR : pR p = true
      · rw [if_pos hR] at htk
        have es : side p = pG p := by unfold side; rw [if_pos hR]
        exact X_iret dX12_stepOf_125 rfl ⟨_, rfl, hS _ htk I ⟨by rw [m1]; unfold srd; rw [if_neg (by omega), es]; rfl, m2, by rw [m3, hR]⟩ FM.rf⟩
      · rw [if_neg hR] at htk
        have hR2 : pR p = false := by cases hq : pR p <;> simp_all
        have es : side p = pL p := by unfold side; rw [if_neg hR]
        exact X_iret dX12_stepOf_125 rfl ⟨_, rfl, hS _ htk I ⟨by rw [m1]; unfold srd; rw [if_neg (by omega), es]; rfl, m2, by rw [m3, hR2]⟩ FM.rf⟩
  · have hr : rst p = 5 := by unfold rst; rw [if_neg (by omega), if_neg (by omega), hu]
    have hs : srd p = (side p).1 := by unfold srd; rw [if_pos hu]
    rw [hs] at m1
    have hml := mst_le rule
    have htk : tk rule p x = if x = nI 59 ∧ (side p).1 < mst rule then some (0, p.2) else if x = nI 62 ∧ rule = true ∧ pR p = false then some (1, true, p.2.2) else none := by
      unfold tk
      rw [if_neg (by omega), if_neg (by omega), if_neg (by omega), if_neg (by omega), if_neg (by omega)]
      rfl
    have t185 : ¬ (x = nI 59 ∧ (side p).1 < mst rule) → ¬ (x = nI 62 ∧ rule = true ∧ pR p = false) → X G d zX12_stepOf 185 [(0, vr 170), (1, vi (nI 5)), (2, vi x), (3, vi (nI rule.toNat))] [] (NC, I, J, layR sw) 0 0 (qi Q) := by
      intro h1 h2
      rw [if_neg h1, if_neg h2] at htk
      refine X_iconst (v := (-1)) dX12_stepOf_185 (by decide) ?_
      exact X_iret dX12_stepOf_186 rfl ⟨_, rfl, hN htk⟩
    have t155 : ¬ (x = nI 59 ∧ (side p).1 < mst rule) → X G d zX12_stepOf 155 [(0, vr 170), (1, vi (nI 5)), (2, vi x), (3, vi (nI rule.toNat))] [] (NC, I, J, layR sw) 0 0 (qi Q) := by
      intro h1
      have t185 := t185 h1
      rw [if_neg h1] at htk
      refine X_iload_n dX12_stepOf_155 rfl ?_
      refine X_bipush (v := nI 62) dX12_stepOf_156 (by decide) ?_
      refine X_icmp_ne (tgt := 185) dX12_stepOf_158 (by decide) (fun h158 => ?_) (fun h158 => ?_)
      · exact t185 (fun q => h158 q.1)
      refine X_iload_n dX12_stepOf_161 rfl ?_
      cases hru : rule with
      | false =>
        refine X_if_eq (tgt := 185) dX12_stepOf_162 (by decide) (fun b => ?_) (fun b => ?_)
        · have := t185 (fun q => by rw [hru] at q; exact absurd q.2.1 (by decide))
          rw [hru] at this
          exact this
        · exact absurd rfl b
      | true =>
        refine X_if_eq (tgt := 185) dX12_stepOf_162 (by decide) (fun b => ?_) (fun b => ?_)
        · exact absurd b (by decide)
        refine X_aload_n dX12_stepOf_165 rfl ?_
        refine X_getI dX12_stepOf_166 gf_X12_157 (by first | assumption | rfl) (by first | assumption | exact Nat.le_of_ble_eq_true rfl | omega) rfl ?_
        rw [m3]
        cases hR : pR p with
        | true =>
          refine X_if_ne (tgt := 185) dX12_stepOf_169 (by decide) (fun b2 => ?_) (fun b2 => ?_)
          · have := t185 (fun q => by rw [hR] at q; exact absurd q.2.2 (by decide))
            rw [hru] at this
            exact this
          · exact absurd b2 (by decide)
        | false =>
          refine X_if_ne (tgt := 185) dX12_stepOf_169 (by decide) (fun b2 => ?_) (fun b2 => ?_)
          · exact absurd rfl b2
          rw [if_pos ⟨h158, hru, hR⟩] at htk
          have h0 := hw.2.2.2.2.2.2.2.2.2.2.2.1 hR
          refine X_aload_n dX12_stepOf_172 rfl ?_
          refine X_iconst (v := nI 1) dX12_stepOf_173 (by decide) ?_
          refine X_putZ dX12_stepOf_174 gf_X12_157 (Or.inl rfl) (by first | assumption | rfl) (by first | assumption | exact Nat.le_of_ble_eq_true rfl | omega) rfl (by first | exact Or.inl rfl | exact Or.inr rfl | assumption | decide) ?_
          refine X_aload_n dX12_stepOf_177 rfl ?_
          refine X_iconst (v := nI 1) dX12_stepOf_178 (by decide) ?_
          refine X_putI dX12_stepOf_179 gf_X12_151 (Or.inl rfl) (by first | assumption | rfl) (by first | assumption | exact Nat.le_of_ble_eq_true rfl | omega) rfl ?_
          refine X_bipush (v := nI 6) dX12_stepOf_182 (by decide) ?_
          subst hru
          refine X_iret dX12_stepOf_184 rfl ⟨_, rfl, hS _ htk _ ⟨?_, ?_, ?_⟩ ((FM.fd (by decide)).tr (FM.fd (by decide)))⟩
          · rw [sr_eq, up_eq]
            show nI 1 = nI ((pG p).1 + 1)
            rw [h0]
          · rw [sr_eq, up_ne (by decide), sr_eq, up_ne (by decide)]; exact m2
          · rw [sr_eq, up_ne (by decide), sr_eq, up_eq]; rfl
    rw [hr]
    refine X_tableIn (off := 125) (tgt := 126) dX12_stepOf_1 (by decide) (by decide) (by decide) (by decide) ?_
    refine X_iload_n dX12_stepOf_126 rfl ?_
    refine X_bipush (v := nI 59) dX12_stepOf_127 (by decide) ?_
    refine X_icmp_ne (tgt := 155) dX12_stepOf_129 (by decide) (fun h129 => ?_) (fun h129 => ?_)
    · exact t155 (fun q => h129 q.1)
    refine X_aload_n dX12_stepOf_132 rfl ?_
    refine X_getI dX12_stepOf_133 gf_X12_151 (by first | assumption | rfl) (by first | assumption | exact Nat.le_of_ble_eq_true rfl | omega) rfl ?_
    rw [m1]
    refine X_aload_n dX12_stepOf_136 rfl ?_
    refine X_getI dX12_stepOf_137 gf_X12_154 (by first | assumption | rfl) (by first | assumption | exact Nat.le_of_ble_eq_true rfl | omega) rfl ?_
    rw [m2]
    refine X_icmp_ge (tgt := 155) dX12_stepOf_140 (by decide) (fun h140 => ?_) (fun h140 => ?_)
    · exact t155 (fun q => absurd ((nle (by omega) (by omega)).mp h140) (by omega))
    have h140 : (side p).1 < mst rule := by
      rcases Nat.lt_or_ge (side p).1 (mst rule) with q | q
      · exact q
      · exact absurd ((nle (by omega) (by omega)).mpr q) h140
    rw [if_pos ⟨h129, h140⟩] at htk
    refine X_aload_n dX12_stepOf_143 rfl ?_
    refine X_dup dX12_stepOf_144 rfl ?_
    refine X_getI dX12_stepOf_145 gf_X12_151 (by first | assumption | rfl) (by first | assumption | exact Nat.le_of_ble_eq_true rfl | omega) rfl ?_
    rw [m1]
    refine X_iconst (v := nI 1) dX12_stepOf_148 (by decide) ?_
    first | refine X_iaddN dX12_stepOf_149 ?_ | refine X_iadd dX12_stepOf_149 ?_
    refine X_putI dX12_stepOf_150 gf_X12_151 (Or.inl rfl) (by first | assumption | rfl) (by first | assumption | exact Nat.le_of_ble_eq_true rfl | omega) rfl ?_
    refine X_iconst (v := nI 0) dX12_stepOf_153 (by decide) ?_
    refine X_iret dX12_stepOf_154 rfl ⟨_, rfl, hS _ htk _ ⟨?_, ?_, ?_⟩ (FM.fd (by decide))⟩
    · rw [sr_eq, up_eq]; rfl
    · rw [sr_eq, up_ne (by decide)]; exact m2
    · rw [sr_eq, up_ne (by decide)]; exact m3
theorem m_beginRead {Q : Mm → Prop} {rule : Bool} (hQ : ∀ I', RRm I' rule p0 → FM I I' → Q (NC, I', J, layR sw)) : Y G d zX12_beginRead [vr 170, vi (nI rule.toNat)] (NC, I, J, layR sw) 0 0 (qv Q) := by
  refine Y_of rfl rfl (Nat.le_of_ble_eq_true rfl) rfl ?_
  refine X_aload_n dX12_beginRead_0 rfl ?_
  refine X_iconst (v := nI 1) dX12_beginRead_1 (by decide) ?_
  refine X_putI dX12_beginRead_2 gf_X12_151 (Or.inl rfl) (by first | assumption | rfl) (by first | assumption | exact Nat.le_of_ble_eq_true rfl | omega) rfl ?_
  refine X_aload_n dX12_beginRead_5 rfl ?_
  refine X_iload_n dX12_beginRead_6 rfl ?_
  have tail : X G d zX12_beginRead 16 [(0, vr 170), (1, vi (nI rule.toNat))] [vi (nI (mst rule)), vr 170] (NC, sr I 170 (up (I 170) 2 (nI 1)), J, layR sw) 0 0 (qv Q) := by
    refine X_putI dX12_beginRead_16 gf_X12_154 (Or.inl rfl) (by first | assumption | rfl) (by first | assumption | exact Nat.le_of_ble_eq_true rfl | omega) rfl ?_
    refine X_aload_n dX12_beginRead_19 rfl ?_
    refine X_iconst (v := nI 0) dX12_beginRead_20 (by decide) ?_
    refine X_putZ dX12_beginRead_21 gf_X12_157 (Or.inl rfl) (by first | assumption | rfl) (by first | assumption | exact Nat.le_of_ble_eq_true rfl | omega) rfl (by first | exact Or.inl rfl | exact Or.inr rfl | assumption | decide) ?_
    refine X_vret dX12_beginRead_24 rfl ⟨rfl, hQ _ ⟨?_, ?_, ?_⟩ (((FM.fd (by decide)).tr (FM.fd (by decide))).tr (FM.fd (by decide)))⟩
    · rw [sr_eq, up_ne (by decide), sr_eq, up_ne (by decide), sr_eq, up_eq]; rfl
    · rw [sr_eq, up_ne (by decide), sr_eq, up_eq]
    · rw [sr_eq, up_eq]; rfl
  cases rule with
  | false =>
    refine X_if_eq (tgt := 14) dX12_beginRead_7 (by decide) (fun b => ?_) (fun b => ?_)
    · refine X_bipush (v := nI 12) dX12_beginRead_14 (by decide) ?_
      exact tail
    · exact absurd rfl b
  | true =>
    refine X_if_eq (tgt := 14) dX12_beginRead_7 (by decide) (fun b => ?_) (fun b => ?_)
    · exact absurd b (by decide)
    refine X_iconst (v := nI 3) dX12_beginRead_10 (by decide) ?_
    refine X_goto (tgt := 16) dX12_beginRead_11 (by decide) ?_
    exact tail
set_option maxRecDepth 20000 in
set_option maxHeartbeats 4000000 in
theorem m_faultOf {Q : Int32 → Mm → Prop} {rule : Bool} {n : Nat} {sg : Nat → Int32} (hd : 3 ≤ d) (hc : I 170 1 = nI n) (hn : n ≤ 80) (hsg : ∀ i, i < n → I 171 i = sg i)
    (hF : ff rule sg n n p0 0 ≠ -6 → ∀ a, a ≤ n → ff rule sg n n p0 0 = nI a → ∀ I', FM I I' → Q (nI a) (NC, I', J, layR sw)) (hS : ∀ p, fin rule sg n p0 0 = some p → okE rule p → ff rule sg n n p0 0 = -6 → ∀ I', FM I I' → Q (-6) (NC, I', J, layR sw)) : Y G d zX12_faultOf [vr 170, vi (nI rule.toNat)] (NC, I, J, layR sw) 0 0 (qi Q) := by
  have loop : ∀ (m i : Nat) (p : PT) (I1 : Nat → Nat → Int32), m = n - i → i ≤ n → RRm I1 rule p → PW rule p → FM I I1 → ff rule sg n n p0 0 = ff rule sg n m p i → fin rule sg n p0 0 = fin rule sg m p i → X G d zX12_faultOf 9 [(0, vr 170), (1, vi (nI rule.toNat)), (2, vi (nI (rst p))), (3, vi (nI i))] [] (NC, I1, J, layR sw) 0 0 (qi Q) := by
    intro m
    induction m with
    | zero =>
      intro i p I1 hm hi hp hw hf e1 e2
      obtain rfl : i = n := by omega
      obtain ⟨m1, m2, m3⟩ := hp
      rw [ff_0] at e1
      have hle := hw.1
      have hc1 : I1 170 1 = nI i := by rw [hf.2 1 (by decide) (by decide) (by decide)]; exact hc
      have bad : ¬ okE rule p → X G d zX12_faultOf 82 [(0, vr 170), (1, vi (nI rule.toNat)), (2, vi (nI (rst p))), (3, vi (nI i))] [vi (nI 0)] (NC, I1, J, layR sw) 0 0 (qi Q) := by
        intro h
        unfold okE at h
        rw [if_neg h] at e1
        refine X_istore_n dX12_faultOf_82 rfl rfl ?_
        refine X_iload_n dX12_faultOf_83 rfl ?_
        refine X_if_eq (tgt := 92) dX12_faultOf_84 (by decide) (fun b => ?_) (fun b => ?_)
        · refine X_aload_n dX12_faultOf_92 rfl ?_
          refine X_getI dX12_faultOf_93 gf_X12_133 (by first | assumption | rfl) (by first | assumption | exact Nat.le_of_ble_eq_true rfl | omega) rfl ?_
          rw [hc1]
          exact X_iret dX12_faultOf_96 rfl ⟨_, rfl, hF (by rw [e1]; exact fun q => absurd (by rw [q]; decide : nI i < 0) (nneg (by omega))) i (Nat.le_refl i) e1 I1 hf⟩
        · exact absurd rfl b
      have good : okE rule p → X G d zX12_faultOf 82 [(0, vr 170), (1, vi (nI rule.toNat)), (2, vi (nI (rst p))), (3, vi (nI i))] [vi (nI 1)] (NC, I1, J, layR sw) 0 0 (qi Q) := by
        intro h
        have h' := h
        unfold okE at h'
        rw [if_pos h'] at e1
        refine X_istore_n dX12_faultOf_82 rfl rfl ?_
        refine X_iload_n dX12_faultOf_83 rfl ?_
        refine X_if_eq (tgt := 92) dX12_faultOf_84 (by decide) (fun b => ?_) (fun b => ?_)
        · exact absurd b (by decide)
        refine X_bipush (v := (-6)) dX12_faultOf_87 (by decide) ?_
        refine X_goto (tgt := 96) dX12_faultOf_89 (by decide) ?_
        exact X_iret dX12_faultOf_96 rfl ⟨_, rfl, hS p e2 h e1 I1 hf⟩
      have hrl : rst p ≤ 6 := by unfold rst; split <;> (try split) <;> omega
      refine X_iload_n dX12_faultOf_9 rfl ?_
      refine X_aload_n dX12_faultOf_10 rfl ?_
      refine X_getI dX12_faultOf_11 gf_X12_133 (by first | assumption | rfl) (by first | assumption | exact Nat.le_of_ble_eq_true rfl | omega) rfl ?_
      rw [hc1]
      refine X_icmp_ge (tgt := 42) dX12_faultOf_14 (by decide) (fun h14 => ?_) (fun h14 => ?_)
      · refine X_iload_n dX12_faultOf_42 rfl ?_
        cases hru : rule with
        | true =>
          rw [hru] at bad good
          refine X_if_eq (tgt := 72) dX12_faultOf_43 (by decide) (fun b => ?_) (fun b => ?_)
          · exact absurd b (by decide)
          refine X_aload_n dX12_faultOf_46 rfl ?_
          refine X_getI dX12_faultOf_47 gf_X12_157 (by first | assumption | rfl) (by first | assumption | exact Nat.le_of_ble_eq_true rfl | omega) rfl ?_
          rw [m3]
          cases hR : pR p with
          | false =>
            refine X_if_eq (tgt := 68) dX12_faultOf_50 (by decide) (fun b2 => ?_) (fun b2 => ?_)
            · refine X_iconst (v := nI 0) dX12_faultOf_68 (by decide) ?_
              refine X_goto (tgt := 82) dX12_faultOf_69 (by decide) ?_
              refine bad (fun q => q.elim (fun q => ?_) (fun q => ?_))
              · have := hw.2.2.2.2.2.2.2.2.2.1 q
                rw [hR] at this
                exact absurd this (by decide)
              · rw [hR] at q
                exact absurd q.2 (by decide)
            · exact absurd rfl b2
          | true =>
            refine X_if_eq (tgt := 68) dX12_faultOf_50 (by decide) (fun b2 => ?_) (fun b2 => ?_)
            · exact absurd b2 (by decide)
            refine X_iload_n dX12_faultOf_53 rfl ?_
            refine X_iconst (v := nI 5) dX12_faultOf_54 (by decide) ?_
            refine X_icmp_eq (tgt := 64) dX12_faultOf_55 (by decide) (fun b3 => ?_) (fun b3 => ?_)
            · have h5 := (neq (by omega) (by decide)).mp b3
              refine X_iconst (v := nI 1) dX12_faultOf_64 (by decide) ?_
              refine X_goto (tgt := 82) dX12_faultOf_65 (by decide) ?_
              refine good (Or.inr ⟨?_, hR⟩)
              unfold rst at h5
              split at h5
              · omega
              · split at h5 <;> omega
            refine X_iload_n dX12_faultOf_58 rfl ?_
            refine X_bipush (v := nI 6) dX12_faultOf_59 (by decide) ?_
            refine X_icmp_ne (tgt := 68) dX12_faultOf_61 (by decide) (fun b4 => ?_) (fun b4 => ?_)
            · refine X_iconst (v := nI 0) dX12_faultOf_68 (by decide) ?_
              refine X_goto (tgt := 82) dX12_faultOf_69 (by decide) ?_
              refine bad (fun q => q.elim (fun q => ?_) (fun q => ?_))
              · exact b4 (by unfold rst; rw [if_neg (by omega), if_pos q])
              · exact b3 (by unfold rst; rw [if_neg (by omega), if_neg (by omega), q.1])
            · have h6 := (neq (by omega) (by decide)).mp b4
              refine X_iconst (v := nI 1) dX12_faultOf_64 (by decide) ?_
              refine X_goto (tgt := 82) dX12_faultOf_65 (by decide) ?_
              refine good (Or.inl ?_)
              unfold rst at h6
              split at h6
              · omega
              · split at h6 <;> omega
        | false =>
          rw [hru] at bad good
          have hR : pR p = false := by
            cases hq : pR p with
            | false => rfl
            | true =>
              have := (hw.2.2.2.2.2.2.2.2.2.2.1 hq).1
              rw [hru] at this
              exact absurd this (by decide)
          refine X_if_eq (tgt := 72) dX12_faultOf_43 (by decide) (fun b => ?_) (fun b => ?_)
          · refine X_iload_n dX12_faultOf_72 rfl ?_
            refine X_iconst (v := nI 5) dX12_faultOf_73 (by decide) ?_
            refine X_icmp_ne (tgt := 81) dX12_faultOf_74 (by decide) (fun b2 => ?_) (fun b2 => ?_)
            · refine X_iconst (v := nI 0) dX12_faultOf_81 (by decide) ?_
              refine bad (fun q => q.elim (fun q => ?_) (fun q => ?_))
              · have := hw.2.2.2.2.2.2.2.2.2.1 q
                rw [hR] at this
                exact absurd this (by decide)
              · exact b2 (by unfold rst; rw [if_neg (by omega), if_neg (by omega), q.1])
            · have h5 := (neq (by omega) (by decide)).mp b2
              refine X_iconst (v := nI 1) dX12_faultOf_77 (by decide) ?_
              refine X_goto (tgt := 82) dX12_faultOf_78 (by decide) ?_
              refine good (Or.inr ⟨?_, hR⟩)
              unfold rst at h5
              split at h5
              · omega
              · split at h5 <;> omega
          · exact absurd rfl b
      · exact absurd (Int32.le_refl _) h14
    | succ m ih =>
      intro i p I1 hm hi hp hw hf e1 e2
      have hlt : i < n := by omega
      have hc1 : I1 170 1 = nI n := by rw [hf.2 1 (by decide) (by decide) (by decide)]; exact hc
      refine X_iload_n dX12_faultOf_9 rfl ?_
      refine X_aload_n dX12_faultOf_10 rfl ?_
      refine X_getI dX12_faultOf_11 gf_X12_133 (by first | assumption | rfl) (by first | assumption | exact Nat.le_of_ble_eq_true rfl | omega) rfl ?_
      rw [hc1]
      refine X_icmp_ge (tgt := 42) dX12_faultOf_14 (by decide) (fun h14 => ?_) (fun h14 => ?_)
      · exact absurd ((nle (by omega) (by omega)).mp h14) (by omega)
      refine X_aload_n dX12_faultOf_17 rfl ?_
      refine X_iload_n dX12_faultOf_18 rfl ?_
      refine X_aload_n dX12_faultOf_19 rfl ?_
      refine X_getR dX12_faultOf_20 gf_X12_7 (by first | assumption | rfl) (by first | assumption | exact Nat.le_of_ble_eq_true rfl | omega) rfl (by first | assumption | rfl) ?_
      refine X_iload_n dX12_faultOf_23 rfl ?_
      first | refine X_iald dX12_faultOf_24 (by first | assumption | rfl) (by first | assumption | exact Nat.le_of_ble_eq_true rfl | omega) rfl (by first | decide | omega) (by decide) ?_ | refine X_ildA dX12_faultOf_24 rfl (by omega) ?_ | refine X_ildM dX12_faultOf_24 rfl (by omega) ?_ | refine X_sld dX12_faultOf_24 rfl (by omega) (by omega) ?_
      refine X_iload_n dX12_faultOf_25 rfl ?_
      rw [hf.1 171 (by decide), hsg i hlt]
      refine X_cVi dX12_faultOf_26 ck_X12_165 rfl rfl (by first | assumption | rfl) (by first | assumption | exact Nat.le_of_ble_eq_true rfl | omega) (by omega) (Nat.le_of_ble_eq_true rfl) (m_stepOf (by omega) hp hw (fun q => ?_) (fun p' q I2 c2 f2 => ?_))
      · rw [ff_n q] at e1
        refine X_istore_n dX12_faultOf_29 rfl rfl ?_
        refine X_iload_n dX12_faultOf_30 rfl ?_
        refine X_if_ge (tgt := 36) dX12_faultOf_31 (by decide) (fun b => ?_) (fun b => ?_)
        · exact absurd b (by decide)
        refine X_iload_n dX12_faultOf_34 rfl ?_
        exact X_iret dX12_faultOf_35 rfl ⟨_, rfl, hF (by rw [e1]; exact fun q => absurd (by rw [q]; decide : nI i < 0) (nneg (by omega))) i (by omega) e1 I1 hf⟩
      · rw [ff_s q] at e1
        rw [fin_s q] at e2
        have hw' := PW_tk hw q
        have hrl : rst p' ≤ 6 := by have := hw'.1; unfold rst; split <;> (try split) <;> omega
        refine X_istore_n dX12_faultOf_29 rfl rfl ?_
        refine X_iload_n dX12_faultOf_30 rfl ?_
        refine X_if_ge (tgt := 36) dX12_faultOf_31 (by decide) (fun b => ?_) (fun b => ?_)
        · first | refine X_iinc1 dX12_faultOf_36 rfl rfl rfl ?_ | refine X_iinc dX12_faultOf_36 rfl rfl rfl rfl ?_
          refine X_goto (tgt := 9) dX12_faultOf_39 (by decide) ?_
          exact ih (i + 1) p' I2 (by omega) (by omega) c2 hw' (hf.tr f2) e1 e2
        · exact absurd (nge0 (by omega)) b
  refine Y_of rfl rfl (Nat.le_of_ble_eq_true rfl) rfl ?_
  refine X_aload_n dX12_faultOf_0 rfl ?_
  refine X_iload_n dX12_faultOf_1 rfl ?_
  refine X_cVv dX12_faultOf_2 ck_X12_161 rfl rfl (by first | assumption | rfl) (by first | assumption | exact Nat.le_of_ble_eq_true rfl | omega) (by omega) (Nat.le_of_ble_eq_true rfl) (m_beginRead (fun I1 c1 f1 => ?_))
  refine X_iconst (v := nI 0) dX12_faultOf_5 (by decide) ?_
  refine X_istore_n dX12_faultOf_6 rfl rfl ?_
  refine X_iconst (v := nI 0) dX12_faultOf_7 (by decide) ?_
  refine X_istore_n dX12_faultOf_8 rfl rfl ?_
  exact loop n 0 p0 I1 rfl (Nat.zero_le n) c1 (PW_0 rule) f1 rfl rfl
set_option maxRecDepth 20000 in
theorem M_fault {x : Int32} (hd : 4 ≤ d) (hv : VSt s) (hi : RInv I s) : Y G d zX12_fault [vr 170, vi x] (NC, I, J, layR sw) 0 0 (qi (PM s (sp_fault s x) I J sw)) := by
  refine Y_of rfl rfl (Nat.le_of_ble_eq_true rfl) rfl ?_
  refine X_iload_n dX12_fault_0 rfl ?_
  refine X_i2l dX12_fault_1 rfl ?_
  refine X_lconst (v := 0) dX12_fault_2 (by decide) ?_
  refine X_lconst (v := 1) dX12_fault_3 (by decide) ?_
  by_cases h0 : x = 0
  · subst h0
    have e : sp_fault s 0 = flt false s := by unfold sp_fault; rw [if_pos rfl]
    rw [e]
    refine X_cSi dX12_fault_4 ck_X12_125 rfl rfl (by omega) (Nat.le_of_ble_eq_true rfl) (c_in_t (lo := nI 0) (hi := nI 1) (by decide) (by decide) (by decide) (by decide) ?_)
    refine X_if_eq (tgt := 27) dX12_fault_7 (by decide) (fun b => ?_) (fun b => ?_)
    · exact absurd b (by decide)
    refine X_aload_n dX12_fault_10 rfl ?_
    refine X_iload_n dX12_fault_11 rfl ?_
    refine X_iconst (v := nI 1) dX12_fault_12 (by decide) ?_
    refine X_icmp_ne (tgt := 20) dX12_fault_13 (by decide) (fun b2 => ?_) (fun b2 => ?_)
    · refine X_iconst (v := nI 0) dX12_fault_20 (by decide) ?_
      refine X_cVi dX12_fault_21 ck_X12_169 rfl rfl (by first | assumption | rfl) (by first | assumption | exact Nat.le_of_ble_eq_true rfl | omega) (by omega) (Nat.le_of_ble_eq_true rfl) (m_faultOf (rule := false) (by omega) hi.1.1 hv.1 hi.1.2 (fun _ a _ ha I' f => ?_) (fun p q1 q2 q3 I' f => ?_))
      · rw [show flt false s = nI a from ha]
        refine X_goto (tgt := 29) dX12_fault_24 (by decide) ?_
        exact X_iret dX12_fault_29 rfl ⟨_, rfl, PM_FM hi f⟩
      · rw [show flt false s = -6 from q3]
        refine X_goto (tgt := 29) dX12_fault_24 (by decide) ?_
        exact X_iret dX12_fault_29 rfl ⟨_, rfl, PM_FM hi f⟩
    · exact absurd b2 (by decide)
  by_cases h1 : x = nI 1
  · subst h1
    have e : sp_fault s (nI 1) = flt true s := by unfold sp_fault; rw [if_neg (by decide), if_pos rfl]
    rw [e]
    refine X_cSi dX12_fault_4 ck_X12_125 rfl rfl (by omega) (Nat.le_of_ble_eq_true rfl) (c_in_t (lo := nI 0) (hi := nI 1) (by decide) (by decide) (by decide) (by decide) ?_)
    refine X_if_eq (tgt := 27) dX12_fault_7 (by decide) (fun b => ?_) (fun b => ?_)
    · exact absurd b (by decide)
    refine X_aload_n dX12_fault_10 rfl ?_
    refine X_iload_n dX12_fault_11 rfl ?_
    refine X_iconst (v := nI 1) dX12_fault_12 (by decide) ?_
    refine X_icmp_ne (tgt := 20) dX12_fault_13 (by decide) (fun b2 => ?_) (fun b2 => ?_)
    · exact absurd rfl b2
    refine X_iconst (v := nI 1) dX12_fault_16 (by decide) ?_
    refine X_goto (tgt := 21) dX12_fault_17 (by decide) ?_
    refine X_cVi dX12_fault_21 ck_X12_169 rfl rfl (by first | assumption | rfl) (by first | assumption | exact Nat.le_of_ble_eq_true rfl | omega) (by omega) (Nat.le_of_ble_eq_true rfl) (m_faultOf (rule := true) (by omega) hi.1.1 hv.1 hi.1.2 (fun _ a _ ha I' f => ?_) (fun p q1 q2 q3 I' f => ?_))
    · rw [show flt true s = nI a from ha]
      refine X_goto (tgt := 29) dX12_fault_24 (by decide) ?_
      exact X_iret dX12_fault_29 rfl ⟨_, rfl, PM_FM hi f⟩
    · rw [show flt true s = -6 from q3]
      refine X_goto (tgt := 29) dX12_fault_24 (by decide) ?_
      exact X_iret dX12_fault_29 rfl ⟨_, rfl, PM_FM hi f⟩
  · have e : sp_fault s x = -2 := by unfold sp_fault; rw [if_neg h0, if_neg h1]
    rw [e]
    refine X_cSi dX12_fault_4 ck_X12_125 rfl rfl (by omega) (Nat.le_of_ble_eq_true rfl) (c_in_f (lo := nI 0) (hi := nI 1) (by decide) (by decide) (fun q => ?_) ?_)
    · rcases icase x 2 (by decide) with z | ⟨a, ha, rfl⟩ | z
      · exact le_0.mp q.1 z
      · rcases (by omega : a = 0 ∨ a = 1) with rfl | rfl
        · exact h0 rfl
        · exact h1 rfl
      · exact absurd (Int32.lt_of_le_of_lt q.2 (show nI 1 < nI 2 by decide)) (Int32.not_lt.mpr z.2)
    · refine X_if_eq (tgt := 27) dX12_fault_7 (by decide) (fun b => ?_) (fun b => ?_)
      · refine X_bipush (v := (-2)) dX12_fault_27 (by decide) ?_
        exact X_iret dX12_fault_29 rfl ⟨_, rfl, PM_same hi⟩
      · exact absurd rfl b
end RP
