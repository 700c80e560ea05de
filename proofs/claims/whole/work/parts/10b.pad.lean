/-! the class's pad -/
def PRm (I : Nat → Nat → Int32) (rule : Bool) (p : PT) : Prop := I 1 4 = nI rule.toNat ∧ I 1 5 = nI (pR p).toNat ∧ I 1 6 = nI (pu p) ∧ (2 ≤ pu p → I 1 7 = enc (pt p)) ∧ (pu p = 4 ∨ pu p = 5 → I 1 8 = enc (pa p)) ∧ (pu p = 5 → I 1 9 = enc (pf p)) ∧ CR I 3 (pL p).1 (pL p).2 ∧ CR I 5 (pG p).1 (pG p).2
def FP (I I' : Nat → Nat → Int32) : Prop := I' 1 3 = I 1 3 ∧ ∀ j, j ∉ [1, 3, 4, 5, 6] → I' j = I j
theorem FP.rf {I : Nat → Nat → Int32} : FP I I := ⟨rfl, fun _ _ => rfl⟩
theorem FP.tr {I I1 I2 : Nat → Nat → Int32} (h1 : FP I I1) (h2 : FP I1 I2) : FP I I2 := ⟨h2.1.trans h1.1, fun j hj => (h2.2 j hj).trans (h1.2 j hj)⟩
theorem FP.fd {I : Nat → Nat → Int32} {f : Nat} {x : Int32} (hf : f ≠ 3) : FP I (sr I 1 (up (I 1) f x)) := ⟨by rw [sr_eq, up_ne (fun e => hf e.symm)], fun j hj => sr_ne (fun e => hj (by rw [e]; simp))⟩
theorem enc_m6 {v : Nat} (hv : v < 200) : enc v = -6 ↔ v = 99 := by
  constructor
  · intro h
    by_cases h2 : v = 99
    · exact h2
    · rw [enc_n h2] at h
      exact absurd h (fun q => absurd (by rw [q]; decide : nI v < 0) (nneg (by omega)))
  · intro h; rw [h]; rfl
theorem opOf_lt (x : Int32) : opOf x < 200 := by
  rcases opOf_val x with h | h
  · unfold opd at h; omega
  · omega
section PA
variable {G : GG} {d : Nat} {sw : Bool} {I : Nat → Nat → Int32} {J : Nat → Nat → Int64}
set_option maxRecDepth 20000 in
theorem c_operandOf {Q : Int32 → Mm → Prop} {M : Mm} {x : Int32} (hQ : Q (enc (opOf x)) M) : Y G d zX7_operandOf [vi x] M 0 0 (qi Q) := by
  refine Y_of rfl rfl (Nat.le_of_ble_eq_true rfl) rfl ?_
  rcases opOf_cases x with ⟨a, h1, h2, rfl, h⟩ | ⟨a, h1, h2, rfl, h⟩ | ⟨h1, h2, h⟩
  · rw [h, enc_n (by omega)] at hQ
    refine X_iload_n dX7_operandOf_0 rfl ?_
    refine X_bipush (v := nI 97) dX7_operandOf_1 (by decide) ?_
    refine X_icmp_lt (tgt := 17) dX7_operandOf_3 (by decide) (fun h3 => ?_) (fun h3 => ?_)
    · exact absurd ((nlt (by omega) (by omega)).mp h3) (by omega)
    refine X_iload_n dX7_operandOf_6 rfl ?_
    refine X_bipush (v := nI 100) dX7_operandOf_7 (by decide) ?_
    refine X_icmp_gt (tgt := 17) dX7_operandOf_9 (by decide) (fun h9 => ?_) (fun h9 => ?_)
    · exact absurd ((nlt (by omega) (by omega)).mp h9) (by omega)
    refine X_iload_n dX7_operandOf_12 rfl ?_
    refine X_bipush (v := nI 97) dX7_operandOf_13 (by decide) ?_
    first | refine X_isubN dX7_operandOf_15 (by omega) ?_ | refine X_isub dX7_operandOf_15 ?_
    exact X_iret dX7_operandOf_16 rfl ⟨_, rfl, hQ⟩
  · rw [h, enc_n (by omega)] at hQ
    have tail : X G d zX7_operandOf 17 [(0, vi (nI a))] [] M 0 0 (qi Q) := by
      refine X_iload_n dX7_operandOf_17 rfl ?_
      refine X_bipush (v := nI 48) dX7_operandOf_18 (by decide) ?_
      refine X_icmp_lt (tgt := 37) dX7_operandOf_20 (by decide) (fun h20 => ?_) (fun h20 => ?_)
      · exact absurd ((nlt (by omega) (by omega)).mp h20) (by omega)
      refine X_iload_n dX7_operandOf_23 rfl ?_
      refine X_bipush (v := nI 55) dX7_operandOf_24 (by decide) ?_
      refine X_icmp_gt (tgt := 37) dX7_operandOf_26 (by decide) (fun h26 => ?_) (fun h26 => ?_)
      · exact absurd ((nlt (by omega) (by omega)).mp h26) (by omega)
      refine X_iload_n dX7_operandOf_29 rfl ?_
      refine X_bipush (v := nI 48) dX7_operandOf_30 (by decide) ?_
      first | refine X_isubN dX7_operandOf_32 (by omega) ?_ | refine X_isub dX7_operandOf_32 ?_
      refine X_bipush (v := nI 10) dX7_operandOf_33 (by decide) ?_
      first | refine X_iaddN dX7_operandOf_35 ?_ | refine X_iadd dX7_operandOf_35 ?_
      exact X_iret dX7_operandOf_36 rfl ⟨_, rfl, hQ⟩
    refine X_iload_n dX7_operandOf_0 rfl ?_
    refine X_bipush (v := nI 97) dX7_operandOf_1 (by decide) ?_
    refine X_icmp_lt (tgt := 17) dX7_operandOf_3 (by decide) (fun h3 => ?_) (fun h3 => ?_)
    · exact tail
    · exact absurd ((nlt (by omega) (by omega)).mpr (show a < 97 by omega)) h3
  · rw [h] at hQ
    have tail : X G d zX7_operandOf 17 [(0, vi x)] [] M 0 0 (qi Q) := by
      refine X_iload_n dX7_operandOf_17 rfl ?_
      refine X_bipush (v := nI 48) dX7_operandOf_18 (by decide) ?_
      refine X_icmp_lt (tgt := 37) dX7_operandOf_20 (by decide) (fun h20 => ?_) (fun h20 => ?_)
      · refine X_bipush (v := (-6)) dX7_operandOf_37 (by decide) ?_
        exact X_iret dX7_operandOf_39 rfl ⟨_, rfl, hQ⟩
      refine X_iload_n dX7_operandOf_23 rfl ?_
      refine X_bipush (v := nI 55) dX7_operandOf_24 (by decide) ?_
      refine X_icmp_gt (tgt := 37) dX7_operandOf_26 (by decide) (fun h26 => ?_) (fun h26 => ?_)
      · refine X_bipush (v := (-6)) dX7_operandOf_37 (by decide) ?_
        exact X_iret dX7_operandOf_39 rfl ⟨_, rfl, hQ⟩
      · exact absurd ⟨Int32.not_lt.mp h20, Int32.not_lt.mp h26⟩ h2
    refine X_iload_n dX7_operandOf_0 rfl ?_
    refine X_bipush (v := nI 97) dX7_operandOf_1 (by decide) ?_
    refine X_icmp_lt (tgt := 17) dX7_operandOf_3 (by decide) (fun h3 => ?_) (fun h3 => ?_)
    · exact tail
    refine X_iload_n dX7_operandOf_6 rfl ?_
    refine X_bipush (v := nI 100) dX7_operandOf_7 (by decide) ?_
    refine X_icmp_gt (tgt := 17) dX7_operandOf_9 (by decide) (fun h9 => ?_) (fun h9 => ?_)
    · exact tail
    · exact absurd ⟨Int32.not_lt.mp h3, Int32.not_lt.mp h9⟩ h1
set_option maxRecDepth 20000 in
theorem c_isAct {Q : Int32 → Mm → Prop} {M : Mm} {x : Int32} (hQ : Q (nI (isA x).toNat) M) : Y G d zX11_isAct [vi x] M 0 0 (qi Q) := by
  refine Y_of rfl rfl (Nat.le_of_ble_eq_true rfl) rfl ?_
  have t1 : isA x = true → X G d zX11_isAct 24 [(0, vi x)] [] M 0 0 (qi Q) := by
    intro h
    rw [h] at hQ
    refine X_iconst (v := nI 1) dX11_isAct_24 (by decide) ?_
    refine X_goto (tgt := 29) dX11_isAct_25 (by decide) ?_
    exact X_zret dX11_isAct_29 rfl (by first | rfl | (simp; done) | decide) ⟨_, rfl, hQ⟩
  refine X_iload_n dX11_isAct_0 rfl ?_
  refine X_bipush (v := nI 43) dX11_isAct_1 (by decide) ?_
  refine X_icmp_eq (tgt := 24) dX11_isAct_3 (by decide) (fun h3 => ?_) (fun h3 => ?_)
  · exact t1 (by subst h3; decide)
  refine X_iload_n dX11_isAct_6 rfl ?_
  refine X_bipush (v := nI 45) dX11_isAct_7 (by decide) ?_
  refine X_icmp_eq (tgt := 24) dX11_isAct_9 (by decide) (fun h9 => ?_) (fun h9 => ?_)
  · exact t1 (by subst h9; decide)
  refine X_iload_n dX11_isAct_12 rfl ?_
  refine X_bipush (v := nI 42) dX11_isAct_13 (by decide) ?_
  refine X_icmp_eq (tgt := 24) dX11_isAct_15 (by decide) (fun h15 => ?_) (fun h15 => ?_)
  · exact t1 (by subst h15; decide)
  refine X_iload_n dX11_isAct_18 rfl ?_
  refine X_bipush (v := nI 109) dX11_isAct_19 (by decide) ?_
  refine X_icmp_ne (tgt := 28) dX11_isAct_21 (by decide) (fun h21 => ?_) (fun h21 => ?_)
  · have h : isA x = false := by unfold isA; simp [h3, h9, h15, h21]
    rw [h] at hQ
    refine X_iconst (v := nI 0) dX11_isAct_28 (by decide) ?_
    exact X_zret dX11_isAct_29 rfl (by first | rfl | (simp; done) | decide) ⟨_, rfl, hQ⟩
  · exact t1 (by subst h21; decide)
theorem cd3 : IsCd 3 := ⟨rfl, rfl, fun _ => rfl, by decide⟩
theorem cd5 : IsCd 5 := ⟨rfl, rfl, fun _ => rfl, by decide⟩
set_option maxRecDepth 20000 in
set_option maxHeartbeats 4000000 in
theorem c_endsStep {Q : Int32 → Mm → Prop} {rule : Bool} {p : PT} {a x y : Nat} (hd : 3 ≤ d) (hp : PRm I rule p) (hw : PW rule p) (hu : pu p < 6) (h2 : 2 ≤ pu p) (ha : a < 200) (hx : x < 200) (hy : y < 200)
    (hN : tkE p a x y = none → Q (nI 0) (NC, I, J, layR sw)) (hS : ∀ p', tkE p a x y = some p' → ∀ I', PRm I' rule p' → FP I I' → Q (nI 1) (NC, I', J, layR sw)) : Y G d zX7_endsStep [vr 1, vi (enc a), vi (enc x), vi (enc y)] (NC, I, J, layR sw) 0 0 (qi Q) := by
  obtain ⟨m1, m2, m3, m4, m5, m6, m7, m8⟩ := hp
  have hlt := hw.2.2.2.2.2.1 hu
  have hml := mst_le rule
  have m4 := m4 h2
  unfold side at hlt
  refine Y_of rfl rfl (Nat.le_of_ble_eq_true rfl) rfl ?_
  have t0 : (x = 99 ∨ (a ≠ 99 ∧ y = 99)) → X G d zX7_endsStep 18 [(0, vr 1), (1, vi (enc a)), (2, vi (enc x)), (3, vi (enc y))] [] (NC, I, J, layR sw) 0 0 (qi Q) := by
    intro h
    refine X_iconst (v := nI 0) dX7_endsStep_18 (by decide) ?_
    exact X_zret dX7_endsStep_19 rfl (by first | rfl | (simp; done) | decide) ⟨_, rfl, hN (by unfold tkE; rw [if_pos h])⟩
  have t1 : ¬ (x = 99 ∨ (a ≠ 99 ∧ y = 99)) → X G d zX7_endsStep 20 [(0, vr 1), (1, vi (enc a)), (2, vi (enc x)), (3, vi (enc y))] [] (NC, I, J, layR sw) 0 0 (qi Q) := by
    intro h
    refine X_aload_n dX7_endsStep_20 rfl ?_
    refine X_getI dX7_endsStep_21 gf_X7_34 (by first | assumption | rfl) (by first | assumption | exact Nat.le_of_ble_eq_true rfl | omega) rfl ?_
    rw [m2]
    by_cases hR : pR p = true
    · rw [if_pos hR] at hlt
      rw [hR]
      refine X_if_eq (tgt := 34) dX7_endsStep_24 (by decide) (fun h24 => ?_) (fun h24 => ?_)
      · exact absurd h24 (by decide)
      refine X_aload_n dX7_endsStep_27 rfl ?_
      refine X_getR dX7_endsStep_28 gf_X7_22 (by first | assumption | rfl) (by first | assumption | exact Nat.le_of_ble_eq_true rfl | omega) rfl (by first | assumption | rfl) ?_
      refine X_goto (tgt := 38) dX7_endsStep_31 (by decide) ?_
      refine X_astore dX7_endsStep_38 rfl rfl ?_
      refine X_aload dX7_endsStep_40 rfl ?_
      refine X_aload_n dX7_endsStep_42 rfl ?_
      refine X_getI dX7_endsStep_43 gf_X7_48 (by first | assumption | rfl) (by first | assumption | exact Nat.le_of_ble_eq_true rfl | omega) rfl ?_
      rw [m4]
      refine X_iload_n dX7_endsStep_46 rfl ?_
      refine X_iload_n dX7_endsStep_47 rfl ?_
      refine X_iload_n dX7_endsStep_48 rfl ?_
      refine X_cVv dX7_endsStep_49 ck_X7_73 rfl rfl (by first | assumption | rfl) (by first | assumption | exact Nat.le_of_ble_eq_true rfl | omega) (by omega) (Nat.le_of_ble_eq_true rfl) (c_add (s := st4 (pt p) a x y) (by omega) cd5 m8 (by omega) (fun I1 c1 f1 => ?_))
      refine X_aload_n dX7_endsStep_52 rfl ?_
      refine X_bipush (v := nI 6) dX7_endsStep_53 (by decide) ?_
      refine X_putI dX7_endsStep_55 gf_X7_37 (Or.inl rfl) (by first | assumption | rfl) (by first | assumption | exact Nat.le_of_ble_eq_true rfl | omega) rfl ?_
      refine X_iconst (v := nI 1) dX7_endsStep_58 (by decide) ?_
      refine X_zret dX7_endsStep_59 rfl (by decide) ⟨_, rfl, hS _ (by unfold tkE; rw [if_neg h, if_pos hR]) _ ⟨?_, ?_, ?_, fun _ => ?_, fun q => absurd q (by simp [pu]), fun q => absurd q (by simp [pu]), ?_, ?_⟩ ?_⟩
      · rw [sr_eq, up_ne (by decide), f1 1 (by decide)]; exact m1
      · rw [sr_eq, up_ne (by decide), f1 1 (by decide), m2, hR]
      · rw [sr_eq, up_eq]
      · rw [sr_eq, up_ne (by decide), f1 1 (by decide)]; exact m4
      · exact m7.fr (by rw [sr_ne (by decide), f1 3 (by decide)]) (by rw [sr_ne (by decide), f1 4 (by decide)])
      · exact c1.fr (by rw [sr_ne (by decide)]) (by rw [sr_ne (by decide)])
      · exact ⟨by rw [sr_eq, up_ne (by decide), f1 1 (by decide)], fun j hj => by rw [sr_ne (by simp at hj; omega), f1 j (by simp at hj ⊢; omega)]⟩
    · rw [if_neg hR] at hlt
      have hR2 : pR p = false := by cases hq : pR p <;> simp_all
      rw [hR2]
      refine X_if_eq (tgt := 34) dX7_endsStep_24 (by decide) (fun h24 => ?_) (fun h24 => ?_)
      · refine X_aload_n dX7_endsStep_34 rfl ?_
        refine X_getR dX7_endsStep_35 gf_X7_18 (by first | assumption | rfl) (by first | assumption | exact Nat.le_of_ble_eq_true rfl | omega) rfl (by first | assumption | rfl) ?_
        refine X_astore dX7_endsStep_38 rfl rfl ?_
        refine X_aload dX7_endsStep_40 rfl ?_
        refine X_aload_n dX7_endsStep_42 rfl ?_
        refine X_getI dX7_endsStep_43 gf_X7_48 (by first | assumption | rfl) (by first | assumption | exact Nat.le_of_ble_eq_true rfl | omega) rfl ?_
        rw [m4]
        refine X_iload_n dX7_endsStep_46 rfl ?_
        refine X_iload_n dX7_endsStep_47 rfl ?_
        refine X_iload_n dX7_endsStep_48 rfl ?_
        refine X_cVv dX7_endsStep_49 ck_X7_73 rfl rfl (by first | assumption | rfl) (by first | assumption | exact Nat.le_of_ble_eq_true rfl | omega) (by omega) (Nat.le_of_ble_eq_true rfl) (c_add (s := st4 (pt p) a x y) (by omega) cd3 m7 (by omega) (fun I1 c1 f1 => ?_))
        refine X_aload_n dX7_endsStep_52 rfl ?_
        refine X_bipush (v := nI 6) dX7_endsStep_53 (by decide) ?_
        refine X_putI dX7_endsStep_55 gf_X7_37 (Or.inl rfl) (by first | assumption | rfl) (by first | assumption | exact Nat.le_of_ble_eq_true rfl | omega) rfl ?_
        refine X_iconst (v := nI 1) dX7_endsStep_58 (by decide) ?_
        refine X_zret dX7_endsStep_59 rfl (by decide) ⟨_, rfl, hS _ (by unfold tkE; rw [if_neg h, if_neg hR]) _ ⟨?_, ?_, ?_, fun _ => ?_, fun q => absurd q (by simp [pu]), fun q => absurd q (by simp [pu]), ?_, ?_⟩ ?_⟩
        · rw [sr_eq, up_ne (by decide), f1 1 (by decide)]; exact m1
        · rw [sr_eq, up_ne (by decide), f1 1 (by decide), m2, hR2]
        · rw [sr_eq, up_eq]
        · rw [sr_eq, up_ne (by decide), f1 1 (by decide)]; exact m4
        · exact c1.fr (by rw [sr_ne (by decide)]) (by rw [sr_ne (by decide)])
        · exact m8.fr (by rw [sr_ne (by decide), f1 5 (by decide)]) (by rw [sr_ne (by decide), f1 6 (by decide)])
        · exact ⟨by rw [sr_eq, up_ne (by decide), f1 1 (by decide)], fun j hj => by rw [sr_ne (by simp at hj; omega), f1 j (by simp at hj ⊢; omega)]⟩
      · exact absurd rfl h24
  refine X_iload_n dX7_endsStep_0 rfl ?_
  refine X_bipush (v := (-6)) dX7_endsStep_1 (by decide) ?_
  refine X_icmp_eq (tgt := 18) dX7_endsStep_3 (by decide) (fun h3 => ?_) (fun h3 => ?_)
  · exact t0 (Or.inl ((enc_m6 hx).mp h3))
  have hx9 : x ≠ 99 := fun q => h3 ((enc_m6 hx).mpr q)
  refine X_iload_n dX7_endsStep_6 rfl ?_
  refine X_bipush (v := (-6)) dX7_endsStep_7 (by decide) ?_
  refine X_icmp_eq (tgt := 20) dX7_endsStep_9 (by decide) (fun h9 => ?_) (fun h9 => ?_)
  · exact t1 (fun q => q.elim hx9 (fun q => q.1 ((enc_m6 ha).mp h9)))
  refine X_iload_n dX7_endsStep_12 rfl ?_
  refine X_bipush (v := (-6)) dX7_endsStep_13 (by decide) ?_
  refine X_icmp_ne (tgt := 20) dX7_endsStep_15 (by decide) (fun h15 => ?_) (fun h15 => ?_)
  · exact t1 (fun q => q.elim hx9 (fun q => h15 ((enc_m6 hy).mpr q.2)))
  · exact t0 (Or.inr ⟨fun q => h9 ((enc_m6 ha).mpr q), (enc_m6 hy).mp h15⟩)
set_option maxRecDepth 20000 in
set_option maxHeartbeats 4000000 in
theorem c_takesMaking {Q : Int32 → Mm → Prop} {rule : Bool} {p : PT} {x : Int32} (hd : 4 ≤ d) (hp : PRm I rule p) (hw : PW rule p) (hu : pu p = 3)
    (hN : tk rule p x = none → Q (nI 0) (NC, I, J, layR sw)) (hS : ∀ p', tk rule p x = some p' → ∀ I', PRm I' rule p' → FP I I' → Q (nI 1) (NC, I', J, layR sw)) : Y G d zX7_takesMaking [vr 1, vi x] (NC, I, J, layR sw) 0 0 (qi Q) := by
  have htk : tk rule p x = if isA x = true then some (4, pR p, pL p, pG p, pt p, x.toNatClampNeg, pf p) else tkE p 99 (opOf x) 99 := by
    unfold tk
    rw [if_neg (by omega), if_neg (by omega), if_pos hu]
  refine Y_of rfl rfl (Nat.le_of_ble_eq_true rfl) rfl ?_
  refine X_iload_n dX7_takesMaking_0 rfl ?_
  refine X_cSi dX7_takesMaking_1 ck_X7_70 rfl rfl (by omega) (Nat.le_of_ble_eq_true rfl) (c_isAct ?_)
  rcases isA_cases x with ⟨hA, a, ha, rfl⟩ | ⟨hA, _⟩
  · have ha2 : a < 200 ∧ a ≠ 99 := by unfold iact at ha; omega
    rw [hA, if_pos rfl, nI_clamp (by omega)] at htk
    obtain ⟨m1, m2, m3, m4, m5, m6, m7, m8⟩ := hp
    rw [hA]
    refine X_if_eq (tgt := 19) dX7_takesMaking_4 (by decide) (fun h4 => ?_) (fun h4 => ?_)
    · exact absurd h4 (by decide)
    refine X_aload_n dX7_takesMaking_7 rfl ?_
    refine X_iload_n dX7_takesMaking_8 rfl ?_
    refine X_putI dX7_takesMaking_9 gf_X7_60 (Or.inl rfl) (by first | assumption | rfl) (by first | assumption | exact Nat.le_of_ble_eq_true rfl | omega) rfl ?_
    refine X_aload_n dX7_takesMaking_12 rfl ?_
    refine X_iconst (v := nI 4) dX7_takesMaking_13 (by decide) ?_
    refine X_putI dX7_takesMaking_14 gf_X7_37 (Or.inl rfl) (by first | assumption | rfl) (by first | assumption | exact Nat.le_of_ble_eq_true rfl | omega) rfl ?_
    refine X_iconst (v := nI 1) dX7_takesMaking_17 (by decide) ?_
    rw [sr_eq, sr_sr]
    refine X_zret dX7_takesMaking_18 rfl (by decide) ⟨_, rfl, hS _ htk _ ⟨?_, ?_, ?_, fun _ => ?_, fun _ => ?_, fun q => absurd q (by simp [pu]), ?_, ?_⟩ ⟨by rw [sr_eq, up_ne (by decide), up_ne (by decide)], fun j hj => by rw [sr_ne (by simp at hj; omega)]⟩⟩
    · rw [sr_eq, up_ne (by decide), up_ne (by decide)]; exact m1
    · rw [sr_eq, up_ne (by decide), up_ne (by decide)]; exact m2
    · rw [sr_eq, up_eq]
    · rw [sr_eq, up_ne (by decide), up_ne (by decide)]; exact m4 (by omega)
    · rw [sr_eq, up_ne (by decide), up_eq]; exact (enc_n ha2.2).symm
    · exact m7.fr (by rw [sr_ne (by decide)]) (by rw [sr_ne (by decide)])
    · exact m8.fr (by rw [sr_ne (by decide)]) (by rw [sr_ne (by decide)])
  · rw [hA, if_neg (by decide)] at htk
    rw [hA]
    refine X_if_eq (tgt := 19) dX7_takesMaking_4 (by decide) (fun h4 => ?_) (fun h4 => ?_)
    · refine X_aload_n dX7_takesMaking_19 rfl ?_
      refine X_bipush (v := (-6)) dX7_takesMaking_20 (by decide) ?_
      refine X_iload_n dX7_takesMaking_22 rfl ?_
      refine X_cSi dX7_takesMaking_23 ck_X7_44 rfl rfl (by omega) (Nat.le_of_ble_eq_true rfl) (c_operandOf ?_)
      refine X_bipush (v := (-6)) dX7_takesMaking_26 (by decide) ?_
      refine X_cVi dX7_takesMaking_28 ck_X7_63 rfl rfl (by first | assumption | rfl) (by first | assumption | exact Nat.le_of_ble_eq_true rfl | omega) (by omega) (Nat.le_of_ble_eq_true rfl) (c_endsStep (a := 99) (x := opOf x) (y := 99) (by omega) hp hw (by omega) (by omega) (by decide) (opOf_lt x) (by decide) (fun q => ?_) (fun p' q I' c1 c2 => ?_))
      · exact X_zret dX7_takesMaking_31 rfl (by first | rfl | (simp; done) | decide) ⟨_, rfl, hN (htk.trans q)⟩
      · exact X_zret dX7_takesMaking_31 rfl (by first | rfl | (simp; done) | decide) ⟨_, rfl, hS p' (htk.trans q) I' c1 c2⟩
    · exact absurd rfl h4
set_option maxRecDepth 20000 in
set_option maxHeartbeats 4000000 in
theorem c_takesMore {Q : Int32 → Mm → Prop} {rule : Bool} {p : PT} {x : Int32} (hp : PRm I rule p) (hw : PW rule p) (hu : pu p = 6)
    (hN : tk rule p x = none → Q (nI 0) (NC, I, J, layR sw)) (hS : ∀ p', tk rule p x = some p' → ∀ I', PRm I' rule p' → FP I I' → Q (nI 1) (NC, I', J, layR sw)) : Y G d zX7_takesMore [vr 1, vi x] (NC, I, J, layR sw) 0 0 (qi Q) := by
  obtain ⟨m1, m2, m3, m4, m5, m6, m7, m8⟩ := hp
  have htk : tk rule p x = if x = nI 59 ∧ (side p).1 < (if rule = true then 3 else 12) then some (0, p.2) else if x = nI 62 ∧ rule = true ∧ pR p = false then some (1, true, p.2.2) else none := by
    unfold tk
    rw [if_neg (by omega), if_neg (by omega), if_neg (by omega), if_neg (by omega), if_neg (by omega)]
  refine Y_of rfl rfl (Nat.le_of_ble_eq_true rfl) rfl ?_
  have tail : ∀ k, (k = 5 ∧ pR p = true ∨ k = 3 ∧ pR p = false) → X G d zX7_takesMore 33 [(0, vr 1), (1, vi x), (2, vi (nI (if rule = true then 3 else 12))), (3, vr k)] [] (NC, I, J, layR sw) 0 0 (qi Q) := by
    intro k hk
    have hs : sh k = (1, 2) := by rcases hk with ⟨rfl, _⟩ | ⟨rfl, _⟩ <;> rfl
    have hkN : k < NC := by rcases hk with ⟨rfl, _⟩ | ⟨rfl, _⟩ <;> decide
    have hsd : I k 1 = nI (side p).1 := by
      unfold side
      rcases hk with ⟨rfl, h⟩ | ⟨rfl, h⟩
      · rw [if_pos h]; exact m8.1
      · rw [if_neg (by rw [h]; decide)]; exact m7.1
    have hsl : (side p).1 ≤ 12 := by
      unfold side
      split
      · exact hw.2.2.1.1
      · exact hw.2.1.1
    have h3or : (if rule = true then 3 else 12) ≤ 12 := by split <;> decide
    have t54 : ¬ (x = nI 59 ∧ (side p).1 < (if rule = true then 3 else 12)) → X G d zX7_takesMore 54 [(0, vr 1), (1, vi x), (2, vi (nI (if rule = true then 3 else 12))), (3, vr k)] [] (NC, I, J, layR sw) 0 0 (qi Q) := by
      intro h
      rw [if_neg h] at htk
      have t86 : ¬ (x = nI 62 ∧ rule = true ∧ pR p = false) → X G d zX7_takesMore 86 [(0, vr 1), (1, vi x), (2, vi (nI (if rule = true then 3 else 12))), (3, vr k)] [] (NC, I, J, layR sw) 0 0 (qi Q) := by
        intro h2
        rw [if_neg h2] at htk
        refine X_iconst (v := nI 0) dX7_takesMore_86 (by decide) ?_
        exact X_zret dX7_takesMore_87 rfl (by first | rfl | (simp; done) | decide) ⟨_, rfl, hN htk⟩
      refine X_iload_n dX7_takesMore_54 rfl ?_
      refine X_bipush (v := nI 62) dX7_takesMore_55 (by decide) ?_
      refine X_icmp_ne (tgt := 86) dX7_takesMore_57 (by decide) (fun h57 => ?_) (fun h57 => ?_)
      · exact t86 (fun q => h57 q.1)
      refine X_aload_n dX7_takesMore_60 rfl ?_
      refine X_getI dX7_takesMore_61 gf_X7_30 (by first | assumption | rfl) (by first | assumption | exact Nat.le_of_ble_eq_true rfl | omega) rfl ?_
      rw [m1]
      cases hr : rule with
      | false =>
        refine X_if_eq (tgt := 86) dX7_takesMore_64 (by decide) (fun h64 => ?_) (fun h64 => ?_)
        · have := t86 (fun q => by rw [hr] at q; exact absurd q.2.1 (by decide))
          rw [hr] at this
          exact this
        · exact absurd rfl h64
      | true =>
        refine X_if_eq (tgt := 86) dX7_takesMore_64 (by decide) (fun h64 => ?_) (fun h64 => ?_)
        · exact absurd h64 (by decide)
        refine X_aload_n dX7_takesMore_67 rfl ?_
        refine X_getI dX7_takesMore_68 gf_X7_34 (by first | assumption | rfl) (by first | assumption | exact Nat.le_of_ble_eq_true rfl | omega) rfl ?_
        rw [m2]
        cases hR : pR p with
        | true =>
          refine X_if_ne (tgt := 86) dX7_takesMore_71 (by decide) (fun h71 => ?_) (fun h71 => ?_)
          · have := t86 (fun q => by rw [hR] at q; exact absurd q.2.2 (by decide))
            rw [hr] at this
            exact this
          · exact absurd h71 (by decide)
        | false =>
          refine X_if_ne (tgt := 86) dX7_takesMore_71 (by decide) (fun h71 => ?_) (fun h71 => ?_)
          · exact absurd rfl h71
          refine X_aload_n dX7_takesMore_74 rfl ?_
          refine X_iconst (v := nI 1) dX7_takesMore_75 (by decide) ?_
          refine X_putZ dX7_takesMore_76 gf_X7_34 (Or.inl rfl) (by first | assumption | rfl) (by first | assumption | exact Nat.le_of_ble_eq_true rfl | omega) rfl (by first | exact Or.inl rfl | exact Or.inr rfl | assumption | decide) ?_
          refine X_aload_n dX7_takesMore_79 rfl ?_
          refine X_iconst (v := nI 1) dX7_takesMore_80 (by decide) ?_
          refine X_putI dX7_takesMore_81 gf_X7_37 (Or.inl rfl) (by first | assumption | rfl) (by first | assumption | exact Nat.le_of_ble_eq_true rfl | omega) rfl ?_
          refine X_iconst (v := nI 1) dX7_takesMore_84 (by decide) ?_
          rw [sr_eq, sr_sr]
          rw [if_pos ⟨h57, hr, hR⟩] at htk
          subst hr
          refine X_zret dX7_takesMore_85 rfl (by decide) ⟨_, rfl, hS _ htk _ ⟨?_, ?_, ?_, fun q => absurd q (by simp [pu]), fun q => absurd q (by simp [pu]), fun q => absurd q (by simp [pu]), ?_, ?_⟩ ⟨by rw [sr_eq, up_ne (by decide), up_ne (by decide)], fun j hj => by rw [sr_ne (by simp at hj; omega)]⟩⟩
          · rw [sr_eq, up_ne (by decide), up_ne (by decide)]; exact m1
          · rw [sr_eq, up_ne (by decide), up_eq]; rfl
          · rw [sr_eq, up_eq]
          · exact m7.fr (by rw [sr_ne (by decide)]) (by rw [sr_ne (by decide)])
          · exact m8.fr (by rw [sr_ne (by decide)]) (by rw [sr_ne (by decide)])
    refine X_iload_n dX7_takesMore_33 rfl ?_
    refine X_bipush (v := nI 59) dX7_takesMore_34 (by decide) ?_
    refine X_icmp_ne (tgt := 54) dX7_takesMore_36 (by decide) (fun h36 => ?_) (fun h36 => ?_)
    · exact t54 (fun q => h36 q.1)
    refine X_aload_n dX7_takesMore_39 rfl ?_
    refine X_getI dX7_takesMore_40 gf_X7_29 (by first | assumption | rfl) (by first | assumption | exact Nat.le_of_ble_eq_true rfl | omega) rfl ?_
    rw [hsd]
    refine X_iload_n dX7_takesMore_43 rfl ?_
    refine X_icmp_ge (tgt := 54) dX7_takesMore_44 (by decide) (fun h44 => ?_) (fun h44 => ?_)
    · exact t54 (fun q => absurd ((nle (by omega) (by omega)).mp h44) (by omega))
    have h44 : (side p).1 < (if rule = true then 3 else 12) := by
      rcases Nat.lt_or_ge (side p).1 (if rule = true then 3 else 12) with q | q
      · exact q
      · exact absurd ((nle (by omega) (by omega)).mpr q) h44
    refine X_aload_n dX7_takesMore_47 rfl ?_
    refine X_iconst (v := nI 0) dX7_takesMore_48 (by decide) ?_
    refine X_putI dX7_takesMore_49 gf_X7_37 (Or.inl rfl) (by first | assumption | rfl) (by first | assumption | exact Nat.le_of_ble_eq_true rfl | omega) rfl ?_
    refine X_iconst (v := nI 1) dX7_takesMore_52 (by decide) ?_
    rw [if_pos ⟨h36, h44⟩] at htk
    refine X_zret dX7_takesMore_53 rfl (by decide) ⟨_, rfl, hS _ htk _ ⟨?_, ?_, ?_, fun q => absurd q (by simp [pu]), fun q => absurd q (by simp [pu]), fun q => absurd q (by simp [pu]), ?_, ?_⟩ (FP.fd (by decide))⟩
    · rw [sr_eq, up_ne (by decide)]; exact m1
    · rw [sr_eq, up_ne (by decide)]; exact m2
    · rw [sr_eq, up_eq]
    · exact m7.fr (by rw [sr_ne (by decide)]) (by rw [sr_ne (by decide)])
    · exact m8.fr (by rw [sr_ne (by decide)]) (by rw [sr_ne (by decide)])
  have tail2 : X G d zX7_takesMore 14 [(0, vr 1), (1, vi x), (2, vi (nI (if rule = true then 3 else 12)))] [] (NC, I, J, layR sw) 0 0 (qi Q) := by
    refine X_aload_n dX7_takesMore_14 rfl ?_
    refine X_getI dX7_takesMore_15 gf_X7_34 (by first | assumption | rfl) (by first | assumption | exact Nat.le_of_ble_eq_true rfl | omega) rfl ?_
    rw [m2]
    cases hR : pR p with
    | true =>
      refine X_if_eq (tgt := 28) dX7_takesMore_18 (by decide) (fun h18 => ?_) (fun h18 => ?_)
      · exact absurd h18 (by decide)
      refine X_aload_n dX7_takesMore_21 rfl ?_
      refine X_getR dX7_takesMore_22 gf_X7_22 (by first | assumption | rfl) (by first | assumption | exact Nat.le_of_ble_eq_true rfl | omega) rfl (by first | assumption | rfl) ?_
      refine X_goto (tgt := 32) dX7_takesMore_25 (by decide) ?_
      refine X_astore_n dX7_takesMore_32 rfl rfl ?_
      exact tail 5 (Or.inl ⟨rfl, hR⟩)
    | false =>
      refine X_if_eq (tgt := 28) dX7_takesMore_18 (by decide) (fun h18 => ?_) (fun h18 => ?_)
      · refine X_aload_n dX7_takesMore_28 rfl ?_
        refine X_getR dX7_takesMore_29 gf_X7_18 (by first | assumption | rfl) (by first | assumption | exact Nat.le_of_ble_eq_true rfl | omega) rfl (by first | assumption | rfl) ?_
        refine X_astore_n dX7_takesMore_32 rfl rfl ?_
        exact tail 3 (Or.inr ⟨rfl, hR⟩)
      · exact absurd rfl h18
  refine X_aload_n dX7_takesMore_0 rfl ?_
  refine X_getI dX7_takesMore_1 gf_X7_30 (by first | assumption | rfl) (by first | assumption | exact Nat.le_of_ble_eq_true rfl | omega) rfl ?_
  rw [m1]
  cases rule with
  | true =>
    refine X_if_eq (tgt := 11) dX7_takesMore_4 (by decide) (fun h4 => ?_) (fun h4 => ?_)
    · exact absurd h4 (by decide)
    refine X_iconst (v := nI 3) dX7_takesMore_7 (by decide) ?_
    refine X_goto (tgt := 13) dX7_takesMore_8 (by decide) ?_
    refine X_istore_n dX7_takesMore_13 rfl rfl ?_
    exact tail2
  | false =>
    refine X_if_eq (tgt := 11) dX7_takesMore_4 (by decide) (fun h4 => ?_) (fun h4 => ?_)
    · refine X_bipush (v := nI 12) dX7_takesMore_11 (by decide) ?_
      refine X_istore_n dX7_takesMore_13 rfl rfl ?_
      exact tail2
    · exact absurd rfl h4
end PA
