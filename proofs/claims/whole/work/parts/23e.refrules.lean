/-! rules: the reference -/
def RNm (I : Nat → Nat → Int32) (N : Nat → Nat) : Prop := ∀ q, q < 4 → I 200 q = enc (N q)
def RRu (I : Nat → Nat → Int32) (a : Nat) (R : CC × CC) : Prop := I 198 a = nI R.1.1 ∧ I 199 a = nI R.2.1 ∧ (∀ i, i < R.1.1 → ∀ w, w < 4 → I 197 (24 * a + 12 * 0 + 4 * i + w) = enc (R.1.2 i w)) ∧ ∀ i, i < R.2.1 → ∀ w, w < 4 → I 197 (24 * a + 12 * 1 + 4 * i + w) = enc (R.2.2 i w)
def ckN (N : Nat → Nat) (v : Nat) : Nat → Bool
  | 0 => false
  | k + 1 => ckN N v k || decide (N k = v)
theorem ckN_4 {N : Nat → Nat} {v : Nat} : ckN N v 4 = tkn N v := by
  apply Bool.eq_iff_iff.mpr
  unfold tkn
  show ((((false || decide (N 0 = v)) || decide (N 1 = v)) || decide (N 2 = v)) || decide (N 3 = v)) = true ↔ _
  rw [Bool.false_or, Bool.or_eq_true, Bool.or_eq_true, Bool.or_eq_true, decide_eq_true_iff, decide_eq_true_iff, decide_eq_true_iff, decide_eq_true_iff, decide_eq_true_iff]
  constructor
  · rintro (((h | h) | h) | h)
    · exact Or.inl h
    · exact Or.inr (Or.inl h)
    · exact Or.inr (Or.inr (Or.inl h))
    · exact Or.inr (Or.inr (Or.inr h))
  · rintro (h | h | h | h)
    · exact Or.inl (Or.inl (Or.inl h))
    · exact Or.inl (Or.inl (Or.inr h))
    · exact Or.inl (Or.inr h)
    · exact Or.inr h
theorem RRu_fm {I I' : Nat → Nat → Int32} {l fl : List Nat} {a : Nat} {R : CC × CC} (h : RRu I a R) (hf : FrM l fl I I') (hl : 197 ∉ l ∧ 198 ∉ l ∧ 199 ∉ l) : RRu I' a R := by
  unfold RRu
  rw [hf.1 197 (by decide) hl.1, hf.1 198 (by decide) hl.2.1, hf.1 199 (by decide) hl.2.2]
  exact h
section RG
variable {G : GG} {d : Nat} {sw : Bool} {I : Nat → Nat → Int32} {J : Nat → Nat → Int64} {s : SS} {n : Nat} {c : Nat → Nat → Nat}
set_option maxRecDepth 20000 in
theorem m_isCalled {Q : Int32 → Mm → Prop} {v : Nat} {N : Nat → Nat} (hv : v < 4) (hN : RNm I N) (hNV : NV N) (hQ : Q (nI (if tkn N v = true then 1 else 0)) (NC, I, J, layR sw)) : Y G d zX12_isCalled [vr 170, vi (nI v)] (NC, I, J, layR sw) 0 0 (qi Q) := by
  have loop : ∀ (m k : Nat), m = 4 - k → k ≤ 4 → X G d zX12_isCalled 4 [(0, vr 170), (1, vi (nI v)), (2, vi (nI (if ckN N v k = true then 1 else 0))), (3, vi (nI k))] [] (NC, I, J, layR sw) 0 0 (qi Q) := by
    intro m
    induction m with
    | zero =>
      intro k hm hk
      obtain rfl : k = 4 := by omega
      refine X_iload_n dX12_isCalled_4 rfl ?_
      refine X_iconst (v := nI 4) dX12_isCalled_5 (by decide) ?_
      refine X_icmp_ge (tgt := 35) dX12_isCalled_6 (by decide) (fun b => ?_) (fun b => ?_)
      · refine X_iload_n dX12_isCalled_35 rfl ?_
        rw [ckN_4]
        by_cases h : tkn N v = true
        · rw [if_pos h] at hQ ⊢
          exact X_zret dX12_isCalled_36 rfl (by first | rfl | (simp; done) | decide) ⟨_, rfl, hQ⟩
        · rw [if_neg h] at hQ ⊢
          exact X_zret dX12_isCalled_36 rfl (by first | rfl | (simp; done) | decide) ⟨_, rfl, hQ⟩
      · exact absurd (by decide) b
    | succ m ih =>
      intro k hm hk
      have ih := ih (k + 1) (by omega) (by omega)
      rw [show ckN N v (k + 1) = (ckN N v k || decide (N k = v)) from rfl] at ih
      have hnk := hNV k (by omega)
      refine X_iload_n dX12_isCalled_4 rfl ?_
      refine X_iconst (v := nI 4) dX12_isCalled_5 (by decide) ?_
      refine X_icmp_ge (tgt := 35) dX12_isCalled_6 (by decide) (fun b => ?_) (fun b => ?_)
      · exact absurd ((nle (by omega) (by omega)).mp b) (by omega)
      refine X_iload_n dX12_isCalled_9 rfl ?_
      by_cases h : ckN N v k = true
      · rw [if_pos h]
        rw [h, Bool.true_or, if_pos rfl] at ih
        refine X_if_ne (tgt := 23) dX12_isCalled_10 (by decide) (fun b10 => ?_) (fun b10 => ?_)
        · refine X_iconst (v := nI 1) dX12_isCalled_23 (by decide) ?_
          refine X_goto (tgt := 28) dX12_isCalled_24 (by decide) ?_
          refine X_istore_n dX12_isCalled_28 rfl rfl ?_
          first | refine X_iinc1 dX12_isCalled_29 rfl rfl rfl ?_ | refine X_iinc dX12_isCalled_29 rfl rfl rfl rfl ?_
          refine X_goto (tgt := 4) dX12_isCalled_32 (by decide) ?_
          exact ih
        · exact absurd b10 (by decide)
      · rw [if_neg h]
        rw [show ckN N v k = false by simpa using h, Bool.false_or] at ih
        refine X_if_ne (tgt := 23) dX12_isCalled_10 (by decide) (fun b10 => ?_) (fun b10 => ?_)
        · exact absurd rfl b10
        refine X_aload_n dX12_isCalled_13 rfl ?_
        refine X_getR dX12_isCalled_14 gf_X12_98 (by first | assumption | rfl) (by first | assumption | exact Nat.le_of_ble_eq_true rfl | omega) rfl (by first | assumption | rfl) ?_
        refine X_iload_n dX12_isCalled_17 rfl ?_
        first | refine X_iald dX12_isCalled_18 (by first | assumption | rfl) (by first | assumption | exact Nat.le_of_ble_eq_true rfl | omega) rfl (by first | decide | omega) (by decide) ?_ | refine X_ildA dX12_isCalled_18 rfl (by omega) ?_ | refine X_ildM dX12_isCalled_18 rfl (by omega) ?_ | refine X_sld dX12_isCalled_18 rfl (by omega) (by omega) ?_
        rw [hN k (by omega), ← enc_n (v := v) (by omega)]
        refine X_iload_n dX12_isCalled_19 rfl ?_
        have ei := enc_inj (a := N k) (b := v) (by omega) (by omega)
        by_cases q : N k = v
        · rw [decide_eq_true q, if_pos rfl] at ih
          refine X_icmp_ne (tgt := 27) dX12_isCalled_20 (by decide) (fun b20 => ?_) (fun b20 => ?_)
          · exact absurd (ei.mpr q) b20
          refine X_iconst (v := nI 1) dX12_isCalled_23 (by decide) ?_
          refine X_goto (tgt := 28) dX12_isCalled_24 (by decide) ?_
          refine X_istore_n dX12_isCalled_28 rfl rfl ?_
          first | refine X_iinc1 dX12_isCalled_29 rfl rfl rfl ?_ | refine X_iinc dX12_isCalled_29 rfl rfl rfl rfl ?_
          refine X_goto (tgt := 4) dX12_isCalled_32 (by decide) ?_
          rw [enc_n (v := v) (by omega)]
          exact ih
        · rw [decide_eq_false q, if_neg (by decide)] at ih
          refine X_icmp_ne (tgt := 27) dX12_isCalled_20 (by decide) (fun b20 => ?_) (fun b20 => ?_)
          · refine X_iconst (v := nI 0) dX12_isCalled_27 (by decide) ?_
            refine X_istore_n dX12_isCalled_28 rfl rfl ?_
            first | refine X_iinc1 dX12_isCalled_29 rfl rfl rfl ?_ | refine X_iinc dX12_isCalled_29 rfl rfl rfl rfl ?_
            refine X_goto (tgt := 4) dX12_isCalled_32 (by decide) ?_
            rw [enc_n (v := v) (by omega)]
            exact ih
          · exact absurd (ei.mp b20) q
  refine Y_of rfl rfl (Nat.le_of_ble_eq_true rfl) rfl ?_
  refine X_iconst (v := nI 0) dX12_isCalled_0 (by decide) ?_
  refine X_istore_n dX12_isCalled_1 rfl rfl ?_
  refine X_iconst (v := nI 0) dX12_isCalled_2 (by decide) ?_
  refine X_istore_n dX12_isCalled_3 rfl rfl ?_
  exact loop 4 0 rfl (Nat.zero_le _)
set_option maxRecDepth 20000 in
theorem m_isNamed {Q : Int32 → Mm → Prop} {m v : Nat} {N : Nat → Nat} (hd : 2 ≤ d) (hN : RNm I N) (hNV : NV N) (hm : opd m ∨ m = 99) (hv : opd v ∨ v = 99) (hS : ∀ I' N', nm1 N m v = some N' → FrM [200] [] I I' → RNm I' N' → Q (nI 1) (NC, I', J, layR sw)) (hF : ∀ I', nm1 N m v = none → FrM [200] [] I I' → Q (nI 0) (NC, I', J, layR sw)) : Y G d zX12_isNamed [vr 170, vi (enc m), vi (enc v)] (NC, I, J, layR sw) 0 0 (qi Q) := by
  unfold opd at hm hv
  have plain : ¬ (m < 4 ∧ v < 4) → X G d zX12_isNamed 14 [(0, vr 170), (1, vi (enc m)), (2, vi (enc v))] [] (NC, I, J, layR sw) 0 0 (qi Q) := by
    intro h
    have e1 : nm1 N m v = if m = v then some N else none := if_neg h
    have ei := enc_inj (a := m) (b := v) (by omega) (by omega)
    refine X_iload_n dX12_isNamed_14 rfl ?_
    refine X_iload_n dX12_isNamed_15 rfl ?_
    by_cases q : m = v
    · rw [if_pos q] at e1
      refine X_icmp_ne (tgt := 23) dX12_isNamed_16 (by decide) (fun b16 => ?_) (fun b16 => ?_)
      · exact absurd (ei.mpr q) b16
      refine X_iconst (v := nI 1) dX12_isNamed_19 (by decide) ?_
      refine X_goto (tgt := 24) dX12_isNamed_20 (by decide) ?_
      exact X_zret dX12_isNamed_24 rfl (by first | rfl | (simp; done) | decide) ⟨_, rfl, hS I N e1 FrM.rf hN⟩
    · rw [if_neg q] at e1
      refine X_icmp_ne (tgt := 23) dX12_isNamed_16 (by decide) (fun b16 => ?_) (fun b16 => ?_)
      · refine X_iconst (v := nI 0) dX12_isNamed_23 (by decide) ?_
        exact X_zret dX12_isNamed_24 rfl (by first | rfl | (simp; done) | decide) ⟨_, rfl, hF I e1 FrM.rf⟩
      · exact absurd (ei.mp b16) q
  refine Y_of rfl rfl (Nat.le_of_ble_eq_true rfl) rfl ?_
  refine X_iload_n dX12_isNamed_0 rfl ?_
  by_cases hm4 : m < 4
  · rw [enc_n (v := m) (by omega)] at plain ⊢
    refine X_cSi dX12_isNamed_1 ck_X12_218 rfl rfl (by omega) (Nat.le_of_ble_eq_true rfl) (c_isReg_t (by omega) hm4 ?_)
    refine X_if_eq (tgt := 14) dX12_isNamed_4 (by decide) (fun b4 => ?_) (fun b4 => ?_)
    · exact absurd b4 (by decide)
    refine X_iload_n dX12_isNamed_7 rfl ?_
    by_cases hv4 : v < 4
    · rw [enc_n (v := v) (by omega)]
      refine X_cSi dX12_isNamed_8 ck_X12_218 rfl rfl (by omega) (Nat.le_of_ble_eq_true rfl) (c_isReg_t (by omega) hv4 ?_)
      refine X_if_ne (tgt := 25) dX12_isNamed_11 (by decide) (fun b11 => ?_) (fun b11 => ?_)
      · have e1 : nm1 N m v = if nmU N m v m = v then some (nmU N m v) else none := if_pos ⟨hm4, hv4⟩
        have fin : ∀ (I' : Nat → Nat → Int32) (N' : Nat → Nat), N' = nmU N m v → NV N' → FrM [200] [] I I' → RNm I' N' → X G d zX12_isNamed 49 [(0, vr 170), (1, vi (nI m)), (2, vi (nI v))] [] (NC, I', J, layR sw) 0 0 (qi Q) := by
          intro I' N' hN' hNV' f' hR'
          rw [← hN'] at e1
          have hnm := hNV' m hm4
          refine X_aload_n dX12_isNamed_49 rfl ?_
          refine X_getR dX12_isNamed_50 gf_X12_98 (by first | assumption | rfl) (by first | assumption | exact Nat.le_of_ble_eq_true rfl | omega) rfl (by first | assumption | rfl) ?_
          refine X_iload_n dX12_isNamed_53 rfl ?_
          first | refine X_iald dX12_isNamed_54 (by first | assumption | rfl) (by first | assumption | exact Nat.le_of_ble_eq_true rfl | omega) rfl (by first | decide | omega) (by decide) ?_ | refine X_ildA dX12_isNamed_54 rfl (by omega) ?_ | refine X_ildM dX12_isNamed_54 rfl (by omega) ?_ | refine X_sld dX12_isNamed_54 rfl (by omega) (by omega) ?_
          rw [hR' m hm4, ← enc_n (v := v) (by omega)]
          refine X_iload_n dX12_isNamed_55 rfl ?_
          have ei := enc_inj (a := N' m) (b := v) (by omega) (by omega)
          by_cases q : N' m = v
          · rw [if_pos q] at e1
            refine X_icmp_ne (tgt := 63) dX12_isNamed_56 (by decide) (fun b56 => ?_) (fun b56 => ?_)
            · exact absurd (ei.mpr q) b56
            refine X_iconst (v := nI 1) dX12_isNamed_59 (by decide) ?_
            refine X_goto (tgt := 64) dX12_isNamed_60 (by decide) ?_
            exact X_zret dX12_isNamed_64 rfl (by first | rfl | (simp; done) | decide) ⟨_, rfl, hS I' N' e1 f' hR'⟩
          · rw [if_neg q] at e1
            refine X_icmp_ne (tgt := 63) dX12_isNamed_56 (by decide) (fun b56 => ?_) (fun b56 => ?_)
            · refine X_iconst (v := nI 0) dX12_isNamed_63 (by decide) ?_
              exact X_zret dX12_isNamed_64 rfl (by first | rfl | (simp; done) | decide) ⟨_, rfl, hF I' e1 f'⟩
            · exact absurd (ei.mp b56) q
        have hnm := hNV m hm4
        refine X_aload_n dX12_isNamed_25 rfl ?_
        refine X_getR dX12_isNamed_26 gf_X12_98 (by first | assumption | rfl) (by first | assumption | exact Nat.le_of_ble_eq_true rfl | omega) rfl (by first | assumption | rfl) ?_
        refine X_iload_n dX12_isNamed_29 rfl ?_
        first | refine X_iald dX12_isNamed_30 (by first | assumption | rfl) (by first | assumption | exact Nat.le_of_ble_eq_true rfl | omega) rfl (by first | decide | omega) (by decide) ?_ | refine X_ildA dX12_isNamed_30 rfl (by omega) ?_ | refine X_ildM dX12_isNamed_30 rfl (by omega) ?_ | refine X_sld dX12_isNamed_30 rfl (by omega) (by omega) ?_
        rw [hN m hm4]
        by_cases h9 : N m = 99
        · refine X_if_ge (tgt := 49) dX12_isNamed_31 (by decide) (fun b31 => ?_) (fun b31 => ?_)
          · exact absurd ((enc_neg (by omega)).mpr h9) (Int32.not_lt.mpr b31)
          refine X_aload_n dX12_isNamed_34 rfl ?_
          refine X_iload_n dX12_isNamed_35 rfl ?_
          refine X_cVi dX12_isNamed_36 ck_X12_365 rfl rfl (by first | assumption | rfl) (by first | assumption | exact Nat.le_of_ble_eq_true rfl | omega) (by omega) (Nat.le_of_ble_eq_true rfl) (m_isCalled hv4 hN hNV ?_)
          cases ht : tkn N v
          · rw [if_neg (by decide)]
            refine X_if_ne (tgt := 49) dX12_isNamed_39 (by decide) (fun b39 => ?_) (fun b39 => ?_)
            · exact absurd rfl b39
            refine X_aload_n dX12_isNamed_42 rfl ?_
            refine X_getR dX12_isNamed_43 gf_X12_98 (by first | assumption | rfl) (by first | assumption | exact Nat.le_of_ble_eq_true rfl | omega) rfl (by first | assumption | rfl) ?_
            refine X_iload_n dX12_isNamed_46 rfl ?_
            refine X_iload_n dX12_isNamed_47 rfl ?_
            refine X_iast dX12_isNamed_48 (by first | assumption | rfl) (by first | assumption | exact Nat.le_of_ble_eq_true rfl | omega) rfl (by first | decide | omega) (by decide) ?_
            refine fin _ (up N m v) (if_pos ⟨h9, ht⟩).symm (fun q hq => ?_) (FrM.c (by simp) (by decide)) (fun q hq => ?_)
            · by_cases e : q = m
              · rw [e, up_eq]; exact Or.inr hv4
              · rw [up_ne e]; exact hNV q hq
            · rw [sr_eq]
              by_cases e : q = m
              · rw [e, up_eq, up_eq, enc_n (by omega)]
              · rw [up_ne e, up_ne e]; exact hN q hq
          · rw [if_pos rfl]
            refine X_if_ne (tgt := 49) dX12_isNamed_39 (by decide) (fun b39 => ?_) (fun b39 => ?_)
            · exact fin I N (if_neg (fun q => by rw [ht] at q; exact absurd q.2 (by decide))).symm hNV FrM.rf hN
            · exact absurd b39 (by decide)
        · refine X_if_ge (tgt := 49) dX12_isNamed_31 (by decide) (fun b31 => ?_) (fun b31 => ?_)
          · exact fin I N (if_neg (fun q => h9 q.1)).symm hNV FrM.rf hN
          · exact absurd ((enc_neg (by omega)).mp (Int32.not_le.mp b31)) h9
      · exact absurd b11 (by decide)
    · refine X_cSi dX12_isNamed_8 ck_X12_218 rfl rfl (by omega) (Nat.le_of_ble_eq_true rfl) (c_isReg_f (by omega) (enc_big hv4 (by omega)) ?_)
      refine X_if_ne (tgt := 25) dX12_isNamed_11 (by decide) (fun b11 => ?_) (fun b11 => ?_)
      · exact absurd rfl b11
      exact plain (fun q => hv4 q.2)
  · refine X_cSi dX12_isNamed_1 ck_X12_218 rfl rfl (by omega) (Nat.le_of_ble_eq_true rfl) (c_isReg_f (by omega) (enc_big hm4 (by omega)) ?_)
    refine X_if_eq (tgt := 14) dX12_isNamed_4 (by decide) (fun b4 => ?_) (fun b4 => ?_)
    · exact plain (fun q => hm4 q.1)
    · exact absurd rfl b4
set_option maxRecDepth 20000 in
set_option maxHeartbeats 1000000 in
theorem m_isAt {Q : Int32 → Mm → Prop} {a i : Nat} {R : CC × CC} (hd : 3 ≤ d) (ha : a < 4) (hc : RC I n c) (hv : VC n c) (hR : RRu I a R) (hlv : VC R.1.1 R.1.2) (hl3 : R.1.1 ≤ 3) (hi12 : i < 12) (hS : ∀ I' N, i + R.1.1 ≤ n → mat R.1.2 c i R.1.1 = some N → FrM [200] [] I I' → RNm I' N → Q (nI 1) (NC, I', J, layR sw)) (hF : ∀ I', fitP c n R.1.2 R.1.1 i = false → FrM [200] [] I I' → Q (nI 0) (NC, I', J, layR sw)) : Y G d zX12_isAt [vr 170, vi (nI a), vi (nI i)] (NC, I, J, layR sw) 0 0 (qi Q) := by
  have hn := hv.1
  obtain ⟨⟨ln, l⟩, ⟨gn, g⟩⟩ := R
  dsimp only at hlv hl3 hS hF
  have fc : ∀ I', FrM [200] [] I I' → RC I' n c := fun I' f => RC_fm hc f (by decide) (by decide)
  have fR : ∀ I', FrM [200] [] I I' → RRu I' a ((ln, l), (gn, g)) := fun I' f => RRu_fm hR f (by decide)
  have f198 : ∀ I', FrM [200] [] I I' → I' 198 a = nI ln := fun I' f => (fR I' f).1
  have bad : ∀ (I' : Nat → Nat → Int32) (k : Nat), fitP c n l ln i = false → FrM [200] [] I I' → X G d zX12_isAt 45 [(0, vr 170), (1, vi (nI a)), (2, vi (nI i)), (3, vi (nI 0)), (4, vi (nI k))] [] (NC, I', J, layR sw) 0 0 (qi Q) := by
    intro I' k h f
    refine X_iload dX12_isAt_45 rfl ?_
    refine X_aload_n dX12_isAt_47 rfl ?_
    refine X_getR dX12_isAt_48 gf_X12_92 (by first | assumption | rfl) (by first | assumption | exact Nat.le_of_ble_eq_true rfl | omega) rfl (by first | assumption | rfl) ?_
    refine X_iload_n dX12_isAt_51 rfl ?_
    first | refine X_iald dX12_isAt_52 (by first | assumption | rfl) (by first | assumption | exact Nat.le_of_ble_eq_true rfl | omega) rfl (by first | decide | omega) (by decide) ?_ | refine X_ildA dX12_isAt_52 rfl (by omega) ?_ | refine X_ildM dX12_isAt_52 rfl (by omega) ?_ | refine X_sld dX12_isAt_52 rfl (by omega) (by omega) ?_
    rw [f198 I' f]
    refine X_icmp_ge (tgt := 184) dX12_isAt_53 (by decide) (fun b => ?_) (fun b => ?_)
    · refine X_iload_n dX12_isAt_184 rfl ?_
      exact X_zret dX12_isAt_185 rfl (by first | rfl | (simp; done) | decide) ⟨_, rfl, hF I' h f⟩
    refine X_iload_n dX12_isAt_56 rfl ?_
    refine X_if_eq (tgt := 184) dX12_isAt_57 (by decide) (fun b57 => ?_) (fun b57 => ?_)
    · refine X_iload_n dX12_isAt_184 rfl ?_
      exact X_zret dX12_isAt_185 rfl (by first | rfl | (simp; done) | decide) ⟨_, rfl, hF I' h f⟩
    · exact absurd rfl b57
  have loop : ∀ (m k : Nat) (I' : Nat → Nat → Int32) (N : Nat → Nat), i + ln ≤ n → m = ln - k → k ≤ ln → FrM [200] [] I I' → RNm I' N → NV N → mat l c i k = some N → X G d zX12_isAt 45 [(0, vr 170), (1, vi (nI a)), (2, vi (nI i)), (3, vi (nI 1)), (4, vi (nI k))] [] (NC, I', J, layR sw) 0 0 (qi Q) := by
    intro m
    induction m with
    | zero =>
      intro k I' N hin hm hk f hN hNV hmat
      obtain rfl : k = ln := by omega
      refine X_iload dX12_isAt_45 rfl ?_
      refine X_aload_n dX12_isAt_47 rfl ?_
      refine X_getR dX12_isAt_48 gf_X12_92 (by first | assumption | rfl) (by first | assumption | exact Nat.le_of_ble_eq_true rfl | omega) rfl (by first | assumption | rfl) ?_
      refine X_iload_n dX12_isAt_51 rfl ?_
      first | refine X_iald dX12_isAt_52 (by first | assumption | rfl) (by first | assumption | exact Nat.le_of_ble_eq_true rfl | omega) rfl (by first | decide | omega) (by decide) ?_ | refine X_ildA dX12_isAt_52 rfl (by omega) ?_ | refine X_ildM dX12_isAt_52 rfl (by omega) ?_ | refine X_sld dX12_isAt_52 rfl (by omega) (by omega) ?_
      rw [f198 I' f]
      refine X_icmp_ge (tgt := 184) dX12_isAt_53 (by decide) (fun b => ?_) (fun b => ?_)
      · refine X_iload_n dX12_isAt_184 rfl ?_
        exact X_zret dX12_isAt_185 rfl (by first | rfl | (simp; done) | decide) ⟨_, rfl, hS I' N hin hmat f hN⟩
      · exact absurd (Int32.le_refl _) b
    | succ m ih =>
      intro k I' N hin hm hk f hN hNV hmat
      have hkl : k < ln := by omega
      have hik : i + k < n := by omega
      have e0 := mat_s hmat
      have hl := (fR I' f).2.2.1 k hkl
      dsimp only at hl
      have no : ∀ I2, mat l c i (k + 1) = none → FrM [200] [] I I2 → X G d zX12_isAt 176 [(0, vr 170), (1, vi (nI a)), (2, vi (nI i)), (3, vi (nI 1)), (4, vi (nI k))] [] (NC, I2, J, layR sw) 0 0 (qi Q) := by
        intro I2 h f2
        have h2 := mat_n h (ln - (k + 1))
        rw [show k + 1 + (ln - (k + 1)) = ln by omega] at h2
        refine X_iconst (v := nI 0) dX12_isAt_176 (by decide) ?_
        refine X_istore_n dX12_isAt_177 rfl rfl ?_
        first | refine X_iinc1 dX12_isAt_178 rfl rfl rfl ?_ | refine X_iinc dX12_isAt_178 rfl rfl rfl rfl ?_
        refine X_goto (tgt := 45) dX12_isAt_181 (by decide) ?_
        refine bad I2 (k + 1) ?_ f2
        unfold fitP
        rw [h2, show (none : Option (Nat → Nat)).isSome = false from rfl, Bool.and_false]
      obtain ⟨c0, c1, c2, c3⟩ := (fc I' f).2 (i + k) hik
      have ei := enc_inj (a := l k 1) (b := c (i + k) 1) (VS_lt (hlv.2 k hkl) 1 (by decide)) (VS_lt (hv.2 (i + k) hik) 1 (by decide))
      unfold mstN at e0
      refine X_iload dX12_isAt_45 rfl ?_
      refine X_aload_n dX12_isAt_47 rfl ?_
      refine X_getR dX12_isAt_48 gf_X12_92 (by first | assumption | rfl) (by first | assumption | exact Nat.le_of_ble_eq_true rfl | omega) rfl (by first | assumption | rfl) ?_
      refine X_iload_n dX12_isAt_51 rfl ?_
      first | refine X_iald dX12_isAt_52 (by first | assumption | rfl) (by first | assumption | exact Nat.le_of_ble_eq_true rfl | omega) rfl (by first | decide | omega) (by decide) ?_ | refine X_ildA dX12_isAt_52 rfl (by omega) ?_ | refine X_ildM dX12_isAt_52 rfl (by omega) ?_ | refine X_sld dX12_isAt_52 rfl (by omega) (by omega) ?_
      rw [f198 I' f]
      refine X_icmp_ge (tgt := 184) dX12_isAt_53 (by decide) (fun b => ?_) (fun b => ?_)
      · exact absurd ((nle (by omega) (by omega)).mp b) (by omega)
      refine X_iload_n dX12_isAt_56 rfl ?_
      refine X_if_eq (tgt := 184) dX12_isAt_57 (by decide) (fun b57 => ?_) (fun b57 => ?_)
      · exact absurd b57 (by decide)
      refine X_aload_n dX12_isAt_60 rfl ?_
      refine X_getR dX12_isAt_61 gf_X12_89 (by first | assumption | rfl) (by first | assumption | exact Nat.le_of_ble_eq_true rfl | omega) rfl (by first | assumption | rfl) ?_
      refine X_iload_n dX12_isAt_64 rfl ?_
      refine X_iconst (v := nI 0) dX12_isAt_65 (by decide) ?_
      refine X_iload dX12_isAt_66 rfl ?_
      refine X_iconst (v := nI 1) dX12_isAt_68 (by decide) ?_
      refine X_cSi dX12_isAt_69 ck_X12_351 rfl rfl (by omega) (Nat.le_of_ble_eq_true rfl) (m_at ?_)
      first | refine X_iald dX12_isAt_72 (by first | assumption | rfl) (by first | assumption | exact Nat.le_of_ble_eq_true rfl | omega) rfl (by first | decide | omega) (by decide) ?_ | refine X_ildA dX12_isAt_72 rfl (by omega) ?_ | refine X_ildM dX12_isAt_72 rfl (by omega) ?_ | refine X_sld dX12_isAt_72 rfl (by omega) (by omega) ?_
      rw [hl 1 (by decide)]
      refine X_aload_n dX12_isAt_73 rfl ?_
      refine X_getR dX12_isAt_74 gf_X12_16 (by first | assumption | rfl) (by first | assumption | exact Nat.le_of_ble_eq_true rfl | omega) rfl (by first | assumption | rfl) ?_
      refine X_iload_n dX12_isAt_77 rfl ?_
      refine X_iload dX12_isAt_78 rfl ?_
      first | refine X_iaddN dX12_isAt_80 ?_ | refine X_iadd dX12_isAt_80 ?_
      first | refine X_iald dX12_isAt_81 (by first | assumption | rfl) (by first | assumption | exact Nat.le_of_ble_eq_true rfl | omega) rfl (by first | decide | omega) (by decide) ?_ | refine X_ildA dX12_isAt_81 rfl (by omega) ?_ | refine X_ildM dX12_isAt_81 rfl (by omega) ?_ | refine X_sld dX12_isAt_81 rfl (by omega) (by omega) ?_
      rw [c1]
      by_cases h11 : l k 1 = c (i + k) 1
      · rw [if_pos h11] at e0
        refine X_icmp_ne (tgt := 176) dX12_isAt_82 (by decide) (fun b82 => ?_) (fun b82 => ?_)
        · exact absurd (ei.mpr h11) b82
        refine X_aload_n dX12_isAt_85 rfl ?_
        refine X_aload_n dX12_isAt_86 rfl ?_
        refine X_getR dX12_isAt_87 gf_X12_89 (by first | assumption | rfl) (by first | assumption | exact Nat.le_of_ble_eq_true rfl | omega) rfl (by first | assumption | rfl) ?_
        refine X_iload_n dX12_isAt_90 rfl ?_
        refine X_iconst (v := nI 0) dX12_isAt_91 (by decide) ?_
        refine X_iload dX12_isAt_92 rfl ?_
        refine X_iconst (v := nI 0) dX12_isAt_94 (by decide) ?_
        refine X_cSi dX12_isAt_95 ck_X12_351 rfl rfl (by omega) (Nat.le_of_ble_eq_true rfl) (m_at ?_)
        first | refine X_iald dX12_isAt_98 (by first | assumption | rfl) (by first | assumption | exact Nat.le_of_ble_eq_true rfl | omega) rfl (by first | decide | omega) (by decide) ?_ | refine X_ildA dX12_isAt_98 rfl (by omega) ?_ | refine X_ildM dX12_isAt_98 rfl (by omega) ?_ | refine X_sld dX12_isAt_98 rfl (by omega) (by omega) ?_
        rw [hl 0 (by decide)]
        refine X_aload_n dX12_isAt_99 rfl ?_
        refine X_getR dX12_isAt_100 gf_X12_13 (by first | assumption | rfl) (by first | assumption | exact Nat.le_of_ble_eq_true rfl | omega) rfl (by first | assumption | rfl) ?_
        refine X_iload_n dX12_isAt_103 rfl ?_
        refine X_iload dX12_isAt_104 rfl ?_
        first | refine X_iaddN dX12_isAt_106 ?_ | refine X_iadd dX12_isAt_106 ?_
        first | refine X_iald dX12_isAt_107 (by first | assumption | rfl) (by first | assumption | exact Nat.le_of_ble_eq_true rfl | omega) rfl (by first | decide | omega) (by decide) ?_ | refine X_ildA dX12_isAt_107 rfl (by omega) ?_ | refine X_ildM dX12_isAt_107 rfl (by omega) ?_ | refine X_sld dX12_isAt_107 rfl (by omega) (by omega) ?_
        rw [c0]
        refine X_cVi dX12_isAt_108 ck_X12_368 rfl rfl (by first | assumption | rfl) (by first | assumption | exact Nat.le_of_ble_eq_true rfl | omega) (by omega) (Nat.le_of_ble_eq_true rfl) (m_isNamed (by omega) hN hNV (opd_w hlv hkl (Or.inl rfl)) (opd_w hv hik (Or.inl rfl)) (fun I1 N1 h1 f1 R1 => ?_) (fun I1 h1 f1 => ?_))
        · rw [h1] at e0
          dsimp only at e0
          have f1' := f.tr f1
          have hl1 := (fR I1 f1').2.2.1 k hkl
          dsimp only at hl1
          obtain ⟨d0, d1, d2, d3⟩ := (fc I1 f1').2 (i + k) hik
          refine X_if_eq (tgt := 176) dX12_isAt_111 (by decide) (fun b111 => ?_) (fun b111 => ?_)
          · exact absurd b111 (by decide)
          refine X_aload_n dX12_isAt_114 rfl ?_
          refine X_aload_n dX12_isAt_115 rfl ?_
          refine X_getR dX12_isAt_116 gf_X12_89 (by first | assumption | rfl) (by first | assumption | exact Nat.le_of_ble_eq_true rfl | omega) rfl (by first | assumption | rfl) ?_
          refine X_iload_n dX12_isAt_119 rfl ?_
          refine X_iconst (v := nI 0) dX12_isAt_120 (by decide) ?_
          refine X_iload dX12_isAt_121 rfl ?_
          refine X_iconst (v := nI 2) dX12_isAt_123 (by decide) ?_
          refine X_cSi dX12_isAt_124 ck_X12_351 rfl rfl (by omega) (Nat.le_of_ble_eq_true rfl) (m_at ?_)
          first | refine X_iald dX12_isAt_127 (by first | assumption | rfl) (by first | assumption | exact Nat.le_of_ble_eq_true rfl | omega) rfl (by first | decide | omega) (by decide) ?_ | refine X_ildA dX12_isAt_127 rfl (by omega) ?_ | refine X_ildM dX12_isAt_127 rfl (by omega) ?_ | refine X_sld dX12_isAt_127 rfl (by omega) (by omega) ?_
          rw [hl1 2 (by decide)]
          refine X_aload_n dX12_isAt_128 rfl ?_
          refine X_getR dX12_isAt_129 gf_X12_19 (by first | assumption | rfl) (by first | assumption | exact Nat.le_of_ble_eq_true rfl | omega) rfl (by first | assumption | rfl) ?_
          refine X_iload_n dX12_isAt_132 rfl ?_
          refine X_iload dX12_isAt_133 rfl ?_
          first | refine X_iaddN dX12_isAt_135 ?_ | refine X_iadd dX12_isAt_135 ?_
          first | refine X_iald dX12_isAt_136 (by first | assumption | rfl) (by first | assumption | exact Nat.le_of_ble_eq_true rfl | omega) rfl (by first | decide | omega) (by decide) ?_ | refine X_ildA dX12_isAt_136 rfl (by omega) ?_ | refine X_ildM dX12_isAt_136 rfl (by omega) ?_ | refine X_sld dX12_isAt_136 rfl (by omega) (by omega) ?_
          rw [d2]
          refine X_cVi dX12_isAt_137 ck_X12_368 rfl rfl (by first | assumption | rfl) (by first | assumption | exact Nat.le_of_ble_eq_true rfl | omega) (by omega) (Nat.le_of_ble_eq_true rfl) (m_isNamed (by omega) R1 (nm1_v hNV h1) (opd_w hlv hkl (Or.inr (Or.inl rfl))) (opd_w hv hik (Or.inr (Or.inl rfl))) (fun I2 N2 h2 f2 R2 => ?_) (fun I2 h2 f2 => ?_))
          · rw [h2] at e0
            dsimp only at e0
            have f2' := f1'.tr f2
            have hl2 := (fR I2 f2').2.2.1 k hkl
            dsimp only at hl2
            obtain ⟨d0, d1, d2, d3⟩ := (fc I2 f2').2 (i + k) hik
            refine X_if_eq (tgt := 176) dX12_isAt_140 (by decide) (fun b140 => ?_) (fun b140 => ?_)
            · exact absurd b140 (by decide)
            refine X_aload_n dX12_isAt_143 rfl ?_
            refine X_aload_n dX12_isAt_144 rfl ?_
            refine X_getR dX12_isAt_145 gf_X12_89 (by first | assumption | rfl) (by first | assumption | exact Nat.le_of_ble_eq_true rfl | omega) rfl (by first | assumption | rfl) ?_
            refine X_iload_n dX12_isAt_148 rfl ?_
            refine X_iconst (v := nI 0) dX12_isAt_149 (by decide) ?_
            refine X_iload dX12_isAt_150 rfl ?_
            refine X_iconst (v := nI 3) dX12_isAt_152 (by decide) ?_
            refine X_cSi dX12_isAt_153 ck_X12_351 rfl rfl (by omega) (Nat.le_of_ble_eq_true rfl) (m_at ?_)
            first | refine X_iald dX12_isAt_156 (by first | assumption | rfl) (by first | assumption | exact Nat.le_of_ble_eq_true rfl | omega) rfl (by first | decide | omega) (by decide) ?_ | refine X_ildA dX12_isAt_156 rfl (by omega) ?_ | refine X_ildM dX12_isAt_156 rfl (by omega) ?_ | refine X_sld dX12_isAt_156 rfl (by omega) (by omega) ?_
            rw [hl2 3 (by decide)]
            refine X_aload_n dX12_isAt_157 rfl ?_
            refine X_getR dX12_isAt_158 gf_X12_22 (by first | assumption | rfl) (by first | assumption | exact Nat.le_of_ble_eq_true rfl | omega) rfl (by first | assumption | rfl) ?_
            refine X_iload_n dX12_isAt_161 rfl ?_
            refine X_iload dX12_isAt_162 rfl ?_
            first | refine X_iaddN dX12_isAt_164 ?_ | refine X_iadd dX12_isAt_164 ?_
            first | refine X_iald dX12_isAt_165 (by first | assumption | rfl) (by first | assumption | exact Nat.le_of_ble_eq_true rfl | omega) rfl (by first | decide | omega) (by decide) ?_ | refine X_ildA dX12_isAt_165 rfl (by omega) ?_ | refine X_ildM dX12_isAt_165 rfl (by omega) ?_ | refine X_sld dX12_isAt_165 rfl (by omega) (by omega) ?_
            rw [d3]
            refine X_cVi dX12_isAt_166 ck_X12_368 rfl rfl (by first | assumption | rfl) (by first | assumption | exact Nat.le_of_ble_eq_true rfl | omega) (by omega) (Nat.le_of_ble_eq_true rfl) (m_isNamed (by omega) R2 (nm1_v (nm1_v hNV h1) h2) (opd_w hlv hkl (Or.inr (Or.inr rfl))) (opd_w hv hik (Or.inr (Or.inr rfl))) (fun I3 N3 h3 f3 R3 => ?_) (fun I3 h3 f3 => ?_))
            · refine X_if_eq (tgt := 176) dX12_isAt_169 (by decide) (fun b169 => ?_) (fun b169 => ?_)
              · exact absurd b169 (by decide)
              refine X_iconst (v := nI 1) dX12_isAt_172 (by decide) ?_
              refine X_goto (tgt := 177) dX12_isAt_173 (by decide) ?_
              refine X_istore_n dX12_isAt_177 rfl rfl ?_
              first | refine X_iinc1 dX12_isAt_178 rfl rfl rfl ?_ | refine X_iinc dX12_isAt_178 rfl rfl rfl rfl ?_
              refine X_goto (tgt := 45) dX12_isAt_181 (by decide) ?_
              exact ih (k + 1) I3 N3 hin (by omega) (by omega) (f2'.tr f3) R3 (nm1_v (nm1_v (nm1_v hNV h1) h2) h3) (by rw [e0]; exact h3)
            · refine X_if_eq (tgt := 176) dX12_isAt_169 (by decide) (fun b169 => ?_) (fun b169 => ?_)
              · exact no I3 (by rw [e0]; exact h3) (f2'.tr f3)
              · exact absurd rfl b169
          · rw [h2] at e0
            refine X_if_eq (tgt := 176) dX12_isAt_140 (by decide) (fun b140 => ?_) (fun b140 => ?_)
            · exact no I2 e0 (f1'.tr f2)
            · exact absurd rfl b140
        · rw [h1] at e0
          refine X_if_eq (tgt := 176) dX12_isAt_111 (by decide) (fun b111 => ?_) (fun b111 => ?_)
          · exact no I1 e0 (f.tr f1)
          · exact absurd rfl b111
      · rw [if_neg h11] at e0
        refine X_icmp_ne (tgt := 176) dX12_isAt_82 (by decide) (fun b82 => ?_) (fun b82 => ?_)
        · exact no I' e0 f
        · exact absurd (ei.mp b82) h11
  have loop0 : ∀ (m q : Nat) (I' : Nat → Nat → Int32), m = 4 - q → q ≤ 4 → FrM [200] [] I I' → (∀ j, j < q → I' 200 j = enc 99) → X G d zX12_isAt 2 [(0, vr 170), (1, vi (nI a)), (2, vi (nI i)), (3, vi (nI q))] [] (NC, I', J, layR sw) 0 0 (qi Q) := by
    intro m
    induction m with
    | zero =>
      intro q I' hm hq f h9
      obtain rfl : q = 4 := by omega
      refine X_iload_n dX12_isAt_2 rfl ?_
      refine X_iconst (v := nI 4) dX12_isAt_3 (by decide) ?_
      refine X_icmp_ge (tgt := 21) dX12_isAt_4 (by decide) (fun b => ?_) (fun b => ?_)
      · refine X_iload_n dX12_isAt_21 rfl ?_
        refine X_aload_n dX12_isAt_22 rfl ?_
        refine X_getR dX12_isAt_23 gf_X12_92 (by first | assumption | rfl) (by first | assumption | exact Nat.le_of_ble_eq_true rfl | omega) rfl (by first | assumption | rfl) ?_
        refine X_iload_n dX12_isAt_26 rfl ?_
        first | refine X_iald dX12_isAt_27 (by first | assumption | rfl) (by first | assumption | exact Nat.le_of_ble_eq_true rfl | omega) rfl (by first | decide | omega) (by decide) ?_ | refine X_ildA dX12_isAt_27 rfl (by omega) ?_ | refine X_ildM dX12_isAt_27 rfl (by omega) ?_ | refine X_sld dX12_isAt_27 rfl (by omega) (by omega) ?_
        rw [f198 I' f]
        first | refine X_iaddN dX12_isAt_28 ?_ | refine X_iadd dX12_isAt_28 ?_
        refine X_aload_n dX12_isAt_29 rfl ?_
        refine X_getI dX12_isAt_30 gf_X12_181 (by first | assumption | rfl) (by first | assumption | exact Nat.le_of_ble_eq_true rfl | omega) rfl ?_
        rw [(fc I' f).1]
        refine X_icmp_gt (tgt := 40) dX12_isAt_33 (by decide) (fun b33 => ?_) (fun b33 => ?_)
        · have := (nlt (by omega) (by omega)).mp b33
          refine X_iconst (v := nI 0) dX12_isAt_40 (by decide) ?_
          refine X_istore_n dX12_isAt_41 rfl rfl ?_
          refine X_iconst (v := nI 0) dX12_isAt_42 (by decide) ?_
          refine X_istore dX12_isAt_43 rfl rfl ?_
          refine bad I' 0 ?_ f
          unfold fitP
          rw [decide_eq_false (by omega), Bool.false_and]
        · have : ¬ n < i + ln := fun z => b33 ((nlt (by omega) (by omega)).mpr z)
          refine X_iconst (v := nI 1) dX12_isAt_36 (by decide) ?_
          refine X_goto (tgt := 41) dX12_isAt_37 (by decide) ?_
          refine X_istore_n dX12_isAt_41 rfl rfl ?_
          refine X_iconst (v := nI 0) dX12_isAt_42 (by decide) ?_
          refine X_istore dX12_isAt_43 rfl rfl ?_
          exact loop ln 0 I' (fun _ => 99) (by omega) rfl (Nat.zero_le _) f h9 (fun _ _ => Or.inl rfl) rfl
      · exact absurd (by decide) b
    | succ m ih =>
      intro q I' hm hq f h9
      refine X_iload_n dX12_isAt_2 rfl ?_
      refine X_iconst (v := nI 4) dX12_isAt_3 (by decide) ?_
      refine X_icmp_ge (tgt := 21) dX12_isAt_4 (by decide) (fun b => ?_) (fun b => ?_)
      · exact absurd ((nle (by omega) (by omega)).mp b) (by omega)
      refine X_aload_n dX12_isAt_7 rfl ?_
      refine X_getR dX12_isAt_8 gf_X12_98 (by first | assumption | rfl) (by first | assumption | exact Nat.le_of_ble_eq_true rfl | omega) rfl (by first | assumption | rfl) ?_
      refine X_iload_n dX12_isAt_11 rfl ?_
      refine X_bipush (v := (-6)) dX12_isAt_12 (by decide) ?_
      refine X_iast dX12_isAt_14 (by first | assumption | rfl) (by first | assumption | exact Nat.le_of_ble_eq_true rfl | omega) rfl (by first | decide | omega) (by decide) ?_
      first | refine X_iinc1 dX12_isAt_15 rfl rfl rfl ?_ | refine X_iinc dX12_isAt_15 rfl rfl rfl rfl ?_
      refine X_goto (tgt := 2) dX12_isAt_18 (by decide) ?_
      refine ih (q + 1) _ (by omega) (by omega) (f.tr (FrM.c (by simp) (by decide))) (fun j hj => ?_)
      rw [sr_eq]
      by_cases e : j = q
      · rw [e, up_eq]; rfl
      · rw [up_ne e]; exact h9 j (by omega)
  refine Y_of rfl rfl (Nat.le_of_ble_eq_true rfl) rfl ?_
  refine X_iconst (v := nI 0) dX12_isAt_0 (by decide) ?_
  refine X_istore_n dX12_isAt_1 rfl rfl ?_
  exact loop0 4 0 I rfl (Nat.zero_le _) FrM.rf (fun j h => absurd h (Nat.not_lt_zero j))
set_option maxRecDepth 20000 in
theorem m_placeOfRule {Q : Int32 → Mm → Prop} {a : Nat} {R : CC × CC} (hd : 4 ≤ d) (ha : a < 4) (hc : RC I n c) (hv : VC n c) (hR : RRu I a R) (hlv : VC R.1.1 R.1.2) (hl3 : R.1.1 ≤ 3) (hS : ∀ I' p N, ffit c n R = some p → mat R.1.2 c p R.1.1 = some N → FrM [200] [] I I' → RNm I' N → Q (nI p) (NC, I', J, layR sw)) (hF : ∀ I', ffit c n R = none → FrM [200] [] I I' → Q (-6) (NC, I', J, layR sw)) : Y G d zX12_placeOfRule [vr 170, vi (nI a)] (NC, I, J, layR sw) 0 0 (qi Q) := by
  have hn := hv.1
  have loop : ∀ (m i : Nat) (I' : Nat → Nat → Int32), m = n - i → i ≤ n → FrM [200] [] I I' → (∀ q, q < i → fitP c n R.1.2 R.1.1 q = false) → X G d zX12_placeOfRule 2 [(0, vr 170), (1, vi (nI a)), (2, vi (nI i))] [] (NC, I', J, layR sw) 0 0 (qi Q) := by
    intro m
    induction m with
    | zero =>
      intro i I' hm hi f h0
      obtain rfl : i = n := by omega
      refine X_iload_n dX12_placeOfRule_2 rfl ?_
      refine X_aload_n dX12_placeOfRule_3 rfl ?_
      refine X_getI dX12_placeOfRule_4 gf_X12_181 (by first | assumption | rfl) (by first | assumption | exact Nat.le_of_ble_eq_true rfl | omega) rfl ?_
      rw [(RC_fm hc f (by decide) (by decide)).1]
      refine X_icmp_ge (tgt := 27) dX12_placeOfRule_7 (by decide) (fun b => ?_) (fun b => ?_)
      · refine X_bipush (v := (-6)) dX12_placeOfRule_27 (by decide) ?_
        exact X_iret dX12_placeOfRule_29 rfl ⟨_, rfl, hF I' (ffR_none i h0) f⟩
      · exact absurd (Int32.le_refl _) b
    | succ m ih =>
      intro i I' hm hi f h0
      have hc' := RC_fm hc f (by decide) (by decide)
      refine X_iload_n dX12_placeOfRule_2 rfl ?_
      refine X_aload_n dX12_placeOfRule_3 rfl ?_
      refine X_getI dX12_placeOfRule_4 gf_X12_181 (by first | assumption | rfl) (by first | assumption | exact Nat.le_of_ble_eq_true rfl | omega) rfl ?_
      rw [hc'.1]
      refine X_icmp_ge (tgt := 27) dX12_placeOfRule_7 (by decide) (fun b => ?_) (fun b => ?_)
      · exact absurd ((nle (by omega) (by omega)).mp b) (by omega)
      refine X_aload_n dX12_placeOfRule_10 rfl ?_
      refine X_iload_n dX12_placeOfRule_11 rfl ?_
      refine X_iload_n dX12_placeOfRule_12 rfl ?_
      refine X_cVi dX12_placeOfRule_13 ck_X12_371 rfl rfl (by first | assumption | rfl) (by first | assumption | exact Nat.le_of_ble_eq_true rfl | omega) (by omega) (Nat.le_of_ble_eq_true rfl) (m_isAt (by omega) ha hc' hv (RRu_fm hR f (by decide)) hlv hl3 (by omega) (fun I2 N h1 h2 f2 R2 => ?_) (fun I2 h1 f2 => ?_))
      · refine X_if_eq (tgt := 21) dX12_placeOfRule_16 (by decide) (fun b16 => ?_) (fun b16 => ?_)
        · exact absurd b16 (by decide)
        refine X_iload_n dX12_placeOfRule_19 rfl ?_
        exact X_iret dX12_placeOfRule_20 rfl ⟨_, rfl, hS I2 i N (ffR_some (by unfold fitP; rw [decide_eq_true h1, h2]; rfl) h0 n (by omega)) h2 (f.tr f2) R2⟩
      · refine X_if_eq (tgt := 21) dX12_placeOfRule_16 (by decide) (fun b16 => ?_) (fun b16 => ?_)
        · first | refine X_iinc1 dX12_placeOfRule_21 rfl rfl rfl ?_ | refine X_iinc dX12_placeOfRule_21 rfl rfl rfl rfl ?_
          refine X_goto (tgt := 2) dX12_placeOfRule_24 (by decide) ?_
          refine ih (i + 1) I2 (by omega) (by omega) (f.tr f2) (fun q hq => ?_)
          by_cases z : q = i
          · rw [z]; exact h1
          · exact h0 q (by omega)
        · exact absurd rfl b16
  refine Y_of rfl rfl (Nat.le_of_ble_eq_true rfl) rfl ?_
  refine X_iconst (v := nI 0) dX12_placeOfRule_0 (by decide) ?_
  refine X_istore_n dX12_placeOfRule_1 rfl rfl ?_
  exact loop n 0 I rfl (Nat.zero_le _) FrM.rf (fun q h => absurd h (Nat.not_lt_zero q))
theorem rd.ru {a : Nat} (hi : RInv I s) (ha : a < dN s.2.1) : RRu I a (dR s.2.1 a) := hi.2.1.2.2.2.2.2.2.2.2 a ha
theorem M_fits {x : Int32} (hd : 5 ≤ d) (hv : VSt s) (hi : RInv I s) : Y G d zX12_fits [vr 170, vi x] (NC, I, J, layR sw) 0 0 (qi (PM s (sp_fits s x) I J sw)) := by
  have hN := hv.2.1.2.2.2.2.1
  have h39 : I 170 39 = nI (dN s.2.1) := hi.2.1.2.2.2.2.2.2.2.1
  unfold sp_fits
  refine Y_of rfl rfl (Nat.le_of_ble_eq_true rfl) rfl ?_
  refine X_aload_n dX12_fits_0 rfl ?_
  refine X_iload_n dX12_fits_1 rfl ?_
  rcases rcase hN x with h | ⟨a, ha, rfl⟩
  · rw [if_pos h]
    refine X_cVi dX12_fits_2 ck_X12_359 rfl rfl (by first | assumption | rfl) (by first | assumption | exact Nat.le_of_ble_eq_true rfl | omega) (by omega) (Nat.le_of_ble_eq_true rfl) (c_isRule_f (by omega) h39 (by omega) h ?_)
    refine X_if_eq (tgt := 16) dX12_fits_5 (by decide) (fun b => ?_) (fun b => ?_)
    · refine X_iconst (v := (-1)) dX12_fits_16 (by decide) ?_
      exact X_iret dX12_fits_17 rfl ⟨_, rfl, PM_same hi⟩
    · exact absurd rfl b
  · rw [if_neg (scase_n (by omega) ha), nI_clamp (by omega)]
    obtain ⟨⟨v1, v2, v3⟩, v4, v5⟩ := hv.2.1.2.2.2.2.2 a ha
    refine X_cVi dX12_fits_2 ck_X12_359 rfl rfl (by first | assumption | rfl) (by first | assumption | exact Nat.le_of_ble_eq_true rfl | omega) (by omega) (Nat.le_of_ble_eq_true rfl) (c_isRule_t (by omega) h39 (by omega) ha ?_)
    refine X_if_eq (tgt := 16) dX12_fits_5 (by decide) (fun b => ?_) (fun b => ?_)
    · exact absurd b (by decide)
    refine X_aload_n dX12_fits_8 rfl ?_
    refine X_iload_n dX12_fits_9 rfl ?_
    refine X_cVi dX12_fits_10 ck_X12_374 rfl rfl (by first | assumption | rfl) (by first | assumption | exact Nat.le_of_ble_eq_true rfl | omega) (by omega) (Nat.le_of_ble_eq_true rfl) (m_placeOfRule (by omega) (by omega) hi.2.1.rc hv.2.1.1 (rd.ru hi ha) v3 v2 (fun I' p N h1 h2 f R2 => ?_) (fun I' h1 f => ?_))
    · rw [h1]
      refine X_goto (tgt := 17) dX12_fits_13 (by decide) ?_
      exact X_iret dX12_fits_17 rfl ⟨_, rfl, PM_fm hi _ [] f (by decide) (by decide)⟩
    · rw [h1]
      refine X_goto (tgt := 17) dX12_fits_13 (by decide) ?_
      exact X_iret dX12_fits_17 rfl ⟨_, rfl, PM_fm hi _ [] f (by decide) (by decide)⟩
end RG
