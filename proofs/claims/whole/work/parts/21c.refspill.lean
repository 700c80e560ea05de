/-! put by: the reference -/
theorem cK_lt {c : Nat → Nat → Nat} {n b S : Nat} (hn : n ≤ 12) (hS : S < 65536) (hbS : b < S) : cK c n S < cK c n b ↔ (on S 16 ≤ on b 16 ∧ (on S 16 < on b 16 ∨ rdO c S n < rdO c b n)) := by
  have := rdO_le c S n
  have := rdO_le c b n
  unfold cK
  omega
def spI (b : Option Nat) : Int32 := match b with
  | none => -6
  | some x => nI x
def spR (c : Nat → Nat → Nat) (n : Nat) (b : Option Nat) : Int32 := match b with
  | none => nI 0
  | some x => nI (rdO c x n)
section RS
variable {G : GG} {d : Nat} {sw : Bool} {I : Nat → Nat → Int32} {J : Nat → Nat → Int64} {s : SS} {n W : Nat} {c : Nat → Nat → Nat}
set_option maxRecDepth 20000 in
theorem m_readingsOf {Q : Int32 → Mm → Prop} {S : Nat} (hd : 4 ≤ d) (hc : RC I n c) (hv : VC n c) (hS : S < 65536) (hQ : Q (nI (rdO c S n)) (NC, I, J, layR sw)) : Y G d zX12_readingsOf [vr 170, vi (nI S)] (NC, I, J, layR sw) 0 0 (qi Q) := by
  have hn := hv.1
  have half : ∀ (i b k v : Nat), (v = 99 ∨ v < 16) → X G d zX12_readingsOf 15 [(0, vr 170), (1, vi (nI S)), (2, vi (nI (b + xb S v))), (3, vi (nI i)), (4, vi (nI (k + 1)))] [] (NC, I, J, layR sw) 0 0 (qi Q) → ∀ L2, X G d zX12_readingsOf 28 ([(0, vr 170), (1, vi (nI S)), (2, vi (nI b)), (3, vi (nI i)), (4, vi (nI k))] ++ L2) [vi (enc v)] (NC, I, J, layR sw) 0 0 (qi Q) := by
    intro i b k v hvv go L2
    refine weak (lv' := [(0, vr 170), (1, vi (nI S)), (2, vi (nI b)), (3, vi (nI i)), (4, vi (nI k))]) (fun q hq => List.mem_append_left _ hq) ?_
    refine X_istore dX12_readingsOf_28 rfl rfl ?_
    refine X_iload_n dX12_readingsOf_30 rfl ?_
    refine X_iload dX12_readingsOf_31 rfl ?_
    by_cases h9 : v = 99
    · rw [show xb S v = 0 from if_pos h9] at go
      refine X_if_lt (tgt := 45) dX12_readingsOf_33 (by decide) (fun b33 => ?_) (fun b33 => ?_)
      · refine X_iconst (v := nI 0) dX12_readingsOf_45 (by decide) ?_
        first | refine X_iaddN dX12_readingsOf_46 ?_ | refine X_iadd dX12_readingsOf_46 ?_
        refine X_istore_n dX12_readingsOf_47 rfl rfl ?_
        first | refine X_iinc1 dX12_readingsOf_48 rfl rfl rfl ?_ | refine X_iinc dX12_readingsOf_48 rfl rfl rfl rfl ?_
        refine X_goto (tgt := 15) dX12_readingsOf_51 (by decide) ?_
        refine weak (lv' := [(0, vr 170), (1, vi (nI S)), (2, vi (nI (b + 0))), (3, vi (nI i)), (4, vi (nI (k + 1)))]) (fun q hq => List.mem_append_left _ hq) ?_
        exact go
      · exact absurd ((enc_neg (by omega)).mpr h9) b33
    · rw [show xb S v = S / 2 ^ v % 2 from if_neg h9] at go
      refine X_if_lt (tgt := 45) dX12_readingsOf_33 (by decide) (fun b33 => ?_) (fun b33 => ?_)
      · exact absurd ((enc_neg (by omega)).mp b33) h9
      rw [enc_n h9]
      refine X_iload_n dX12_readingsOf_36 rfl ?_
      refine X_iload dX12_readingsOf_37 rfl ?_
      first | refine X_ishrN dX12_readingsOf_39 (by omega) (by omega) ?_ | refine X_ishr dX12_readingsOf_39 ?_
      refine X_iconst (v := nI 1) dX12_readingsOf_40 (by decide) ?_
      first | refine X_iandN dX12_readingsOf_41 ?_ | refine X_iandC dX12_readingsOf_41 ?_ | refine X_iand dX12_readingsOf_41 ?_
      rw [Nat.and_one_is_mod]
      refine X_goto (tgt := 46) dX12_readingsOf_42 (by decide) ?_
      first | refine X_iaddN dX12_readingsOf_46 ?_ | refine X_iadd dX12_readingsOf_46 ?_
      refine X_istore_n dX12_readingsOf_47 rfl rfl ?_
      first | refine X_iinc1 dX12_readingsOf_48 rfl rfl rfl ?_ | refine X_iinc dX12_readingsOf_48 rfl rfl rfl rfl ?_
      refine X_goto (tgt := 15) dX12_readingsOf_51 (by decide) ?_
      refine weak (lv' := [(0, vr 170), (1, vi (nI S)), (2, vi (nI (b + S / 2 ^ v % 2))), (3, vi (nI i)), (4, vi (nI (k + 1)))]) (fun q hq => List.mem_append_left _ hq) ?_
      exact go
  have loop : ∀ (m i : Nat), m = n - i → i ≤ n → ∀ L2, X G d zX12_readingsOf 4 ([(0, vr 170), (1, vi (nI S)), (2, vi (nI (rdO c S i))), (3, vi (nI i))] ++ L2) [] (NC, I, J, layR sw) 0 0 (qi Q) := by
    intro m
    induction m with
    | zero =>
      intro i hm hi L2
      obtain rfl : i = n := by omega
      refine weak (lv' := [(0, vr 170), (1, vi (nI S)), (2, vi (nI (rdO c S i))), (3, vi (nI i))]) (fun q hq => List.mem_append_left _ hq) ?_
      refine X_iload_n dX12_readingsOf_4 rfl ?_
      refine X_aload_n dX12_readingsOf_5 rfl ?_
      refine X_getI dX12_readingsOf_6 gf_X12_181 (by first | assumption | rfl) (by first | assumption | exact Nat.le_of_ble_eq_true rfl | omega) rfl ?_
      rw [hc.1]
      refine X_icmp_ge (tgt := 60) dX12_readingsOf_9 (by decide) (fun b => ?_) (fun b => ?_)
      · refine X_iload_n dX12_readingsOf_60 rfl ?_
        exact X_iret dX12_readingsOf_61 rfl ⟨_, rfl, hQ⟩
      · exact absurd (Int32.le_refl _) b
    | succ m ih =>
      intro i hm hi L2
      have hin : i < n := by omega
      have s2 := srcv_ok c i (c i 2)
      have s3 := srcv_ok c i (c i 3)
      refine weak (lv' := [(0, vr 170), (1, vi (nI S)), (2, vi (nI (rdO c S i))), (3, vi (nI i))]) (fun q hq => List.mem_append_left _ hq) ?_
      refine X_iload_n dX12_readingsOf_4 rfl ?_
      refine X_aload_n dX12_readingsOf_5 rfl ?_
      refine X_getI dX12_readingsOf_6 gf_X12_181 (by first | assumption | rfl) (by first | assumption | exact Nat.le_of_ble_eq_true rfl | omega) rfl ?_
      rw [hc.1]
      refine X_icmp_ge (tgt := 60) dX12_readingsOf_9 (by decide) (fun b => ?_) (fun b => ?_)
      · exact absurd ((nle (by omega) (by omega)).mp b) (by omega)
      refine X_iconst (v := nI 0) dX12_readingsOf_12 (by decide) ?_
      refine X_istore dX12_readingsOf_13 rfl rfl ?_
      refine X_iload dX12_readingsOf_15 rfl ?_
      refine X_iconst (v := nI 2) dX12_readingsOf_17 (by decide) ?_
      refine X_icmp_ge (tgt := 54) dX12_readingsOf_18 (by decide) (fun b18 => ?_) (fun b18 => ?_)
      · exact absurd b18 (by decide)
      refine X_aload_n dX12_readingsOf_21 rfl ?_
      refine X_iload_n dX12_readingsOf_22 rfl ?_
      refine X_iload dX12_readingsOf_23 rfl ?_
      refine X_cVi dX12_readingsOf_25 ck_X12_330 rfl rfl (by first | assumption | rfl) (by first | assumption | exact Nat.le_of_ble_eq_true rfl | omega) (by omega) (Nat.le_of_ble_eq_true rfl) (m_reads (k := 0) (by omega) hc hv hin (by decide) ?_)
      refine half i _ 0 (srcv c i (c i 2)) (by omega) ?_ []
      refine X_iload dX12_readingsOf_15 rfl ?_
      refine X_iconst (v := nI 2) dX12_readingsOf_17 (by decide) ?_
      refine X_icmp_ge (tgt := 54) dX12_readingsOf_18 (by decide) (fun b18 => ?_) (fun b18 => ?_)
      · exact absurd b18 (by decide)
      refine X_aload_n dX12_readingsOf_21 rfl ?_
      refine X_iload_n dX12_readingsOf_22 rfl ?_
      refine X_iload dX12_readingsOf_23 rfl ?_
      refine X_cVi dX12_readingsOf_25 ck_X12_330 rfl rfl (by first | assumption | rfl) (by first | assumption | exact Nat.le_of_ble_eq_true rfl | omega) (by omega) (Nat.le_of_ble_eq_true rfl) (m_reads (k := 1) (by omega) hc hv hin (by decide) ?_)
      refine half i _ 1 (srcv c i (c i 3)) (by omega) ?_ []
      refine X_iload dX12_readingsOf_15 rfl ?_
      refine X_iconst (v := nI 2) dX12_readingsOf_17 (by decide) ?_
      refine X_icmp_ge (tgt := 54) dX12_readingsOf_18 (by decide) (fun b18 => ?_) (fun b18 => ?_)
      · first | refine X_iinc1 dX12_readingsOf_54 rfl rfl rfl ?_ | refine X_iinc dX12_readingsOf_54 rfl rfl rfl rfl ?_
        refine X_goto (tgt := 4) dX12_readingsOf_57 (by decide) ?_
        exact ih (i + 1) (by omega) (by omega) [(4, vi (nI 2))]
      · exact absurd (by decide) b18
  refine Y_of rfl rfl (Nat.le_of_ble_eq_true rfl) rfl ?_
  refine X_iconst (v := nI 0) dX12_readingsOf_0 (by decide) ?_
  refine X_istore_n dX12_readingsOf_1 rfl rfl ?_
  refine X_iconst (v := nI 0) dX12_readingsOf_2 (by decide) ?_
  refine X_istore_n dX12_readingsOf_3 rfl rfl ?_
  exact loop n 0 rfl (Nat.zero_le n) []
set_option maxRecDepth 20000 in
set_option maxHeartbeats 1000000 in
theorem m_spill {Q : Int32 → Mm → Prop} {k : Nat} (hd : 6 ≤ d) (hc : RC I n c) (hv : VC n c) (hw : I 170 12 = nI W) (hW : W < 16) (hk1 : 1 ≤ k) (hk8 : k ≤ 8) (hQ : ∀ I', FrM [192, 195, 196] [] I I' → Q (spI (spl c n W k (2 ^ (4 + n)))) (NC, I', J, layR sw)) : Y G d zX12_spill [vr 170, vi (nI k)] (NC, I, J, layR sw) 0 0 (qi Q) := by
  have hn := hv.1
  have h16 := p16 hn
  refine Y_of rfl rfl (Nat.le_of_ble_eq_true rfl) rfl ?_
  refine X_iload_n dX12_spill_0 rfl ?_
  refine X_i2l dX12_spill_1 rfl ?_
  refine X_lconst (v := 1) dX12_spill_2 (by decide) ?_
  refine X_ldc2 dX12_spill_3 kc_X12_343 ?_
  refine X_cSi dX12_spill_6 ck_X12_125 rfl rfl (by omega) (Nat.le_of_ble_eq_true rfl) (c_in_t (lo := nI 1) (hi := nI 8) (by decide) (by decide) ((nle (by omega) (by omega)).mpr hk1) ((nle (by omega) (by omega)).mpr hk8) ?_)
  refine X_if_ne (tgt := 15) dX12_spill_9 (by decide) (fun b9 => ?_) (fun b9 => ?_)
  · refine X_aload_n dX12_spill_15 rfl ?_
    refine X_cVv dX12_spill_16 ck_X12_303 rfl rfl (by first | assumption | rfl) (by first | assumption | exact Nat.le_of_ble_eq_true rfl | omega) (by omega) (Nat.le_of_ble_eq_true rfl) (m_layOrder hc.1 hn (fun I1 f1 ho => ?_))
    refine X_aload_n dX12_spill_19 rfl ?_
    refine X_cVv dX12_spill_20 ck_X12_337 rfl rfl (by first | assumption | rfl) (by first | assumption | exact Nat.le_of_ble_eq_true rfl | omega) (by omega) (Nat.le_of_ble_eq_true rfl) (m_findHeld (W := W) (o := fun k => k) (pl := fun k => k) (by omega) (RC_fm hc f1 (by decide) (by decide)) hv (by rw [f1.2 12 (by simp)]; exact hw) hW ho (fun k h => h) (fun k _ => rfl) (fun i h => ⟨i, h, rfl⟩) (fun I2 f2 hH => ?_))
    have f3 : FrM [192, 195, 196] [] I I2 := ⟨fun j h1 h2 => by rw [f2.1 j h1 (fun q => h2 (by simp at q ⊢; omega)), f1.1 j h1 (fun q => h2 (by simp at q ⊢; omega))], fun f h => by rw [f2.2 f h, f1.2 f h]⟩
    have hc2 := RC_fm hc f3 (by decide) (by decide)
    refine X_bipush (v := (-6)) dX12_spill_23 (by decide) ?_
    refine X_istore_n dX12_spill_25 rfl rfl ?_
    refine X_iconst (v := nI 0) dX12_spill_26 (by decide) ?_
    refine X_istore_n dX12_spill_27 rfl rfl ?_
    refine X_iconst (v := nI 0) dX12_spill_28 (by decide) ?_
    refine X_istore dX12_spill_29 rfl rfl ?_
    have loop : ∀ (m S : Nat), m = 2 ^ (4 + n) - S → S ≤ 2 ^ (4 + n) → ∀ L2, X G d zX12_spill 31 ([(0, vr 170), (1, vi (nI k)), (2, vi (spI (spl c n W k S))), (3, vi (spR c n (spl c n W k S))), (4, vi (nI S))] ++ L2) [] (NC, I2, J, layR sw) 0 0 (qi Q) := by
      intro m
      induction m with
      | zero =>
        intro S hm hS L2
        obtain rfl : S = 2 ^ (4 + n) := by omega
        refine weak (lv' := [(0, vr 170), (1, vi (nI k)), (2, vi (spI (spl c n W k (2 ^ (4 + n))))), (3, vi (spR c n (spl c n W k (2 ^ (4 + n))))), (4, vi (nI (2 ^ (4 + n))))]) (fun q hq => List.mem_append_left _ hq) ?_
        refine X_iload dX12_spill_31 rfl ?_
        refine X_iconst (v := nI 1) dX12_spill_33 (by decide) ?_
        refine X_iconst (v := nI 4) dX12_spill_34 (by decide) ?_
        refine X_aload_n dX12_spill_35 rfl ?_
        refine X_getI dX12_spill_36 gf_X12_181 (by first | assumption | rfl) (by first | assumption | exact Nat.le_of_ble_eq_true rfl | omega) rfl ?_
        rw [hc2.1]
        first | refine X_iaddN dX12_spill_39 ?_ | refine X_iadd dX12_spill_39 ?_
        first | refine X_ishl1 dX12_spill_40 (by omega) ?_ | refine X_ishl dX12_spill_40 ?_
        refine X_icmp_ge (tgt := 163) dX12_spill_41 (by decide) (fun b => ?_) (fun b => ?_)
        · refine X_iload_n dX12_spill_163 rfl ?_
          exact X_iret dX12_spill_164 rfl ⟨_, rfl, hQ I2 f3⟩
        · exact absurd (Int32.le_refl _) b
      | succ m ih =>
        intro S hm hS L2
        have hSl : S < 2 ^ (4 + n) := by omega
        have ih := ih (S + 1) (by omega) (by omega)
        refine weak (lv' := [(0, vr 170), (1, vi (nI k)), (2, vi (spI (spl c n W k S))), (3, vi (spR c n (spl c n W k S))), (4, vi (nI S))]) (fun q hq => List.mem_append_left _ hq) ?_
        refine X_iload dX12_spill_31 rfl ?_
        refine X_iconst (v := nI 1) dX12_spill_33 (by decide) ?_
        refine X_iconst (v := nI 4) dX12_spill_34 (by decide) ?_
        refine X_aload_n dX12_spill_35 rfl ?_
        refine X_getI dX12_spill_36 gf_X12_181 (by first | assumption | rfl) (by first | assumption | exact Nat.le_of_ble_eq_true rfl | omega) rfl ?_
        rw [hc2.1]
        first | refine X_iaddN dX12_spill_39 ?_ | refine X_iadd dX12_spill_39 ?_
        first | refine X_ishl1 dX12_spill_40 (by omega) ?_ | refine X_ishl dX12_spill_40 ?_
        refine X_icmp_ge (tgt := 163) dX12_spill_41 (by decide) (fun b => ?_) (fun b => ?_)
        · exact absurd ((nle (by omega) (by omega)).mp b) (by omega)
        have skip : ∀ (v2 v3 : Int32), v2 = spI (spl c n W k (S + 1)) → v3 = spR c n (spl c n W k (S + 1)) → X G d zX12_spill 157 [(0, vr 170), (1, vi (nI k)), (2, vi v2), (3, vi v3), (4, vi (nI S))] [] (NC, I2, J, layR sw) 0 0 (qi Q) := by
          rintro v2 v3 rfl rfl
          first | refine X_iinc1 dX12_spill_157 rfl rfl rfl ?_ | refine X_iinc dX12_spill_157 rfl rfl rfl rfl ?_
          refine X_goto (tgt := 31) dX12_spill_160 (by decide) ?_
          exact ih []
        have take : ∀ (v2 v3 : Int32) (x5 : AV), spl c n W k (S + 1) = some S → X G d zX12_spill 151 [(0, vr 170), (1, vi (nI k)), (2, vi v2), (3, vi v3), (4, vi (nI S)), (5, x5), (6, vi (nI (rdO c S n)))] [] (NC, I2, J, layR sw) 0 0 (qi Q) := by
          intro v2 v3 x5 h
          rw [h] at ih
          refine X_iload dX12_spill_151 rfl ?_
          refine X_istore_n dX12_spill_153 rfl rfl ?_
          refine X_iload dX12_spill_154 rfl ?_
          refine X_istore_n dX12_spill_156 rfl rfl ?_
          first | refine X_iinc1 dX12_spill_157 rfl rfl rfl ?_ | refine X_iinc dX12_spill_157 rfl rfl rfl rfl ?_
          refine X_goto (tgt := 31) dX12_spill_160 (by decide) ?_
          exact ih [(5, x5), (6, vi (nI (rdO c S n)))]
        have inner : ∀ (v2 v3 : Int32) (F0 : Bool), (¬ (F0 && vldF c n W k S (n + 1)) = true → X G d zX12_spill 157 [(0, vr 170), (1, vi (nI k)), (2, vi v2), (3, vi v3), (4, vi (nI S))] [] (NC, I2, J, layR sw) 0 0 (qi Q)) → ((F0 && vldF c n W k S (n + 1)) = true → ∀ x5, X G d zX12_spill 129 [(0, vr 170), (1, vi (nI k)), (2, vi v2), (3, vi v3), (4, vi (nI S)), (5, x5), (6, vi (nI (rdO c S n)))] [] (NC, I2, J, layR sw) 0 0 (qi Q)) → ∀ (m p : Nat), m = n + 1 - p → p ≤ n + 1 → X G d zX12_spill 70 [(0, vr 170), (1, vi (nI k)), (2, vi v2), (3, vi v3), (4, vi (nI S)), (5, vi (nI (if (F0 && vldF c n W k S p) = true then 1 else 0))), (6, vi (nI p))] [] (NC, I2, J, layR sw) 0 0 (qi Q) := by
          intro v2 v3 F0 hno hyes m
          have out0 : ¬ (F0 && vldF c n W k S (n + 1)) = true → ∀ p, X G d zX12_spill 116 [(0, vr 170), (1, vi (nI k)), (2, vi v2), (3, vi v3), (4, vi (nI S)), (5, vi (nI 0)), (6, vi (nI p))] [] (NC, I2, J, layR sw) 0 0 (qi Q) := by
            intro h p
            refine X_iload dX12_spill_116 rfl ?_
            refine X_if_eq (tgt := 157) dX12_spill_118 (by decide) (fun b118 => ?_) (fun b118 => ?_)
            · refine weak (lv' := [(0, vr 170), (1, vi (nI k)), (2, vi v2), (3, vi v3), (4, vi (nI S))]) (fun q hq => List.mem_append_left _ hq) ?_
              exact hno h
            · exact absurd rfl b118
          induction m with
          | zero =>
            intro p hm hp
            obtain rfl : p = n + 1 := by omega
            refine X_iload dX12_spill_70 rfl ?_
            refine X_aload_n dX12_spill_72 rfl ?_
            refine X_getI dX12_spill_73 gf_X12_181 (by first | assumption | rfl) (by first | assumption | exact Nat.le_of_ble_eq_true rfl | omega) rfl ?_
            rw [hc2.1]
            refine X_icmp_gt (tgt := 116) dX12_spill_76 (by decide) (fun b76 => ?_) (fun b76 => ?_)
            · by_cases hf : (F0 && vldF c n W k S (n + 1)) = true
              · rw [if_pos hf]
                refine X_iload dX12_spill_116 rfl ?_
                refine X_if_eq (tgt := 157) dX12_spill_118 (by decide) (fun b118 => ?_) (fun b118 => ?_)
                · exact absurd b118 (by decide)
                refine X_aload_n dX12_spill_121 rfl ?_
                refine X_iload dX12_spill_122 rfl ?_
                refine X_cVi dX12_spill_124 ck_X12_345 rfl rfl (by first | assumption | rfl) (by first | assumption | exact Nat.le_of_ble_eq_true rfl | omega) (by omega) (Nat.le_of_ble_eq_true rfl) (m_readingsOf (by omega) hc2 hv (by omega) ?_)
                refine X_istore dX12_spill_127 rfl rfl ?_
                exact hyes hf _
              · rw [if_neg hf]
                exact out0 hf _
            · exact absurd ((nlt (by omega) (by omega)).mpr (Nat.lt_succ_self n)) b76
          | succ m ih2 =>
            intro p hm hp
            have hpn : p ≤ n := by omega
            have ih2 := ih2 (p + 1) (by omega) (by omega)
            refine X_iload dX12_spill_70 rfl ?_
            refine X_aload_n dX12_spill_72 rfl ?_
            refine X_getI dX12_spill_73 gf_X12_181 (by first | assumption | rfl) (by first | assumption | exact Nat.le_of_ble_eq_true rfl | omega) rfl ?_
            rw [hc2.1]
            refine X_icmp_gt (tgt := 116) dX12_spill_76 (by decide) (fun b76 => ?_) (fun b76 => ?_)
            · exact absurd ((nlt (by omega) (by omega)).mp b76) (by omega)
            refine X_iload dX12_spill_79 rfl ?_
            by_cases hf : (F0 && vldF c n W k S p) = true
            · rw [if_pos hf]
              refine X_if_eq (tgt := 116) dX12_spill_81 (by decide) (fun b81 => ?_) (fun b81 => ?_)
              · exact absurd b81 (by decide)
              have hlt := hlB_lt (c := c) (W := W) (pl := fun i => i) (p := p) hn
              have hsl := sdf_le (hlB c n W (fun i => i) p) S
              have hol := on_le (sdf (hlB c n W (fun i => i) p) S) 16
              have hf2 : (F0 && vldF c n W k S (p + 1)) = decide (on (sdf (hlB c n W (fun i => i) p) S) 16 ≤ k) := by
                show (F0 && (vldF c n W k S p && decide (on (sdf (hlB c n W (fun i => i) p) S) 16 ≤ k))) = _
                rw [← Bool.and_assoc, hf, Bool.true_and]
              rw [hf2] at ih2
              refine X_aload_n dX12_spill_84 rfl ?_
              refine X_getR dX12_spill_85 gf_X12_83 (by first | assumption | rfl) (by first | assumption | exact Nat.le_of_ble_eq_true rfl | omega) rfl (by first | assumption | rfl) ?_
              refine X_iload dX12_spill_88 rfl ?_
              first | refine X_iald dX12_spill_90 (by first | assumption | rfl) (by first | assumption | exact Nat.le_of_ble_eq_true rfl | omega) rfl (by first | decide | omega) (by decide) ?_ | refine X_ildA dX12_spill_90 rfl (by omega) ?_ | refine X_ildM dX12_spill_90 rfl (by omega) ?_ | refine X_sld dX12_spill_90 rfl (by omega) (by omega) ?_
              rw [hH p hpn]
              refine X_iload dX12_spill_91 rfl ?_
              refine X_iconst (v := (-1)) dX12_spill_93 (by decide) ?_
              refine X_ixor dX12_spill_94 ?_
              first | refine X_iandN dX12_spill_95 ?_ | refine X_iandC dX12_spill_95 ?_ | refine X_iand dX12_spill_95 ?_
              refine X_cSi dX12_spill_96 ck_X12_340 rfl rfl (by omega) (Nat.le_of_ble_eq_true rfl) (m_ones (by omega) ?_)
              refine X_iload_n dX12_spill_99 rfl ?_
              refine X_icmp_gt (tgt := 107) dX12_spill_100 (by decide) (fun b100 => ?_) (fun b100 => ?_)
              · have := (nlt (by omega) (by omega)).mp b100
                rw [if_neg (by rw [decide_eq_true_iff]; omega)] at ih2
                refine X_iconst (v := nI 0) dX12_spill_107 (by decide) ?_
                refine X_istore dX12_spill_108 rfl rfl ?_
                first | refine X_iinc1 dX12_spill_110 rfl rfl rfl ?_ | refine X_iinc dX12_spill_110 rfl rfl rfl rfl ?_
                refine X_goto (tgt := 70) dX12_spill_113 (by decide) ?_
                exact ih2
              · have : ¬ k < on (sdf (hlB c n W (fun i => i) p) S) 16 := fun q => b100 ((nlt (by omega) (by omega)).mpr q)
                rw [if_pos (by rw [decide_eq_true_iff]; omega)] at ih2
                refine X_iconst (v := nI 1) dX12_spill_103 (by decide) ?_
                refine X_goto (tgt := 108) dX12_spill_104 (by decide) ?_
                refine X_istore dX12_spill_108 rfl rfl ?_
                first | refine X_iinc1 dX12_spill_110 rfl rfl rfl ?_ | refine X_iinc dX12_spill_110 rfl rfl rfl rfl ?_
                refine X_goto (tgt := 70) dX12_spill_113 (by decide) ?_
                exact ih2
            · rw [if_neg hf]
              refine X_if_eq (tgt := 116) dX12_spill_81 (by decide) (fun b81 => ?_) (fun b81 => ?_)
              · refine out0 (fun q => hf ?_) _
                rw [Bool.and_eq_true] at q ⊢
                exact ⟨q.1, (vldF_at p).mpr (fun j hj => (vldF_at (n + 1)).mp q.2 j (by omega))⟩
              · exact absurd rfl b81
        rcases hsp : spl c n W k S with _ | bb
        · have e : spl c n W k (S + 1) = if vldF c n W k S (n + 1) = true then some S else none := by
            show (match spl c n W k S with | none => _ | some b => _) = _
            rw [hsp]
          rw [show spI none = -6 from rfl, show spR c n none = nI 0 from rfl]
          refine X_iload_n dX12_spill_44 rfl ?_
          refine X_if_lt (tgt := 60) dX12_spill_45 (by decide) (fun b45 => ?_) (fun b45 => ?_)
          · refine X_iconst (v := nI 1) dX12_spill_60 (by decide) ?_
            refine X_goto (tgt := 65) dX12_spill_61 (by decide) ?_
            refine X_istore dX12_spill_65 rfl rfl ?_
            refine X_iconst (v := nI 0) dX12_spill_67 (by decide) ?_
            refine X_istore dX12_spill_68 rfl rfl ?_
            refine inner (-6) (nI 0) true (fun h => ?_) (fun h x5 => ?_) (n + 1) 0 rfl (Nat.zero_le _)
            · rw [Bool.true_and] at h
              rw [if_neg h] at e
              exact skip _ _ (by rw [e]; rfl) (by rw [e]; rfl)
            · rw [Bool.true_and] at h
              rw [if_pos h] at e
              refine X_iload_n dX12_spill_129 rfl ?_
              refine X_if_lt (tgt := 151) dX12_spill_130 (by decide) (fun b130 => ?_) (fun b130 => ?_)
              · exact take _ _ _ e
              · exact absurd (by decide) b130
          · exact absurd (by decide) b45
        · have e : spl c n W k (S + 1) = if vldF c n W k S (n + 1) = true ∧ cK c n S < cK c n bb then some S else some bb := by
            show (match spl c n W k S with | none => _ | some b => _) = _
            rw [hsp]
          have hbS : bb < S := by
            rcases spl_is (c := c) (n := n) (W := W) (k := k) S with ⟨h1, _⟩ | ⟨b', h1, h2, _⟩
            · rw [hsp] at h1; exact absurd h1 (by simp)
            · rw [hsp] at h1
              rw [Option.some.inj h1]; exact h2
          have hlt := cK_lt (c := c) (n := n) hn (show S < 65536 by omega) hbS
          have o1 := on_le S 16
          have o2 := on_le bb 16
          have r1 := rdO_le c S n
          have r2 := rdO_le c bb n
          rw [show spI (some bb) = nI bb from rfl, show spR c n (some bb) = nI (rdO c bb n) from rfl]
          have skp : ¬ (vldF c n W k S (n + 1) = true ∧ cK c n S < cK c n bb) → X G d zX12_spill 157 [(0, vr 170), (1, vi (nI k)), (2, vi (nI bb)), (3, vi (nI (rdO c bb n))), (4, vi (nI S))] [] (NC, I2, J, layR sw) 0 0 (qi Q) := by
            intro h
            rw [if_neg h] at e
            exact skip _ _ (by rw [e]; rfl) (by rw [e]; rfl)
          refine X_iload_n dX12_spill_44 rfl ?_
          refine X_if_lt (tgt := 60) dX12_spill_45 (by decide) (fun b45 => ?_) (fun b45 => ?_)
          · exact absurd b45 (nneg (by omega))
          refine X_iload dX12_spill_48 rfl ?_
          refine X_cSi dX12_spill_50 ck_X12_340 rfl rfl (by omega) (Nat.le_of_ble_eq_true rfl) (m_ones (by omega) ?_)
          refine X_iload_n dX12_spill_53 rfl ?_
          refine X_cSi dX12_spill_54 ck_X12_340 rfl rfl (by omega) (Nat.le_of_ble_eq_true rfl) (m_ones (by omega) ?_)
          refine X_icmp_gt (tgt := 64) dX12_spill_57 (by decide) (fun b57 => ?_) (fun b57 => ?_)
          · have h57 := (nlt (by omega) (by omega)).mp b57
            refine X_iconst (v := nI 0) dX12_spill_64 (by decide) ?_
            refine X_istore dX12_spill_65 rfl rfl ?_
            refine X_iconst (v := nI 0) dX12_spill_67 (by decide) ?_
            refine X_istore dX12_spill_68 rfl rfl ?_
            refine inner (nI bb) (nI (rdO c bb n)) false (fun _ => skp (fun q => ?_)) (fun h => absurd h (by simp)) (n + 1) 0 rfl (Nat.zero_le _)
            have := hlt.mp q.2
            omega
          · have h57 : ¬ on bb 16 < on S 16 := fun q => b57 ((nlt (by omega) (by omega)).mpr q)
            refine X_iconst (v := nI 1) dX12_spill_60 (by decide) ?_
            refine X_goto (tgt := 65) dX12_spill_61 (by decide) ?_
            refine X_istore dX12_spill_65 rfl rfl ?_
            refine X_iconst (v := nI 0) dX12_spill_67 (by decide) ?_
            refine X_istore dX12_spill_68 rfl rfl ?_
            refine inner (nI bb) (nI (rdO c bb n)) true (fun h => ?_) (fun h x5 => ?_) (n + 1) 0 rfl (Nat.zero_le _)
            · rw [Bool.true_and] at h
              exact skp (fun q => h q.1)
            · rw [Bool.true_and] at h
              have tk : cK c n S < cK c n bb → X G d zX12_spill 151 [(0, vr 170), (1, vi (nI k)), (2, vi (nI bb)), (3, vi (nI (rdO c bb n))), (4, vi (nI S)), (5, x5), (6, vi (nI (rdO c S n)))] [] (NC, I2, J, layR sw) 0 0 (qi Q) := by
                intro h2
                rw [if_pos ⟨h, h2⟩] at e
                exact take _ _ _ e
              refine X_iload_n dX12_spill_129 rfl ?_
              refine X_if_lt (tgt := 151) dX12_spill_130 (by decide) (fun b130 => ?_) (fun b130 => ?_)
              · exact absurd b130 (nneg (by omega))
              refine X_iload dX12_spill_133 rfl ?_
              refine X_cSi dX12_spill_135 ck_X12_340 rfl rfl (by omega) (Nat.le_of_ble_eq_true rfl) (m_ones (by omega) ?_)
              refine X_iload_n dX12_spill_138 rfl ?_
              refine X_cSi dX12_spill_139 ck_X12_340 rfl rfl (by omega) (Nat.le_of_ble_eq_true rfl) (m_ones (by omega) ?_)
              refine X_icmp_lt (tgt := 151) dX12_spill_142 (by decide) (fun b142 => ?_) (fun b142 => ?_)
              · have := (nlt (by omega) (by omega)).mp b142
                exact tk (hlt.mpr (by omega))
              have h142 : ¬ on S 16 < on bb 16 := fun q => b142 ((nlt (by omega) (by omega)).mpr q)
              refine X_iload dX12_spill_145 rfl ?_
              refine X_iload_n dX12_spill_147 rfl ?_
              refine X_icmp_ge (tgt := 157) dX12_spill_148 (by decide) (fun b148 => ?_) (fun b148 => ?_)
              · have := (nle (by omega) (by omega)).mp b148
                refine weak (lv' := [(0, vr 170), (1, vi (nI k)), (2, vi (nI bb)), (3, vi (nI (rdO c bb n))), (4, vi (nI S))]) (fun q hq => List.mem_append_left _ hq) ?_
                refine skp (fun q => ?_)
                have := hlt.mp q.2
                omega
              · have : ¬ rdO c bb n ≤ rdO c S n := fun q => b148 ((nle (by omega) (by omega)).mpr q)
                exact tk (hlt.mpr (by omega))
    exact loop (2 ^ (4 + n)) 0 rfl (Nat.zero_le _) []
  · exact absurd b9 (by decide)
theorem M_spill {x : Int32} (hd : 6 ≤ d) (hv : VSt s) (hi : RInv I s) : Y G d zX12_spill [vr 170, vi x] (NC, I, J, layR sw) 0 0 (qi (PM s (sp_spill s x) I J sw)) := by
  have hn := hv.2.1.1.1
  have hW : dW s.2.1 < 16 := by have := hv.2.1.2.2.1; omega
  unfold sp_spill
  by_cases h : x < nI 1 ∨ nI 8 < x
  · rw [if_pos h]
    refine Y_of rfl rfl (Nat.le_of_ble_eq_true rfl) rfl ?_
    refine X_iload_n dX12_spill_0 rfl ?_
    refine X_i2l dX12_spill_1 rfl ?_
    refine X_lconst (v := 1) dX12_spill_2 (by decide) ?_
    refine X_ldc2 dX12_spill_3 kc_X12_343 ?_
    refine X_cSi dX12_spill_6 ck_X12_125 rfl rfl (by omega) (Nat.le_of_ble_eq_true rfl) (c_in_f (lo := nI 1) (hi := nI 8) (by decide) (by decide) (fun q => h.elim (fun z => absurd q.1 (Int32.not_le.mpr z)) (fun z => absurd q.2 (Int32.not_le.mpr z))) ?_)
    refine X_if_ne (tgt := 15) dX12_spill_9 (by decide) (fun b9 => ?_) (fun b9 => ?_)
    · exact absurd rfl b9
    refine X_bipush (v := (-2)) dX12_spill_12 (by decide) ?_
    exact X_iret dX12_spill_14 rfl ⟨_, rfl, PM_same hi⟩
  · rw [if_neg h]
    obtain ⟨a, a1, a2, rfl⟩ := in1 (by decide) (fun q => h (Or.inl q)) (Int32.not_lt.mp (fun q => h (Or.inr q)))
    rw [nI_clamp (by omega)]
    exact m_spill hd hi.2.1.rc hv.2.1.1 hi.2.1.2.2.2.2.1 hW a1 a2 (fun I' f => PM_fm hi _ [] f (by decide) (by decide))
end RS
