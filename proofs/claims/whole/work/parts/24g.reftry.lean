/-! shortest: the reference's search -/
section RY
variable {G : GG} {d : Nat} {sw : Bool} {I : Nat → Nat → Int32} {J : Nat → Nat → Int64} {s : SS} {W n : Nat} {c : Nat → Nat → Nat}
set_option maxRecDepth 20000 in
set_option maxHeartbeats 2000000 in
theorem m_tryAll {Q : Int32 → Mm → Prop} {st : Nat} {du : Nat → Nat} (hd : 4 ≤ d) (hst : st ≤ 3) (hW : W < 16) (hw : I 170 12 = nI W) (h0 : ∀ v, v < 64 → I 202 v = nI v) (hdu : ∀ v, v < 64 → I 201 v = nI (du v)) (hdl : ∀ v, v < 64 → du v < 64) (hS : ∀ I' e, tryE W du st = some e → FrM [202, 203] [] I I' → (∀ v, v < 64 → I' 202 v = nI v) → (∀ j, j < st → I' 203 j = nI (dig st e j)) → Q (nI 1) (NC, I', J, layR sw)) (hF : ∀ I', tryE W du st = none → FrM [202, 203] [] I I' → (∀ v, v < 64 → I' 202 v = nI v) → Q (nI 0) (NC, I', J, layR sw)) : Y G d zX12_tryAll [vr 170, vi (nI st)] (NC, I, J, layR sw) 0 0 (qi Q) := by
  have main : ∀ (z e fr : Nat) (I' : Nat → Nat → Int32), z = 52 ^ st - e → e < 52 ^ st → fr ≤ st → FrM [202, 203] [] I I' → (∀ j, j < st → I' 203 j = nI (dig st e j)) → (∀ j, j ≤ fr → ∀ v, v < 64 → I' 202 (64 * j + v) = nI (lay (dig st e) j v)) → (∀ q, q < e → okB W du (dig st q) st 64 = false) → ∀ L2, X G d zX12_tryAll 24 ([(0, vr 170), (1, vi (nI st)), (2, vi (nI fr)), (3, vi (nI 1))] ++ L2) [] (NC, I', J, layR sw) 0 0 (qi Q) := by
    intro z
    induction z with
    | zero =>
      intro e fr I' hz he
      omega
    | succ z ih =>
      intro e fr I' hz he hfr f hch hrow hno L2
      refine weak (lv' := [(0, vr 170), (1, vi (nI st)), (2, vi (nI fr)), (3, vi (nI 1))]) (fun q hq => List.mem_append_left _ hq) ?_
      refine X_iload_n dX12_tryAll_24 rfl ?_
      refine X_if_eq (tgt := 137) dX12_tryAll_25 (by decide) (fun b25 => ?_) (fun b25 => ?_)
      · exact absurd b25 (by decide)
      -- behind the laying
      have after : ∀ (I2 : Nat → Nat → Int32) (x4 : Int32), FrM [202, 203] [] I I2 → (∀ j, j < st → I2 203 j = nI (dig st e j)) → (∀ j, j ≤ st → ∀ v, v < 64 → I2 202 (64 * j + v) = nI (lay (dig st e) j v)) → X G d zX12_tryAll 59 [(0, vr 170), (1, vi (nI st)), (2, vi (nI fr)), (3, vi (nI 1)), (4, vi x4)] [] (NC, I2, J, layR sw) 0 0 (qi Q) := by
        intro I2 x4 f2 hch2 hrow2
        have hr0 : ∀ v, v < 64 → I2 202 v = nI v := fun v hv => by
          have := hrow2 0 (Nat.zero_le _) v hv
          rw [show 64 * 0 + v = v by omega] at this
          exact this
        refine X_aload_n dX12_tryAll_59 rfl ?_
        refine X_iload_n dX12_tryAll_60 rfl ?_
        refine X_cVi dX12_tryAll_61 ck_X12_407 rfl rfl (by first | assumption | rfl) (by first | assumption | exact Nat.le_of_ble_eq_true rfl | omega) (by omega) (Nat.le_of_ble_eq_true rfl) (m_isDue hst hW (by rw [f2.2 12 (by simp)]; exact hw) (hrow2 st (Nat.le_refl _)) (fun v hv => by rw [f2.1 201 (by decide) (by decide)]; exact hdu v hv) hdl ?_)
        cases hok : okB W du (dig st e) st 64
        · rw [if_neg (by decide)]
          have hno2 : ∀ q, q < e + 1 → okB W du (dig st q) st 64 = false := fun q hq => by
            by_cases y : q = e
            · rw [y]; exact hok
            · exact hno q (by omega)
          refine X_if_eq (tgt := 69) dX12_tryAll_64 (by decide) (fun b64 => ?_) (fun b64 => ?_)
          · -- to the next
            have inc : ∀ (m : Nat) (I3 : Nat → Nat → Int32), m ≤ st → FrM [203] [] I2 I3 → (∀ j, j < m → I3 203 j = nI (dig st e j)) → (∀ j, m ≤ j → j < st → I3 203 j = nI 0 ∧ dig st e j = 51) → X G d zX12_tryAll 74 [(0, vr 170), (1, vi (nI st)), (2, vi (nI fr)), (3, vi (nI 1)), (4, vi (nI m + Int32.ofInt (-1)))] [] (NC, I3, J, layR sw) 0 0 (qi Q) := by
              intro m
              induction m with
              | zero =>
                intro I3 hm f3 hlo hhi
                have hlast := dig_last hst he (fun i hi => (hhi i (Nat.zero_le i) hi).2)
                have f23 : FrM [202, 203] [] I I3 := f2.tr (f3.sub (by simp) (by simp))
                have hnone : tryE W du st = none := ffR_none _ (fun q hq => hno2 q (by omega))
                refine X_iload dX12_tryAll_74 rfl ?_
                refine X_if_lt (tgt := 105) dX12_tryAll_76 (by decide) (fun b76 => ?_) (fun b76 => ?_)
                · refine X_iload dX12_tryAll_105 rfl ?_
                  refine X_if_lt (tgt := 114) dX12_tryAll_107 (by decide) (fun b107 => ?_) (fun b107 => ?_)
                  · refine X_iconst (v := nI 0) dX12_tryAll_114 (by decide) ?_
                    refine X_istore_n dX12_tryAll_115 rfl rfl ?_
                    refine X_iload_n dX12_tryAll_116 rfl ?_
                    refine X_if_eq (tgt := 134) dX12_tryAll_117 (by decide) (fun b117 => ?_) (fun b117 => ?_)
                    · refine X_goto (tgt := 24) dX12_tryAll_134 (by decide) ?_
                      refine X_iload_n dX12_tryAll_24 rfl ?_
                      refine X_if_eq (tgt := 137) dX12_tryAll_25 (by decide) (fun b25 => ?_) (fun b25 => ?_)
                      · refine X_iconst (v := nI 0) dX12_tryAll_137 (by decide) ?_
                        exact X_zret dX12_tryAll_138 rfl (by first | rfl | (simp; done) | decide) ⟨_, rfl, hF I3 hnone f23 (fun v hv => by rw [f3.1 202 (by decide) (by decide)]; exact hr0 v hv)⟩
                      · exact absurd rfl b25
                    · exact absurd rfl b117
                  · exact absurd pm_0 b107
                · exact absurd pm_0 b76
              | succ m ihm =>
                intro I3 hm f3 hlo hhi
                have hms : m < st := by omega
                have hdm := dig_52 st e m hms
                rw [pm_s]
                refine X_iload dX12_tryAll_74 rfl ?_
                refine X_if_lt (tgt := 105) dX12_tryAll_76 (by decide) (fun b76 => ?_) (fun b76 => ?_)
                · exact absurd b76 (nneg (by omega))
                refine X_aload_n dX12_tryAll_79 rfl ?_
                refine X_getR dX12_tryAll_80 gf_X12_107 (by first | assumption | rfl) (by first | assumption | exact Nat.le_of_ble_eq_true rfl | omega) rfl (by first | assumption | rfl) ?_
                refine X_iload dX12_tryAll_83 rfl ?_
                first | refine X_iald dX12_tryAll_85 (by first | assumption | rfl) (by first | assumption | exact Nat.le_of_ble_eq_true rfl | omega) rfl (by first | decide | omega) (by decide) ?_ | refine X_ildA dX12_tryAll_85 rfl (by omega) ?_ | refine X_ildM dX12_tryAll_85 rfl (by omega) ?_ | refine X_sld dX12_tryAll_85 rfl (by omega) (by omega) ?_
                rw [hlo m (Nat.lt_succ_self m)]
                refine X_bipush (v := nI 51) dX12_tryAll_86 (by decide) ?_
                by_cases h51 : dig st e m = 51
                · refine X_icmp_ne (tgt := 105) dX12_tryAll_88 (by decide) (fun b88 => ?_) (fun b88 => ?_)
                  · exact absurd (by rw [h51]) b88
                  refine X_aload_n dX12_tryAll_91 rfl ?_
                  refine X_getR dX12_tryAll_92 gf_X12_107 (by first | assumption | rfl) (by first | assumption | exact Nat.le_of_ble_eq_true rfl | omega) rfl (by first | assumption | rfl) ?_
                  refine X_iload dX12_tryAll_95 rfl ?_
                  refine X_iconst (v := nI 0) dX12_tryAll_97 (by decide) ?_
                  refine X_iast dX12_tryAll_98 (by first | assumption | rfl) (by first | assumption | exact Nat.le_of_ble_eq_true rfl | omega) rfl (by first | decide | omega) (by decide) ?_
                  first | refine X_iincd dX12_tryAll_99 rfl (by omega) rfl rfl ?_ | refine X_iinc dX12_tryAll_99 rfl rfl rfl rfl ?_
                  refine X_goto (tgt := 74) dX12_tryAll_102 (by decide) ?_
                  refine ihm _ (by omega) (f3.tr (FrM.c (by simp) (by decide))) (fun j hj => ?_) (fun j a b => ?_)
                  · rw [sr_eq, up_ne (by omega)]; exact hlo j (by omega)
                  · rw [sr_eq]
                    by_cases y : j = m
                    · rw [y, up_eq]; exact ⟨rfl, h51⟩
                    · rw [up_ne y]; exact hhi j (by omega) b
                · refine X_icmp_ne (tgt := 105) dX12_tryAll_88 (by decide) (fun b88 => ?_) (fun b88 => ?_)
                  · obtain ⟨i1, i2⟩ := dig_inc hst he hms h51 (fun i a b => (hhi i (by omega) b).2)
                    refine X_iload dX12_tryAll_105 rfl ?_
                    refine X_if_lt (tgt := 114) dX12_tryAll_107 (by decide) (fun b107 => ?_) (fun b107 => ?_)
                    · exact absurd b107 (nneg (by omega))
                    refine X_iconst (v := nI 1) dX12_tryAll_110 (by decide) ?_
                    refine X_goto (tgt := 115) dX12_tryAll_111 (by decide) ?_
                    refine X_istore_n dX12_tryAll_115 rfl rfl ?_
                    refine X_iload_n dX12_tryAll_116 rfl ?_
                    refine X_if_eq (tgt := 134) dX12_tryAll_117 (by decide) (fun b117 => ?_) (fun b117 => ?_)
                    · exact absurd b117 (by decide)
                    refine X_aload_n dX12_tryAll_120 rfl ?_
                    refine X_getR dX12_tryAll_121 gf_X12_107 (by first | assumption | rfl) (by first | assumption | exact Nat.le_of_ble_eq_true rfl | omega) rfl (by first | assumption | rfl) ?_
                    refine X_iload dX12_tryAll_124 rfl ?_
                    refine X_dup2 dX12_tryAll_126 rfl rfl ?_
                    first | refine X_iald dX12_tryAll_127 (by first | assumption | rfl) (by first | assumption | exact Nat.le_of_ble_eq_true rfl | omega) rfl (by first | decide | omega) (by decide) ?_ | refine X_ildA dX12_tryAll_127 rfl (by omega) ?_ | refine X_ildM dX12_tryAll_127 rfl (by omega) ?_ | refine X_sld dX12_tryAll_127 rfl (by omega) (by omega) ?_
                    rw [hlo m (Nat.lt_succ_self m)]
                    refine X_iconst (v := nI 1) dX12_tryAll_128 (by decide) ?_
                    first | refine X_iaddN dX12_tryAll_129 ?_ | refine X_iadd dX12_tryAll_129 ?_
                    refine X_iast dX12_tryAll_130 (by first | assumption | rfl) (by first | assumption | exact Nat.le_of_ble_eq_true rfl | omega) rfl (by first | decide | omega) (by decide) ?_
                    refine X_iload dX12_tryAll_131 rfl ?_
                    refine X_istore_n dX12_tryAll_133 rfl rfl ?_
                    refine X_goto (tgt := 24) dX12_tryAll_134 (by decide) ?_
                    have f23 : FrM [202, 203] [] I I3 := f2.tr (f3.sub (by simp) (by simp))
                    refine ih (e + 1) m _ (by omega) i1 (by omega) (f23.tr (FrM.c (by simp) (by decide))) (fun j hj => ?_) (fun j hj v hv => ?_) hno2 [(4, vi (nI m))]
                    · rw [sr_eq, i2 j hj]
                      by_cases y : j = m
                      · rw [y, up_eq, if_neg (Nat.lt_irrefl m), if_pos rfl]
                      · rw [up_ne y]
                        by_cases y2 : j < m
                        · rw [if_pos y2]; exact hlo j (by omega)
                        · rw [if_neg y2, if_neg y]; exact (hhi j (by omega) hj).1
                    · rw [sr_ne (by decide), f3.1 202 (by decide) (by decide), hrow2 j (by omega) v hv, lay_cg j (fun i hi => ?_)]
                      rw [i2 i (by omega), if_pos (by omega)]
                  · exact absurd ((neq (by omega) (by omega)).mp b88) h51
            refine X_iload_n dX12_tryAll_69 rfl ?_
            refine X_iconst (v := nI 1) dX12_tryAll_70 (by decide) ?_
            refine X_isub dX12_tryAll_71 ?_
            rw [sub_pm]
            refine X_istore dX12_tryAll_72 rfl rfl ?_
            exact inc st I2 (Nat.le_refl _) FrM.rf hch2 (fun j a b => absurd b (by omega))
          · exact absurd rfl b64
        · rw [if_pos rfl]
          refine X_if_eq (tgt := 69) dX12_tryAll_64 (by decide) (fun b64 => ?_) (fun b64 => ?_)
          · exact absurd b64 (by decide)
          refine X_iconst (v := nI 1) dX12_tryAll_67 (by decide) ?_
          exact X_zret dX12_tryAll_68 rfl (by first | rfl | (simp; done) | decide) ⟨_, rfl, hS I2 e (ffR_some (p := fun e => okB W du (dig st e) st 64) hok hno _ he) f2 hr0 hch2⟩
      have layl : ∀ (y k : Nat) (I2 : Nat → Nat → Int32), y = st - k → fr ≤ k → k ≤ st → FrM [202, 203] [] I I2 → (∀ j, j < st → I2 203 j = nI (dig st e j)) → (∀ j, j ≤ k → ∀ v, v < 64 → I2 202 (64 * j + v) = nI (lay (dig st e) j v)) → X G d zX12_tryAll 31 [(0, vr 170), (1, vi (nI st)), (2, vi (nI fr)), (3, vi (nI 1)), (4, vi (nI k))] [] (NC, I2, J, layR sw) 0 0 (qi Q) := by
        intro y
        induction y with
        | zero =>
          intro k I2 hy hk1 hk2 f2 hch2 hrow2
          obtain rfl : k = st := by omega
          refine X_iload dX12_tryAll_31 rfl ?_
          refine X_iload_n dX12_tryAll_33 rfl ?_
          refine X_icmp_ge (tgt := 59) dX12_tryAll_34 (by decide) (fun b34 => ?_) (fun b34 => ?_)
          · exact after I2 _ f2 hch2 hrow2
          · exact absurd (Int32.le_refl _) b34
        | succ y ihy =>
          intro k I2 hy hk1 hk2 f2 hch2 hrow2
          have hks : k < st := by omega
          have hdk := dig_52 st e k hks
          refine X_iload dX12_tryAll_31 rfl ?_
          refine X_iload_n dX12_tryAll_33 rfl ?_
          refine X_icmp_ge (tgt := 59) dX12_tryAll_34 (by decide) (fun b34 => ?_) (fun b34 => ?_)
          · exact absurd ((nle (by omega) (by omega)).mp b34) (by omega)
          refine X_aload_n dX12_tryAll_37 rfl ?_
          refine X_iload dX12_tryAll_38 rfl ?_
          refine X_aload_n dX12_tryAll_40 rfl ?_
          refine X_getR dX12_tryAll_41 gf_X12_107 (by first | assumption | rfl) (by first | assumption | exact Nat.le_of_ble_eq_true rfl | omega) rfl (by first | assumption | rfl) ?_
          refine X_iload dX12_tryAll_44 rfl ?_
          first | refine X_iald dX12_tryAll_46 (by first | assumption | rfl) (by first | assumption | exact Nat.le_of_ble_eq_true rfl | omega) rfl (by first | decide | omega) (by decide) ?_ | refine X_ildA dX12_tryAll_46 rfl (by omega) ?_ | refine X_ildM dX12_tryAll_46 rfl (by omega) ?_ | refine X_sld dX12_tryAll_46 rfl (by omega) (by omega) ?_
          rw [hch2 k hks]
          refine X_cSi dX12_tryAll_47 ck_X12_401 rfl rfl (by omega) (Nat.le_of_ble_eq_true rfl) (m_tried hdk ?_)
          refine X_cVv dX12_tryAll_50 ck_X12_404 rfl rfl (by first | assumption | rfl) (by first | assumption | exact Nat.le_of_ble_eq_true rfl | omega) (by omega) (Nat.le_of_ble_eq_true rfl) (m_layStep (by omega) (show k < 3 by omega) hdk (hrow2 k (Nat.le_refl k)) (fun v hv => lay_lt hv k) (fun I3 f3 e1 e2 => ?_))
          first | refine X_iinc1 dX12_tryAll_53 rfl rfl rfl ?_ | refine X_iinc dX12_tryAll_53 rfl rfl rfl rfl ?_
          refine X_goto (tgt := 31) dX12_tryAll_56 (by decide) ?_
          refine ihy (k + 1) I3 (by omega) (by omega) (by omega) (f2.tr (f3.sub (by simp) (by simp))) (fun j hj => by rw [f3.1 203 (by decide) (by decide)]; exact hch2 j hj) (fun j hj v hv => ?_)
          by_cases q : j = k + 1
          · subst q
            rw [show 64 * (k + 1) + v = 64 * k + 64 + v by omega]
            exact e2 v hv
          · rw [e1 _ (by omega)]; exact hrow2 j (by omega) v hv
      refine X_iload_n dX12_tryAll_28 rfl ?_
      refine X_istore dX12_tryAll_29 rfl rfl ?_
      exact layl (st - fr) fr I' rfl (Nat.le_refl _) hfr f hch hrow
  have zero : ∀ (z j : Nat) (I' : Nat → Nat → Int32), z = 3 - j → j ≤ 3 → FrM [203] [] I I' → (∀ i, i < j → I' 203 i = nI 0) → X G d zX12_tryAll 2 [(0, vr 170), (1, vi (nI st)), (2, vi (nI j))] [] (NC, I', J, layR sw) 0 0 (qi Q) := by
    intro z
    induction z with
    | zero =>
      intro j I' hz hj f h
      obtain rfl : j = 3 := by omega
      refine X_iload_n dX12_tryAll_2 rfl ?_
      refine X_iconst (v := nI 3) dX12_tryAll_3 (by decide) ?_
      refine X_icmp_ge (tgt := 20) dX12_tryAll_4 (by decide) (fun b => ?_) (fun b => ?_)
      · refine X_iconst (v := nI 0) dX12_tryAll_20 (by decide) ?_
        refine X_istore_n dX12_tryAll_21 rfl rfl ?_
        refine X_iconst (v := nI 1) dX12_tryAll_22 (by decide) ?_
        refine X_istore_n dX12_tryAll_23 rfl rfl ?_
        refine main (52 ^ st) 0 0 I' rfl (by rcases (by omega : st = 0 ∨ st = 1 ∨ st = 2 ∨ st = 3) with rfl | rfl | rfl | rfl <;> decide) (Nat.zero_le _) (f.sub (by simp) (by simp)) (fun i hi => ?_) (fun i hi v hv => ?_) (fun q hq => absurd hq (Nat.not_lt_zero q)) []
        · rw [h i (by omega)]
          show _ = nI (0 / 52 ^ (st - 1 - i) % 52)
          rw [Nat.zero_div]
        · obtain rfl : i = 0 := by omega
          rw [show 64 * 0 + v = v by omega, f.1 202 (by decide) (by decide)]
          exact h0 v hv
      · exact absurd (by decide) b
    | succ z ih =>
      intro j I' hz hj f h
      refine X_iload_n dX12_tryAll_2 rfl ?_
      refine X_iconst (v := nI 3) dX12_tryAll_3 (by decide) ?_
      refine X_icmp_ge (tgt := 20) dX12_tryAll_4 (by decide) (fun b => ?_) (fun b => ?_)
      · exact absurd ((nle (by omega) (by omega)).mp b) (by omega)
      refine X_aload_n dX12_tryAll_7 rfl ?_
      refine X_getR dX12_tryAll_8 gf_X12_107 (by first | assumption | rfl) (by first | assumption | exact Nat.le_of_ble_eq_true rfl | omega) rfl (by first | assumption | rfl) ?_
      refine X_iload_n dX12_tryAll_11 rfl ?_
      refine X_iconst (v := nI 0) dX12_tryAll_12 (by decide) ?_
      refine X_iast dX12_tryAll_13 (by first | assumption | rfl) (by first | assumption | exact Nat.le_of_ble_eq_true rfl | omega) rfl (by first | decide | omega) (by decide) ?_
      first | refine X_iinc1 dX12_tryAll_14 rfl rfl rfl ?_ | refine X_iinc dX12_tryAll_14 rfl rfl rfl rfl ?_
      refine X_goto (tgt := 2) dX12_tryAll_17 (by decide) ?_
      refine ih (j + 1) _ (by omega) (by omega) (f.tr (FrM.c (by simp) (by decide))) (fun i hi => ?_)
      rw [sr_eq]
      by_cases y : i = j
      · rw [y, up_eq]
      · rw [up_ne y]; exact h i (by omega)
  refine Y_of rfl rfl (Nat.le_of_ble_eq_true rfl) rfl ?_
  refine X_iconst (v := nI 0) dX12_tryAll_0 (by decide) ?_
  refine X_istore_n dX12_tryAll_1 rfl rfl ?_
  exact zero 3 0 I rfl (Nat.zero_le _) FrM.rf (fun i h => absurd h (Nat.not_lt_zero i))
set_option maxRecDepth 20000 in
theorem m_isSmall {Q : Int32 → Mm → Prop} (hc : RC I n c) (hv : VC n c) (hw : I 170 12 = nI W) (hW : W < 16) (hQ : Q (nI (if W ||| nmd c n < 4 then 1 else 0)) (NC, I, J, layR sw)) : Y G d zX12_isSmall [vr 170] (NC, I, J, layR sw) 0 0 (qi Q) := by
  have hn := hv.1
  have loop : ∀ (m i : Nat), m = n - i → i ≤ n → X G d zX12_isSmall 16 [(0, vr 170), (1, vi (nI (if W ||| nmd c i < 4 then 1 else 0))), (2, vi (nI i))] [] (NC, I, J, layR sw) 0 0 (qi Q) := by
    intro m
    induction m with
    | zero =>
      intro i hm hi
      obtain rfl : i = n := by omega
      refine X_iload_n dX12_isSmall_16 rfl ?_
      refine X_aload_n dX12_isSmall_17 rfl ?_
      refine X_getI dX12_isSmall_18 gf_X12_181 (by first | assumption | rfl) (by first | assumption | exact Nat.le_of_ble_eq_true rfl | omega) rfl ?_
      rw [hc.1]
      refine X_icmp_ge (tgt := 92) dX12_isSmall_21 (by decide) (fun b => ?_) (fun b => ?_)
      · refine X_iload_n dX12_isSmall_92 rfl ?_
        by_cases h : W ||| nmd c i < 4
        · rw [if_pos h] at hQ ⊢
          exact X_zret dX12_isSmall_93 rfl (by first | rfl | (simp; done) | decide) ⟨_, rfl, hQ⟩
        · rw [if_neg h] at hQ ⊢
          exact X_zret dX12_isSmall_93 rfl (by first | rfl | (simp; done) | decide) ⟨_, rfl, hQ⟩
      · exact absurd (Int32.le_refl _) b
    | succ m ih =>
      intro i hm hi
      have hin : i < n := by omega
      obtain ⟨c0, c1, c2, c3⟩ := hc.2 i hin
      have hvs := hv.2 i hin
      have ht := hvs.1
      have ih := ih (i + 1) (by omega) (by omega)
      have e : (W ||| nmd c (i + 1) < 4) ↔ (W ||| nmd c i < 4 ∧ ¬ (c i 2 = 2 ∨ c i 2 = 3) ∧ ¬ (c i 3 = 2 ∨ c i 3 = 3) ∧ c i 0 < 2) := by
        show W ||| (nmd c i ||| ((rb (c i 2) ||| rb (c i 3)) ||| 2 ^ c i 0)) < 4 ↔ _
        rw [or4, or4, or4, or4, or4, rb4, rb4, pw4 ht]
        constructor
        · rintro ⟨a, b, ⟨x, y⟩, z⟩
          exact ⟨⟨a, b⟩, x, y, z⟩
        · rintro ⟨⟨a, b⟩, x, y, z⟩
          exact ⟨a, b, ⟨x, y⟩, z⟩
      have no : ¬ (W ||| nmd c (i + 1) < 4) → ∀ x1, X G d zX12_isSmall 84 [(0, vr 170), (1, vi x1), (2, vi (nI i))] [] (NC, I, J, layR sw) 0 0 (qi Q) := by
        intro h x1
        rw [if_neg h] at ih
        refine X_iconst (v := nI 0) dX12_isSmall_84 (by decide) ?_
        refine X_istore_n dX12_isSmall_85 rfl rfl ?_
        first | refine X_iinc1 dX12_isSmall_86 rfl rfl rfl ?_ | refine X_iinc dX12_isSmall_86 rfl rfl rfl rfl ?_
        refine X_goto (tgt := 16) dX12_isSmall_89 (by decide) ?_
        exact ih
      have opc : ∀ v, opd v ∨ v = 99 → ((enc v < nI 2 → ¬ (v = 2 ∨ v = 3)) ∧ (¬ enc v < nI 2 → (enc v < nI 10 ↔ (v = 2 ∨ v = 3)))) := by
        intro v hv
        unfold opd at hv
        by_cases h9 : v = 99
        · rw [h9, enc_99]
          exact ⟨fun _ => by omega, fun z => absurd (by decide) z⟩
        · rw [enc_n h9, nlt (by omega) (by omega), nlt (by omega) (by omega)]
          omega
      obtain ⟨p1, p2⟩ := opc (c i 2) (VS_o2 hvs)
      obtain ⟨q1, q2⟩ := opc (c i 3) (VS_o3 hvs)
      refine X_iload_n dX12_isSmall_16 rfl ?_
      refine X_aload_n dX12_isSmall_17 rfl ?_
      refine X_getI dX12_isSmall_18 gf_X12_181 (by first | assumption | rfl) (by first | assumption | exact Nat.le_of_ble_eq_true rfl | omega) rfl ?_
      rw [hc.1]
      refine X_icmp_ge (tgt := 92) dX12_isSmall_21 (by decide) (fun b => ?_) (fun b => ?_)
      · exact absurd ((nle (by omega) (by omega)).mp b) (by omega)
      refine X_iload_n dX12_isSmall_24 rfl ?_
      by_cases h : W ||| nmd c i < 4
      · rw [if_pos h]
        refine X_if_eq (tgt := 84) dX12_isSmall_25 (by decide) (fun b25 => ?_) (fun b25 => ?_)
        · exact absurd b25 (by decide)
        refine X_aload_n dX12_isSmall_28 rfl ?_
        refine X_getR dX12_isSmall_29 gf_X12_13 (by first | assumption | rfl) (by first | assumption | exact Nat.le_of_ble_eq_true rfl | omega) rfl (by first | assumption | rfl) ?_
        refine X_iload_n dX12_isSmall_32 rfl ?_
        first | refine X_iald dX12_isSmall_33 (by first | assumption | rfl) (by first | assumption | exact Nat.le_of_ble_eq_true rfl | omega) rfl (by first | decide | omega) (by decide) ?_ | refine X_ildA dX12_isSmall_33 rfl (by omega) ?_ | refine X_ildM dX12_isSmall_33 rfl (by omega) ?_ | refine X_sld dX12_isSmall_33 rfl (by omega) (by omega) ?_
        rw [hc.t hv hin]
        refine X_iconst (v := nI 2) dX12_isSmall_34 (by decide) ?_
        by_cases h0 : c i 0 < 2
        · refine X_icmp_ge (tgt := 84) dX12_isSmall_35 (by decide) (fun b35 => ?_) (fun b35 => ?_)
          · exact absurd ((nle (by omega) (by omega)).mp b35) (by omega)
          have two : ¬ (c i 2 = 2 ∨ c i 2 = 3) → X G d zX12_isSmall 59 [(0, vr 170), (1, vi (nI 1)), (2, vi (nI i))] [] (NC, I, J, layR sw) 0 0 (qi Q) := by
            intro h2
            have yes : ¬ (c i 3 = 2 ∨ c i 3 = 3) → X G d zX12_isSmall 80 [(0, vr 170), (1, vi (nI 1)), (2, vi (nI i))] [] (NC, I, J, layR sw) 0 0 (qi Q) := by
              intro h3
              rw [if_pos (e.mpr ⟨h, h2, h3, h0⟩)] at ih
              refine X_iconst (v := nI 1) dX12_isSmall_80 (by decide) ?_
              refine X_goto (tgt := 85) dX12_isSmall_81 (by decide) ?_
              refine X_istore_n dX12_isSmall_85 rfl rfl ?_
              first | refine X_iinc1 dX12_isSmall_86 rfl rfl rfl ?_ | refine X_iinc dX12_isSmall_86 rfl rfl rfl rfl ?_
              refine X_goto (tgt := 16) dX12_isSmall_89 (by decide) ?_
              exact ih
            refine X_aload_n dX12_isSmall_59 rfl ?_
            refine X_getR dX12_isSmall_60 gf_X12_22 (by first | assumption | rfl) (by first | assumption | exact Nat.le_of_ble_eq_true rfl | omega) rfl (by first | assumption | rfl) ?_
            refine X_iload_n dX12_isSmall_63 rfl ?_
            first | refine X_iald dX12_isSmall_64 (by first | assumption | rfl) (by first | assumption | exact Nat.le_of_ble_eq_true rfl | omega) rfl (by first | decide | omega) (by decide) ?_ | refine X_ildA dX12_isSmall_64 rfl (by omega) ?_ | refine X_ildM dX12_isSmall_64 rfl (by omega) ?_ | refine X_sld dX12_isSmall_64 rfl (by omega) (by omega) ?_
            rw [c3]
            refine X_iconst (v := nI 2) dX12_isSmall_65 (by decide) ?_
            refine X_icmp_lt (tgt := 80) dX12_isSmall_66 (by decide) (fun b66 => ?_) (fun b66 => ?_)
            · exact yes (q1 b66)
            refine X_aload_n dX12_isSmall_69 rfl ?_
            refine X_getR dX12_isSmall_70 gf_X12_22 (by first | assumption | rfl) (by first | assumption | exact Nat.le_of_ble_eq_true rfl | omega) rfl (by first | assumption | rfl) ?_
            refine X_iload_n dX12_isSmall_73 rfl ?_
            first | refine X_iald dX12_isSmall_74 (by first | assumption | rfl) (by first | assumption | exact Nat.le_of_ble_eq_true rfl | omega) rfl (by first | decide | omega) (by decide) ?_ | refine X_ildA dX12_isSmall_74 rfl (by omega) ?_ | refine X_ildM dX12_isSmall_74 rfl (by omega) ?_ | refine X_sld dX12_isSmall_74 rfl (by omega) (by omega) ?_
            rw [c3]
            refine X_bipush (v := nI 10) dX12_isSmall_75 (by decide) ?_
            refine X_icmp_lt (tgt := 84) dX12_isSmall_77 (by decide) (fun b77 => ?_) (fun b77 => ?_)
            · exact no (fun z => (e.mp z).2.2.1 ((q2 b66).mp b77)) _
            · exact yes (fun z => b77 ((q2 b66).mpr z))
          refine X_aload_n dX12_isSmall_38 rfl ?_
          refine X_getR dX12_isSmall_39 gf_X12_19 (by first | assumption | rfl) (by first | assumption | exact Nat.le_of_ble_eq_true rfl | omega) rfl (by first | assumption | rfl) ?_
          refine X_iload_n dX12_isSmall_42 rfl ?_
          first | refine X_iald dX12_isSmall_43 (by first | assumption | rfl) (by first | assumption | exact Nat.le_of_ble_eq_true rfl | omega) rfl (by first | decide | omega) (by decide) ?_ | refine X_ildA dX12_isSmall_43 rfl (by omega) ?_ | refine X_ildM dX12_isSmall_43 rfl (by omega) ?_ | refine X_sld dX12_isSmall_43 rfl (by omega) (by omega) ?_
          rw [c2]
          refine X_iconst (v := nI 2) dX12_isSmall_44 (by decide) ?_
          refine X_icmp_lt (tgt := 59) dX12_isSmall_45 (by decide) (fun b45 => ?_) (fun b45 => ?_)
          · exact two (p1 b45)
          refine X_aload_n dX12_isSmall_48 rfl ?_
          refine X_getR dX12_isSmall_49 gf_X12_19 (by first | assumption | rfl) (by first | assumption | exact Nat.le_of_ble_eq_true rfl | omega) rfl (by first | assumption | rfl) ?_
          refine X_iload_n dX12_isSmall_52 rfl ?_
          first | refine X_iald dX12_isSmall_53 (by first | assumption | rfl) (by first | assumption | exact Nat.le_of_ble_eq_true rfl | omega) rfl (by first | decide | omega) (by decide) ?_ | refine X_ildA dX12_isSmall_53 rfl (by omega) ?_ | refine X_ildM dX12_isSmall_53 rfl (by omega) ?_ | refine X_sld dX12_isSmall_53 rfl (by omega) (by omega) ?_
          rw [c2]
          refine X_bipush (v := nI 10) dX12_isSmall_54 (by decide) ?_
          refine X_icmp_lt (tgt := 84) dX12_isSmall_56 (by decide) (fun b56 => ?_) (fun b56 => ?_)
          · exact no (fun z => (e.mp z).2.1 ((p2 b45).mp b56)) _
          · exact two (fun z => b56 ((p2 b45).mpr z))
        · refine X_icmp_ge (tgt := 84) dX12_isSmall_35 (by decide) (fun b35 => ?_) (fun b35 => ?_)
          · exact no (fun z => h0 (e.mp z).2.2.2) _
          · exact absurd ((nle (by omega) (by omega)).mpr (by omega)) b35
      · rw [if_neg h]
        refine X_if_eq (tgt := 84) dX12_isSmall_25 (by decide) (fun b25 => ?_) (fun b25 => ?_)
        · exact no (fun z => h (e.mp z).1) _
        · exact absurd rfl b25
  have l0 := loop n 0 rfl (Nat.zero_le _)
  rw [show W ||| nmd c 0 = W from Nat.or_zero W] at l0
  refine Y_of rfl rfl (Nat.le_of_ble_eq_true rfl) rfl ?_
  refine X_aload_n dX12_isSmall_0 rfl ?_
  refine X_getI dX12_isSmall_1 gf_X12_116 (by first | assumption | rfl) (by first | assumption | exact Nat.le_of_ble_eq_true rfl | omega) rfl ?_
  rw [hw]
  refine X_iconst (v := nI 4) dX12_isSmall_4 (by decide) ?_
  by_cases h : W < 4
  · rw [if_pos h] at l0
    refine X_icmp_ge (tgt := 12) dX12_isSmall_5 (by decide) (fun b5 => ?_) (fun b5 => ?_)
    · exact absurd ((nle (by omega) (by omega)).mp b5) (by omega)
    refine X_iconst (v := nI 1) dX12_isSmall_8 (by decide) ?_
    refine X_goto (tgt := 13) dX12_isSmall_9 (by decide) ?_
    refine X_istore_n dX12_isSmall_13 rfl rfl ?_
    refine X_iconst (v := nI 0) dX12_isSmall_14 (by decide) ?_
    refine X_istore_n dX12_isSmall_15 rfl rfl ?_
    exact l0
  · rw [if_neg h] at l0
    refine X_icmp_ge (tgt := 12) dX12_isSmall_5 (by decide) (fun b5 => ?_) (fun b5 => ?_)
    · refine X_iconst (v := nI 0) dX12_isSmall_12 (by decide) ?_
      refine X_istore_n dX12_isSmall_13 rfl rfl ?_
      refine X_iconst (v := nI 0) dX12_isSmall_14 (by decide) ?_
      refine X_istore_n dX12_isSmall_15 rfl rfl ?_
      exact l0
    · exact absurd ((nle (by omega) (by omega)).mpr (by omega)) b5
set_option maxRecDepth 20000 in
set_option maxHeartbeats 1000000 in
theorem M_shortest {x : Int32} (hd : 5 ≤ d) (hv : VSt s) (hi : RInv I s) : Y G d zX12_shortest [vr 170, vi x] (NC, I, J, layR sw) 0 0 (qi (PM s (sp_shortest s x) I J sw)) := by
  obtain ⟨n, hne⟩ : ∃ n, n = (dC s.2.1).1 := ⟨_, rfl⟩
  obtain ⟨c, hce⟩ : ∃ c, c = (dC s.2.1).2 := ⟨_, rfl⟩
  obtain ⟨W, hWe⟩ : ∃ W, W = dW s.2.1 := ⟨_, rfl⟩
  have hvc : VC n c := by rw [hne, hce]; exact hv.2.1.1
  have hc : RC I n c := by rw [hne, hce]; exact hi.2.1.rc
  have hW : W < 16 := by rw [hWe]; have := hv.2.1.2.2.1; omega
  have hw : I 170 12 = nI W := by rw [hWe]; exact hi.2.1.2.2.2.2.1
  have hn := hvc.1
  have hA8 : ∀ v, R8 (AA c n v) := fun v => rn8 hvc (upk8 _) n (Nat.le_refl n)
  have hdl : ∀ v, v < 64 → duV (AA c n) v < 64 := fun v _ => by
    have := hA8 v 0 (by decide)
    have := hA8 v 1 (by decide)
    show 8 * AA c n v 0 + AA c n v 1 < 64
    omega
  unfold sp_shortest
  rw [← hne, ← hce, ← hWe]
  refine Y_of rfl rfl (Nat.le_of_ble_eq_true rfl) rfl ?_
  refine X_aload_n dX12_shortest_0 rfl ?_
  refine X_cVi dX12_shortest_1 ck_X12_410 rfl rfl (by first | assumption | rfl) (by first | assumption | exact Nat.le_of_ble_eq_true rfl | omega) (by omega) (Nat.le_of_ble_eq_true rfl) (m_isSmall hc hvc hw hW ?_)
  by_cases h3 : 3 < W ||| nmd c n
  · rw [if_pos h3, if_neg (by omega)]
    refine X_if_ne (tgt := 10) dX12_shortest_4 (by decide) (fun b4 => ?_) (fun b4 => ?_)
    · exact absurd rfl b4
    refine X_bipush (v := (-3)) dX12_shortest_7 (by decide) ?_
    exact X_iret dX12_shortest_9 rfl ⟨_, rfl, PM_same hi⟩
  rw [if_neg h3, if_pos (by omega)]
  refine X_if_ne (tgt := 10) dX12_shortest_4 (by decide) (fun b4 => ?_) (fun b4 => ?_)
  · have fin : ∀ (I' : Nat → Nat → Int32) (a : Int32), FrM [201, 202, 203] [] I I' → PM s a I J sw a (NC, I', J, layR sw) := fun I' a f => PM_fm hi _ [] f (by decide) (by decide)
    have out : ∀ (I' : Nat → Nat → Int32) (st e : Nat), st ≤ 3 → shr W (duV (AA c n)) = some (st, e) → FrM [201, 202, 203] [] I I' → (∀ j, j < st → I' 203 j = nI (dig st e j)) → X G d zX12_shortest 97 [(0, vr 170), (1, vi x), (2, vi (nI st))] [] (NC, I', J, layR sw) 0 0 (qi (PM s (match shr W (duV (AA c n)) with | none => -6 | some p => if x = -1 then nI p.1 else if x < 0 ∨ nI p.1 ≤ x then -6 else nI (Tn (dig p.1 p.2 x.toNatClampNeg))) I J sw)) := by
      intro I' st e hst hs f hch
      rw [hs]
      dsimp only
      refine X_iload_n dX12_shortest_97 rfl ?_
      refine X_iconst (v := nI 4) dX12_shortest_98 (by decide) ?_
      refine X_icmp_ne (tgt := 105) dX12_shortest_99 (by decide) (fun b99 => ?_) (fun b99 => ?_)
      · refine X_iload_n dX12_shortest_105 rfl ?_
        refine X_iconst (v := (-1)) dX12_shortest_106 (by decide) ?_
        refine X_icmp_ne (tgt := 114) dX12_shortest_107 (by decide) (fun b107 => ?_) (fun b107 => ?_)
        · rw [if_neg b107]
          refine X_iload_n dX12_shortest_114 rfl ?_
          refine X_i2l dX12_shortest_115 rfl ?_
          refine X_lconst (v := 0) dX12_shortest_116 (by decide) ?_
          refine X_iload_n dX12_shortest_117 rfl ?_
          refine X_iconst (v := nI 1) dX12_shortest_118 (by decide) ?_
          refine X_isub dX12_shortest_119 ?_
          refine X_i2l dX12_shortest_120 rfl ?_
          rcases scase (n := st) (by omega) x with h | ⟨a, ha, rfl⟩
          · rw [if_pos h]
            refine X_cSi dX12_shortest_121 ck_X12_125 rfl rfl (by omega) (Nat.le_of_ble_eq_true rfl) (c_in_f (lo := nI 0) (by decide) rfl (fun q => h.elim (le_0.mp q.1) (fun z => absurd ((le_pred (by omega)).mp q.2) (Int32.not_lt.mpr z))) ?_)
            refine X_if_eq (tgt := 139) dX12_shortest_124 (by decide) (fun b124 => ?_) (fun b124 => ?_)
            · refine X_bipush (v := (-6)) dX12_shortest_139 (by decide) ?_
              exact X_iret dX12_shortest_141 rfl ⟨_, rfl, fin I' _ f⟩
            · exact absurd rfl b124
          · rw [if_neg (scase_n (by omega) ha), nI_clamp (by omega)]
            refine X_cSi dX12_shortest_121 ck_X12_125 rfl rfl (by omega) (Nat.le_of_ble_eq_true rfl) (c_in_t (lo := nI 0) (by decide) rfl (le_0.mpr (nneg (by omega))) ((le_pred (by omega)).mpr ((nlt (by omega) (by omega)).mpr ha)) ?_)
            refine X_if_eq (tgt := 139) dX12_shortest_124 (by decide) (fun b124 => ?_) (fun b124 => ?_)
            · exact absurd b124 (by decide)
            refine X_aload_n dX12_shortest_127 rfl ?_
            refine X_getR dX12_shortest_128 gf_X12_107 (by first | assumption | rfl) (by first | assumption | exact Nat.le_of_ble_eq_true rfl | omega) rfl (by first | assumption | rfl) ?_
            refine X_iload_n dX12_shortest_131 rfl ?_
            first | refine X_iald dX12_shortest_132 (by first | assumption | rfl) (by first | assumption | exact Nat.le_of_ble_eq_true rfl | omega) rfl (by first | decide | omega) (by decide) ?_ | refine X_ildA dX12_shortest_132 rfl (by omega) ?_ | refine X_ildM dX12_shortest_132 rfl (by omega) ?_ | refine X_sld dX12_shortest_132 rfl (by omega) (by omega) ?_
            rw [hch a ha]
            refine X_cSi dX12_shortest_133 ck_X12_401 rfl rfl (by omega) (Nat.le_of_ble_eq_true rfl) (m_tried (dig_52 st e a ha) ?_)
            refine X_goto (tgt := 141) dX12_shortest_136 (by decide) ?_
            exact X_iret dX12_shortest_141 rfl ⟨_, rfl, fin I' _ f⟩
        · rw [if_pos b107]
          refine X_iload_n dX12_shortest_110 rfl ?_
          refine X_goto (tgt := 141) dX12_shortest_111 (by decide) ?_
          exact X_iret dX12_shortest_141 rfl ⟨_, rfl, fin I' _ f⟩
      · exact absurd ((neq (by omega) (by omega)).mp b99) (by omega)
    have loop2 : ∀ (z st : Nat) (I' : Nat → Nat → Int32), z = 4 - st → st ≤ 4 → FrM [201, 202, 203] [] I I' → (∀ v, v < 64 → I' 202 v = nI v) → (∀ v, v < 64 → I' 201 v = nI (duV (AA c n) v)) → (∀ i, i < st → tryE W (duV (AA c n)) i = none) → X G d zX12_shortest 78 [(0, vr 170), (1, vi x), (2, vi (nI st))] [] (NC, I', J, layR sw) 0 0 (qi (PM s (match shr W (duV (AA c n)) with | none => -6 | some p => if x = -1 then nI p.1 else if x < 0 ∨ nI p.1 ≤ x then -6 else nI (Tn (dig p.1 p.2 x.toNatClampNeg))) I J sw)) := by
      intro z
      induction z with
      | zero =>
        intro st I' hz hst f hl hdu hno
        obtain rfl : st = 4 := by omega
        rw [shr_none hno]
        refine X_iload_n dX12_shortest_78 rfl ?_
        refine X_iconst (v := nI 4) dX12_shortest_79 (by decide) ?_
        refine X_icmp_ge (tgt := 97) dX12_shortest_80 (by decide) (fun b80 => ?_) (fun b80 => ?_)
        · refine X_iload_n dX12_shortest_97 rfl ?_
          refine X_iconst (v := nI 4) dX12_shortest_98 (by decide) ?_
          refine X_icmp_ne (tgt := 105) dX12_shortest_99 (by decide) (fun b99 => ?_) (fun b99 => ?_)
          · exact absurd rfl b99
          refine X_bipush (v := (-6)) dX12_shortest_102 (by decide) ?_
          exact X_iret dX12_shortest_104 rfl ⟨_, rfl, fin I' _ f⟩
        · exact absurd (by decide) b80
      | succ z ih =>
        intro st I' hz hst f hl hdu hno
        have hst3 : st ≤ 3 := by omega
        refine X_iload_n dX12_shortest_78 rfl ?_
        refine X_iconst (v := nI 4) dX12_shortest_79 (by decide) ?_
        refine X_icmp_ge (tgt := 97) dX12_shortest_80 (by decide) (fun b80 => ?_) (fun b80 => ?_)
        · exact absurd ((nle (by omega) (by omega)).mp b80) (by omega)
        refine X_aload_n dX12_shortest_83 rfl ?_
        refine X_iload_n dX12_shortest_84 rfl ?_
        refine X_cVi dX12_shortest_85 ck_X12_413 rfl rfl (by first | assumption | rfl) (by first | assumption | exact Nat.le_of_ble_eq_true rfl | omega) (by omega) (Nat.le_of_ble_eq_true rfl) (m_tryAll (by omega) hst3 hW (by rw [f.2 12 (by simp)]; exact hw) hl hdu hdl (fun I2 e he f2 hr hch => ?_) (fun I2 he f2 hr => ?_))
        · refine X_if_ne (tgt := 97) dX12_shortest_88 (by decide) (fun b88 => ?_) (fun b88 => ?_)
          · exact out I2 st e hst3 (shr_some hst3 he hno) (f.tr (f2.sub (by simp) (by simp))) hch
          · exact absurd b88 (by decide)
        · refine X_if_ne (tgt := 97) dX12_shortest_88 (by decide) (fun b88 => ?_) (fun b88 => ?_)
          · exact absurd rfl b88
          first | refine X_iinc1 dX12_shortest_91 rfl rfl rfl ?_ | refine X_iinc dX12_shortest_91 rfl rfl rfl rfl ?_
          refine X_goto (tgt := 78) dX12_shortest_94 (by decide) ?_
          refine ih (st + 1) I2 (by omega) (by omega) (f.tr (f2.sub (by simp) (by simp))) hr (fun v hv => by rw [f2.1 201 (by decide) (by decide)]; exact hdu v hv) (fun i hi => ?_)
          by_cases y : i = st
          · rw [y]; exact he
          · exact hno i (by omega)
    have loop1 : ∀ (z v : Nat) (I' : Nat → Nat → Int32), z = 64 - v → v ≤ 64 → FrM [201, 202, 203] [] I I' → (∀ u, u < v → I' 202 u = nI u) → (∀ u, u < v → I' 201 u = nI (duV (AA c n) u)) → ∀ L2, X G d zX12_shortest 12 ([(0, vr 170), (1, vi x), (2, vi (nI v))] ++ L2) [] (NC, I', J, layR sw) 0 0 (qi (PM s (match shr W (duV (AA c n)) with | none => -6 | some p => if x = -1 then nI p.1 else if x < 0 ∨ nI p.1 ≤ x then -6 else nI (Tn (dig p.1 p.2 x.toNatClampNeg))) I J sw)) := by
      intro z
      induction z with
      | zero =>
        intro v I' hz hv2 f hl hdu L2
        obtain rfl : v = 64 := by omega
        refine weak (lv' := [(0, vr 170), (1, vi x), (2, vi (nI 64))]) (fun q hq => List.mem_append_left _ hq) ?_
        refine X_iload_n dX12_shortest_12 rfl ?_
        refine X_bipush (v := nI 64) dX12_shortest_13 (by decide) ?_
        refine X_icmp_ge (tgt := 76) dX12_shortest_15 (by decide) (fun b15 => ?_) (fun b15 => ?_)
        · refine X_iconst (v := nI 0) dX12_shortest_76 (by decide) ?_
          refine X_istore_n dX12_shortest_77 rfl rfl ?_
          exact loop2 4 0 I' rfl (Nat.zero_le _) f hl hdu (fun i h => absurd h (Nat.not_lt_zero i))
        · exact absurd (by decide) b15
      | succ z ih =>
        intro v I' hz hv2 f hl hdu L2
        have hc' := RC_fm hc f (by decide) (by decide)
        refine weak (lv' := [(0, vr 170), (1, vi x), (2, vi (nI v))]) (fun q hq => List.mem_append_left _ hq) ?_
        refine X_iload_n dX12_shortest_12 rfl ?_
        refine X_bipush (v := nI 64) dX12_shortest_13 (by decide) ?_
        refine X_icmp_ge (tgt := 76) dX12_shortest_15 (by decide) (fun b15 => ?_) (fun b15 => ?_)
        · exact absurd ((nle (by omega) (by omega)).mp b15) (by omega)
        refine X_aload_n dX12_shortest_18 rfl ?_
        refine X_iload_n dX12_shortest_19 rfl ?_
        refine X_bipush (v := nI 8) dX12_shortest_20 (by decide) ?_
        refine X_idiv dX12_shortest_22 (by decide) ?_
        rw [pk_div (by omega) (by decide) (by decide)]
        refine X_sipush (v := nI 512) dX12_shortest_23 (by decide) ?_
        first | refine X_imulN dX12_shortest_26 ?_ | refine X_imul dX12_shortest_26 ?_
        refine X_iload_n dX12_shortest_27 rfl ?_
        refine X_bipush (v := nI 8) dX12_shortest_28 (by decide) ?_
        refine X_irem dX12_shortest_30 (by decide) ?_
        rw [pk_rem (by omega) (by decide) (by decide)]
        refine X_bipush (v := nI 64) dX12_shortest_31 (by decide) ?_
        first | refine X_imulN dX12_shortest_33 ?_ | refine X_imul dX12_shortest_33 ?_
        first | refine X_iaddN dX12_shortest_34 ?_ | refine X_iadd dX12_shortest_34 ?_
        refine X_aload_n dX12_shortest_35 rfl ?_
        refine X_getI dX12_shortest_36 gf_X12_181 (by first | assumption | rfl) (by first | assumption | exact Nat.le_of_ble_eq_true rfl | omega) rfl ?_
        rw [hc'.1]
        refine X_cVi dX12_shortest_39 ck_X12_208 rfl rfl (by first | assumption | rfl) (by first | assumption | exact Nat.le_of_ble_eq_true rfl | omega) (by omega) (Nat.le_of_ble_eq_true rfl) (m_runOfR (by omega) hc' hvc (show v / 8 * 512 + v % 8 * 64 < 4096 by omega) (Nat.le_refl n) ?_)
        rw [show rn c (upk (v / 8 * 512 + v % 8 * 64)) n = AA c n v from rfl]
        refine X_istore_n dX12_shortest_42 rfl rfl ?_
        refine X_aload_n dX12_shortest_43 rfl ?_
        refine X_getR dX12_shortest_44 gf_X12_101 (by first | assumption | rfl) (by first | assumption | exact Nat.le_of_ble_eq_true rfl | omega) rfl (by first | assumption | rfl) ?_
        refine X_iload_n dX12_shortest_47 rfl ?_
        refine X_bipush (v := nI 8) dX12_shortest_48 (by decide) ?_
        refine X_iconst (v := nI 0) dX12_shortest_50 (by decide) ?_
        refine X_iload_n dX12_shortest_51 rfl ?_
        refine X_cSi dX12_shortest_52 ck_X12_192 rfl rfl (by omega) (Nat.le_of_ble_eq_true rfl) (m_valueOf (by omega) (Or.inl (show 0 < 4 by decide)) (hA8 v) ?_)
        first | refine X_imulN dX12_shortest_55 ?_ | refine X_imul dX12_shortest_55 ?_
        refine X_iconst (v := nI 1) dX12_shortest_56 (by decide) ?_
        refine X_iload_n dX12_shortest_57 rfl ?_
        refine X_cSi dX12_shortest_58 ck_X12_192 rfl rfl (by omega) (Nat.le_of_ble_eq_true rfl) (m_valueOf (by omega) (Or.inl (show 1 < 4 by decide)) (hA8 v) ?_)
        rw [show opv (AA c n v) 0 = AA c n v 0 from rfl, show opv (AA c n v) 1 = AA c n v 1 from rfl]
        first | refine X_iaddN dX12_shortest_61 ?_ | refine X_iadd dX12_shortest_61 ?_
        refine X_iast dX12_shortest_62 (by first | assumption | rfl) (by first | assumption | exact Nat.le_of_ble_eq_true rfl | omega) rfl (by first | decide | omega) (by decide) ?_
        refine X_aload_n dX12_shortest_63 rfl ?_
        refine X_getR dX12_shortest_64 gf_X12_104 (by first | assumption | rfl) (by first | assumption | exact Nat.le_of_ble_eq_true rfl | omega) rfl (by first | assumption | rfl) ?_
        refine X_iload_n dX12_shortest_67 rfl ?_
        refine X_iload_n dX12_shortest_68 rfl ?_
        refine X_iast dX12_shortest_69 (by first | assumption | rfl) (by first | assumption | exact Nat.le_of_ble_eq_true rfl | omega) rfl (by first | decide | omega) (by decide) ?_
        first | refine X_iinc1 dX12_shortest_70 rfl rfl rfl ?_ | refine X_iinc dX12_shortest_70 rfl rfl rfl rfl ?_
        refine X_goto (tgt := 12) dX12_shortest_73 (by decide) ?_
        refine ih (v + 1) _ (by omega) (by omega) (f.tr ((FrM.c (by simp) (by decide)).tr (FrM.c (by simp) (by decide)))) (fun u hu => ?_) (fun u hu => ?_) [(3, vi (nI (pkR (AA c n v))))]
        · rw [sr_eq]
          by_cases y : u = v
          · rw [y, up_eq]
          · rw [up_ne y, sr_ne (by decide)]; exact hl u (by omega)
        · rw [sr_ne (by decide), sr_eq]
          by_cases y : u = v
          · rw [y, up_eq]; rfl
          · rw [up_ne y]; exact hdu u (by omega)
    refine X_iconst (v := nI 0) dX12_shortest_10 (by decide) ?_
    refine X_istore_n dX12_shortest_11 rfl rfl ?_
    exact loop1 64 0 I rfl (Nat.zero_le _) FrM.rf (fun u h => absurd h (Nat.not_lt_zero u)) (fun u h => absurd h (Nat.not_lt_zero u)) []
  · exact absurd b4 (by decide)
end RY
