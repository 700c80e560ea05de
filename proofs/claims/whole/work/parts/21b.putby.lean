/-! put by: the class -/
def kc (sw : Bool) : Nat := if sw then 147 else 146
def kn2 (sw : Bool) : Nat := if sw then 146 else 147
theorem swp (sw : Bool) : sr (sr (layR sw) 136 (up (layR sw 136) 9 (some (kn2 sw)))) 136 (up (sr (layR sw) 136 (up (layR sw 136) 9 (some (kn2 sw))) 136) 10 (some (kc sw))) = layR (!sw) := by
  funext k i
  by_cases hk : k = 136
  · subst hk
    rw [sr_eq, sr_eq]
    by_cases h10 : i = 10
    · subst h10
      rw [up_eq]
      cases sw <;> rfl
    · rw [up_ne h10]
      by_cases h9 : i = 9
      · subst h9
        rw [up_eq]
        cases sw <;> rfl
      · rw [up_ne h9]
        unfold layR
        rw [if_neg (fun q => h9 q.2.1), if_neg (fun q => h10 q.2.1), if_neg (fun q => h9 q.2.1), if_neg (fun q => h10 q.2.1)]
  · rw [sr_ne hk, sr_ne hk]
    unfold layR
    rw [if_neg (fun q => hk q.1), if_neg (fun q => hk q.1), if_neg (fun q => hk q.1), if_neg (fun q => hk q.1)]
theorem psA_top {c : Nat → Nat → Nat} {n W k i : Nat} {D : Nat → Nat} {b : Nat} (M : Nat) : psA c n W k i D M b ≤ 536870912 := by
  have := psA_mono (c := c) (n := n) (W := W) (k := k) (i := i) (D := D) (b := b) (K := 0) M
  rwa [Nat.zero_add] at this
theorem D0_top {c : Nat → Nat → Nat} {n W k K : Nat} (hn : n ≤ 12) : D0 c n W k K ≤ 536870912 := by
  unfold D0
  split
  · have := csm_top (c := c) (n := n) (X := sdf (hrg c W n 0) K) hn (Nat.zero_le n)
    have e : (4 + 0 : Nat) = 4 := rfl
    rw [e] at this
    omega
  · exact Nat.le_refl _
theorem Dt_top {c : Nat → Nat → Nat} {n W k K : Nat} (hn : n ≤ 12) : ∀ p, Dt c n W k p K ≤ 536870912
  | 0 => D0_top hn
  | p + 1 => psA_top 16
section CP
variable {G : GG} {d : Nat} {sw : Bool} {I : Nat → Nat → Int32} {J : Nat → Nat → Int64} {s : SS} {n W : Nat} {c : Nat → Nat → Nat}
set_option maxRecDepth 20000 in
theorem c_costOf {Q : Int32 → Mm → Prop} {R : Nat} (hR : R < 16) (hK : HK I n W c) (hQ : Q (nI (csm c n R 4)) (NC, I, J, layR sw)) : Y G d zX4_costOf [vr 136, vi (nI R)] (NC, I, J, layR sw) 0 0 (qi Q) := by
  have loop : ∀ (m v : Nat), m = 4 - v → v ≤ 4 → X G d zX4_costOf 4 [(0, vr 136), (1, vi (nI R)), (2, vi (nI (csm c n R v))), (3, vi (nI v))] [] (NC, I, J, layR sw) 0 0 (qi Q) := by
    intro m
    induction m with
    | zero =>
      intro v hm hv
      obtain rfl : v = 4 := by omega
      refine X_iload_n dX4_costOf_4 rfl ?_
      refine X_iconst (v := nI 4) dX4_costOf_5 (by decide) ?_
      refine X_icmp_ge (tgt := 33) dX4_costOf_6 (by decide) (fun b => ?_) (fun b => ?_)
      · refine X_iload_n dX4_costOf_33 rfl ?_
        exact X_iret dX4_costOf_34 rfl ⟨_, rfl, hQ⟩
      · exact absurd (by decide) b
    | succ m ih =>
      intro v hm hv
      have ih := ih (v + 1) (by omega) (by omega)
      rw [show csm c n R (v + 1) = csm c n R v + (if R.testBit v = true then cst c n v else 0) from rfl] at ih
      refine X_iload_n dX4_costOf_4 rfl ?_
      refine X_iconst (v := nI 4) dX4_costOf_5 (by decide) ?_
      refine X_icmp_ge (tgt := 33) dX4_costOf_6 (by decide) (fun b => ?_) (fun b => ?_)
      · exact absurd ((nle (by omega) (by omega)).mp b) (by omega)
      refine X_iload_n dX4_costOf_9 rfl ?_
      refine X_iload_n dX4_costOf_10 rfl ?_
      first | refine X_ishrN dX4_costOf_11 (by omega) (by omega) ?_ | refine X_ishr dX4_costOf_11 ?_
      refine X_iconst (v := nI 1) dX4_costOf_12 (by decide) ?_
      first | refine X_iandN dX4_costOf_13 ?_ | refine X_iandC dX4_costOf_13 ?_ | refine X_iand dX4_costOf_13 ?_
      rw [Nat.and_one_is_mod, bit_mod]
      refine X_iconst (v := nI 1) dX4_costOf_14 (by decide) ?_
      by_cases hb : R.testBit v = true
      · rw [if_pos hb]
        rw [if_pos hb] at ih
        refine X_icmp_ne (tgt := 27) dX4_costOf_15 (by decide) (fun b15 => ?_) (fun b15 => ?_)
        · exact absurd rfl b15
        refine X_iload_n dX4_costOf_18 rfl ?_
        refine X_aload_n dX4_costOf_19 rfl ?_
        refine X_getR dX4_costOf_20 gf_X4_21 (by first | assumption | rfl) (by first | assumption | exact Nat.le_of_ble_eq_true rfl | omega) rfl (by first | assumption | rfl) ?_
        refine X_iload_n dX4_costOf_23 rfl ?_
        first | refine X_iald dX4_costOf_24 (by first | assumption | rfl) (by first | assumption | exact Nat.le_of_ble_eq_true rfl | omega) rfl (by first | decide | omega) (by decide) ?_ | refine X_ildA dX4_costOf_24 rfl (by omega) ?_ | refine X_ildM dX4_costOf_24 rfl (by omega) ?_ | refine X_sld dX4_costOf_24 rfl (by omega) (by omega) ?_
        rw [(hK.2.1 v (by omega)).2]
        first | refine X_iaddN dX4_costOf_25 ?_ | refine X_iadd dX4_costOf_25 ?_
        refine X_istore_n dX4_costOf_26 rfl rfl ?_
        first | refine X_iinc1 dX4_costOf_27 rfl rfl rfl ?_ | refine X_iinc dX4_costOf_27 rfl rfl rfl rfl ?_
        refine X_goto (tgt := 4) dX4_costOf_30 (by decide) ?_
        exact ih
      · rw [if_neg hb]
        rw [if_neg hb] at ih
        refine X_icmp_ne (tgt := 27) dX4_costOf_15 (by decide) (fun b15 => ?_) (fun b15 => ?_)
        · first | refine X_iinc1 dX4_costOf_27 rfl rfl rfl ?_ | refine X_iinc dX4_costOf_27 rfl rfl rfl rfl ?_
          refine X_goto (tgt := 4) dX4_costOf_30 (by decide) ?_
          exact ih
        · exact absurd b15 (by decide)
  refine Y_of rfl rfl (Nat.le_of_ble_eq_true rfl) rfl ?_
  refine X_iconst (v := nI 0) dX4_costOf_0 (by decide) ?_
  refine X_istore_n dX4_costOf_1 rfl rfl ?_
  refine X_iconst (v := nI 0) dX4_costOf_2 (by decide) ?_
  refine X_istore_n dX4_costOf_3 rfl rfl ?_
  exact loop 4 0 rfl (Nat.zero_le _)
set_option maxRecDepth 20000 in
set_option maxHeartbeats 1000000 in
theorem c_passStep0 {Q : Mm → Prop} {i k a b : Nat} {D : Nat → Nat} (hd : 1 ≤ d) (hv : VC n c) (hW : W < 16) (hin : i < n) (hk : k < 100) (hK : HK I n W c) (ha : layR sw 136 9 = some a) (hb : layR sw 136 10 = some b) (hsa : sh a = (13, 16)) (hsb : sh b = (13, 16)) (han : a < NC) (hbn : b < NC) (hab : a ≠ b) (hb2 : 142 < b) (hD : ∀ K, K < 16 → I a K = nI (D K)) (hDt : ∀ K, D K ≤ 536870912)
    (hQ : ∀ I', Fr [b] I I' → (∀ K, K < 16 → I' b K = nI (psA c n W k i D 16 K)) → Q (NC, I', J, sr (sr (layR sw) 136 (up (layR sw 136) 9 (some b))) 136 (up (sr (layR sw) 136 (up (layR sw 136) 9 (some b)) 136) 10 (some a)))) : Y G d zX4_passStep [vr 136, vi (nI i), vi (nI k)] (NC, I, J, layR sw) 0 0 (qv Q) := by
  have hn := hv.1
  have ht := (hv.2 i hin).1
  have hpt := pow4 ht
  have e1 : (536870912 : Int32) = nI 536870912 := by decide
  have fK : ∀ I', Fr [b] I I' → HK I' n W c := fun I' f => HK_fr hK f (fun k a b => by simp; omega)
  have fD : ∀ I', Fr [b] I I' → ∀ K, K < 16 → I' a K = nI (D K) := fun I' f K h => by rw [f a (by simp; exact hab)]; exact hD K h
  have loop : ∀ (m K : Nat) (I' : Nat → Nat → Int32), m = 16 - K → K ≤ 16 → Fr [b] I I' → (∀ q, q < 16 → I' b q = nI (psA c n W k i D K q)) → X G d zX4_passStep 21 [(0, vr 136), (1, vi (nI i)), (2, vi (nI k)), (3, vi (nI (2 ^ c i 0))), (4, vi (nI K))] [] (NC, I', J, layR sw) 0 0 (qv Q) := by
    intro m
    induction m with
    | zero =>
      intro K I' hm hK2 hF hT
      obtain rfl : K = 16 := by omega
      refine X_iload dX4_passStep_21 rfl ?_
      refine X_bipush (v := nI 16) dX4_passStep_23 (by decide) ?_
      refine X_icmp_ge (tgt := 133) dX4_passStep_25 (by decide) (fun b25 => ?_) (fun b25 => ?_)
      · refine weak (lv' := [(0, vr 136)]) (fun q hq => List.mem_append_left _ hq) ?_
        refine X_aload_n dX4_passStep_133 rfl ?_
        refine X_getR dX4_passStep_134 gf_X4_39 (by first | assumption | rfl) (by first | assumption | exact Nat.le_of_ble_eq_true rfl | omega) rfl (by first | assumption | rfl) ?_
        refine X_astore dX4_passStep_137 rfl rfl ?_
        refine X_aload_n dX4_passStep_139 rfl ?_
        refine X_aload_n dX4_passStep_140 rfl ?_
        refine X_getR dX4_passStep_141 gf_X4_42 (by first | assumption | rfl) (by first | assumption | exact Nat.le_of_ble_eq_true rfl | omega) rfl (by first | assumption | rfl) ?_
        refine X_putR dX4_passStep_144 gf_X4_39 (Or.inl rfl) (by first | assumption | rfl) (by first | assumption | exact Nat.le_of_ble_eq_true rfl | omega) rfl rfl ?_
        refine X_aload_n dX4_passStep_147 rfl ?_
        refine X_aload dX4_passStep_148 rfl ?_
        refine X_putR dX4_passStep_150 gf_X4_42 (Or.inl rfl) (by first | assumption | rfl) (by first | assumption | exact Nat.le_of_ble_eq_true rfl | omega) rfl rfl ?_
        exact X_vret dX4_passStep_153 rfl ⟨rfl, hQ I' hF hT⟩
      · exact absurd (by decide) b25
    | succ m ih =>
      intro K I' hm hK2 hF hT
      have hK16 : K < 16 := by omega
      have hLl := lft_lt (c := c) (n := n) (W := W) (i := i) hK16
      have skip : ∀ (I2 : Nat → Nat → Int32) (L2), Fr [b] I I2 → (∀ q, q < 16 → I2 b q = nI (psA c n W k i D (K + 1) q)) → X G d zX4_passStep 127 ([(0, vr 136), (1, vi (nI i)), (2, vi (nI k)), (3, vi (nI (2 ^ c i 0))), (4, vi (nI K))] ++ L2) [] (NC, I2, J, layR sw) 0 0 (qv Q) := by
        intro I2 L2 f2 t2
        refine weak (lv' := [(0, vr 136), (1, vi (nI i)), (2, vi (nI k)), (3, vi (nI (2 ^ c i 0))), (4, vi (nI K))]) (fun q hq => List.mem_append_left _ hq) ?_
        first | refine X_iinc1 dX4_passStep_127 rfl rfl rfl ?_ | refine X_iinc dX4_passStep_127 rfl rfl rfl rfl ?_
        refine X_goto (tgt := 21) dX4_passStep_130 (by decide) ?_
        exact ih (K + 1) I2 (by omega) (by omega) f2 t2
      have hDK := hDt K
      refine X_iload dX4_passStep_21 rfl ?_
      refine X_bipush (v := nI 16) dX4_passStep_23 (by decide) ?_
      refine X_icmp_ge (tgt := 133) dX4_passStep_25 (by decide) (fun b25 => ?_) (fun b25 => ?_)
      · exact absurd ((nle (by omega) (by omega)).mp b25) (by omega)
      refine X_aload_n dX4_passStep_28 rfl ?_
      refine X_getR dX4_passStep_29 gf_X4_39 (by first | assumption | rfl) (by first | assumption | exact Nat.le_of_ble_eq_true rfl | omega) rfl (by first | assumption | rfl) ?_
      refine X_iload dX4_passStep_32 rfl ?_
      first | refine X_iald dX4_passStep_34 (by first | assumption | rfl) (by first | assumption | exact Nat.le_of_ble_eq_true rfl | omega) rfl (by first | decide | omega) (by decide) ?_ | refine X_ildA dX4_passStep_34 rfl (by omega) ?_ | refine X_ildM dX4_passStep_34 rfl (by omega) ?_ | refine X_sld dX4_passStep_34 rfl (by omega) (by omega) ?_
      rw [fD I' hF K hK16]
      refine X_ldc dX4_passStep_35 kc_X4_94 ?_
      rw [e1]
      by_cases hlt : D K < 536870912
      · refine X_icmp_ge (tgt := 127) dX4_passStep_37 (by decide) (fun b37 => ?_) (fun b37 => ?_)
        · exact absurd ((nle (by omega) (by omega)).mp b37) (by omega)
        refine X_iload dX4_passStep_40 rfl ?_
        refine X_aload_n dX4_passStep_42 rfl ?_
        refine X_getR dX4_passStep_43 gf_X4_18 (by first | assumption | rfl) (by first | assumption | exact Nat.le_of_ble_eq_true rfl | omega) rfl (by first | assumption | rfl) ?_
        refine X_iload_n dX4_passStep_46 rfl ?_
        refine X_iconst (v := nI 1) dX4_passStep_47 (by decide) ?_
        first | refine X_iaddN dX4_passStep_48 ?_ | refine X_iadd dX4_passStep_48 ?_
        first | refine X_iald dX4_passStep_49 (by first | assumption | rfl) (by first | assumption | exact Nat.le_of_ble_eq_true rfl | omega) rfl (by first | decide | omega) (by decide) ?_ | refine X_ildA dX4_passStep_49 rfl (by omega) ?_ | refine X_ildM dX4_passStep_49 rfl (by omega) ?_ | refine X_sld dX4_passStep_49 rfl (by omega) (by omega) ?_
        rw [((fK I' hF).2.2.2.1 (i + 1) (by omega)).1]
        first | refine X_iandN dX4_passStep_50 ?_ | refine X_iandC dX4_passStep_50 ?_ | refine X_iand dX4_passStep_50 ?_
        refine X_iload_n dX4_passStep_51 rfl ?_
        refine X_iconst (v := (-1)) dX4_passStep_52 (by decide) ?_
        refine X_ixor dX4_passStep_53 ?_
        first | refine X_iandN dX4_passStep_54 ?_ | refine X_iandC dX4_passStep_54 ?_ | refine X_iand dX4_passStep_54 ?_
        rw [show sdf (K &&& hrg c W n (i + 1)) (2 ^ c i 0) = lft c n W i K from rfl]
        have hpsa : psA c n W k i D (K + 1) = (if on (lft c n W i K) 16 < k then up (up (psA c n W k i D K) (lft c n W i K) (min (psA c n W k i D K (lft c n W i K)) (D K + cst c n (4 + i)))) (lft c n W i K ||| 2 ^ c i 0) (min (up (psA c n W k i D K) (lft c n W i K) (min (psA c n W k i D K (lft c n W i K)) (D K + cst c n (4 + i))) (lft c n W i K ||| 2 ^ c i 0)) (D K)) else up (psA c n W k i D K) (lft c n W i K) (min (psA c n W k i D K (lft c n W i K)) (D K + cst c n (4 + i)))) := if_pos hlt
        rw [hpsa] at skip
        have hptop : ∀ q, psA c n W k i D K q ≤ 536870912 := fun q => psA_top K
        generalize psA c n W k i D K = T at hT skip hptop
        generalize lft c n W i K = L at hLl skip
        have hcl := cst_lt (c := c) hn (show 4 + i < 16 by omega)
        have hor : L ||| 2 ^ c i 0 < 16 := or16 hLl hpt
        refine X_istore dX4_passStep_55 rfl rfl ?_
        refine X_aload_n dX4_passStep_57 rfl ?_
        refine X_getR dX4_passStep_58 gf_X4_42 (by first | assumption | rfl) (by first | assumption | exact Nat.le_of_ble_eq_true rfl | omega) rfl (by first | assumption | rfl) ?_
        refine X_iload dX4_passStep_61 rfl ?_
        refine X_aload_n dX4_passStep_63 rfl ?_
        refine X_getR dX4_passStep_64 gf_X4_42 (by first | assumption | rfl) (by first | assumption | exact Nat.le_of_ble_eq_true rfl | omega) rfl (by first | assumption | rfl) ?_
        refine X_iload dX4_passStep_67 rfl ?_
        first | refine X_iald dX4_passStep_69 (by first | assumption | rfl) (by first | assumption | exact Nat.le_of_ble_eq_true rfl | omega) rfl (by first | decide | omega) (by decide) ?_ | refine X_ildA dX4_passStep_69 rfl (by omega) ?_ | refine X_ildM dX4_passStep_69 rfl (by omega) ?_ | refine X_sld dX4_passStep_69 rfl (by omega) (by omega) ?_
        rw [hT L hLl]
        refine X_aload_n dX4_passStep_70 rfl ?_
        refine X_getR dX4_passStep_71 gf_X4_39 (by first | assumption | rfl) (by first | assumption | exact Nat.le_of_ble_eq_true rfl | omega) rfl (by first | assumption | rfl) ?_
        refine X_iload dX4_passStep_74 rfl ?_
        first | refine X_iald dX4_passStep_76 (by first | assumption | rfl) (by first | assumption | exact Nat.le_of_ble_eq_true rfl | omega) rfl (by first | decide | omega) (by decide) ?_ | refine X_ildA dX4_passStep_76 rfl (by omega) ?_ | refine X_ildM dX4_passStep_76 rfl (by omega) ?_ | refine X_sld dX4_passStep_76 rfl (by omega) (by omega) ?_
        rw [fD I' hF K hK16]
        refine X_aload_n dX4_passStep_77 rfl ?_
        refine X_getR dX4_passStep_78 gf_X4_21 (by first | assumption | rfl) (by first | assumption | exact Nat.le_of_ble_eq_true rfl | omega) rfl (by first | assumption | rfl) ?_
        refine X_iconst (v := nI 4) dX4_passStep_81 (by decide) ?_
        refine X_iload_n dX4_passStep_82 rfl ?_
        first | refine X_iaddN dX4_passStep_83 ?_ | refine X_iadd dX4_passStep_83 ?_
        first | refine X_iald dX4_passStep_84 (by first | assumption | rfl) (by first | assumption | exact Nat.le_of_ble_eq_true rfl | omega) rfl (by first | decide | omega) (by decide) ?_ | refine X_ildA dX4_passStep_84 rfl (by omega) ?_ | refine X_ildM dX4_passStep_84 rfl (by omega) ?_ | refine X_sld dX4_passStep_84 rfl (by omega) (by omega) ?_
        rw [((fK I' hF).2.1 (4 + i) (by omega)).2]
        first | refine X_iaddN dX4_passStep_85 ?_ | refine X_iadd dX4_passStep_85 ?_
        have hTL := hptop L
        refine X_cSi dX4_passStep_86 ck_X4_98 rfl rfl (by omega) (Nat.le_of_ble_eq_true rfl) (c_min (by omega) (by omega) ?_)
        refine X_iast dX4_passStep_89 (by first | assumption | rfl) (by first | assumption | exact Nat.le_of_ble_eq_true rfl | omega) rfl (by first | decide | omega) (by decide) ?_
        refine X_iload dX4_passStep_90 rfl ?_
        have hF1 : Fr [b] I (sr I' b (up (I' b) L (nI (min (T L) (D K + cst c n (4 + i)))))) := hF.tr (Fr.sr (by simp))
        have hT1 : ∀ q, q < 16 → sr I' b (up (I' b) L (nI (min (T L) (D K + cst c n (4 + i))))) b q = nI (up T L (min (T L) (D K + cst c n (4 + i))) q) := fun q hq => by
          rw [sr_eq]
          by_cases h : q = L
          · rw [h, up_eq, up_eq]
          · rw [up_ne h, up_ne h]; exact hT q hq
        generalize sr I' b (up (I' b) L (nI (min (T L) (D K + cst c n (4 + i))))) = I1 at hF1 hT1 ⊢
        have hT1t : ∀ q, up T L (min (T L) (D K + cst c n (4 + i))) q ≤ 536870912 := fun q => Nat.le_trans up_min_le (hptop q)
        generalize up T L (min (T L) (D K + cst c n (4 + i))) = T1 at hT1 skip hT1t
        have hol := on_le L 16
        refine X_cSi dX4_passStep_92 ck_X4_80 rfl rfl (by omega) (Nat.le_of_ble_eq_true rfl) (c_bitCount (by omega) ?_)
        refine X_iload_n dX4_passStep_95 rfl ?_
        by_cases hkk : on L 16 < k
        · rw [if_pos hkk] at skip
          refine X_icmp_ge (tgt := 127) dX4_passStep_96 (by decide) (fun b96 => ?_) (fun b96 => ?_)
          · exact absurd ((nle (by omega) (by omega)).mp b96) (by omega)
          refine X_aload_n dX4_passStep_99 rfl ?_
          refine X_getR dX4_passStep_100 gf_X4_42 (by first | assumption | rfl) (by first | assumption | exact Nat.le_of_ble_eq_true rfl | omega) rfl (by first | assumption | rfl) ?_
          refine X_iload dX4_passStep_103 rfl ?_
          refine X_iload_n dX4_passStep_105 rfl ?_
          first | refine X_iorN dX4_passStep_106 ?_ | refine X_ior dX4_passStep_106 ?_
          refine X_aload_n dX4_passStep_107 rfl ?_
          refine X_getR dX4_passStep_108 gf_X4_42 (by first | assumption | rfl) (by first | assumption | exact Nat.le_of_ble_eq_true rfl | omega) rfl (by first | assumption | rfl) ?_
          refine X_iload dX4_passStep_111 rfl ?_
          refine X_iload_n dX4_passStep_113 rfl ?_
          first | refine X_iorN dX4_passStep_114 ?_ | refine X_ior dX4_passStep_114 ?_
          first | refine X_iald dX4_passStep_115 (by first | assumption | rfl) (by first | assumption | exact Nat.le_of_ble_eq_true rfl | omega) rfl (by first | decide | omega) (by decide) ?_ | refine X_ildA dX4_passStep_115 rfl (by omega) ?_ | refine X_ildM dX4_passStep_115 rfl (by omega) ?_ | refine X_sld dX4_passStep_115 rfl (by omega) (by omega) ?_
          rw [hT1 _ hor]
          refine X_aload_n dX4_passStep_116 rfl ?_
          refine X_getR dX4_passStep_117 gf_X4_39 (by first | assumption | rfl) (by first | assumption | exact Nat.le_of_ble_eq_true rfl | omega) rfl (by first | assumption | rfl) ?_
          refine X_iload dX4_passStep_120 rfl ?_
          first | refine X_iald dX4_passStep_122 (by first | assumption | rfl) (by first | assumption | exact Nat.le_of_ble_eq_true rfl | omega) rfl (by first | decide | omega) (by decide) ?_ | refine X_ildA dX4_passStep_122 rfl (by omega) ?_ | refine X_ildM dX4_passStep_122 rfl (by omega) ?_ | refine X_sld dX4_passStep_122 rfl (by omega) (by omega) ?_
          rw [fD I1 hF1 K hK16]
          have hz := hT1t (L ||| 2 ^ c i 0)
          refine X_cSi dX4_passStep_123 ck_X4_98 rfl rfl (by omega) (Nat.le_of_ble_eq_true rfl) (c_min (by omega) (by omega) ?_)
          refine X_iast dX4_passStep_126 (by first | assumption | rfl) (by first | assumption | exact Nat.le_of_ble_eq_true rfl | omega) rfl (by first | decide | omega) (by decide) ?_
          refine skip _ [(5, vi (nI L))] (hF1.tr (Fr.sr (by simp))) (fun q hq => ?_)
          rw [sr_eq]
          by_cases h : q = L ||| 2 ^ c i 0
          · rw [h, up_eq, up_eq]
          · rw [up_ne h, up_ne h]; exact hT1 q hq
        · rw [if_neg hkk] at skip
          refine X_icmp_ge (tgt := 127) dX4_passStep_96 (by decide) (fun b96 => ?_) (fun b96 => ?_)
          · exact skip I1 [(5, vi (nI L))] hF1 hT1
          · exact absurd ((nle (by omega) (by omega)).mpr (by omega)) b96
      · refine X_icmp_ge (tgt := 127) dX4_passStep_37 (by decide) (fun b37 => ?_) (fun b37 => ?_)
        · rw [show psA c n W k i D (K + 1) = psA c n W k i D K from if_neg hlt] at skip
          exact skip I' [] hF hT
        · exact absurd ((nle (by omega) (by omega)).mpr (by omega)) b37
  refine Y_of rfl rfl (Nat.le_of_ble_eq_true rfl) rfl ?_
  refine X_iconst (v := nI 1) dX4_passStep_0 (by decide) ?_
  refine X_aload_n dX4_passStep_1 rfl ?_
  refine X_getR dX4_passStep_2 gf_X4_9 (by first | assumption | rfl) (by first | assumption | exact Nat.le_of_ble_eq_true rfl | omega) rfl (by first | assumption | rfl) ?_
  refine X_iload_n dX4_passStep_5 rfl ?_
  first | refine X_iald dX4_passStep_6 (by first | assumption | rfl) (by first | assumption | exact Nat.le_of_ble_eq_true rfl | omega) rfl (by first | decide | omega) (by decide) ?_ | refine X_ildA dX4_passStep_6 rfl (by omega) ?_ | refine X_ildM dX4_passStep_6 rfl (by omega) ?_ | refine X_sld dX4_passStep_6 rfl (by omega) (by omega) ?_
  rw [(hK.2.2.1 i hin).1]
  first | refine X_ishl1 dX4_passStep_7 (by omega) ?_ | refine X_ishl dX4_passStep_7 ?_
  refine X_istore_n dX4_passStep_8 rfl rfl ?_
  refine X_aload_n dX4_passStep_9 rfl ?_
  refine X_getR dX4_passStep_10 gf_X4_42 (by first | assumption | rfl) (by first | assumption | exact Nat.le_of_ble_eq_true rfl | omega) rfl (by first | assumption | rfl) ?_
  refine X_ldc dX4_passStep_13 kc_X4_94 ?_
  refine X_cSv dX4_passStep_15 ck_X4_115 rfl rfl (by omega) (Nat.le_of_ble_eq_true rfl) (c_fill hsb (by decide) hbn (fun I1 f1 g1 => ?_))
  refine X_iconst (v := nI 0) dX4_passStep_18 (by decide) ?_
  refine X_istore dX4_passStep_19 rfl rfl ?_
  exact loop 16 0 I1 rfl (Nat.zero_le _) f1 (fun q hq => by rw [g1 q hq]; exact e1)
theorem c_passStep {Q : Mm → Prop} {i k : Nat} {D : Nat → Nat} (hd : 1 ≤ d) (hv : VC n c) (hW : W < 16) (hin : i < n) (hk : k < 100) (hK : HK I n W c) (hD : ∀ K, K < 16 → I (kc sw) K = nI (D K)) (hDt : ∀ K, D K ≤ 536870912)
    (hQ : ∀ I', Fr [146, 147] I I' → (∀ K, K < 16 → I' (kc (!sw)) K = nI (psA c n W k i D 16 K)) → Q (NC, I', J, layR (!sw))) : Y G d zX4_passStep [vr 136, vi (nI i), vi (nI k)] (NC, I, J, layR sw) 0 0 (qv Q) := by
  have hsw := swp sw
  refine c_passStep0 (a := kc sw) (b := kn2 sw) hd hv hW hin hk hK (by cases sw <;> rfl) (by cases sw <;> rfl) (by cases sw <;> rfl) (by cases sw <;> rfl) (by cases sw <;> decide) (by cases sw <;> decide) (by cases sw <;> decide) (by cases sw <;> decide) hD hDt (fun I' f g => ?_)
  rw [hsw]
  refine hQ I' (f.sub (fun j hj => ?_)) ?_
  · cases sw <;> simp [kn2] at hj <;> simp [hj]
  · cases sw <;> exact g
set_option maxRecDepth 20000 in
set_option maxHeartbeats 1000000 in
theorem c_putBy {Q : Int32 → Mm → Prop} {k bb : Nat} (hd : 2 ≤ d) (hv : VC n c) (hW : W < 16) (hk : k < 100) (hK : HK I n W c) (hbb : bb < 2 ^ (4 + n) ∧ mn (Dt c n W k n) 16 = cK c n bb ∧ cK c n bb < 100000000)
    (hQ : ∀ I' sw', Fr [146, 147] I I' → Q (nI bb) (NC, I', J, layR sw')) : Y G d zX4_putBy [vr 136, vi (nI k)] (NC, I, J, layR sw) 0 0 (qi Q) := by
  have hn := hv.1
  have e1 : (536870912 : Int32) = nI 536870912 := by decide
  have e2 : (65535 : Int32) = nI 65535 := by decide
  have hh0 := hrg_lt hv hW (Nat.zero_le n)
  have fK : ∀ I', Fr [146, 147] I I' → HK I' n W c := fun I' f => HK_fr hK f (fun k a b => by simp; omega)
  have loop3 : ∀ (sw' : Bool) (I' : Nat → Nat → Int32), Fr [146, 147] I I' → (∀ K, K < 16 → I' (kc sw') K = nI (Dt c n W k n K)) → ∀ (m K : Nat), m = 16 - K → K ≤ 16 → X G d zX4_putBy 97 [(0, vr 136), (1, vi (nI k)), (2, vi (nI (mn (Dt c n W k n) K))), (3, vi (nI K))] [] (NC, I', J, layR sw') 0 0 (qi Q) := by
    intro sw' I' hF hD m
    have hr : layR sw' 136 9 = some (kc sw') := by cases sw' <;> rfl
    have hs : sh (kc sw') = (13, 16) := by cases sw' <;> rfl
    have hl : kc sw' < NC := by cases sw' <;> decide
    generalize kc sw' = a at hr hs hl hD
    induction m with
    | zero =>
      intro K hm hK2
      obtain rfl : K = 16 := by omega
      refine X_iload_n dX4_putBy_97 rfl ?_
      refine X_bipush (v := nI 16) dX4_putBy_98 (by decide) ?_
      refine X_icmp_ge (tgt := 120) dX4_putBy_100 (by decide) (fun b => ?_) (fun b => ?_)
      · refine X_iload_n dX4_putBy_120 rfl ?_
        refine X_ldc dX4_putBy_121 kc_X4_114 ?_
        rw [e2]
        first | refine X_iandN dX4_putBy_123 ?_ | refine X_iandC dX4_putBy_123 ?_ | refine X_iand dX4_putBy_123 ?_
        have hq : mn (Dt c n W k n) 16 &&& 65535 = bb := by
          rw [hbb.2.1, show (65535 : Nat) = 2 ^ 16 - 1 from rfl, Nat.and_two_pow_sub_one_eq_mod]
          have := p16 hn
          have := hbb.1
          unfold cK
          omega
        rw [hq]
        exact X_iret dX4_putBy_124 rfl ⟨_, rfl, hQ I' sw' hF⟩
      · exact absurd (by decide) b
    | succ m ih =>
      intro K hm hK2
      have b1 := mn_top (f := Dt c n W k n) K
      have b2 := Dt_top (c := c) (W := W) (k := k) (K := K) hn n
      refine X_iload_n dX4_putBy_97 rfl ?_
      refine X_bipush (v := nI 16) dX4_putBy_98 (by decide) ?_
      refine X_icmp_ge (tgt := 120) dX4_putBy_100 (by decide) (fun b => ?_) (fun b => ?_)
      · exact absurd ((nle (by omega) (by omega)).mp b) (by omega)
      refine X_iload_n dX4_putBy_103 rfl ?_
      refine X_aload_n dX4_putBy_104 rfl ?_
      refine X_getR dX4_putBy_105 gf_X4_39 (by first | assumption | rfl) (by first | assumption | exact Nat.le_of_ble_eq_true rfl | omega) rfl (by first | assumption | rfl) ?_
      refine X_iload_n dX4_putBy_108 rfl ?_
      first | refine X_iald dX4_putBy_109 (by first | assumption | rfl) (by first | assumption | exact Nat.le_of_ble_eq_true rfl | omega) rfl (by first | decide | omega) (by decide) ?_ | refine X_ildA dX4_putBy_109 rfl (by omega) ?_ | refine X_ildM dX4_putBy_109 rfl (by omega) ?_ | refine X_sld dX4_putBy_109 rfl (by omega) (by omega) ?_
      rw [hD K (by omega)]
      refine X_cSi dX4_putBy_110 ck_X4_98 rfl rfl (by omega) (Nat.le_of_ble_eq_true rfl) (c_min (by omega) (by omega) ?_)
      refine X_istore_n dX4_putBy_113 rfl rfl ?_
      first | refine X_iinc1 dX4_putBy_114 rfl rfl rfl ?_ | refine X_iinc dX4_putBy_114 rfl rfl rfl rfl ?_
      refine X_goto (tgt := 97) dX4_putBy_117 (by decide) ?_
      exact ih (K + 1) (by omega) (by omega)
  have loop2 : ∀ (m i : Nat) (sw' : Bool) (I' : Nat → Nat → Int32), m = n - i → i ≤ n → Fr [146, 147] I I' → (∀ K, K < 16 → I' (kc sw') K = nI (Dt c n W k i K)) → X G d zX4_putBy 72 [(0, vr 136), (1, vi (nI k)), (2, vi (nI i))] [] (NC, I', J, layR sw') 0 0 (qi Q) := by
    intro m
    induction m with
    | zero =>
      intro i sw' I' hm hi hF hD
      obtain rfl : i = n := by omega
      refine X_iload_n dX4_putBy_72 rfl ?_
      refine X_aload_n dX4_putBy_73 rfl ?_
      refine X_getI dX4_putBy_74 gf_X4_51 (by first | assumption | rfl) (by first | assumption | exact Nat.le_of_ble_eq_true rfl | omega) rfl ?_
      rw [(fK I' hF).1]
      refine X_icmp_ge (tgt := 92) dX4_putBy_77 (by decide) (fun b => ?_) (fun b => ?_)
      · refine X_ldc dX4_putBy_92 kc_X4_94 ?_
        rw [e1]
        refine X_istore_n dX4_putBy_94 rfl rfl ?_
        refine X_iconst (v := nI 0) dX4_putBy_95 (by decide) ?_
        refine X_istore_n dX4_putBy_96 rfl rfl ?_
        exact loop3 sw' I' hF hD 16 0 rfl (Nat.zero_le _)
      · exact absurd (Int32.le_refl _) b
    | succ m ih =>
      intro i sw' I' hm hi hF hD
      have hin : i < n := by omega
      refine X_iload_n dX4_putBy_72 rfl ?_
      refine X_aload_n dX4_putBy_73 rfl ?_
      refine X_getI dX4_putBy_74 gf_X4_51 (by first | assumption | rfl) (by first | assumption | exact Nat.le_of_ble_eq_true rfl | omega) rfl ?_
      rw [(fK I' hF).1]
      refine X_icmp_ge (tgt := 92) dX4_putBy_77 (by decide) (fun b => ?_) (fun b => ?_)
      · exact absurd ((nle (by omega) (by omega)).mp b) (by omega)
      refine X_aload_n dX4_putBy_80 rfl ?_
      refine X_iload_n dX4_putBy_81 rfl ?_
      refine X_iload_n dX4_putBy_82 rfl ?_
      refine X_cVv dX4_putBy_83 ck_X4_110 rfl rfl (by first | assumption | rfl) (by first | assumption | exact Nat.le_of_ble_eq_true rfl | omega) (by omega) (Nat.le_of_ble_eq_true rfl) (c_passStep (by omega) hv hW hin hk (fK I' hF) hD (fun K => Dt_top hn i) (fun I2 f2 h2 => ?_))
      first | refine X_iinc1 dX4_putBy_86 rfl rfl rfl ?_ | refine X_iinc dX4_putBy_86 rfl rfl rfl rfl ?_
      refine X_goto (tgt := 72) dX4_putBy_89 (by decide) ?_
      exact ih (i + 1) (!sw') I2 (by omega) (by omega) (hF.tr f2) h2
  obtain ⟨a, hae⟩ : ∃ a, a = kc sw := ⟨_, rfl⟩
  have loop1 : ∀ (m K : Nat) (I' : Nat → Nat → Int32), m = 16 - K → K ≤ 16 → Fr [146, 147] I I' → (∀ q, q < K → I' a q = nI (D0 c n W k q)) → X G d zX4_putBy 2 [(0, vr 136), (1, vi (nI k)), (2, vi (nI K))] [] (NC, I', J, layR sw) 0 0 (qi Q) := by
    intro m
    have hr : layR sw 136 9 = some a := by rw [hae]; cases sw <;> rfl
    have hs : sh a = (13, 16) := by rw [hae]; cases sw <;> rfl
    have hl : a < NC := by rw [hae]; cases sw <;> decide
    have hkc : a ∈ [146, 147] := by rw [hae]; cases sw <;> decide
    induction m with
    | zero =>
      intro K I' hm hK2 hF hD
      obtain rfl : K = 16 := by omega
      refine X_iload_n dX4_putBy_2 rfl ?_
      refine X_bipush (v := nI 16) dX4_putBy_3 (by decide) ?_
      refine X_icmp_ge (tgt := 70) dX4_putBy_5 (by decide) (fun b => ?_) (fun b => ?_)
      · refine X_iconst (v := nI 0) dX4_putBy_70 (by decide) ?_
        refine X_istore_n dX4_putBy_71 rfl rfl ?_
        exact loop2 n 0 sw I' rfl (Nat.zero_le _) hF (fun q hq => by rw [← hae]; exact hD q hq)
      · exact absurd (by decide) b
    | succ m ih =>
      intro K I' hm hK2 hF hD
      have hK16 : K < 16 := by omega
      have h0 : I' 139 0 = nI (hrg c W n 0) := ((fK I' hF).2.2.2.1 0 (by omega)).1
      have fin : ∀ L2, X G d zX4_putBy 63 ([(0, vr 136), (1, vi (nI k)), (2, vi (nI K))] ++ L2) [vi (nI (D0 c n W k K)), vi (nI K), vr a] (NC, I', J, layR sw) 0 0 (qi Q) := by
        intro L2
        refine weak (lv' := [(0, vr 136), (1, vi (nI k)), (2, vi (nI K))]) (fun q hq => List.mem_append_left _ hq) ?_
        refine X_iast dX4_putBy_63 (by first | assumption | rfl) (by first | assumption | exact Nat.le_of_ble_eq_true rfl | omega) rfl (by first | decide | omega) (by decide) ?_
        first | refine X_iinc1 dX4_putBy_64 rfl rfl rfl ?_ | refine X_iinc dX4_putBy_64 rfl rfl rfl rfl ?_
        refine X_goto (tgt := 2) dX4_putBy_67 (by decide) ?_
        refine ih (K + 1) _ (by omega) (by omega) (hF.tr (Fr.sr hkc)) (fun q hq => ?_)
        rw [sr_eq]
        by_cases h : q = K
        · rw [h, up_eq]
        · rw [up_ne h]; exact hD q (by omega)
      have yes : (sdf K (hrg c W n 0) = 0 ∧ on K 16 ≤ k) → X G d zX4_putBy 29 [(0, vr 136), (1, vi (nI k)), (2, vi (nI K))] [] (NC, I', J, layR sw) 0 0 (qi Q) := by
        intro h
        rw [show D0 c n W k K = csm c n (sdf (hrg c W n 0) K) 4 from if_pos h] at fin
        refine X_iconst (v := nI 1) dX4_putBy_29 (by decide) ?_
        refine X_goto (tgt := 34) dX4_putBy_30 (by decide) ?_
        refine X_istore_n dX4_putBy_34 rfl rfl ?_
        refine X_aload_n dX4_putBy_35 rfl ?_
        refine X_getR dX4_putBy_36 gf_X4_39 (by first | assumption | rfl) (by first | assumption | exact Nat.le_of_ble_eq_true rfl | omega) rfl (by first | assumption | rfl) ?_
        refine X_iload_n dX4_putBy_39 rfl ?_
        refine X_iload_n dX4_putBy_40 rfl ?_
        refine X_if_eq (tgt := 61) dX4_putBy_41 (by decide) (fun b41 => ?_) (fun b41 => ?_)
        · exact absurd b41 (by decide)
        refine X_aload_n dX4_putBy_44 rfl ?_
        refine X_aload_n dX4_putBy_45 rfl ?_
        refine X_getR dX4_putBy_46 gf_X4_18 (by first | assumption | rfl) (by first | assumption | exact Nat.le_of_ble_eq_true rfl | omega) rfl (by first | assumption | rfl) ?_
        refine X_iconst (v := nI 0) dX4_putBy_49 (by decide) ?_
        first | refine X_iald dX4_putBy_50 (by first | assumption | rfl) (by first | assumption | exact Nat.le_of_ble_eq_true rfl | omega) rfl (by first | decide | omega) (by decide) ?_ | refine X_ildA dX4_putBy_50 rfl (by omega) ?_ | refine X_ildM dX4_putBy_50 rfl (by omega) ?_ | refine X_sld dX4_putBy_50 rfl (by omega) (by omega) ?_
        rw [h0]
        refine X_iload_n dX4_putBy_51 rfl ?_
        refine X_iconst (v := (-1)) dX4_putBy_52 (by decide) ?_
        refine X_ixor dX4_putBy_53 ?_
        first | refine X_iandN dX4_putBy_54 ?_ | refine X_iandC dX4_putBy_54 ?_ | refine X_iand dX4_putBy_54 ?_
        have := sdf_le (hrg c W n 0) K
        refine X_cVi dX4_putBy_55 ck_X4_107 rfl rfl (by first | assumption | rfl) (by first | assumption | exact Nat.le_of_ble_eq_true rfl | omega) (by omega) (Nat.le_of_ble_eq_true rfl) (c_costOf (by omega) (fK I' hF) ?_)
        refine X_goto (tgt := 63) dX4_putBy_58 (by decide) ?_
        exact fin [(3, vi (nI 1))]
      have no : ¬ (sdf K (hrg c W n 0) = 0 ∧ on K 16 ≤ k) → X G d zX4_putBy 33 [(0, vr 136), (1, vi (nI k)), (2, vi (nI K))] [] (NC, I', J, layR sw) 0 0 (qi Q) := by
        intro h
        rw [show D0 c n W k K = 536870912 from if_neg h] at fin
        refine X_iconst (v := nI 0) dX4_putBy_33 (by decide) ?_
        refine X_istore_n dX4_putBy_34 rfl rfl ?_
        refine X_aload_n dX4_putBy_35 rfl ?_
        refine X_getR dX4_putBy_36 gf_X4_39 (by first | assumption | rfl) (by first | assumption | exact Nat.le_of_ble_eq_true rfl | omega) rfl (by first | assumption | rfl) ?_
        refine X_iload_n dX4_putBy_39 rfl ?_
        refine X_iload_n dX4_putBy_40 rfl ?_
        refine X_if_eq (tgt := 61) dX4_putBy_41 (by decide) (fun b41 => ?_) (fun b41 => ?_)
        · refine X_ldc dX4_putBy_61 kc_X4_94 ?_
          rw [e1]
          exact fin [(3, vi (nI 0))]
        · exact absurd rfl b41
      refine X_iload_n dX4_putBy_2 rfl ?_
      refine X_bipush (v := nI 16) dX4_putBy_3 (by decide) ?_
      refine X_icmp_ge (tgt := 70) dX4_putBy_5 (by decide) (fun b => ?_) (fun b => ?_)
      · exact absurd ((nle (by omega) (by omega)).mp b) (by omega)
      refine X_iload_n dX4_putBy_8 rfl ?_
      refine X_aload_n dX4_putBy_9 rfl ?_
      refine X_getR dX4_putBy_10 gf_X4_18 (by first | assumption | rfl) (by first | assumption | exact Nat.le_of_ble_eq_true rfl | omega) rfl (by first | assumption | rfl) ?_
      refine X_iconst (v := nI 0) dX4_putBy_13 (by decide) ?_
      first | refine X_iald dX4_putBy_14 (by first | assumption | rfl) (by first | assumption | exact Nat.le_of_ble_eq_true rfl | omega) rfl (by first | decide | omega) (by decide) ?_ | refine X_ildA dX4_putBy_14 rfl (by omega) ?_ | refine X_ildM dX4_putBy_14 rfl (by omega) ?_ | refine X_sld dX4_putBy_14 rfl (by omega) (by omega) ?_
      rw [h0]
      refine X_iconst (v := (-1)) dX4_putBy_15 (by decide) ?_
      refine X_ixor dX4_putBy_16 ?_
      first | refine X_iandN dX4_putBy_17 ?_ | refine X_iandC dX4_putBy_17 ?_ | refine X_iand dX4_putBy_17 ?_
      have hol := on_le K 16
      by_cases hs0 : sdf K (hrg c W n 0) = 0
      · refine X_if_ne (tgt := 33) dX4_putBy_18 (by decide) (fun b18 => ?_) (fun b18 => ?_)
        · exact absurd ((sdf0 (by omega)).mpr hs0) b18
        refine X_iload_n dX4_putBy_21 rfl ?_
        refine X_cSi dX4_putBy_22 ck_X4_80 rfl rfl (by omega) (Nat.le_of_ble_eq_true rfl) (c_bitCount (by omega) ?_)
        refine X_iload_n dX4_putBy_25 rfl ?_
        refine X_icmp_gt (tgt := 33) dX4_putBy_26 (by decide) (fun b26 => ?_) (fun b26 => ?_)
        · have := (nlt (by omega) (by omega)).mp b26
          exact no (fun q => by omega)
        · exact yes ⟨hs0, by
            have : ¬ k < on K 16 := fun q => b26 ((nlt (by omega) (by omega)).mpr q)
            omega⟩
      · refine X_if_ne (tgt := 33) dX4_putBy_18 (by decide) (fun b18 => ?_) (fun b18 => ?_)
        · exact no (fun q => hs0 q.1)
        · exact absurd ((sdf0 (by omega)).mp b18) hs0
  refine Y_of rfl rfl (Nat.le_of_ble_eq_true rfl) rfl ?_
  refine X_iconst (v := nI 0) dX4_putBy_0 (by decide) ?_
  refine X_istore_n dX4_putBy_1 rfl rfl ?_
  exact loop1 16 0 I rfl (Nat.zero_le _) Fr.rf (fun q h => absurd h (Nat.not_lt_zero q))
theorem C_spill {x : Int32} (hd : 6 ≤ d) (hv : VSt s) (hi : CInv I s) : Y G d zX11_spill [vr 0, vi x] (NC, I, J, layR sw) 0 0 (qi (PC s (sp_spill s x) I J)) := by
  have hn := hv.2.1.1.1
  have hW : dW s.2.1 < 16 := by have := hv.2.1.2.2.1; omega
  refine Y_of rfl rfl (Nat.le_of_ble_eq_true rfl) rfl ?_
  unfold sp_spill
  refine X_iload_n dX11_spill_0 rfl ?_
  refine X_iconst (v := nI 1) dX11_spill_1 (by decide) ?_
  refine X_icmp_lt (tgt := 11) dX11_spill_2 (by decide) (fun b2 => ?_) (fun b2 => ?_)
  · rw [if_pos (Or.inl b2)]
    refine X_bipush (v := (-2)) dX11_spill_11 (by decide) ?_
    exact X_iret dX11_spill_13 rfl ⟨_, rfl, PC_same hi⟩
  refine X_iload_n dX11_spill_5 rfl ?_
  refine X_bipush (v := nI 8) dX11_spill_6 (by decide) ?_
  refine X_icmp_le (tgt := 14) dX11_spill_8 (by decide) (fun b8 => ?_) (fun b8 => ?_)
  · rw [if_neg (fun q => q.elim b2 (fun q => absurd b8 (Int32.not_le.mpr q)))]
    obtain ⟨a, a1, a2, rfl⟩ := in1 (by decide) b2 b8
    rw [nI_clamp (by omega)]
    obtain ⟨bb, h1, h2⟩ := spl_eq (k := a) hW hv.2.1.1
    rw [h1]
    refine X_aload_n dX11_spill_14 rfl ?_
    refine X_cVv dX11_spill_15 ck_X11_218 rfl rfl (by first | assumption | rfl) (by first | assumption | exact Nat.le_of_ble_eq_true rfl | omega) (by omega) (Nat.le_of_ble_eq_true rfl) (c_weighValues (by omega) hv hi (fun I1 f1 hK => ?_))
    refine X_aload_n dX11_spill_18 rfl ?_
    refine X_getR dX11_spill_19 gf_X11_62 (by first | assumption | rfl) (by first | assumption | exact Nat.le_of_ble_eq_true rfl | omega) rfl (by first | assumption | rfl) ?_
    refine X_iload_n dX11_spill_22 rfl ?_
    refine X_cVi dX11_spill_23 ck_X11_234 rfl rfl (by first | assumption | rfl) (by first | assumption | exact Nat.le_of_ble_eq_true rfl | omega) (by omega) (Nat.le_of_ble_eq_true rfl) (c_putBy (by omega) hv.2.1.1 hW (by omega) hK h2 (fun I2 sw2 f2 => ?_))
    exact X_iret dX11_spill_26 rfl ⟨_, rfl, PC_scr hi hv [103, 122, 123, 124, 125, 126, 127, 136, 137, 138, 139, 140, 141, 142, 146, 147] ((f1.sub (by simp)).tr (f2.sub (by simp))) (by decide)⟩
  · rw [if_pos (Or.inr (Int32.not_le.mp b8))]
    refine X_bipush (v := (-2)) dX11_spill_11 (by decide) ?_
    exact X_iret dX11_spill_13 rfl ⟨_, rfl, PC_same hi⟩
end CP
