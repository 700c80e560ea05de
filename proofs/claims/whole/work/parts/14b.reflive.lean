/-! what is live, by the reference -/
def RC (I : Nat → Nat → Int32) (n : Nat) (c : Nat → Nat → Nat) : Prop := I 170 9 = nI n ∧ ∀ i, i < n → I 172 i = enc (c i 0) ∧ I 173 i = enc (c i 1) ∧ I 174 i = enc (c i 2) ∧ I 175 i = enc (c i 3)
theorem rd.rc {I : Nat → Nat → Int32} {D : DD} (h : rd I D) : RC I (dC D).1 (dC D).2 := ⟨h.1, h.2.1⟩
theorem pm_lt : ∀ m, m < 2 ^ 31 → nI m + Int32.ofInt (-1) < nI m
  | 0, _ => by decide
  | m + 1, h => by rw [pm_s]; exact (nlt h (by omega)).mpr (Nat.lt_succ_self m)
section RF
variable {G : GG} {d : Nat} {sw : Bool} {I : Nat → Nat → Int32} {J : Nat → Nat → Int64} {s : SS} {n W : Nat} {c : Nat → Nat → Nat}
theorem RC.t {i : Nat} (h : RC I n c) (hv : VC n c) (hi : i < n) : I 172 i = nI (c i 0) := by
  rw [(h.2 i hi).1, enc_n (by have := (hv.2 i hi).1; omega)]
theorem m_bitOf {Q : Int32 → Mm → Prop} {M : Mm} {v : Nat} (hd : 2 ≤ d) (hv : v < 200) (hQ : Q (nI (rb v)) M) : Y G d zX12_bitOf [vi (enc v)] M 0 0 (qi Q) := by
  by_cases h : v < 4
  · rw [enc_n (by omega)]
    refine Y_of rfl rfl (Nat.le_of_ble_eq_true rfl) rfl ?_
    refine X_iload_n dX12_bitOf_0 rfl ?_
    refine X_cSi dX12_bitOf_1 ck_X12_218 rfl rfl (by omega) (Nat.le_of_ble_eq_true rfl) (c_isReg_t (by omega) h ?_)
    refine X_if_eq (tgt := 13) dX12_bitOf_4 (by decide) (fun b => ?_) (fun b => ?_)
    · exact absurd b (by decide)
    · refine X_iconst (v := nI 1) dX12_bitOf_7 (by decide) ?_
      refine X_iload_n dX12_bitOf_8 rfl ?_
      refine X_ishl1 dX12_bitOf_9 (by omega) ?_
      refine X_goto (tgt := 14) dX12_bitOf_10 (by decide) ?_
      exact X_iret dX12_bitOf_14 rfl ⟨_, rfl, (by unfold rb at hQ; rwa [if_pos h] at hQ)⟩
  · refine Y_of rfl rfl (Nat.le_of_ble_eq_true rfl) rfl ?_
    refine X_iload_n dX12_bitOf_0 rfl ?_
    refine X_cSi dX12_bitOf_1 ck_X12_218 rfl rfl (by omega) (Nat.le_of_ble_eq_true rfl) (c_isReg_f (by omega) (enc_big h hv) ?_)
    refine X_if_eq (tgt := 13) dX12_bitOf_4 (by decide) (fun b => ?_) (fun b => ?_)
    · refine X_iconst (v := nI 0) dX12_bitOf_13 (by decide) ?_
      exact X_iret dX12_bitOf_14 rfl ⟨_, rfl, (by unfold rb at hQ; rwa [if_neg h] at hQ)⟩
    · exact absurd rfl b
set_option maxRecDepth 20000 in
theorem m_liveAt {Q : Int32 → Mm → Prop} {p : Nat} (hd : 3 ≤ d) (hc : RC I n c) (hv : VC n c) (hw : I 170 12 = nI W) (hp : p ≤ n) (hQ : Q (nI (liv c W n p)) (NC, I, J, layR sw)) : Y G d zX12_liveAt [vr 170, vi (nI p)] (NC, I, J, layR sw) 0 0 (qi Q) := by
  have hn := hv.1
  refine Y_of rfl rfl (Nat.le_of_ble_eq_true rfl) rfl ?_
  refine X_aload_n dX12_liveAt_0 rfl ?_
  refine X_getI dX12_liveAt_1 gf_X12_116 (by first | assumption | rfl) (by first | assumption | exact Nat.le_of_ble_eq_true rfl | omega) rfl ?_
  refine X_istore_n dX12_liveAt_4 rfl rfl ?_
  refine X_aload_n dX12_liveAt_5 rfl ?_
  refine X_getI dX12_liveAt_6 gf_X12_181 (by first | assumption | rfl) (by first | assumption | exact Nat.le_of_ble_eq_true rfl | omega) rfl ?_
  rw [hw, hc.1]
  refine X_iconst (v := nI 1) dX12_liveAt_9 (by decide) ?_
  refine X_isub dX12_liveAt_10 ?_
  rw [sub_pm]
  refine X_istore_n dX12_liveAt_11 rfl rfl ?_
  have loop : ∀ (m : Nat), p ≤ m → m ≤ n → X G d zX12_liveAt 12 [(0, vr 170), (1, vi (nI p)), (2, vi (nI (liv c W n m))), (3, vi (nI m + Int32.ofInt (-1)))] [] (NC, I, J, layR sw) 0 0 (qi Q) := by
    intro m
    induction m with
    | zero =>
      intro h1 h2
      obtain rfl : p = 0 := by omega
      refine X_iload_n dX12_liveAt_12 rfl ?_
      refine X_iload_n dX12_liveAt_13 rfl ?_
      refine X_icmp_lt (tgt := 56) dX12_liveAt_14 (by decide) (fun b => ?_) (fun b => ?_)
      · refine X_iload_n dX12_liveAt_56 rfl ?_
        exact X_iret dX12_liveAt_57 rfl ⟨_, rfl, hQ⟩
      · exact absurd pm_0 b
    | succ m ih =>
      intro h1 h2
      rw [pm_s]
      refine X_iload_n dX12_liveAt_12 rfl ?_
      refine X_iload_n dX12_liveAt_13 rfl ?_
      refine X_icmp_lt (tgt := 56) dX12_liveAt_14 (by decide) (fun b => ?_) (fun b => ?_)
      · have := (nlt (by omega) (by omega)).mp b
        obtain rfl : p = m + 1 := by omega
        refine X_iload_n dX12_liveAt_56 rfl ?_
        exact X_iret dX12_liveAt_57 rfl ⟨_, rfl, hQ⟩
      · have hpm : p ≤ m := by
          have : ¬ m < p := fun q => b ((nlt (by omega) (by omega)).mpr q)
          omega
        have ht := (hv.2 m (by omega)).1
        refine X_iload_n dX12_liveAt_17 rfl ?_
        refine X_iconst (v := nI 1) dX12_liveAt_18 (by decide) ?_
        refine X_aload_n dX12_liveAt_19 rfl ?_
        refine X_getR dX12_liveAt_20 gf_X12_13 (by first | assumption | rfl) (by first | assumption | exact Nat.le_of_ble_eq_true rfl | omega) rfl (by first | assumption | rfl) ?_
        refine X_iload_n dX12_liveAt_23 rfl ?_
        first | refine X_iald dX12_liveAt_24 (by first | assumption | rfl) (by first | assumption | exact Nat.le_of_ble_eq_true rfl | omega) rfl (by first | decide | omega) (by decide) ?_ | refine X_ildA dX12_liveAt_24 rfl (by omega) ?_ | refine X_ildM dX12_liveAt_24 rfl (by omega) ?_ | refine X_sld dX12_liveAt_24 rfl (by omega) (by omega) ?_
        rw [hc.t hv (by omega)]
        first | refine X_ishl1 dX12_liveAt_25 (by omega) ?_ | refine X_ishl dX12_liveAt_25 ?_
        refine X_iconst (v := (-1)) dX12_liveAt_26 (by decide) ?_
        refine X_ixor dX12_liveAt_27 ?_
        first | refine X_iandN dX12_liveAt_28 ?_ | refine X_iandC dX12_liveAt_28 ?_ | refine X_iand dX12_liveAt_28 ?_
        refine X_aload_n dX12_liveAt_29 rfl ?_
        refine X_getR dX12_liveAt_30 gf_X12_19 (by first | assumption | rfl) (by first | assumption | exact Nat.le_of_ble_eq_true rfl | omega) rfl (by first | assumption | rfl) ?_
        refine X_iload_n dX12_liveAt_33 rfl ?_
        first | refine X_iald dX12_liveAt_34 (by first | assumption | rfl) (by first | assumption | exact Nat.le_of_ble_eq_true rfl | omega) rfl (by first | decide | omega) (by decide) ?_ | refine X_ildA dX12_liveAt_34 rfl (by omega) ?_ | refine X_ildM dX12_liveAt_34 rfl (by omega) ?_ | refine X_sld dX12_liveAt_34 rfl (by omega) (by omega) ?_
        rw [(hc.2 m (by omega)).2.2.1]
        refine X_cSi dX12_liveAt_35 ck_X12_221 rfl rfl (by omega) (Nat.le_of_ble_eq_true rfl) (m_bitOf (by omega) (VS_lt (hv.2 m (by omega)) 2 (by decide)) ?_)
        first | refine X_iorN dX12_liveAt_38 ?_ | refine X_ior dX12_liveAt_38 ?_
        refine X_aload_n dX12_liveAt_39 rfl ?_
        refine X_getR dX12_liveAt_40 gf_X12_22 (by first | assumption | rfl) (by first | assumption | exact Nat.le_of_ble_eq_true rfl | omega) rfl (by first | assumption | rfl) ?_
        refine X_iload_n dX12_liveAt_43 rfl ?_
        first | refine X_iald dX12_liveAt_44 (by first | assumption | rfl) (by first | assumption | exact Nat.le_of_ble_eq_true rfl | omega) rfl (by first | decide | omega) (by decide) ?_ | refine X_ildA dX12_liveAt_44 rfl (by omega) ?_ | refine X_ildM dX12_liveAt_44 rfl (by omega) ?_ | refine X_sld dX12_liveAt_44 rfl (by omega) (by omega) ?_
        rw [(hc.2 m (by omega)).2.2.2]
        refine X_cSi dX12_liveAt_45 ck_X12_221 rfl rfl (by omega) (Nat.le_of_ble_eq_true rfl) (m_bitOf (by omega) (VS_lt (hv.2 m (by omega)) 3 (by decide)) ?_)
        first | refine X_iorN dX12_liveAt_48 ?_ | refine X_ior dX12_liveAt_48 ?_
        refine X_istore_n dX12_liveAt_49 rfl rfl ?_
        first | refine X_iincd dX12_liveAt_50 rfl (by omega) rfl rfl ?_ | refine X_iinc dX12_liveAt_50 rfl rfl rfl rfl ?_
        refine X_goto (tgt := 12) dX12_liveAt_53 (by decide) ?_
        rw [Nat.or_assoc, ← liv_at (p := m) (by omega)]
        exact ih hpm (by omega)
  rw [show nI W = nI (liv c W n n) by rw [liv_n]]
  exact loop n hp (Nat.le_refl n)
set_option maxRecDepth 20000 in
theorem m_isDead {Q : Int32 → Mm → Prop} {i : Nat} (hd : 4 ≤ d) (hc : RC I n c) (hv : VC n c) (hw : I 170 12 = nI W) (hW : W < 16) (hi : i < n) (hQ : Q (nI (if (liv c W n (i + 1)).testBit (c i 0) then 0 else 1)) (NC, I, J, layR sw)) : Y G d zX12_isDead [vr 170, vi (nI i)] (NC, I, J, layR sw) 0 0 (qi Q) := by
  have hn := hv.1
  have hlt := liv_lt (c := c) (n := n) hW (i + 1)
  have ht := (hv.2 i hi).1
  refine Y_of rfl rfl (Nat.le_of_ble_eq_true rfl) rfl ?_
  refine X_aload_n dX12_isDead_0 rfl ?_
  refine X_iload_n dX12_isDead_1 rfl ?_
  refine X_iconst (v := nI 1) dX12_isDead_2 (by decide) ?_
  first | refine X_iaddN dX12_isDead_3 ?_ | refine X_iadd dX12_isDead_3 ?_
  refine X_cVi dX12_isDead_4 ck_X12_224 rfl rfl (by first | assumption | rfl) (by first | assumption | exact Nat.le_of_ble_eq_true rfl | omega) (by omega) (Nat.le_of_ble_eq_true rfl) (m_liveAt (by omega) hc hv hw (by omega) ?_)
  refine X_aload_n dX12_isDead_7 rfl ?_
  refine X_getR dX12_isDead_8 gf_X12_13 (by first | assumption | rfl) (by first | assumption | exact Nat.le_of_ble_eq_true rfl | omega) rfl (by first | assumption | rfl) ?_
  refine X_iload_n dX12_isDead_11 rfl ?_
  first | refine X_iald dX12_isDead_12 (by first | assumption | rfl) (by first | assumption | exact Nat.le_of_ble_eq_true rfl | omega) rfl (by first | decide | omega) (by decide) ?_ | refine X_ildA dX12_isDead_12 rfl (by omega) ?_ | refine X_ildM dX12_isDead_12 rfl (by omega) ?_ | refine X_sld dX12_isDead_12 rfl (by omega) (by omega) ?_
  rw [hc.t hv hi]
  first | refine X_ishrN dX12_isDead_13 (by omega) (by omega) ?_ | refine X_ishr dX12_isDead_13 ?_
  refine X_iconst (v := nI 1) dX12_isDead_14 (by decide) ?_
  first | refine X_iandN dX12_isDead_15 ?_ | refine X_iandC dX12_isDead_15 ?_ | refine X_iand dX12_isDead_15 ?_
  rw [Nat.and_one_is_mod, bit_mod]
  refine X_if_ne (tgt := 23) dX12_isDead_16 (by decide) (fun h16 => ?_) (fun h16 => ?_)
  · have hb : (liv c W n (i + 1)).testBit (c i 0) = true := by
      cases hb : (liv c W n (i + 1)).testBit (c i 0)
      · rw [hb] at h16; exact absurd rfl h16
      · rfl
    rw [hb] at hQ
    refine X_iconst (v := nI 0) dX12_isDead_23 (by decide) ?_
    exact X_zret dX12_isDead_24 rfl (by first | rfl | (simp; done) | decide) ⟨_, rfl, hQ⟩
  · have hb : (liv c W n (i + 1)).testBit (c i 0) = false := by
      cases hb : (liv c W n (i + 1)).testBit (c i 0)
      · rfl
      · rw [hb] at h16; exact absurd h16 (by decide)
    rw [hb] at hQ
    refine X_iconst (v := nI 1) dX12_isDead_19 (by decide) ?_
    refine X_goto (tgt := 24) dX12_isDead_20 (by decide) ?_
    exact X_zret dX12_isDead_24 rfl (by first | rfl | (simp; done) | decide) ⟨_, rfl, hQ⟩
theorem M_live {x : Int32} (hd : 4 ≤ d) (hv : VSt s) (hi : RInv I s) : Y G d zX12_live [vr 170, vi x] (NC, I, J, layR sw) 0 0 (qi (PM s (sp_live s x) I J sw)) := by
  have hn := hv.2.1.1.1
  refine Y_of rfl rfl (Nat.le_of_ble_eq_true rfl) rfl ?_
  unfold sp_live
  rcases pcase hn x with h | ⟨a, ha, rfl⟩
  · rw [if_pos h]
    refine X_aload_n dX12_live_0 rfl ?_
    refine X_iload_n dX12_live_1 rfl ?_
    refine X_cVi dX12_live_2 ck_X12_205 rfl rfl (by first | assumption | rfl) (by first | assumption | exact Nat.le_of_ble_eq_true rfl | omega) (by omega) (Nat.le_of_ble_eq_true rfl) (c_isPlace_f (by omega) hi.2.1.1 h ?_)
    refine X_if_eq (tgt := 16) dX12_live_5 (by decide) (fun b => ?_) (fun b => ?_)
    · refine X_iconst (v := (-1)) dX12_live_16 (by decide) ?_
      exact X_iret dX12_live_17 rfl ⟨_, rfl, PM_same hi⟩
    · exact absurd rfl b
  · rw [if_neg (pcase_n hn ha), nI_clamp (by omega)]
    refine X_aload_n dX12_live_0 rfl ?_
    refine X_iload_n dX12_live_1 rfl ?_
    refine X_cVi dX12_live_2 ck_X12_205 rfl rfl (by first | assumption | rfl) (by first | assumption | exact Nat.le_of_ble_eq_true rfl | omega) (by omega) (Nat.le_of_ble_eq_true rfl) (c_isPlace_t (by omega) hi.2.1.1 hn ha ?_)
    refine X_if_eq (tgt := 16) dX12_live_5 (by decide) (fun b => ?_) (fun b => ?_)
    · exact absurd b (by decide)
    · refine X_aload_n dX12_live_8 rfl ?_
      refine X_iload_n dX12_live_9 rfl ?_
      refine X_cVi dX12_live_10 ck_X12_224 rfl rfl (by first | assumption | rfl) (by first | assumption | exact Nat.le_of_ble_eq_true rfl | omega) (by omega) (Nat.le_of_ble_eq_true rfl) (m_liveAt (by omega) hi.2.1.rc hv.2.1.1 hi.2.1.2.2.2.2.1 ha ?_)
      refine X_goto (tgt := 17) dX12_live_13 (by decide) ?_
      exact X_iret dX12_live_17 rfl ⟨_, rfl, PM_same hi⟩
end RF
