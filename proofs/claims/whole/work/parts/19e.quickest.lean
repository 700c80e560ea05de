/-! quickest -/
def sp_at (n : Nat) (b : BO) (x : Int32) : Int32 := if 8 < n then -3 else match b with
  | none => -6
  | some p => if x = -1 then nI p.1 else if x < 0 ∨ nI n ≤ x then -6 else nI (p.2 x.toNatClampNeg)
def bstT (D : DD) : BO := fq (lf (lwA (dC D).2 1) (cTk (dC D).2 (dly (dC D).2 (dS D)) (dS D 0) (dC D).1) (dC D).1) (dC D).1 0 (fun _ => 0) (fun q => q) none
def sp_quickest (s : SS) (x : Int32) : Int32 := sp_at (dC s.2.1).1 (bstT s.2.1) x
theorem fq_some {A : Nat → Nat} {cost : (Nat → Nat) → Nat} {n : Nat} (hA : ∀ i, A i < 2 ^ i) (hn : n ≤ 12) : ∃ p, fq (lf A cost n) n 0 (fun _ => 0) (fun q => q) none = some p :=
  fq_first n 0 (fun _ => 0) (fun q => q) none (lwb_id hA (n := n) (by omega) n (Nat.le_refl n))
theorem sp_at_n {n : Nat} {p : Nat × (Nat → Nat)} {x : Int32} (hn : ¬ 8 < n) (hx : x ≠ -1) (h : x < 0 ∨ nI n ≤ x) : sp_at n (some p) x = -6 := by
  unfold sp_at
  rw [if_neg hn]
  dsimp only
  rw [if_neg hx, if_pos h]
theorem sp_at_1 {n : Nat} {p : Nat × (Nat → Nat)} (hn : ¬ 8 < n) : sp_at n (some p) (-1) = nI p.1 := by
  unfold sp_at
  rw [if_neg hn]
  dsimp only
  rw [if_pos rfl]
theorem nI_nm1 {a : Nat} (ha : a < 100) : nI a ≠ -1 := fun q => nneg (a := a) (by omega) (by rw [q]; decide)
theorem sp_at_a {n a : Nat} {p : Nat × (Nat → Nat)} (hn : ¬ 8 < n) (ha : a < n) : sp_at n (some p) (nI a) = nI (p.2 a) := by
  unfold sp_at
  rw [if_neg hn]
  dsimp only
  rw [if_neg (nI_nm1 (by omega)), if_neg (scase_n (by omega) ha), nI_clamp (by omega)]
theorem lwb_Lwf32 {A o : Nat → Nat} {n : Nat} (hA : ∀ i, A i < 2 ^ i) (hn : n ≤ 12) (hon : ∀ k, k < n → o k < n) (h : lwb A o n = true) : Lwf A o n := by
  intro k hk j hj
  refine (pbt_bit k).mp (sdf_sub (Nat.lt_of_lt_of_le (hA (o k)) (Nat.pow_le_pow_right (by decide) (by have := hon k hk; omega))) (lwb_at h hk) hj)
section CQ
variable {G : GG} {d : Nat} {sw : Bool} {I : Nat → Nat → Int32} {J : Nat → Nat → Int64} {s : SS} {n : Nat} {c : Nat → Nat → Nat} {dl : Nat → Nat} {u : Nat}
set_option maxRecDepth 20000 in
theorem c_findQuickest {Q : Mm → Prop} (hd : 12 ≤ d) (hn : n ≤ 8) (hdl : ∀ j, dl j ≤ 5) (hu1 : 1 ≤ u) (hu : u ≤ 3) (hC : CKk I n c dl u) (hQ : ∀ I', Fr [128, 133, 134, 135] I I' → LQ I' n (fq (lf (lwA c 1) (cTk c dl u n) n) n 0 (fun _ => 0) (fun q => q) none) → Q (NC, I', J, layR sw)) : Y G d zX0_findQuickest [vr 128] (NC, I, J, layR sw) 0 0 (qv Q) := by
  refine Y_of rfl rfl (Nat.le_of_ble_eq_true rfl) rfl ?_
  refine X_aload_n dX0_findQuickest_0 rfl ?_
  refine X_ldc dX0_findQuickest_1 kc_X0_77 ?_
  refine X_putI dX0_findQuickest_3 gf_X0_78 (Or.inl rfl) (by first | assumption | rfl) (by first | assumption | exact Nat.le_of_ble_eq_true rfl | omega) rfl ?_
  refine X_aload_n dX0_findQuickest_6 rfl ?_
  refine X_getI dX0_findQuickest_7 gf_X0_51 (by first | assumption | rfl) (by first | assumption | exact Nat.le_of_ble_eq_true rfl | omega) rfl ?_
  rw [sr_eq, up_ne (by decide), hC.1]
  refine X_bipush (v := nI 8) dX0_findQuickest_10 (by decide) ?_
  refine X_icmp_gt (tgt := 24) dX0_findQuickest_12 (by decide) (fun b12 => ?_) (fun b12 => ?_)
  · exact absurd ((nlt (by omega) (by omega)).mp b12) (by omega)
  refine X_aload_n dX0_findQuickest_15 rfl ?_
  refine X_iconst (v := nI 0) dX0_findQuickest_16 (by decide) ?_
  refine X_iconst (v := nI 0) dX0_findQuickest_17 (by decide) ?_
  refine X_iconst (v := nI 0) dX0_findQuickest_18 (by decide) ?_
  refine X_iconst (v := nI 0) dX0_findQuickest_19 (by decide) ?_
  refine X_iconst (v := nI 0) dX0_findQuickest_20 (by decide) ?_
  have hC1 : CKk (sr I 128 (up (I 128) 9 536870912)) n c dl u := by
    unfold CKk
    rw [sr_eq, up_ne (by decide), up_ne (by decide), sr_ne (by decide), sr_ne (by decide), sr_ne (by decide)]
    exact hC
  refine X_cVv dX0_findQuickest_21 ck_X0_81 rfl rfl (by first | assumption | rfl) (by first | assumption | exact Nat.le_of_ble_eq_true rfl | omega) (by omega) (Nat.le_of_ble_eq_true rfl) (c_layOn (c := c) (dl := dl) (u := u) hn hdl hu1 hu n 0 (fun _ => 0) (fun q => q) none (d - 1) 0 (trn c dl u (fun _ => 0) 0) _ _ (Nat.zero_add n) (by omega) rfl rfl hC1 (fun i j h _ => h) ⟨fun k hk => ⟨hk, Nat.zero_testBit k⟩, fun i hi _ => ⟨i, hi, rfl⟩⟩ (fun q h => absurd h (Nat.not_lt_zero q)) rfl (fun j h => by rw [Nat.zero_testBit] at h; exact absurd h (by decide)) (fun q h => absurd h (Nat.not_lt_zero q)) ⟨by rw [sr_eq, up_eq]; rfl, trivial⟩ (fun I2 f2 h2 => ?_))
  exact X_vret dX0_findQuickest_24 rfl ⟨rfl, hQ I2 ((Fr.sr (by simp)).tr f2.1) h2⟩
set_option maxRecDepth 20000 in
theorem C_quickest {x : Int32} (hd : 14 ≤ d) (hv : VSt s) (hi : CInv I s) : Y G d zX11_quickest [vr 0, vi x] (NC, I, J, layR sw) 0 0 (qi (PC s (sp_quickest s x) I J)) := by
  have hn := hv.2.1.1.1
  have hu := hv.2.1.2.2.2.1
  have h81 : I 8 1 = nI (dC s.2.1).1 := hi.2.1.1.1
  refine Y_of rfl rfl (Nat.le_of_ble_eq_true rfl) rfl ?_
  refine X_aload_n dX11_quickest_0 rfl ?_
  refine X_getR dX11_quickest_1 gf_X11_19 (by first | assumption | rfl) (by first | assumption | exact Nat.le_of_ble_eq_true rfl | omega) rfl (by first | assumption | rfl) ?_
  refine X_getR dX11_quickest_4 gf_X11_106 (by first | assumption | rfl) (by first | assumption | exact Nat.le_of_ble_eq_true rfl | omega) rfl (by first | assumption | rfl) ?_
  refine X_getI dX11_quickest_7 gf_X11_116 (by first | assumption | rfl) (by first | assumption | exact Nat.le_of_ble_eq_true rfl | omega) rfl ?_
  rw [h81]
  refine X_bipush (v := nI 8) dX11_quickest_10 (by decide) ?_
  refine X_icmp_le (tgt := 18) dX11_quickest_12 (by decide) (fun b12 => ?_) (fun b12 => ?_)
  · have h8 := (nle (by omega) (by omega)).mp b12
    obtain ⟨p, hp⟩ := fq_some (A := lwA (dC s.2.1).2 1) (cost := cTk (dC s.2.1).2 (dly (dC s.2.1).2 (dS s.2.1)) (dS s.2.1 0) (dC s.2.1).1) (n := (dC s.2.1).1) (lwA_lt _ _) hn
    have hsp : sp_quickest s x = sp_at (dC s.2.1).1 (some p) x := by
      unfold sp_quickest bstT
      rw [hp]
    rw [hsp]
    refine X_iload_n dX11_quickest_18 rfl ?_
    refine X_iconst (v := (-1)) dX11_quickest_19 (by decide) ?_
    refine X_icmp_lt (tgt := 37) dX11_quickest_20 (by decide) (fun b20 => ?_) (fun b20 => ?_)
    · rw [sp_at_n (by omega) (fun q => by rw [q] at b20; exact absurd b20 (by decide)) (Or.inl (Int32.lt_trans b20 (by decide)))]
      refine X_bipush (v := (-6)) dX11_quickest_37 (by decide) ?_
      exact X_iret dX11_quickest_39 rfl ⟨_, rfl, PC_same hi⟩
    refine X_iload_n dX11_quickest_23 rfl ?_
    refine X_aload_n dX11_quickest_24 rfl ?_
    refine X_getR dX11_quickest_25 gf_X11_19 (by first | assumption | rfl) (by first | assumption | exact Nat.le_of_ble_eq_true rfl | omega) rfl (by first | assumption | rfl) ?_
    refine X_getR dX11_quickest_28 gf_X11_106 (by first | assumption | rfl) (by first | assumption | exact Nat.le_of_ble_eq_true rfl | omega) rfl (by first | assumption | rfl) ?_
    refine X_getI dX11_quickest_31 gf_X11_116 (by first | assumption | rfl) (by first | assumption | exact Nat.le_of_ble_eq_true rfl | omega) rfl ?_
    rw [h81]
    refine X_icmp_lt (tgt := 40) dX11_quickest_34 (by decide) (fun b34 => ?_) (fun b34 => ?_)
    · rcases scase hn x with h | ⟨a, ha, rfl⟩
      · have hx1 : x = -1 := by
          have h0 : x < 0 := h.elim (fun q => q) (fun q => absurd b34 (Int32.not_lt.mpr q))
          have := Int32.not_lt.mp b20
          rw [Int32.le_iff_toInt_le] at this
          rw [Int32.lt_iff_toInt_lt] at h0
          have e1 : (-1 : Int32).toInt = -1 := by decide
          have e0 : (0 : Int32).toInt = 0 := by decide
          apply Int32.toInt_inj.mp
          omega
        rw [hx1, sp_at_1 (by omega)]
        refine X_aload_n dX11_quickest_40 rfl ?_
        refine X_cVv dX11_quickest_41 ck_X11_197 rfl rfl (by first | assumption | rfl) (by first | assumption | exact Nat.le_of_ble_eq_true rfl | omega) (by omega) (Nat.le_of_ble_eq_true rfl) (c_windClock (by omega) hv hi (fun I1 f1 hC => ?_))
        refine X_aload_n dX11_quickest_44 rfl ?_
        refine X_getR dX11_quickest_45 gf_X11_55 (by first | assumption | rfl) (by first | assumption | exact Nat.le_of_ble_eq_true rfl | omega) rfl (by first | assumption | rfl) ?_
        refine X_cVv dX11_quickest_48 ck_X11_206 rfl rfl (by first | assumption | rfl) (by first | assumption | exact Nat.le_of_ble_eq_true rfl | omega) (by omega) (Nat.le_of_ble_eq_true rfl) (c_findQuickest (by omega) h8 (fun j => (dly_ok hv.2.1 j).2) hu.1 hu.2.1 hC (fun I2 f2 h2 => ?_))
        rw [hp] at h2
        refine X_iload_n dX11_quickest_51 rfl ?_
        refine X_iconst (v := (-1)) dX11_quickest_52 (by decide) ?_
        refine X_icmp_ne (tgt := 66) dX11_quickest_53 (by decide) (fun b53 => ?_) (fun b53 => ?_)
        · exact absurd rfl b53
        refine X_aload_n dX11_quickest_56 rfl ?_
        refine X_getR dX11_quickest_57 gf_X11_55 (by first | assumption | rfl) (by first | assumption | exact Nat.le_of_ble_eq_true rfl | omega) rfl (by first | assumption | rfl) ?_
        refine X_getI dX11_quickest_60 gf_X11_209 (by first | assumption | rfl) (by first | assumption | exact Nat.le_of_ble_eq_true rfl | omega) rfl ?_
        rw [h2.1]
        refine X_goto (tgt := 75) dX11_quickest_63 (by decide) ?_
        exact X_iret dX11_quickest_75 rfl ⟨_, rfl, PC_scr hi hv [122, 123, 124, 125, 126, 127, 128, 130, 131, 132, 133, 134, 135] ((f1.sub (by simp)).tr (f2.sub (by simp))) (by decide)⟩
      · rw [sp_at_a (by omega) ha]
        refine X_aload_n dX11_quickest_40 rfl ?_
        refine X_cVv dX11_quickest_41 ck_X11_197 rfl rfl (by first | assumption | rfl) (by first | assumption | exact Nat.le_of_ble_eq_true rfl | omega) (by omega) (Nat.le_of_ble_eq_true rfl) (c_windClock (by omega) hv hi (fun I1 f1 hC => ?_))
        refine X_aload_n dX11_quickest_44 rfl ?_
        refine X_getR dX11_quickest_45 gf_X11_55 (by first | assumption | rfl) (by first | assumption | exact Nat.le_of_ble_eq_true rfl | omega) rfl (by first | assumption | rfl) ?_
        refine X_cVv dX11_quickest_48 ck_X11_206 rfl rfl (by first | assumption | rfl) (by first | assumption | exact Nat.le_of_ble_eq_true rfl | omega) (by omega) (Nat.le_of_ble_eq_true rfl) (c_findQuickest (by omega) h8 (fun j => (dly_ok hv.2.1 j).2) hu.1 hu.2.1 hC (fun I2 f2 h2 => ?_))
        rw [hp] at h2
        refine X_iload_n dX11_quickest_51 rfl ?_
        refine X_iconst (v := (-1)) dX11_quickest_52 (by decide) ?_
        refine X_icmp_ne (tgt := 66) dX11_quickest_53 (by decide) (fun b53 => ?_) (fun b53 => ?_)
        · refine X_aload_n dX11_quickest_66 rfl ?_
          refine X_getR dX11_quickest_67 gf_X11_55 (by first | assumption | rfl) (by first | assumption | exact Nat.le_of_ble_eq_true rfl | omega) rfl (by first | assumption | rfl) ?_
          refine X_getR dX11_quickest_70 gf_X11_212 (by first | assumption | rfl) (by first | assumption | exact Nat.le_of_ble_eq_true rfl | omega) rfl (by first | assumption | rfl) ?_
          refine X_iload_n dX11_quickest_73 rfl ?_
          first | refine X_iald dX11_quickest_74 (by first | assumption | rfl) (by first | assumption | exact Nat.le_of_ble_eq_true rfl | omega) rfl (by first | decide | omega) (by decide) ?_ | refine X_ildA dX11_quickest_74 rfl (by omega) ?_ | refine X_ildM dX11_quickest_74 rfl (by omega) ?_ | refine X_sld dX11_quickest_74 rfl (by omega) (by omega) ?_
          rw [h2.2.2 a ha]
          exact X_iret dX11_quickest_75 rfl ⟨_, rfl, PC_scr hi hv [122, 123, 124, 125, 126, 127, 128, 130, 131, 132, 133, 134, 135] ((f1.sub (by simp)).tr (f2.sub (by simp))) (by decide)⟩
        · exact absurd b53 (nI_nm1 (by omega))
    · rw [sp_at_n (by omega) (fun q => by rw [q] at b34; exact b34 (Int32.lt_of_lt_of_le (show (-1 : Int32) < 0 by decide) (nge0 (by omega)))) (Or.inr (Int32.not_lt.mp b34))]
      refine X_bipush (v := (-6)) dX11_quickest_37 (by decide) ?_
      exact X_iret dX11_quickest_39 rfl ⟨_, rfl, PC_same hi⟩
  · have h8 : ¬ (dC s.2.1).1 ≤ 8 := fun q => b12 ((nle (by omega) (by omega)).mpr q)
    have hsp : sp_quickest s x = -3 := if_pos (by omega)
    rw [hsp]
    refine X_bipush (v := (-3)) dX11_quickest_15 (by decide) ?_
    exact X_iret dX11_quickest_17 rfl ⟨_, rfl, PC_same hi⟩
set_option maxRecDepth 20000 in
theorem m_bestAt {Q : Int32 → Mm → Prop} {b : Nat} {x : Int32} {cost : (Nat → Nat) → Nat} {L : List Nat} (hL : ∀ k, k ∈ [189, 190, 192, 194] → k ∉ L) (hL2 : L.all (fun k => decide (177 < k) && (decide (k < 197) || (decide (199 < k) && decide (k < 204)))) = true) (hd : 6 ≤ d) (hb : b < 2) (hv : VSt s) (hi : RInv I s) (hcl : ∀ x, cost x < 1000000)
    (hcost : ∀ (Q : Int32 → Mm → Prop) (I' : Nat → Nat → Int32) (o : Nat → Nat) (best : Int32), FrM (192 :: 194 :: 189 :: 190 :: L) [] I I' → (∀ i, i < (dC s.2.1).1 → I' 189 i = nI (ned (dC s.2.1).2 i) ∧ I' 190 i = nI (awt (dC s.2.1).2 i)) → (∀ k, k < (dC s.2.1).1 → I' 192 k = nI (o k)) → (∀ k, k < (dC s.2.1).1 → o k < (dC s.2.1).1) → (∀ q q', q < (dC s.2.1).1 → q' < (dC s.2.1).1 → o q = o q' → q = q') → lwb (lwA (dC s.2.1).2 b) o (dC s.2.1).1 = true →
      (∀ I2, FrM L [] I' I2 → X G (d - 1) zX12_findBest 40 [(0, vr 170), (1, vi (nI b)), (2, vi best), (3, vi (nI 1))] [vi (nI (cost o))] (NC, I2, J, layR sw) 0 0 (qi Q)) → X G (d - 1) zX12_findBest 25 [(0, vr 170), (1, vi (nI b)), (2, vi best), (3, vi (nI 1))] [] (NC, I', J, layR sw) 0 0 (qi Q))
    (hQ : ∀ I', FrM (192 :: 194 :: 189 :: 190 :: L) [] I I' → Q (sp_at (dC s.2.1).1 (fq (lf (lwA (dC s.2.1).2 b) cost (dC s.2.1).1) (dC s.2.1).1 0 (fun _ => 0) (fun q => q) none) x) (NC, I', J, layR sw)) : Y G d zX12_bestAt [vr 170, vi x, vi (nI b)] (NC, I, J, layR sw) 0 0 (qi Q) := by
  have hn := hv.2.1.1.1
  have hL3 : L.all (fun k => decide (175 < k)) = true := by
    rw [List.all_eq_true] at hL2 ⊢
    intro k hk
    have := hL2 k hk
    simp only [Bool.and_eq_true, decide_eq_true_eq] at this ⊢
    omega
  refine Y_of rfl rfl (Nat.le_of_ble_eq_true rfl) rfl ?_
  refine X_aload_n dX12_bestAt_0 rfl ?_
  refine X_getI dX12_bestAt_1 gf_X12_181 (by first | assumption | rfl) (by first | assumption | exact Nat.le_of_ble_eq_true rfl | omega) rfl ?_
  rw [hi.2.1.1]
  refine X_bipush (v := nI 8) dX12_bestAt_4 (by decide) ?_
  refine X_icmp_le (tgt := 12) dX12_bestAt_6 (by decide) (fun b6 => ?_) (fun b6 => ?_)
  · have h8 := (nle (by omega) (by omega)).mp b6
    refine X_aload_n dX12_bestAt_12 rfl ?_
    refine X_iload_n dX12_bestAt_13 rfl ?_
    refine X_cVi dX12_bestAt_14 ck_X12_320 rfl rfl (by first | assumption | rfl) (by first | assumption | exact Nat.le_of_ble_eq_true rfl | omega) (by omega) (Nat.le_of_ble_eq_true rfl) (m_findBest hL hL3 (by omega) hb hi.2.1.rc hv.2.1.1 hcl (hcost _) (fun I' p hp hF hbs => ?_))
    have hQ := hQ I' hF
    rw [hp] at hQ
    refine X_istore_n dX12_bestAt_17 rfl rfl ?_
    refine X_iload_n dX12_bestAt_18 rfl ?_
    refine X_iconst (v := (-1)) dX12_bestAt_19 (by decide) ?_
    refine X_icmp_ne (tgt := 27) dX12_bestAt_20 (by decide) (fun b20 => ?_) (fun b20 => ?_)
    · rcases scase hn x with h | ⟨a, ha, rfl⟩
      · rw [sp_at_n (by omega) b20 h] at hQ
        refine X_aload_n dX12_bestAt_27 rfl ?_
        refine X_iload_n dX12_bestAt_28 rfl ?_
        refine X_cVi dX12_bestAt_29 ck_X12_186 rfl rfl (by first | assumption | rfl) (by first | assumption | exact Nat.le_of_ble_eq_true rfl | omega) (by omega) (Nat.le_of_ble_eq_true rfl) (c_isStep_f (by omega) (by rw [hF.2 9 (by simp)]; exact hi.2.1.1) hn h ?_)
        refine X_if_eq (tgt := 44) dX12_bestAt_32 (by decide) (fun b32 => ?_) (fun b32 => ?_)
        · refine X_bipush (v := (-6)) dX12_bestAt_44 (by decide) ?_
          exact X_iret dX12_bestAt_46 rfl ⟨_, rfl, hQ⟩
        · exact absurd rfl b32
      · rw [sp_at_a (by omega) ha] at hQ
        refine X_aload_n dX12_bestAt_27 rfl ?_
        refine X_iload_n dX12_bestAt_28 rfl ?_
        refine X_cVi dX12_bestAt_29 ck_X12_186 rfl rfl (by first | assumption | rfl) (by first | assumption | exact Nat.le_of_ble_eq_true rfl | omega) (by omega) (Nat.le_of_ble_eq_true rfl) (c_isStep_t (by omega) (by rw [hF.2 9 (by simp)]; exact hi.2.1.1) hn ha ?_)
        refine X_if_eq (tgt := 44) dX12_bestAt_32 (by decide) (fun b32 => ?_) (fun b32 => ?_)
        · exact absurd b32 (by decide)
        · refine X_aload_n dX12_bestAt_35 rfl ?_
          refine X_getR dX12_bestAt_36 gf_X12_80 (by first | assumption | rfl) (by first | assumption | exact Nat.le_of_ble_eq_true rfl | omega) rfl (by first | assumption | rfl) ?_
          refine X_iload_n dX12_bestAt_39 rfl ?_
          first | refine X_iald dX12_bestAt_40 (by first | assumption | rfl) (by first | assumption | exact Nat.le_of_ble_eq_true rfl | omega) rfl (by first | decide | omega) (by decide) ?_ | refine X_ildA dX12_bestAt_40 rfl (by omega) ?_ | refine X_ildM dX12_bestAt_40 rfl (by omega) ?_ | refine X_sld dX12_bestAt_40 rfl (by omega) (by omega) ?_
          rw [hbs.2 a ha]
          refine X_goto (tgt := 46) dX12_bestAt_41 (by decide) ?_
          exact X_iret dX12_bestAt_46 rfl ⟨_, rfl, hQ⟩
    · rw [b20, sp_at_1 (by omega)] at hQ
      refine X_iload_n dX12_bestAt_23 rfl ?_
      refine X_goto (tgt := 46) dX12_bestAt_24 (by decide) ?_
      exact X_iret dX12_bestAt_46 rfl ⟨_, rfl, hQ⟩
  · have h8 : ¬ (dC s.2.1).1 ≤ 8 := fun q => b6 ((nle (by omega) (by omega)).mpr q)
    have hQ := hQ I FrM.rf
    rw [show ∀ B, sp_at (dC s.2.1).1 B x = -3 from fun B => if_pos (by omega)] at hQ
    refine X_bipush (v := (-3)) dX12_bestAt_9 (by decide) ?_
    exact X_iret dX12_bestAt_11 rfl ⟨_, rfl, hQ⟩
set_option maxRecDepth 20000 in
theorem M_quickest {x : Int32} (hd : 8 ≤ d) (hv : VSt s) (hi : RInv I s) : Y G d zX12_quickest [vr 170, vi x] (NC, I, J, layR sw) 0 0 (qi (PM s (sp_quickest s x) I J sw)) := by
  have hn := hv.2.1.1.1
  have hu := hv.2.1.2.2.2.1
  refine Y_of rfl rfl (Nat.le_of_ble_eq_true rfl) rfl ?_
  refine X_aload_n dX12_quickest_0 rfl ?_
  refine X_iload_n dX12_quickest_1 rfl ?_
  refine X_iconst (v := nI 1) dX12_quickest_2 (by decide) ?_
  refine X_cVi dX12_quickest_3 ck_X12_323 rfl rfl (by first | assumption | rfl) (by first | assumption | exact Nat.le_of_ble_eq_true rfl | omega) (by omega) (Nat.le_of_ble_eq_true rfl) (m_bestAt (b := 1) (L := [193]) (cost := cTk (dC s.2.1).2 (dly (dC s.2.1).2 (dS s.2.1)) (dS s.2.1 0) (dC s.2.1).1) (by decide) (by decide) (by omega) (by decide) hv hi (fun x => ?_) (fun Q I' o best hF hB ho hon hinj hlw go => ?_) (fun I' hF => ?_))
  · have := TB_trn (c := (dC s.2.1).2) (o := x) hu.1 (fun j => (dly_ok hv.2.1 j).2) (dC s.2.1).1
    unfold cTk
    have := this.2.2.2
    omega
  · have hi' := RInv_fm hi hF (by decide) (by decide)
    have e1 : (fun i => ned (dC s.2.1).2 i ||| awt (dC s.2.1).2 i) = lwA (dC s.2.1).2 1 := by
      funext i; exact (if_pos rfl).symm
    refine X_iload_n dX12_findBest_25 rfl ?_
    refine X_if_eq (tgt := 36) dX12_findBest_26 (by decide) (fun b26 => ?_) (fun b26 => ?_)
    · exact absurd b26 (by decide)
    refine X_aload_n dX12_findBest_29 rfl ?_
    refine X_cVi dX12_findBest_30 ck_X12_306 rfl rfl (by first | assumption | rfl) (by first | assumption | exact Nat.le_of_ble_eq_true rfl | omega) (by omega) (Nat.le_of_ble_eq_true rfl) (m_findTicks (S := dS s.2.1) (o := o) (by omega) hi'.2.1.rc hv.2.1.1 hB hi'.2.1.2.2.2.2.2.2.1 hi'.2.1.2.2.2.2.2.1 hu.1 hu.2.1 (fun j => (dly_ok hv.2.1 j).2) ho hon (by rw [e1]; exact lwb_Lwf32 (lwA_lt _ _) hn hon hlw) (fun I3 f3 hT => ?_))
    refine X_goto (tgt := 40) dX12_findBest_33 (by decide) ?_
    exact go I3 f3
  · exact X_iret dX12_quickest_6 rfl ⟨_, rfl, PM_fm hi _ [] hF (by decide) (by decide)⟩
end CQ
