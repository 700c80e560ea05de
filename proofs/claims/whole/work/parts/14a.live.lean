/-! what is live -/
def lvm (c : Nat → Nat → Nat) (W n : Nat) : Nat → Nat
  | 0 => W
  | m + 1 => sdf (lvm c W n m) (2 ^ c (n - (m + 1)) 0) ||| (rb (c (n - (m + 1)) 2) ||| rb (c (n - (m + 1)) 3))
def liv (c : Nat → Nat → Nat) (W n p : Nat) : Nat := lvm c W n (n - p)
theorem liv_n {c : Nat → Nat → Nat} {W n : Nat} : liv c W n n = W := by unfold liv; rw [Nat.sub_self]; rfl
theorem liv_at {c : Nat → Nat → Nat} {W n p : Nat} (h : p < n) : liv c W n p = sdf (liv c W n (p + 1)) (2 ^ c p 0) ||| (rb (c p 2) ||| rb (c p 3)) := by
  unfold liv
  obtain ⟨m, hm⟩ : ∃ m, n - p = m + 1 := ⟨n - p - 1, by omega⟩
  rw [hm, show n - (p + 1) = m by omega]
  show sdf (lvm c W n m) (2 ^ c (n - (m + 1)) 0) ||| (rb (c (n - (m + 1)) 2) ||| rb (c (n - (m + 1)) 3)) = _
  rw [show n - (m + 1) = p by omega]
theorem or16 {a b : Nat} (ha : a < 16) (hb : b < 16) : a ||| b < 16 := Nat.or_lt_two_pow (n := 4) ha hb
theorem liv_lt {c : Nat → Nat → Nat} {W n : Nat} (hW : W < 16) (p : Nat) : liv c W n p < 16 := by
  unfold liv
  generalize n - p = m
  induction m with
  | zero => exact hW
  | succ m ih => exact or16 (Nat.lt_of_le_of_lt (sdf_le _ _) ih) (or16 (rb_lt _) (rb_lt _))
/-- a row of facts -/
def IsFa (f : Nat) : Prop := sh f = (3, 9) ∧ (sh (f + 1) = (13, 13) ∧ sh (f + 2) = (13, 52) ∧ sh (f + 3) = (13, 52) ∧ sh (f + 4) = (13, 12) ∧ sh (f + 5) = (13, 8) ∧ sh (f + 6) = (13, 40) ∧ sh (f + 7) = (13, 40) ∧ sh (f + 8) = (13, 40)) ∧ (∀ sw, layR sw f 0 = some (f + 1) ∧ layR sw f 1 = some (f + 2) ∧ layR sw f 2 = some (f + 3) ∧ layR sw f 3 = some (f + 4) ∧ layR sw f 4 = some (f + 5) ∧ layR sw f 5 = some (f + 6) ∧ layR sw f 6 = some (f + 7) ∧ layR sw f 7 = some (f + 8)) ∧ (101 < f ∧ f + 8 < 121)
theorem fa102 : IsFa 102 := ⟨rfl, ⟨rfl, rfl, rfl, rfl, rfl, rfl, rfl, rfl⟩, fun _ => ⟨rfl, rfl, rfl, rfl, rfl, rfl, rfl, rfl⟩, by decide⟩
theorem fa112 : IsFa 112 := ⟨rfl, ⟨rfl, rfl, rfl, rfl, rfl, rfl, rfl, rfl⟩, fun _ => ⟨rfl, rfl, rfl, rfl, rfl, rfl, rfl, rfl⟩, by decide⟩
theorem sub_pm (n : Nat) : nI n - nI 1 = nI n + Int32.ofInt (-1) := by
  rw [Int32.sub_eq_add_neg]; rfl
theorem pm_0 : nI 0 + Int32.ofInt (-1) < 0 := by decide
theorem pm_s (m : Nat) : nI (m + 1) + Int32.ofInt (-1) = nI m := pk_m1 m
theorem CR_fr {I I' : Nat → Nat → Int32} {l : List Nat} {k n : Nat} {c : Nat → Nat → Nat} (h : CR I k n c) (hf : Fr l I I') (h1 : k ∉ l) (h2 : k + 1 ∉ l) : CR I' k n c := h.fr (by rw [hf k h1]) (hf _ h2)
theorem CInv_fr {I I' : Nat → Nat → Int32} {s : SS} {l : List Nat} (hi : CInv I s) (hv : VSt s) (hf : Fr l I I') (hl : l.all (fun k => decide (102 ≤ k)) = true) : CInv I' s := by
  have hh : ∀ j, j < 102 → I' j = I j := fun j hj => hf j (fun q => by
    have := List.all_eq_true.mp hl j q
    simp only [decide_eq_true_eq] at this
    omega)
  exact hi.fr hv (by rw [hh 1 (by omega)]) (hh 2 (by omega)) (fun j _ b => hh j b)
theorem PC_scr {I I' : Nat → Nat → Int32} {J : Nat → Nat → Int64} {sw : Bool} {s : SS} {a : Int32} (hi : CInv I s) (hv : VSt s) (l : List Nat) (hf : Fr l I I') (hl : l.all (fun k => decide (102 ≤ k) && (decide (k < 152) || (decide (166 < k) && decide (k < 170)))) = true) : PC s a I J a (NC, I', J, layR sw) := by
  refine PC_mk (CInv_fr hi hv hf ?_) l hf ?_
  · rw [List.all_eq_true] at hl ⊢
    intro k hk
    have := hl k hk
    simp only [Bool.and_eq_true] at this
    exact this.1
  · rw [List.all_eq_true] at hl ⊢
    intro k hk
    have := hl k hk
    simp only [Bool.and_eq_true] at this
    exact this.2
section CF
variable {G : GG} {d : Nat} {sw : Bool} {I : Nat → Nat → Int32} {J : Nat → Nat → Int64} {s : SS} {n W : Nat} {c : Nat → Nat → Nat}
theorem CR_tgt {k i : Nat} (hc : CR I k n c) (hi : i < n) (hv : VC n c) : I (k + 1) (i * 4) = nI (c i 0) := by
  have h := hc.2 i hi 0 (by decide)
  have h4 := (hv.2 i hi).1
  rw [enc_n (by omega)] at h
  exact h
theorem c_tgt {Q : Int32 → Mm → Prop} {k i : Nat} (hd : 1 ≤ d) (hk : IsCd k) (hc : CR I k n c) (hv : VC n c) (hi : i < n) (hQ : Q (nI (c i 0)) (NC, I, J, layR sw)) : Y G d zX1_target [vr k, vi (nI i)] (NC, I, J, layR sw) 0 0 (qi Q) :=
  c_target hd hk hc.1 hv.1 hi (CR_tgt hc hi hv) (hv.2 i hi).1 hQ
set_option maxRecDepth 20000 in
theorem c_followLive {Q : Mm → Prop} {f : Nat} (hd : 3 ≤ d) (hf : IsFa f) (hc : CR I 8 n c) (hv : VC n c) (hW : W < 16) (hQ : ∀ I', Fr [f + 1] I I' → (∀ p, p ≤ n → I' (f + 1) p = nI (liv c W n p)) → Q (NC, I', J, layR sw)) : Y G d zX3_followLive [vr f, vr 8, vi (nI W)] (NC, I, J, layR sw) 0 0 (qv Q) := by
  obtain ⟨s0, ⟨s1, s2, s3, s4, s5, s6, s7, s8⟩, hr, hb1, hb2⟩ := hf
  obtain ⟨r0, r1, r2, r3, r4, r5, r6, r7⟩ := hr sw
  have k0 : f < NC := by show f < 206; omega
  have k1 : f + 1 < NC := by show f + 1 < 206; omega
  have hn := hv.1
  refine Y_of rfl rfl (Nat.le_of_ble_eq_true rfl) rfl ?_
  refine X_aload_n dX3_followLive_0 rfl ?_
  refine X_getR dX3_followLive_1 gf_X3_9 (by first | assumption | rfl) (by first | assumption | exact Nat.le_of_ble_eq_true rfl | omega) rfl (by first | assumption | rfl) ?_
  refine X_aload_n dX3_followLive_4 rfl ?_
  refine X_getI dX3_followLive_5 gf_X3_36 (by first | assumption | rfl) (by first | assumption | exact Nat.le_of_ble_eq_true rfl | omega) rfl ?_
  rw [hc.1]
  refine X_iload_n dX3_followLive_8 rfl ?_
  refine X_iast dX3_followLive_9 (by first | assumption | rfl) (by first | assumption | exact Nat.le_of_ble_eq_true rfl | omega) rfl (by first | decide | omega) (by decide) ?_
  refine X_aload_n dX3_followLive_10 rfl ?_
  refine X_getI dX3_followLive_11 gf_X3_36 (by first | assumption | rfl) (by first | assumption | exact Nat.le_of_ble_eq_true rfl | omega) rfl ?_
  rw [sr_ne (show 8 ≠ f + 1 by omega), hc.1]
  refine X_iconst (v := nI 1) dX3_followLive_14 (by decide) ?_
  refine X_isub dX3_followLive_15 ?_
  rw [sub_pm]
  refine X_istore_n dX3_followLive_16 rfl rfl ?_
  have loop : ∀ (m : Nat) (I' : Nat → Nat → Int32), m ≤ n → Fr [f + 1] I I' → (∀ p, m ≤ p → p ≤ n → I' (f + 1) p = nI (liv c W n p)) → X G d zX3_followLive 17 [(0, vr f), (1, vr 8), (2, vi (nI W)), (3, vi (nI m + Int32.ofInt (-1)))] [] (NC, I', J, layR sw) 0 0 (qv Q) := by
    intro m
    induction m with
    | zero =>
      intro I' hm hF hp
      refine X_iload_n dX3_followLive_17 rfl ?_
      refine X_if_lt (tgt := 57) dX3_followLive_18 (by decide) (fun h18 => ?_) (fun h18 => ?_)
      · exact X_vret dX3_followLive_57 rfl ⟨rfl, hQ I' hF (fun p q => hp p (Nat.zero_le p) q)⟩
      · exact absurd pm_0 h18
    | succ m ih =>
      intro I' hm hF hp
      have hc' : CR I' 8 n c := CR_fr hc hF (by simp; omega) (by simp; omega)
      rw [pm_s]
      refine X_iload_n dX3_followLive_17 rfl ?_
      refine X_if_lt (tgt := 57) dX3_followLive_18 (by decide) (fun h18 => ?_) (fun h18 => ?_)
      · exact absurd h18 (nneg (by omega))
      refine X_aload_n dX3_followLive_21 rfl ?_
      refine X_getR dX3_followLive_22 gf_X3_9 (by first | assumption | rfl) (by first | assumption | exact Nat.le_of_ble_eq_true rfl | omega) rfl (by first | assumption | rfl) ?_
      refine X_iload_n dX3_followLive_25 rfl ?_
      refine X_aload_n dX3_followLive_26 rfl ?_
      refine X_getR dX3_followLive_27 gf_X3_9 (by first | assumption | rfl) (by first | assumption | exact Nat.le_of_ble_eq_true rfl | omega) rfl (by first | assumption | rfl) ?_
      refine X_iload_n dX3_followLive_30 rfl ?_
      refine X_iconst (v := nI 1) dX3_followLive_31 (by decide) ?_
      first | refine X_iaddN dX3_followLive_32 ?_ | refine X_iadd dX3_followLive_32 ?_
      first | refine X_iald dX3_followLive_33 (by first | assumption | rfl) (by first | assumption | exact Nat.le_of_ble_eq_true rfl | omega) rfl (by first | decide | omega) (by decide) ?_ | refine X_ildA dX3_followLive_33 rfl (by omega) ?_ | refine X_ildM dX3_followLive_33 rfl (by omega) ?_ | refine X_sld dX3_followLive_33 rfl (by omega) (by omega) ?_
      rw [hp (m + 1) (Nat.le_refl _) (by omega)]
      refine X_iconst (v := nI 1) dX3_followLive_34 (by decide) ?_
      refine X_aload_n dX3_followLive_35 rfl ?_
      refine X_iload_n dX3_followLive_36 rfl ?_
      refine X_cVi dX3_followLive_37 ck_X3_42 rfl rfl (by first | assumption | rfl) (by first | assumption | exact Nat.le_of_ble_eq_true rfl | omega) (by omega) (Nat.le_of_ble_eq_true rfl) (c_tgt (by omega) cd8 hc' hv (by omega) ?_)
      have ht := (hv.2 m (by omega)).1
      first | refine X_ishl1 dX3_followLive_40 (by omega) ?_ | refine X_ishl dX3_followLive_40 ?_
      refine X_iconst (v := (-1)) dX3_followLive_41 (by decide) ?_
      refine X_ixor dX3_followLive_42 ?_
      first | refine X_iandN dX3_followLive_43 ?_ | refine X_iandC dX3_followLive_43 ?_ | refine X_iand dX3_followLive_43 ?_
      refine X_aload_n dX3_followLive_44 rfl ?_
      refine X_iload_n dX3_followLive_45 rfl ?_
      refine X_cVi dX3_followLive_46 ck_X3_46 rfl rfl (by first | assumption | rfl) (by first | assumption | exact Nat.le_of_ble_eq_true rfl | omega) (by omega) (Nat.le_of_ble_eq_true rfl) (c_readBits (by omega) cd8 hc' hv (by omega) ?_)
      first | refine X_iorN dX3_followLive_49 ?_ | refine X_ior dX3_followLive_49 ?_
      refine X_iast dX3_followLive_50 (by first | assumption | rfl) (by first | assumption | exact Nat.le_of_ble_eq_true rfl | omega) rfl (by first | decide | omega) (by decide) ?_
      first | refine X_iincd dX3_followLive_51 rfl (by omega) rfl rfl ?_ | refine X_iinc dX3_followLive_51 rfl rfl rfl rfl ?_
      refine X_goto (tgt := 17) dX3_followLive_54 (by decide) ?_
      refine ih _ (by omega) (hF.tr (Fr.sr (by simp))) (fun p h1 h2 => ?_)
      rw [sr_eq]
      by_cases hpm : p = m
      · subst hpm
        rw [up_eq, liv_at (p := p) (by omega)]
      · rw [up_ne hpm]
        exact hp p (by omega) h2
  refine loop n _ (Nat.le_refl n) (Fr.sr (by simp)) (fun p h1 h2 => ?_)
  obtain rfl : p = n := by omega
  rw [sr_eq, up_eq, liv_n]
set_option maxRecDepth 20000 in
theorem c_isDead {Q : Int32 → Mm → Prop} {f i : Nat} (hd : 2 ≤ d) (hf : IsFa f) (hc : CR I 8 n c) (hv : VC n c) (hi : i < n) (hW : W < 16) (hl : I (f + 1) (i + 1) = nI (liv c W n (i + 1))) (hQ : Q (nI (if (liv c W n (i + 1)).testBit (c i 0) then 0 else 1)) (NC, I, J, layR sw)) : Y G d zX3_isDead [vr f, vr 8, vi (nI i)] (NC, I, J, layR sw) 0 0 (qi Q) := by
  obtain ⟨s0, ⟨s1, s2, s3, s4, s5, s6, s7, s8⟩, hr, hb1, hb2⟩ := hf
  obtain ⟨r0, r1, r2, r3, r4, r5, r6, r7⟩ := hr sw
  have k0 : f < NC := by show f < 206; omega
  have k1 : f + 1 < NC := by show f + 1 < 206; omega
  have hn := hv.1
  have hlt := liv_lt (c := c) (n := n) hW (i + 1)
  have ht := (hv.2 i hi).1
  refine Y_of rfl rfl (Nat.le_of_ble_eq_true rfl) rfl ?_
  refine X_aload_n dX3_isDead_0 rfl ?_
  refine X_getR dX3_isDead_1 gf_X3_9 (by first | assumption | rfl) (by first | assumption | exact Nat.le_of_ble_eq_true rfl | omega) rfl (by first | assumption | rfl) ?_
  refine X_iload_n dX3_isDead_4 rfl ?_
  refine X_iconst (v := nI 1) dX3_isDead_5 (by decide) ?_
  first | refine X_iaddN dX3_isDead_6 ?_ | refine X_iadd dX3_isDead_6 ?_
  first | refine X_iald dX3_isDead_7 (by first | assumption | rfl) (by first | assumption | exact Nat.le_of_ble_eq_true rfl | omega) rfl (by first | decide | omega) (by decide) ?_ | refine X_ildA dX3_isDead_7 rfl (by omega) ?_ | refine X_ildM dX3_isDead_7 rfl (by omega) ?_ | refine X_sld dX3_isDead_7 rfl (by omega) (by omega) ?_
  rw [hl]
  refine X_aload_n dX3_isDead_8 rfl ?_
  refine X_iload_n dX3_isDead_9 rfl ?_
  refine X_cVi dX3_isDead_10 ck_X3_42 rfl rfl (by first | assumption | rfl) (by first | assumption | exact Nat.le_of_ble_eq_true rfl | omega) (by omega) (Nat.le_of_ble_eq_true rfl) (c_tgt (by omega) cd8 hc hv hi ?_)
  first | refine X_ishrN dX3_isDead_13 (by omega) (by omega) ?_ | refine X_ishr dX3_isDead_13 ?_
  refine X_iconst (v := nI 1) dX3_isDead_14 (by decide) ?_
  first | refine X_iandN dX3_isDead_15 ?_ | refine X_iandC dX3_isDead_15 ?_ | refine X_iand dX3_isDead_15 ?_
  rw [Nat.and_one_is_mod, bit_mod]
  refine X_if_ne (tgt := 23) dX3_isDead_16 (by decide) (fun h16 => ?_) (fun h16 => ?_)
  · have hb : (liv c W n (i + 1)).testBit (c i 0) = true := by
      cases hb : (liv c W n (i + 1)).testBit (c i 0)
      · rw [hb] at h16; exact absurd rfl h16
      · rfl
    rw [hb] at hQ
    refine X_iconst (v := nI 0) dX3_isDead_23 (by decide) ?_
    exact X_zret dX3_isDead_24 rfl (by first | rfl | (simp; done) | decide) ⟨_, rfl, hQ⟩
  · have hb : (liv c W n (i + 1)).testBit (c i 0) = false := by
      cases hb : (liv c W n (i + 1)).testBit (c i 0)
      · rfl
      · rw [hb] at h16; exact absurd h16 (by decide)
    rw [hb] at hQ
    refine X_iconst (v := nI 1) dX3_isDead_19 (by decide) ?_
    refine X_goto (tgt := 24) dX3_isDead_20 (by decide) ?_
    exact X_zret dX3_isDead_24 rfl (by first | rfl | (simp; done) | decide) ⟨_, rfl, hQ⟩
def sp_live (s : SS) (x : Int32) : Int32 := if x < 0 ∨ nI (dC s.2.1).1 < x then -1 else nI (liv (dC s.2.1).2 (dW s.2.1) (dC s.2.1).1 x.toNatClampNeg)
theorem pcase {n : Nat} (hn : n ≤ 12) (x : Int32) : (x < 0 ∨ nI n < x) ∨ ∃ a, a ≤ n ∧ x = nI a := by
  rcases icase x (n + 1) (by omega) with h | ⟨a, ha, rfl⟩ | h
  · exact Or.inl (Or.inl h)
  · exact Or.inr ⟨a, by omega, rfl⟩
  · exact Or.inl (Or.inr (Int32.lt_of_lt_of_le ((nlt (by omega) (by omega)).mpr (Nat.lt_succ_self n)) h.2))
theorem pcase_n {n a : Nat} (hn : n ≤ 12) (ha : a ≤ n) : ¬ (nI a < 0 ∨ nI n < nI a) := fun q => q.elim (nneg (by omega)) (fun q => absurd ((nlt (by omega) (by omega)).mp q) (by omega))
theorem scase {n : Nat} (hn : n ≤ 12) (x : Int32) : (x < 0 ∨ nI n ≤ x) ∨ ∃ a, a < n ∧ x = nI a := by
  rcases icase x n (by omega) with h | h | h
  · exact Or.inl (Or.inl h)
  · exact Or.inr h
  · exact Or.inl (Or.inr h.2)
theorem scase_n {n a : Nat} (hn : n ≤ 12) (ha : a < n) : ¬ (nI a < 0 ∨ nI n ≤ nI a) := fun q => q.elim (nneg (by omega)) (fun q => absurd ((nle (by omega) (by omega)).mp q) (by omega))
set_option maxRecDepth 20000 in
theorem C_live {x : Int32} (hd : 4 ≤ d) (hv : VSt s) (hi : CInv I s) : Y G d zX11_live [vr 0, vi x] (NC, I, J, layR sw) 0 0 (qi (PC s (sp_live s x) I J)) := by
  have hW := hv.2.1.2.2.1.2
  have hn := hv.2.1.1.1
  refine Y_of rfl rfl (Nat.le_of_ble_eq_true rfl) rfl ?_
  unfold sp_live
  rcases pcase hn x with h | ⟨a, ha, rfl⟩
  · rw [if_pos h]
    refine X_aload_n dX11_live_0 rfl ?_
    refine X_iload_n dX11_live_1 rfl ?_
    refine X_cVi dX11_live_2 ck_X11_145 rfl rfl (by first | assumption | rfl) (by first | assumption | exact Nat.le_of_ble_eq_true rfl | omega) (by omega) (Nat.le_of_ble_eq_true rfl) (c_isNoPlace_t hi.2.1.1.1 h ?_)
    refine X_if_eq (tgt := 10) dX11_live_5 (by decide) (fun b => ?_) (fun b => ?_)
    · exact absurd b (by decide)
    · refine X_iconst (v := (-1)) dX11_live_8 (by decide) ?_
      exact X_iret dX11_live_9 rfl ⟨_, rfl, PC_same hi⟩
  · rw [if_neg (pcase_n hn ha), nI_clamp (by omega)]
    refine X_aload_n dX11_live_0 rfl ?_
    refine X_iload_n dX11_live_1 rfl ?_
    refine X_cVi dX11_live_2 ck_X11_145 rfl rfl (by first | assumption | rfl) (by first | assumption | exact Nat.le_of_ble_eq_true rfl | omega) (by omega) (Nat.le_of_ble_eq_true rfl) (c_isNoPlace_f hi.2.1.1.1 hn ha ?_)
    refine X_if_eq (tgt := 10) dX11_live_5 (by decide) (fun b => ?_) (fun b => ?_)
    · refine X_aload_n dX11_live_10 rfl ?_
      refine X_getR dX11_live_11 gf_X11_34 (by first | assumption | rfl) (by first | assumption | exact Nat.le_of_ble_eq_true rfl | omega) rfl (by first | assumption | rfl) ?_
      refine X_aload_n dX11_live_14 rfl ?_
      refine X_getR dX11_live_15 gf_X11_19 (by first | assumption | rfl) (by first | assumption | exact Nat.le_of_ble_eq_true rfl | omega) rfl (by first | assumption | rfl) ?_
      refine X_getR dX11_live_18 gf_X11_106 (by first | assumption | rfl) (by first | assumption | exact Nat.le_of_ble_eq_true rfl | omega) rfl (by first | assumption | rfl) ?_
      refine X_aload_n dX11_live_21 rfl ?_
      refine X_getR dX11_live_22 gf_X11_19 (by first | assumption | rfl) (by first | assumption | exact Nat.le_of_ble_eq_true rfl | omega) rfl (by first | assumption | rfl) ?_
      refine X_getI dX11_live_25 gf_X11_120 (by first | assumption | rfl) (by first | assumption | exact Nat.le_of_ble_eq_true rfl | omega) rfl ?_
      rw [hi.2.1.2.2.1]
      refine X_cVv dX11_live_28 ck_X11_148 rfl rfl (by first | assumption | rfl) (by first | assumption | exact Nat.le_of_ble_eq_true rfl | omega) (by omega) (Nat.le_of_ble_eq_true rfl) (c_followLive (by omega) fa102 hi.2.1.1 hv.2.1.1 (by omega) (fun I' hF hl => ?_))
      refine X_aload_n dX11_live_31 rfl ?_
      refine X_getR dX11_live_32 gf_X11_34 (by first | assumption | rfl) (by first | assumption | exact Nat.le_of_ble_eq_true rfl | omega) rfl (by first | assumption | rfl) ?_
      refine X_getR dX11_live_35 gf_X11_152 (by first | assumption | rfl) (by first | assumption | exact Nat.le_of_ble_eq_true rfl | omega) rfl (by first | assumption | rfl) ?_
      refine X_iload_n dX11_live_38 rfl ?_
      first | refine X_iald dX11_live_39 (by first | assumption | rfl) (by first | assumption | exact Nat.le_of_ble_eq_true rfl | omega) rfl (by first | decide | omega) (by decide) ?_ | refine X_ildA dX11_live_39 rfl (by omega) ?_ | refine X_ildM dX11_live_39 rfl (by omega) ?_ | refine X_sld dX11_live_39 rfl (by omega) (by omega) ?_
      rw [hl a ha]
      exact X_iret dX11_live_40 rfl ⟨_, rfl, PC_scr hi hv _ hF (by decide)⟩
    · exact absurd rfl b
end CF
