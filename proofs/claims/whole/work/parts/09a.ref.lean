/-! the reference holds a state: its object is cell 170 -/
def rd (I : Nat → Nat → Int32) (D : DD) : Prop := I 170 9 = nI (dC D).1 ∧ (∀ i, i < (dC D).1 → I 172 i = enc ((dC D).2 i 0) ∧ I 173 i = enc ((dC D).2 i 1) ∧ I 174 i = enc ((dC D).2 i 2) ∧ I 175 i = enc ((dC D).2 i 3)) ∧ I 170 11 = nI (dO D).1 ∧ (∀ i, i < (dO D).1 → ∀ w, w < 4 → I 176 (4 * i + w) = enc ((dO D).2 i w)) ∧ I 170 12 = nI (dW D) ∧ I 170 13 = nI (dS D 0) ∧ (∀ j, j < 4 → I 177 j = nI (dS D (j + 1))) ∧ I 170 39 = nI (dN D) ∧
  ∀ j, j < dN D → I 198 j = nI (dR D j).1.1 ∧ I 199 j = nI (dR D j).2.1 ∧ (∀ i, i < (dR D j).1.1 → ∀ w, w < 4 → I 197 (24 * j + 12 * 0 + 4 * i + w) = enc ((dR D j).1.2 i w)) ∧ ∀ i, i < (dR D j).2.1 → ∀ w, w < 4 → I 197 (24 * j + 12 * 1 + 4 * i + w) = enc ((dR D j).2.2 i w)
/-- an image in the row of what is kept, from b on -/
def rim (K : Nat → Int32) (b : Nat) (D : DD) : Prop := K b = nI (dC D).1 ∧ K (b + 1) = nI (dO D).1 ∧ K (b + 2) = nI (dW D) ∧ K (b + 3) = nI (dS D 0) ∧ K (b + 4) = nI (dN D) ∧ (∀ j, j < 4 → K (b + (5 + 3 * j)) = nI (dS D (j + 1))) ∧ (∀ j, j < dN D → K (b + (6 + 3 * j)) = nI (dR D j).1.1 ∧ K (b + (7 + 3 * j)) = nI (dR D j).2.1) ∧
  (∀ i, i < (dC D).1 → ∀ w, w < 4 → K (b + (17 + 4 * i + w)) = enc ((dC D).2 i w)) ∧ (∀ i, i < (dO D).1 → ∀ w, w < 4 → K (b + (65 + (4 * i + w))) = enc ((dO D).2 i w)) ∧
  ∀ j, j < dN D → (∀ i, i < (dR D j).1.1 → ∀ w, w < 4 → K (b + (113 + (24 * j + 12 * 0 + 4 * i + w))) = enc ((dR D j).1.2 i w)) ∧ ∀ i, i < (dR D j).2.1 → ∀ w, w < 4 → K (b + (113 + (24 * j + 12 * 1 + 4 * i + w))) = enc ((dR D j).2.2 i w)
def RInv (I : Nat → Nat → Int32) (s : SS) : Prop := (I 170 1 = nI s.1.1 ∧ ∀ i, i < s.1.1 → I 171 i = s.1.2 i) ∧ rd I s.2.1 ∧ ∀ n, n < 2 → I 205 n = nI (if (s.2.2 n).isSome then 1 else 0) ∧ ∀ D, s.2.2 n = some D → rim (I 204) (300 * n) D
theorem rd.fr {I I' : Nat → Nat → Int32} {D : DD} (h : rd I D) (h1 : ∀ f, f ∈ [9, 11, 12, 13, 39] → I' 170 f = I 170 f) (h2 : ∀ k, k ∈ [172, 173, 174, 175, 176, 177, 197, 198, 199] → I' k = I k) : rd I' D := by
  obtain ⟨a1, a2, a3, a4, a5, a6, a7, a8, a9⟩ := h
  refine ⟨by rw [h1 9 (by decide)]; exact a1, fun i hi => ?_, by rw [h1 11 (by decide)]; exact a3, fun i hi w hw => by rw [h2 176 (by decide)]; exact a4 i hi w hw, by rw [h1 12 (by decide)]; exact a5, by rw [h1 13 (by decide)]; exact a6, fun j hj => by rw [h2 177 (by decide)]; exact a7 j hj, by rw [h1 39 (by decide)]; exact a8, fun j hj => ?_⟩
  · rw [h2 172 (by decide), h2 173 (by decide), h2 174 (by decide), h2 175 (by decide)]
    exact a2 i hi
  · rw [h2 197 (by decide), h2 198 (by decide), h2 199 (by decide)]
    exact a9 j hj
theorem RInv.fr {I I' : Nat → Nat → Int32} {s : SS} (h : RInv I s) (h1 : ∀ f, f ∈ [1, 9, 11, 12, 13, 39] → I' 170 f = I 170 f) (h2 : ∀ k, k ∈ [171, 172, 173, 174, 175, 176, 177, 197, 198, 199, 204, 205] → I' k = I k) : RInv I' s := by
  obtain ⟨⟨a1, a2⟩, a3, a4⟩ := h
  refine ⟨⟨by rw [h1 1 (by decide)]; exact a1, fun i hi => by rw [h2 171 (by decide)]; exact a2 i hi⟩, a3.fr (fun f hf => h1 f (by simp at hf ⊢; omega)) (fun k hk => h2 k (by simp at hk ⊢; omega)), fun n hn => ?_⟩
  rw [h2 204 (by decide), h2 205 (by decide)]
  exact a4 n hn
/-- what a call of the reference leaves -/
def PM (s' : SS) (a : Int32) (I : Nat → Nat → Int32) (J : Nat → Nat → Int64) (sw : Bool) : Int32 → Mm → Prop := fun r M' => r = a ∧ ∃ I', M' = (NC, I', J, layR sw) ∧ RInv I' s' ∧ ∀ k, k < 170 → I' k = I k
theorem PM_same {I : Nat → Nat → Int32} {J : Nat → Nat → Int64} {sw : Bool} {s : SS} {a : Int32} (h : RInv I s) : PM s a I J sw a (NC, I, J, layR sw) := ⟨rfl, I, rfl, h, fun _ _ => rfl⟩
theorem PM_mk {I I' : Nat → Nat → Int32} {J : Nat → Nat → Int64} {sw : Bool} {s : SS} {a : Int32} (h : RInv I' s) (hf : ∀ k, k < 170 → I' k = I k) : PM s a I J sw a (NC, I', J, layR sw) := ⟨rfl, I', rfl, h, hf⟩
/-- cells of the reference alone -/
theorem srlt {I : Nat → Nat → Int32} {k : Nat} {f : Nat → Int32} (hk : 170 ≤ k) : ∀ j, j < 170 → sr I k f j = I j := fun j hj => sr_ne (by omega)
theorem w_le (a b : Int32) : a.toInt64 ≤ b.toInt64 ↔ a ≤ b := by
  rw [Int64.le_iff_toInt_le, Int32.le_iff_toInt_le, Int32.toInt_toInt64, Int32.toInt_toInt64]
section RE
variable {G : GG} {d : Nat} {sw : Bool} {I : Nat → Nat → Int32} {J : Nat → Nat → Int64} {s : SS}
theorem c_in_t {Q : Int32 → Mm → Prop} {M : Mm} {x lo hi : Int32} {a b : Int64} (ha : a = lo.toInt64) (hb : b = hi.toInt64) (h1 : lo ≤ x) (h2 : x ≤ hi) (hQ : Q (nI 1) M) : Y G d zX12_in [vl x.toInt64, vl a, vl b] M 0 0 (qi Q) := by
  subst ha; subst hb
  refine Y_of rfl rfl (Nat.le_of_ble_eq_true rfl) rfl ?_
  refine X_lload_n dX12_in_0 rfl ?_
  refine X_lload_n dX12_in_1 rfl ?_
  refine X_lcmp dX12_in_2 ?_
  refine X_if_lt (tgt := 17) dX12_in_3 (by decide) (fun h3 => ?_) (fun h3 => ?_)
  · exact absurd ((w_le _ _).mpr h1) (Int64.not_le.mpr ((lg_cmp_lt _ _).mp h3))
  refine X_lload_n dX12_in_6 rfl ?_
  refine X_lload dX12_in_7 rfl ?_
  refine X_lcmp dX12_in_9 ?_
  refine X_if_gt (tgt := 17) dX12_in_10 (by decide) (fun h10 => ?_) (fun h10 => ?_)
  · exact absurd ((w_le _ _).mpr h2) (Int64.not_le.mpr ((lg_cmp_gt _ _).mp h10))
  refine X_iconst (v := nI 1) dX12_in_13 (by decide) ?_
  refine X_goto (tgt := 18) dX12_in_14 (by decide) ?_
  exact X_zret dX12_in_18 rfl (by first | rfl | (simp; done) | decide) ⟨_, rfl, hQ⟩
theorem c_in_f {Q : Int32 → Mm → Prop} {M : Mm} {x lo hi : Int32} {a b : Int64} (ha : a = lo.toInt64) (hb : b = hi.toInt64) (h : ¬ (lo ≤ x ∧ x ≤ hi)) (hQ : Q (nI 0) M) : Y G d zX12_in [vl x.toInt64, vl a, vl b] M 0 0 (qi Q) := by
  subst ha; subst hb
  refine Y_of rfl rfl (Nat.le_of_ble_eq_true rfl) rfl ?_
  refine X_lload_n dX12_in_0 rfl ?_
  refine X_lload_n dX12_in_1 rfl ?_
  refine X_lcmp dX12_in_2 ?_
  refine X_if_lt (tgt := 17) dX12_in_3 (by decide) (fun h3 => ?_) (fun h3 => ?_)
  · refine X_iconst (v := nI 0) dX12_in_17 (by decide) ?_
    exact X_zret dX12_in_18 rfl (by first | rfl | (simp; done) | decide) ⟨_, rfl, hQ⟩
  refine X_lload_n dX12_in_6 rfl ?_
  refine X_lload dX12_in_7 rfl ?_
  refine X_lcmp dX12_in_9 ?_
  refine X_if_gt (tgt := 17) dX12_in_10 (by decide) (fun h10 => ?_) (fun h10 => ?_)
  · refine X_iconst (v := nI 0) dX12_in_17 (by decide) ?_
    exact X_zret dX12_in_18 rfl (by first | rfl | (simp; done) | decide) ⟨_, rfl, hQ⟩
  · refine absurd ⟨(w_le _ _).mp (Int64.not_lt.mp (fun q => h3 ((lg_cmp_lt _ _).mpr q))), (w_le _ _).mp (Int64.not_lt.mp (fun q => h10 ((lg_cmp_gt _ _).mpr q)))⟩ h
theorem le_pred {x : Int32} {n : Nat} (hn : n < 2 ^ 30) : x ≤ nI n - nI 1 ↔ x < nI n := by
  rw [Int32.le_iff_toInt_le, Int32.lt_iff_toInt_lt, pk_sub_toInt hn (by decide), nI_toInt (by omega)]
  omega
theorem le_0 {x : Int32} : nI 0 ≤ x ↔ ¬ x < 0 := Int32.not_lt.symm
theorem c_isStep_t {Q : Int32 → Mm → Prop} {n a : Nat} (hd : 1 ≤ d) (hn : I 170 9 = nI n) (hn2 : n ≤ 12) (ha : a < n) (hQ : Q (nI 1) (NC, I, J, layR sw)) : Y G d zX12_isStep [vr 170, vi (nI a)] (NC, I, J, layR sw) 0 0 (qi Q) := by
  refine Y_of rfl rfl (Nat.le_of_ble_eq_true rfl) rfl ?_
  refine X_iload_n dX12_isStep_0 rfl ?_
  refine X_i2l dX12_isStep_1 rfl ?_
  refine X_lconst (v := 0) dX12_isStep_2 (by decide) ?_
  refine X_aload_n dX12_isStep_3 rfl ?_
  refine X_getI dX12_isStep_4 gf_X12_181 (by first | assumption | rfl) (by first | assumption | exact Nat.le_of_ble_eq_true rfl | omega) rfl ?_
  rw [hn]
  refine X_iconst (v := nI 1) dX12_isStep_7 (by decide) ?_
  refine X_isub dX12_isStep_8 ?_
  refine X_i2l dX12_isStep_9 rfl ?_
  refine X_cSi dX12_isStep_10 ck_X12_125 rfl rfl (by omega) (Nat.le_of_ble_eq_true rfl) (c_in_t (lo := nI 0) (by decide) rfl (le_0.mpr (nneg (by omega))) ((le_pred (by omega)).mpr ((nlt (by omega) (by omega)).mpr ha)) ?_)
  exact X_zret dX12_isStep_13 rfl (by first | rfl | (simp; done) | decide) ⟨_, rfl, hQ⟩
theorem c_isStep_f {Q : Int32 → Mm → Prop} {n : Nat} {x : Int32} (hd : 1 ≤ d) (hn : I 170 9 = nI n) (hn2 : n ≤ 12) (hx : x < 0 ∨ nI n ≤ x) (hQ : Q (nI 0) (NC, I, J, layR sw)) : Y G d zX12_isStep [vr 170, vi x] (NC, I, J, layR sw) 0 0 (qi Q) := by
  refine Y_of rfl rfl (Nat.le_of_ble_eq_true rfl) rfl ?_
  refine X_iload_n dX12_isStep_0 rfl ?_
  refine X_i2l dX12_isStep_1 rfl ?_
  refine X_lconst (v := 0) dX12_isStep_2 (by decide) ?_
  refine X_aload_n dX12_isStep_3 rfl ?_
  refine X_getI dX12_isStep_4 gf_X12_181 (by first | assumption | rfl) (by first | assumption | exact Nat.le_of_ble_eq_true rfl | omega) rfl ?_
  rw [hn]
  refine X_iconst (v := nI 1) dX12_isStep_7 (by decide) ?_
  refine X_isub dX12_isStep_8 ?_
  refine X_i2l dX12_isStep_9 rfl ?_
  refine X_cSi dX12_isStep_10 ck_X12_125 rfl rfl (by omega) (Nat.le_of_ble_eq_true rfl) (c_in_f (lo := nI 0) (by decide) rfl (fun q => hx.elim (le_0.mp q.1) (fun h => absurd ((le_pred (by omega)).mp q.2) (Int32.not_lt.mpr h))) ?_)
  exact X_zret dX12_isStep_13 rfl (by first | rfl | (simp; done) | decide) ⟨_, rfl, hQ⟩
theorem c_isRule_t {Q : Int32 → Mm → Prop} {n a : Nat} (hd : 1 ≤ d) (hn : I 170 39 = nI n) (hn2 : n ≤ 12) (ha : a < n) (hQ : Q (nI 1) (NC, I, J, layR sw)) : Y G d zX12_isRule [vr 170, vi (nI a)] (NC, I, J, layR sw) 0 0 (qi Q) := by
  refine Y_of rfl rfl (Nat.le_of_ble_eq_true rfl) rfl ?_
  refine X_iload_n dX12_isRule_0 rfl ?_
  refine X_i2l dX12_isRule_1 rfl ?_
  refine X_lconst (v := 0) dX12_isRule_2 (by decide) ?_
  refine X_aload_n dX12_isRule_3 rfl ?_
  refine X_getI dX12_isRule_4 gf_X12_348 (by first | assumption | rfl) (by first | assumption | exact Nat.le_of_ble_eq_true rfl | omega) rfl ?_
  rw [hn]
  refine X_iconst (v := nI 1) dX12_isRule_7 (by decide) ?_
  refine X_isub dX12_isRule_8 ?_
  refine X_i2l dX12_isRule_9 rfl ?_
  refine X_cSi dX12_isRule_10 ck_X12_125 rfl rfl (by omega) (Nat.le_of_ble_eq_true rfl) (c_in_t (lo := nI 0) (by decide) rfl (le_0.mpr (nneg (by omega))) ((le_pred (by omega)).mpr ((nlt (by omega) (by omega)).mpr ha)) ?_)
  exact X_zret dX12_isRule_13 rfl (by first | rfl | (simp; done) | decide) ⟨_, rfl, hQ⟩
theorem c_isRule_f {Q : Int32 → Mm → Prop} {n : Nat} {x : Int32} (hd : 1 ≤ d) (hn : I 170 39 = nI n) (hn2 : n ≤ 12) (hx : x < 0 ∨ nI n ≤ x) (hQ : Q (nI 0) (NC, I, J, layR sw)) : Y G d zX12_isRule [vr 170, vi x] (NC, I, J, layR sw) 0 0 (qi Q) := by
  refine Y_of rfl rfl (Nat.le_of_ble_eq_true rfl) rfl ?_
  refine X_iload_n dX12_isRule_0 rfl ?_
  refine X_i2l dX12_isRule_1 rfl ?_
  refine X_lconst (v := 0) dX12_isRule_2 (by decide) ?_
  refine X_aload_n dX12_isRule_3 rfl ?_
  refine X_getI dX12_isRule_4 gf_X12_348 (by first | assumption | rfl) (by first | assumption | exact Nat.le_of_ble_eq_true rfl | omega) rfl ?_
  rw [hn]
  refine X_iconst (v := nI 1) dX12_isRule_7 (by decide) ?_
  refine X_isub dX12_isRule_8 ?_
  refine X_i2l dX12_isRule_9 rfl ?_
  refine X_cSi dX12_isRule_10 ck_X12_125 rfl rfl (by omega) (Nat.le_of_ble_eq_true rfl) (c_in_f (lo := nI 0) (by decide) rfl (fun q => hx.elim (le_0.mp q.1) (fun h => absurd ((le_pred (by omega)).mp q.2) (Int32.not_lt.mpr h))) ?_)
  exact X_zret dX12_isRule_13 rfl (by first | rfl | (simp; done) | decide) ⟨_, rfl, hQ⟩
theorem c_isPlace_t {Q : Int32 → Mm → Prop} {n a : Nat} (hd : 1 ≤ d) (hn : I 170 9 = nI n) (hn2 : n ≤ 12) (ha : a ≤ n) (hQ : Q (nI 1) (NC, I, J, layR sw)) : Y G d zX12_isPlace [vr 170, vi (nI a)] (NC, I, J, layR sw) 0 0 (qi Q) := by
  refine Y_of rfl rfl (Nat.le_of_ble_eq_true rfl) rfl ?_
  refine X_iload_n dX12_isPlace_0 rfl ?_
  refine X_i2l dX12_isPlace_1 rfl ?_
  refine X_lconst (v := 0) dX12_isPlace_2 (by decide) ?_
  refine X_aload_n dX12_isPlace_3 rfl ?_
  refine X_getI dX12_isPlace_4 gf_X12_181 (by first | assumption | rfl) (by first | assumption | exact Nat.le_of_ble_eq_true rfl | omega) rfl ?_
  rw [hn]
  refine X_i2l dX12_isPlace_7 rfl ?_
  refine X_cSi dX12_isPlace_8 ck_X12_125 rfl rfl (by omega) (Nat.le_of_ble_eq_true rfl) (c_in_t (lo := nI 0) (by decide) rfl (le_0.mpr (nneg (by omega))) ((nle (by omega) (by omega)).mpr ha) ?_)
  exact X_zret dX12_isPlace_11 rfl (by first | rfl | (simp; done) | decide) ⟨_, rfl, hQ⟩
theorem c_isPlace_f {Q : Int32 → Mm → Prop} {n : Nat} {x : Int32} (hd : 1 ≤ d) (hn : I 170 9 = nI n) (hx : x < 0 ∨ nI n < x) (hQ : Q (nI 0) (NC, I, J, layR sw)) : Y G d zX12_isPlace [vr 170, vi x] (NC, I, J, layR sw) 0 0 (qi Q) := by
  refine Y_of rfl rfl (Nat.le_of_ble_eq_true rfl) rfl ?_
  refine X_iload_n dX12_isPlace_0 rfl ?_
  refine X_i2l dX12_isPlace_1 rfl ?_
  refine X_lconst (v := 0) dX12_isPlace_2 (by decide) ?_
  refine X_aload_n dX12_isPlace_3 rfl ?_
  refine X_getI dX12_isPlace_4 gf_X12_181 (by first | assumption | rfl) (by first | assumption | exact Nat.le_of_ble_eq_true rfl | omega) rfl ?_
  rw [hn]
  refine X_i2l dX12_isPlace_7 rfl ?_
  refine X_cSi dX12_isPlace_8 ck_X12_125 rfl rfl (by omega) (Nat.le_of_ble_eq_true rfl) (c_in_f (lo := nI 0) (by decide) rfl (fun q => hx.elim (le_0.mp q.1) (fun h => absurd q.2 (Int32.not_le.mpr h))) ?_)
  exact X_zret dX12_isPlace_11 rfl (by first | rfl | (simp; done) | decide) ⟨_, rfl, hQ⟩
theorem c_isReg_t {Q : Int32 → Mm → Prop} {M : Mm} {v : Nat} (hd : 1 ≤ d) (hv : v < 4) (hQ : Q (nI 1) M) : Y G d zX12_isRegister [vi (nI v)] M 0 0 (qi Q) := by
  refine Y_of rfl rfl (Nat.le_of_ble_eq_true rfl) rfl ?_
  refine X_iload_n dX12_isRegister_0 rfl ?_
  refine X_i2l dX12_isRegister_1 rfl ?_
  refine X_lconst (v := 0) dX12_isRegister_2 (by decide) ?_
  refine X_ldc2 dX12_isRegister_3 kc_X12_123 ?_
  refine X_cSi dX12_isRegister_6 ck_X12_125 rfl rfl (by omega) (Nat.le_of_ble_eq_true rfl) (c_in_t (lo := nI 0) (hi := nI 3) (by decide) (by decide) (le_0.mpr (nneg (by omega))) ((nle (by decide) (by omega)).mpr (by omega)) ?_)
  exact X_zret dX12_isRegister_9 rfl (by first | rfl | (simp; done) | decide) ⟨_, rfl, hQ⟩
theorem c_isReg_f {Q : Int32 → Mm → Prop} {M : Mm} {x : Int32} (hd : 1 ≤ d) (hv : x < 0 ∨ nI 4 ≤ x) (hQ : Q (nI 0) M) : Y G d zX12_isRegister [vi x] M 0 0 (qi Q) := by
  refine Y_of rfl rfl (Nat.le_of_ble_eq_true rfl) rfl ?_
  refine X_iload_n dX12_isRegister_0 rfl ?_
  refine X_i2l dX12_isRegister_1 rfl ?_
  refine X_lconst (v := 0) dX12_isRegister_2 (by decide) ?_
  refine X_ldc2 dX12_isRegister_3 kc_X12_123 ?_
  refine X_cSi dX12_isRegister_6 ck_X12_125 rfl rfl (by omega) (Nat.le_of_ble_eq_true rfl) (c_in_f (lo := nI 0) (hi := nI 3) (by decide) (by decide) (fun q => hv.elim (le_0.mp q.1) (fun h => absurd (Int32.lt_of_le_of_lt q.2 (show nI 3 < nI 4 by decide)) (Int32.not_lt.mpr h))) ?_)
  exact X_zret dX12_isRegister_9 rfl (by first | rfl | (simp; done) | decide) ⟨_, rfl, hQ⟩
end RE
