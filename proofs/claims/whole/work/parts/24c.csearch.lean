/-! the search: its steps -/
def duV (V : Nat → Nat → Nat) : Nat → Nat := fun n => 8 * V n 0 + V n 1
theorem duV_dg {V : Nat → Nat → Nat} (h : ∀ n, R8 (V n)) {n r : Nat} (hr : r < 2) : dg (duV V n) r = V n r := by
  have h0 := h n 0 (by decide)
  have h1 := h n 1 (by decide)
  rcases (by omega : r = 0 ∨ r = 1) with rfl | rfl
  · show (8 * V n 0 + V n 1) / 8 = V n 0; omega
  · show (8 * V n 0 + V n 1) % 8 = V n 1; omega
theorem bits3 : ∀ a, a < 8 → ∀ b, b < 8 → ¬ (a.testBit 0 = b.testBit 0 ∧ a.testBit 1 = b.testBit 1 ∧ a.testBit 2 = b.testBit 2) ∨ a = b := by decide +kernel
theorem BR_cg {J : Nat → Nat → Int64} {k : Nat} {T T' : Nat → Nat → Nat} (h : BR J k T) (he : ∀ j, j < 64 → ∀ r, r < 4 → T' j r = T j r) : BR J k T' := fun r hr m hm j hj => by rw [he j hj r hr]; exact h r hr m hm j hj
theorem BR_cp {J J' : Nat → Nat → Int64} {k q : Nat} {T : Nat → Nat → Nat} (h : BR J q T) (he : ∀ i, i < 12 → J' (k + 1) i = J (q + 1) i) : BR J' k T := fun r hr m hm j hj => by rw [he _ (by omega)]; exact h r hr m hm j hj
section CS
variable {G : GG} {d : Nat} {sw : Bool} {I : Nat → Nat → Int32} {J : Nat → Nat → Int64} {s : SS} {W : Nat} {V : Nat → Nat → Nat}
theorem rw153 : IsRw 153 := ⟨rfl, rfl, fun _ => rfl, by decide⟩
theorem rw155 : IsRw 155 := ⟨rfl, rfl, fun _ => rfl, by decide⟩
theorem rw157 : IsRw 157 := ⟨rfl, rfl, fun _ => rfl, by decide⟩
theorem rw161 {i : Nat} (hi : i < 3) : IsRw (161 + 2 * i) := by
  rcases (by omega : i = 0 ∨ i = 1 ∨ i = 2) with rfl | rfl | rfl
  · exact ⟨rfl, rfl, fun _ => rfl, by decide⟩
  · exact ⟨rfl, rfl, fun _ => rfl, by decide⟩
  · exact ⟨rfl, rfl, fun _ => rfl, by decide⟩
theorem lay159 {i : Nat} (hi : i < 3) : layR sw 159 i = some (161 + 2 * i) := by
  rcases (by omega : i = 0 ∨ i = 1 ∨ i = 2) with rfl | rfl | rfl <;> rfl
set_option maxRecDepth 20000 in
theorem c_copyRows {Q : Mm → Prop} {k q : Nat} (hd : 2 ≤ d) (hk : IsRw k) (hq : IsRw q) (hQ : ∀ J', Fr [k + 1] J J' → (∀ i, i < 12 → J' (k + 1) i = J (q + 1) i) → Q (NC, I, J', layR sw)) : Y G d zX8_copyFrom [vr k, vr q] (NC, I, J, layR sw) 0 0 (qv Q) := by
  obtain ⟨hs, hs', hr, hkn⟩ := hk
  obtain ⟨ps, ps', pr, pkn⟩ := hq
  have hr := hr sw
  have pr := pr sw
  have hk0 : k < NC := by omega
  have pk0 : q < NC := by omega
  refine Y_of rfl rfl (Nat.le_of_ble_eq_true rfl) rfl ?_
  refine X_aload_n dX8_copyFrom_0 rfl ?_
  refine X_getR dX8_copyFrom_1 gf_X8_11 (by first | assumption | rfl) (by first | assumption | exact Nat.le_of_ble_eq_true rfl | omega) rfl (by first | assumption | rfl) ?_
  refine X_iconst (v := nI 0) dX8_copyFrom_4 (by decide) ?_
  refine X_aload_n dX8_copyFrom_5 rfl ?_
  refine X_getR dX8_copyFrom_6 gf_X8_11 (by first | assumption | rfl) (by first | assumption | exact Nat.le_of_ble_eq_true rfl | omega) rfl (by first | assumption | rfl) ?_
  refine X_iconst (v := nI 0) dX8_copyFrom_9 (by decide) ?_
  refine X_aload_n dX8_copyFrom_10 rfl ?_
  refine X_getR dX8_copyFrom_11 gf_X8_11 (by first | assumption | rfl) (by first | assumption | exact Nat.le_of_ble_eq_true rfl | omega) rfl (by first | assumption | rfl) ?_
  first | refine X_alen dX8_copyFrom_14 (by first | assumption | rfl) (by decide) (by first | assumption | exact Nat.le_of_ble_eq_true rfl | omega) ?_ | refine X_alenA dX8_copyFrom_14 ?_ | refine X_alenM dX8_copyFrom_14 ?_ | refine X_slen dX8_copyFrom_14 ?_
  first | refine X_copyI dX8_copyFrom_15 ac_X8_21 ac_2 ac_3 ac_4 (by first | assumption | rfl) (by first | assumption | rfl) (by first | assumption | exact Nat.le_of_ble_eq_true rfl | omega) (by first | assumption | exact Nat.le_of_ble_eq_true rfl | omega) rfl rfl rfl (by omega) (by omega) (by decide) (by decide) (by omega) (Nat.le_of_ble_eq_true rfl) ?_ | refine X_copyL dX8_copyFrom_15 ac_X8_21 ac_2 ac_3 ac_4 (by first | assumption | rfl) (by first | assumption | rfl) (by first | assumption | exact Nat.le_of_ble_eq_true rfl | omega) (by first | assumption | exact Nat.le_of_ble_eq_true rfl | omega) rfl rfl rfl (by omega) (by omega) (by decide) (by decide) (by omega) (Nat.le_of_ble_eq_true rfl) ?_
  refine X_vret dX8_copyFrom_18 rfl ⟨rfl, hQ _ (Fr.sr (by simp)) (fun i hi => ?_)⟩
  rw [sr_eq]
  unfold va_cpy
  rw [if_pos (by omega), show 0 + (i - 0) = i by omega]
set_option maxRecDepth 20000 in
theorem c_hasMade {Q : Int32 → Mm → Prop} {k t : Nat} {U : Nat → Nat} (hk : IsRw k) (ht : t < 4) (hV : BR J 155 V) (h8 : ∀ n, R8 (V n)) (hU : BV (J k 1) (J k 2) (J k 3) U) (hU8 : ∀ v, v < 64 → U v < 8) (hS : (∀ v, v < 64 → U v = V v t) → Q (nI 1) (NC, I, J, layR sw)) (hF : ¬ (∀ v, v < 64 → U v = V v t) → Q (nI 0) (NC, I, J, layR sw)) : Y G d zX8_hasMade [vr k, vi (nI t), vr 155] (NC, I, J, layR sw) 0 0 (qi Q) := by
  obtain ⟨hs, hs', hr, hkn⟩ := hk
  have hk0 : k < NC := by omega
  have bt : ∀ m, m < 3 → ∀ j, j < 64 → lb (J 156 (t * 3 + m)) j = (V j t).testBit m := fun m hm j hj => hV t ht m hm j hj
  have no : ¬ (∀ v, v < 64 → U v = V v t) → X G d zX8_hasMade 56 [(0, vr k), (1, vi (nI t)), (2, vr 155)] [] (NC, I, J, layR sw) 0 0 (qi Q) := by
    intro h
    refine X_iconst (v := nI 0) dX8_hasMade_56 (by decide) ?_
    exact X_zret dX8_hasMade_57 rfl (by first | rfl | (simp; done) | decide) ⟨_, rfl, hF h⟩
  refine Y_of rfl rfl (Nat.le_of_ble_eq_true rfl) rfl ?_
  refine X_aload_n dX8_hasMade_0 rfl ?_
  refine X_getR dX8_hasMade_1 gf_X8_11 (by first | assumption | rfl) (by first | assumption | exact Nat.le_of_ble_eq_true rfl | omega) rfl (by first | assumption | rfl) ?_
  refine X_iload_n dX8_hasMade_4 rfl ?_
  refine X_iconst (v := nI 3) dX8_hasMade_5 (by decide) ?_
  first | refine X_imulN dX8_hasMade_6 ?_ | refine X_imul dX8_hasMade_6 ?_
  first | refine X_lald dX8_hasMade_7 (by first | assumption | rfl) (by first | assumption | exact Nat.le_of_ble_eq_true rfl | omega) rfl (by first | decide | omega) (by decide) ?_ | refine X_lldH dX8_hasMade_7 rfl (by omega) ?_ | refine X_lldL dX8_hasMade_7 rfl (by omega) ?_
  refine X_aload_n dX8_hasMade_8 rfl ?_
  refine X_getJ dX8_hasMade_9 gf_X8_57 (by first | assumption | rfl) (by first | assumption | exact Nat.le_of_ble_eq_true rfl | omega) rfl ?_
  refine X_lcmp dX8_hasMade_12 ?_
  refine X_if_ne (tgt := 56) dX8_hasMade_13 (by decide) (fun b13 => ?_) (fun b13 => ?_)
  · refine no (fun h => b13 ((lg_cmp_eq _ _).mpr (lb_ext (fun j hj => ?_))))
    rw [show t * 3 = t * 3 + 0 from rfl, bt 0 (by decide) j hj, (hU j hj).1, h j hj]
  refine X_aload_n dX8_hasMade_16 rfl ?_
  refine X_getR dX8_hasMade_17 gf_X8_11 (by first | assumption | rfl) (by first | assumption | exact Nat.le_of_ble_eq_true rfl | omega) rfl (by first | assumption | rfl) ?_
  refine X_iload_n dX8_hasMade_20 rfl ?_
  refine X_iconst (v := nI 3) dX8_hasMade_21 (by decide) ?_
  first | refine X_imulN dX8_hasMade_22 ?_ | refine X_imul dX8_hasMade_22 ?_
  refine X_iconst (v := nI 1) dX8_hasMade_23 (by decide) ?_
  first | refine X_iaddN dX8_hasMade_24 ?_ | refine X_iadd dX8_hasMade_24 ?_
  first | refine X_lald dX8_hasMade_25 (by first | assumption | rfl) (by first | assumption | exact Nat.le_of_ble_eq_true rfl | omega) rfl (by first | decide | omega) (by decide) ?_ | refine X_lldH dX8_hasMade_25 rfl (by omega) ?_ | refine X_lldL dX8_hasMade_25 rfl (by omega) ?_
  refine X_aload_n dX8_hasMade_26 rfl ?_
  refine X_getJ dX8_hasMade_27 gf_X8_61 (by first | assumption | rfl) (by first | assumption | exact Nat.le_of_ble_eq_true rfl | omega) rfl ?_
  refine X_lcmp dX8_hasMade_30 ?_
  refine X_if_ne (tgt := 56) dX8_hasMade_31 (by decide) (fun b31 => ?_) (fun b31 => ?_)
  · refine no (fun h => b31 ((lg_cmp_eq _ _).mpr (lb_ext (fun j hj => ?_))))
    rw [bt 1 (by decide) j hj, (hU j hj).2.1, h j hj]
  refine X_aload_n dX8_hasMade_34 rfl ?_
  refine X_getR dX8_hasMade_35 gf_X8_11 (by first | assumption | rfl) (by first | assumption | exact Nat.le_of_ble_eq_true rfl | omega) rfl (by first | assumption | rfl) ?_
  refine X_iload_n dX8_hasMade_38 rfl ?_
  refine X_iconst (v := nI 3) dX8_hasMade_39 (by decide) ?_
  first | refine X_imulN dX8_hasMade_40 ?_ | refine X_imul dX8_hasMade_40 ?_
  refine X_iconst (v := nI 2) dX8_hasMade_41 (by decide) ?_
  first | refine X_iaddN dX8_hasMade_42 ?_ | refine X_iadd dX8_hasMade_42 ?_
  first | refine X_lald dX8_hasMade_43 (by first | assumption | rfl) (by first | assumption | exact Nat.le_of_ble_eq_true rfl | omega) rfl (by first | decide | omega) (by decide) ?_ | refine X_lldH dX8_hasMade_43 rfl (by omega) ?_ | refine X_lldL dX8_hasMade_43 rfl (by omega) ?_
  refine X_aload_n dX8_hasMade_44 rfl ?_
  refine X_getJ dX8_hasMade_45 gf_X8_64 (by first | assumption | rfl) (by first | assumption | exact Nat.le_of_ble_eq_true rfl | omega) rfl ?_
  refine X_lcmp dX8_hasMade_48 ?_
  refine X_if_ne (tgt := 56) dX8_hasMade_49 (by decide) (fun b49 => ?_) (fun b49 => ?_)
  · refine no (fun h => b49 ((lg_cmp_eq _ _).mpr (lb_ext (fun j hj => ?_))))
    rw [bt 2 (by decide) j hj, (hU j hj).2.2, h j hj]
  have e0 := (lg_cmp_eq _ _).mp b13
  have e1 := (lg_cmp_eq _ _).mp b31
  have e2 := (lg_cmp_eq _ _).mp b49
  refine X_iconst (v := nI 1) dX8_hasMade_52 (by decide) ?_
  refine X_goto (tgt := 57) dX8_hasMade_53 (by decide) ?_
  refine X_zret dX8_hasMade_57 rfl (by first | rfl | decide) ⟨_, rfl, hS (fun v hv => ?_)⟩
  refine (bits3 _ (hU8 v hv) _ (h8 v t ht)).resolve_left (fun q => q ⟨?_, ?_, ?_⟩)
  · rw [← (hU v hv).1, ← bt 0 (by decide) v hv, show t * 3 + 0 = t * 3 from rfl, e0]
  · rw [← (hU v hv).2.1, ← bt 1 (by decide) v hv, e1]
  · rw [← (hU v hv).2.2, ← bt 2 (by decide) v hv, e2]
set_option maxRecDepth 20000 in
theorem c_differs {Q : Int32 → Mm → Prop} {k r : Nat} {F : Nat → Nat} (hd : 1 ≤ d) (hk : IsRw k) (hr : r < 2) (hw : I 152 5 = nI W) (hW : W < 4) (hB : BR J k (fun n => vec (F n))) (hFl : ∀ n, F n < 64) (hV : BR J 155 V) (h8 : ∀ n, R8 (V n)) (hS : W.testBit r = true → ¬ (∀ v, v < 64 → dg (F v) r = dg (duV V v) r) → Q (nI 1) (NC, I, J, layR sw)) (hF : (W.testBit r = false ∨ ∀ v, v < 64 → dg (F v) r = dg (duV V v) r) → Q (nI 0) (NC, I, J, layR sw)) : Y G d zX10_differs [vr 152, vr k, vi (nI r)] (NC, I, J, layR sw) 0 0 (qi Q) := by
  have hkk := hk
  obtain ⟨hs, hs', hr', hkn⟩ := hkk
  have hk0 : k < NC := by omega
  refine Y_of rfl rfl (Nat.le_of_ble_eq_true rfl) rfl ?_
  refine X_aload_n dX10_differs_0 rfl ?_
  refine X_getI dX10_differs_1 gf_X10_43 (by first | assumption | rfl) (by first | assumption | exact Nat.le_of_ble_eq_true rfl | omega) rfl ?_
  rw [hw]
  refine X_iload_n dX10_differs_4 rfl ?_
  first | refine X_ishrN dX10_differs_5 (by omega) (by omega) ?_ | refine X_ishr dX10_differs_5 ?_
  refine X_iconst (v := nI 1) dX10_differs_6 (by decide) ?_
  first | refine X_iandN dX10_differs_7 ?_ | refine X_iandC dX10_differs_7 ?_ | refine X_iand dX10_differs_7 ?_
  rw [Nat.and_one_is_mod, bit_mod]
  refine X_iconst (v := nI 1) dX10_differs_8 (by decide) ?_
  cases hb : W.testBit r
  · rw [if_neg (by decide)]
    refine X_icmp_ne (tgt := 30) dX10_differs_9 (by decide) (fun b9 => ?_) (fun b9 => ?_)
    · refine X_iconst (v := nI 0) dX10_differs_30 (by decide) ?_
      exact X_zret dX10_differs_31 rfl (by first | rfl | (simp; done) | decide) ⟨_, rfl, hF (Or.inl hb)⟩
    · exact absurd b9 (by decide)
  · rw [if_pos rfl]
    refine X_icmp_ne (tgt := 30) dX10_differs_9 (by decide) (fun b9 => ?_) (fun b9 => ?_)
    · exact absurd rfl b9
    refine X_aload_n dX10_differs_12 rfl ?_
    refine X_iload_n dX10_differs_13 rfl ?_
    refine X_aload_n dX10_differs_14 rfl ?_
    refine X_getR dX10_differs_15 gf_X10_18 (by first | assumption | rfl) (by first | assumption | exact Nat.le_of_ble_eq_true rfl | omega) rfl (by first | assumption | rfl) ?_
    refine X_cVl dX10_differs_18 ck_X10_47 rfl rfl (by first | assumption | rfl) (by first | assumption | exact Nat.le_of_ble_eq_true rfl | omega) (by omega) (Nat.le_of_ble_eq_true rfl) (c_unlikeIn hk rw155 (by omega) hB hV (fun n => vec8 (hFl n)) h8 (fun x hx => ?_))
    refine X_lconst (v := 0) dX10_differs_21 (by decide) ?_
    refine X_lcmp dX10_differs_22 ?_
    refine X_if_eq (tgt := 30) dX10_differs_23 (by decide) (fun b23 => ?_) (fun b23 => ?_)
    · have hx0 := (lg_cmp_eq _ _).mp b23
      refine X_iconst (v := nI 0) dX10_differs_30 (by decide) ?_
      refine X_zret dX10_differs_31 rfl (by first | rfl | decide) ⟨_, rfl, hF (Or.inr (fun v hv => ?_))⟩
      have := hx v hv
      rw [hx0, lb_0, vec_dg hr] at this
      rw [duV_dg h8 hr]
      exact Decidable.not_not.mp (of_decide_eq_false this.symm)
    · refine X_iconst (v := nI 1) dX10_differs_26 (by decide) ?_
      refine X_goto (tgt := 31) dX10_differs_27 (by decide) ?_
      refine X_zret dX10_differs_31 rfl (by first | rfl | decide) ⟨_, rfl, hS hb (fun h => b23 ((lg_cmp_eq _ _).mpr (lb_ext (fun j hj => ?_))))⟩
      rw [hx j hj, lb_0, vec_dg hr, h j hj, duV_dg h8 hr]
      exact decide_eq_false (fun z => z rfl)
/-- frames of the search -/
def FJ (dep : Nat) (J J' : Nat → Nat → Int64) : Prop := (∀ j, (j < 161 ∨ 166 < j) → J' j = J j) ∧ ∀ i, i ≤ dep → J' (162 + 2 * i) = J (162 + 2 * i)
def FI (dep : Nat) (I I' : Nat → Nat → Int32) : Prop := Fr [160] I I' ∧ ∀ j, j < dep → I' 160 j = I 160 j
theorem FJ.rf {dep : Nat} {J : Nat → Nat → Int64} : FJ dep J J := ⟨fun _ _ => rfl, fun _ _ => rfl⟩
theorem FJ.tr {dep : Nat} {J J1 J2 : Nat → Nat → Int64} (h1 : FJ dep J J1) (h2 : FJ dep J1 J2) : FJ dep J J2 := ⟨fun j h => (h2.1 j h).trans (h1.1 j h), fun i h => (h2.2 i h).trans (h1.2 i h)⟩
theorem FI.rf {dep : Nat} {I : Nat → Nat → Int32} : FI dep I I := ⟨Fr.rf, fun _ _ => rfl⟩
theorem FI.tr {dep : Nat} {I I1 I2 : Nat → Nat → Int32} (h1 : FI dep I I1) (h2 : FI dep I1 I2) : FI dep I I2 := ⟨h1.1.tr h2.1, fun i h => (h2.2 i h).trans (h1.2 i h)⟩
theorem FJ.mono {dep e : Nat} {J J' : Nat → Nat → Int64} (h : FJ e J J') (hd : dep ≤ e) : FJ dep J J' := ⟨h.1, fun i hi => h.2 i (by omega)⟩
theorem FI.mono {dep e : Nat} {I I' : Nat → Nat → Int32} (h : FI e I I') (hd : dep ≤ e) : FI dep I I' := ⟨h.1, fun i hi => h.2 i (by omega)⟩
/-- what holds while the search runs -/
def SC (I : Nat → Nat → Int32) (J : Nat → Nat → Int64) (W : Nat) (V : Nat → Nat → Nat) : Prop := I 152 5 = nI W ∧ BR J 155 V
theorem SC.fr {I' : Nat → Nat → Int32} {J' : Nat → Nat → Int64} {a b : Nat} (h : SC I J W V) (hi : FI a I I') (hj : FJ b J J') : SC I' J' W V := ⟨by rw [hi.1 152 (by decide)]; exact h.1, fun r hr m hm j hj2 => by rw [hj.1 156 (by omega)]; exact h.2 r hr m hm j hj2⟩
theorem BR_st {J' : Nat → Nat → Int64} {i b : Nat} {T : Nat → Nat → Nat} (h : BR J (161 + 2 * i) T) (hj : FJ b J J') (hi : i ≤ b) : BR J' (161 + 2 * i) T := fun r hr m hm j hj2 => by
  rw [show 161 + 2 * i + 1 = 162 + 2 * i by omega, hj.2 i hi]
  rw [show 162 + 2 * i = 161 + 2 * i + 1 by omega]
  exact h r hr m hm j hj2
end CS
