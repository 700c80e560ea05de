/-! sorts, by the reference -/
/-- nothing of the reference but the listed cells and fields has changed -/
def FrM (l fl : List Nat) (I I' : Nat → Nat → Int32) : Prop := (∀ j, j ≠ 170 → j ∉ l → I' j = I j) ∧ ∀ f, f ∉ fl → I' 170 f = I 170 f
theorem FrM.rf {l fl : List Nat} {I : Nat → Nat → Int32} : FrM l fl I I := ⟨fun _ _ _ => rfl, fun _ _ => rfl⟩
theorem FrM.tr {l fl : List Nat} {I I1 I2 : Nat → Nat → Int32} (h1 : FrM l fl I I1) (h2 : FrM l fl I1 I2) : FrM l fl I I2 := ⟨fun j a b => (h2.1 j a b).trans (h1.1 j a b), fun f a => (h2.2 f a).trans (h1.2 f a)⟩
theorem FrM.sub {l l' fl fl' : List Nat} {I I' : Nat → Nat → Int32} (h : FrM l fl I I') (hs : ∀ j ∈ l, j ∈ l') (hf : ∀ j ∈ fl, j ∈ fl') : FrM l' fl' I I' := ⟨fun j a b => h.1 j a (fun q => b (hs j q)), fun f a => h.2 f (fun q => a (hf f q))⟩
theorem FrM.c {l fl : List Nat} {I : Nat → Nat → Int32} {k : Nat} {f : Nat → Int32} (h : k ∈ l) (h2 : k ≠ 170) : FrM l fl I (sr I k f) := ⟨fun j _ b => sr_ne (fun e => b (e ▸ h)), fun f _ => by rw [sr_ne (fun e => h2 e.symm)]⟩
theorem FrM.f {l fl : List Nat} {I : Nat → Nat → Int32} {f : Nat} {x : Int32} (h : f ∈ fl) : FrM l fl I (sr I 170 (up (I 170) f x)) := ⟨fun j a _ => sr_ne a, fun g a => by rw [sr_eq]; exact up_ne (fun e => a (by rw [e]; exact h))⟩
theorem FrM.of {l fl : List Nat} {I I' : Nat → Nat → Int32} (h : Fr l I I') (h2 : 170 ∉ l) : FrM l fl I I' := ⟨fun j _ b => h j b, fun f _ => by rw [h 170 h2]⟩
theorem RC_fm {I I' : Nat → Nat → Int32} {l fl : List Nat} {n : Nat} {c : Nat → Nat → Nat} (h : RC I n c) (hf : FrM l fl I I') (hl : l.all (fun k => decide (175 < k)) = true) (hl2 : fl.all (fun k => decide (k ≠ 9)) = true) : RC I' n c := by
  have hh : ∀ j, j ≤ 175 → j ≠ 170 → I' j = I j := fun j hj hn => hf.1 j hn (fun q => by
    have := List.all_eq_true.mp hl j q
    simp only [decide_eq_true_eq] at this
    omega)
  have h9 : I' 170 9 = I 170 9 := hf.2 9 (fun q => by
    have := List.all_eq_true.mp hl2 9 q
    simp at this)
  unfold RC
  rw [h9, hh 172 (by decide) (by decide), hh 173 (by decide) (by decide), hh 174 (by decide) (by decide), hh 175 (by decide) (by decide)]
  exact h
theorem RInv_fm {I I' : Nat → Nat → Int32} {s : SS} {l fl : List Nat} (hi : RInv I s) (hf : FrM l fl I I') (hl : l.all (fun k => decide (177 < k) && (decide (k < 197) || (decide (199 < k) && decide (k < 204)))) = true) (hl2 : fl.all (fun k => decide (k ∉ [1, 9, 11, 12, 13, 39])) = true) : RInv I' s := by
  have hh : ∀ j, (j ≤ 177 ∨ j = 197 ∨ j = 198 ∨ j = 199 ∨ j = 204 ∨ j = 205) → j ≠ 170 → I' j = I j := fun j hj hn => hf.1 j hn (fun q => by
    have := List.all_eq_true.mp hl j q
    simp only [Bool.and_eq_true, Bool.or_eq_true, decide_eq_true_eq] at this
    omega)
  refine hi.fr (fun f hf1 => hf.2 f (fun q => ?_)) (fun k hk => hh k (by simp at hk; omega) (by simp at hk; omega))
  have := List.all_eq_true.mp hl2 f q
  rw [decide_eq_true_eq] at this
  exact this hf1
theorem PM_fm {I I' : Nat → Nat → Int32} {J : Nat → Nat → Int64} {sw : Bool} {s : SS} {a : Int32} (hi : RInv I s) (l fl : List Nat) (hf : FrM l fl I I') (hl : l.all (fun k => decide (177 < k) && (decide (k < 197) || (decide (199 < k) && decide (k < 204)))) = true) (hl2 : fl.all (fun k => decide (k ∉ [1, 9, 11, 12, 13, 39])) = true) : PM s a I J sw a (NC, I', J, layR sw) := by
  refine PM_mk (RInv_fm hi hf hl hl2) (fun k hk => hf.1 k (by omega) (fun q => ?_))
  have := List.all_eq_true.mp hl k q
  simp only [Bool.and_eq_true, Bool.or_eq_true, decide_eq_true_eq] at this
  omega
theorem nrm {a x y x' y' : Nat} : (nxx a x y = nxx a x' y' ∧ nyy a x y = nyy a x' y') ↔ ((x = x' ∧ y = y') ∨ (a ≠ 45 ∧ x = y' ∧ y = x')) := by
  unfold nxx nyy
  by_cases ha : a = 45
  · simp [ha]
  · by_cases h1 : y < x <;> by_cases h2 : y' < x' <;> simp [ha, h1, h2] <;> omega
/-- the reference's list of what was made: sort, act, first, second -/
def LR (S : SO) (mm : Nat) (L : Nat → Nat × Nat × Nat × Nat) : Prop := (∀ k, k < mm → (4 ≤ (L k).1 ∧ (L k).1 < S.1) ∧ iact (L k).2.1 ∧ S.2.2 (L k).1 = ((L k).2.1, nxx (L k).2.1 (L k).2.2.1 (L k).2.2.2, nyy (L k).2.1 (L k).2.2.1 (L k).2.2.2) ∧ (L k).2.2.1 < 40 ∧ (L k).2.2.2 < 40) ∧ (∀ q, S.2.2 q ≠ (99, 0, 0) → ∃ k, k < mm ∧ (L k).1 = q) ∧ ∀ k k', k < k' → k' < mm → (L k).1 < (L k').1
def RS (I : Nat → Nat → Int32) (S : SO) (mm : Nat) (L : Nat → Nat × Nat × Nat × Nat) : Prop := I 170 24 = nI S.1 ∧ I 170 23 = nI mm ∧ (∀ g, g < 8 → I 181 g = enc (S.2.1 g)) ∧ (∀ k, k < mm → I 182 k = enc (L k).2.1 ∧ I 183 k = nI (L k).2.2.1 ∧ I 184 k = nI (L k).2.2.2 ∧ I 185 k = nI (L k).1) ∧ LR S mm L
theorem LR_op {S : SO} {rg : Nat → Nat} {v mm B : Nat} {L : Nat → Nat × Nat × Nat × Nat} (h : LR S mm L) (hB : SOk S B) : LR (sOp S rg v).2 mm L := by
  unfold sOp
  by_cases h4 : v < 4
  · rw [if_pos h4]; exact h
  · rw [if_neg h4]
    by_cases h5 : S.2.1 (v - 10) = 99
    · rw [if_pos h5]
      exact ⟨fun k hk => ⟨⟨(h.1 k hk).1.1, Nat.lt_succ_of_lt (h.1 k hk).1.2⟩, (h.1 k hk).2⟩, h.2⟩
    · rw [if_neg h5]; exact h
theorem sFn_hit {S : SO} {mm k a x y : Nat} {L : Nat → Nat × Nat × Nat × Nat} (h : LR S mm L) (hk : k < mm) (ha : a ≠ 99) (hm : S.2.2 (L k).1 = (a, x, y)) (hn : ∀ j, j < k → S.2.2 (L j).1 ≠ (a, x, y)) : sFn S a x y = (L k).1 := by
  have hk1 := (h.1 k hk).1
  refine frs_eq hk1.1 (by omega) (by simpa using hm) (fun q h1 h2 => ?_)
  intro hq
  have hq : S.2.2 q = (a, x, y) := by simpa using hq
  obtain ⟨j, hj, rfl⟩ := h.2.1 q (by rw [hq]; intro e; exact ha (congrArg Prod.fst e))
  rcases Nat.lt_trichotomy j k with h3 | h3 | h3
  · exact hn j h3 hq
  · rw [h3] at h2; omega
  · have := h.2.2 k j h3 hj; omega
theorem sFn_no {S : SO} {mm a x y : Nat} {L : Nat → Nat × Nat × Nat × Nat} (h : LR S mm L) (h4 : 4 ≤ S.1) (ha : a ≠ 99) (hn : ∀ j, j < mm → S.2.2 (L j).1 ≠ (a, x, y)) : sFn S a x y = S.1 := by
  unfold sFn
  rw [frs_none (fun q h1 h2 hq => ?_)]
  · omega
  have hq : S.2.2 q = (a, x, y) := by simpa using hq
  obtain ⟨j, hj, rfl⟩ := h.2.1 q (by rw [hq]; intro e; exact ha (congrArg Prod.fst e))
  exact hn j hj hq
section RS
variable {G : GG} {d : Nat} {sw : Bool} {I : Nat → Nat → Int32} {J : Nat → Nat → Int64} {s : SS} {n W : Nat} {c : Nat → Nat → Nat}
theorem RS_fr {I' : Nat → Nat → Int32} {S : SO} {mm : Nat} {L : Nat → Nat × Nat × Nat × Nat} {l fl : List Nat} (h : RS I S mm L) (hf : FrM l fl I I') (h1 : ∀ k, 181 ≤ k → k ≤ 185 → k ∉ l) (h2 : 23 ∉ fl) (h3 : 24 ∉ fl) : RS I' S mm L := by
  obtain ⟨a1, a2, a3, a4, a5⟩ := h
  refine ⟨by rw [hf.2 24 h3]; exact a1, by rw [hf.2 23 h2]; exact a2, fun g hg => by rw [hf.1 181 (by decide) (h1 _ (by omega) (by omega))]; exact a3 g hg, fun k hk => ?_, a5⟩
  rw [hf.1 182 (by decide) (h1 _ (by omega) (by omega)), hf.1 183 (by decide) (h1 _ (by omega) (by omega)), hf.1 184 (by decide) (h1 _ (by omega) (by omega)), hf.1 185 (by decide) (h1 _ (by omega) (by omega))]
  exact a4 k hk
set_option maxRecDepth 20000 in
theorem m_sortOf {Q : Int32 → Mm → Prop} {v B mm : Nat} {S : SO} {rg : Nat → Nat} {L : Nat → Nat × Nat × Nat × Nat} (hv : opd v) (hS : RS I S mm L) (hB : SOk S B) (hB2 : B < 40) (hr : ∀ r, r < 4 → I 180 r = nI (rg r))
    (hQ : ∀ I', FrM [181] [24] I I' → RS I' (sOp S rg v).2 mm L → Q (nI (sOp S rg v).1) (NC, I', J, layR sw)) : Y G d zX12_sortOf [vr 170, vi (enc v)] (NC, I, J, layR sw) 0 0 (qi Q) := by
  have hSS := hS
  obtain ⟨t1, t2, t3, t4, t5⟩ := hSS
  have hBB := hB
  obtain ⟨o1, o2, o3⟩ := hBB
  have h99 : v ≠ 99 := by unfold opd at hv; omega
  rw [enc_n h99]
  have hL := LR_op (rg := rg) (v := v) t5 hB
  unfold sOp at hQ hL
  refine Y_of rfl rfl (Nat.le_of_ble_eq_true rfl) rfl ?_
  refine X_iload_n dX12_sortOf_0 rfl ?_
  refine X_bipush (v := nI 10) dX12_sortOf_1 (by decide) ?_
  rcases hv with hv | hv
  · rw [if_pos hv] at hQ
    refine X_icmp_ge (tgt := 13) dX12_sortOf_3 (by decide) (fun b => ?_) (fun b => ?_)
    · exact absurd ((nle (by omega) (by omega)).mp b) (by omega)
    refine X_aload_n dX12_sortOf_6 rfl ?_
    refine X_getR dX12_sortOf_7 gf_X12_37 (by first | assumption | rfl) (by first | assumption | exact Nat.le_of_ble_eq_true rfl | omega) rfl (by first | assumption | rfl) ?_
    refine X_iload_n dX12_sortOf_10 rfl ?_
    first | refine X_iald dX12_sortOf_11 (by first | assumption | rfl) (by first | assumption | exact Nat.le_of_ble_eq_true rfl | omega) rfl (by first | decide | omega) (by decide) ?_ | refine X_ildA dX12_sortOf_11 rfl (by omega) ?_ | refine X_ildM dX12_sortOf_11 rfl (by omega) ?_ | refine X_sld dX12_sortOf_11 rfl (by omega) (by omega) ?_
    rw [hr v hv]
    exact X_iret dX12_sortOf_12 rfl ⟨_, rfl, hQ I FrM.rf hS⟩
  · rw [if_neg (by omega)] at hQ hL
    refine X_icmp_ge (tgt := 13) dX12_sortOf_3 (by decide) (fun b => ?_) (fun b => ?_)
    · refine X_aload_n dX12_sortOf_13 rfl ?_
      refine X_getR dX12_sortOf_14 gf_X12_40 (by first | assumption | rfl) (by first | assumption | exact Nat.le_of_ble_eq_true rfl | omega) rfl (by first | assumption | rfl) ?_
      refine X_iload_n dX12_sortOf_17 rfl ?_
      refine X_bipush (v := nI 10) dX12_sortOf_18 (by decide) ?_
      first | refine X_isubN dX12_sortOf_20 (by omega) ?_ | refine X_isub dX12_sortOf_20 ?_
      first | refine X_iald dX12_sortOf_21 (by first | assumption | rfl) (by first | assumption | exact Nat.le_of_ble_eq_true rfl | omega) rfl (by first | decide | omega) (by decide) ?_ | refine X_ildA dX12_sortOf_21 rfl (by omega) ?_ | refine X_ildM dX12_sortOf_21 rfl (by omega) ?_ | refine X_sld dX12_sortOf_21 rfl (by omega) (by omega) ?_
      rw [t3 (v - 10) (by omega)]
      by_cases hn : S.2.1 (v - 10) = 99
      · rw [if_pos hn] at hQ hL
        refine X_if_ge (tgt := 48) dX12_sortOf_22 (by decide) (fun b22 => ?_) (fun b22 => ?_)
        · rw [hn] at b22; exact absurd b22 (by decide)
        refine X_aload_n dX12_sortOf_25 rfl ?_
        refine X_getR dX12_sortOf_26 gf_X12_40 (by first | assumption | rfl) (by first | assumption | exact Nat.le_of_ble_eq_true rfl | omega) rfl (by first | assumption | rfl) ?_
        refine X_iload_n dX12_sortOf_29 rfl ?_
        refine X_bipush (v := nI 10) dX12_sortOf_30 (by decide) ?_
        first | refine X_isubN dX12_sortOf_32 (by omega) ?_ | refine X_isub dX12_sortOf_32 ?_
        refine X_aload_n dX12_sortOf_33 rfl ?_
        refine X_getI dX12_sortOf_34 gf_X12_233 (by first | assumption | rfl) (by first | assumption | exact Nat.le_of_ble_eq_true rfl | omega) rfl ?_
        rw [t1]
        refine X_iast dX12_sortOf_37 (by first | assumption | rfl) (by first | assumption | exact Nat.le_of_ble_eq_true rfl | omega) rfl (by first | decide | omega) (by decide) ?_
        refine X_aload_n dX12_sortOf_38 rfl ?_
        refine X_dup dX12_sortOf_39 rfl ?_
        refine X_getI dX12_sortOf_40 gf_X12_233 (by first | assumption | rfl) (by first | assumption | exact Nat.le_of_ble_eq_true rfl | omega) rfl ?_
        rw [sr_ne (show 170 ≠ 181 by decide), t1]
        refine X_iconst (v := nI 1) dX12_sortOf_43 (by decide) ?_
        first | refine X_iaddN dX12_sortOf_44 ?_ | refine X_iadd dX12_sortOf_44 ?_
        refine X_putI dX12_sortOf_45 gf_X12_233 (Or.inl rfl) (by first | assumption | rfl) (by first | assumption | exact Nat.le_of_ble_eq_true rfl | omega) rfl ?_
        refine X_aload_n dX12_sortOf_48 rfl ?_
        refine X_getR dX12_sortOf_49 gf_X12_40 (by first | assumption | rfl) (by first | assumption | exact Nat.le_of_ble_eq_true rfl | omega) rfl (by first | assumption | rfl) ?_
        refine X_iload_n dX12_sortOf_52 rfl ?_
        refine X_bipush (v := nI 10) dX12_sortOf_53 (by decide) ?_
        first | refine X_isubN dX12_sortOf_55 (by omega) ?_ | refine X_isub dX12_sortOf_55 ?_
        first | refine X_iald dX12_sortOf_56 (by first | assumption | rfl) (by first | assumption | exact Nat.le_of_ble_eq_true rfl | omega) rfl (by first | decide | omega) (by decide) ?_ | refine X_ildA dX12_sortOf_56 rfl (by omega) ?_ | refine X_ildM dX12_sortOf_56 rfl (by omega) ?_ | refine X_sld dX12_sortOf_56 rfl (by omega) (by omega) ?_
        rw [sr_ne (show 181 ≠ 170 by decide), sr_eq, up_eq]
        refine X_iret dX12_sortOf_57 rfl ⟨_, rfl, hQ _ ?_ ⟨?_, ?_, fun g hg => ?_, fun k hk => ?_, hL⟩⟩
        · exact ⟨fun j h1 h2 => by rw [sr_ne h1, sr_ne (by simpa using h2)], fun f h => by rw [sr_eq, up_ne (by simpa using h), sr_ne (by decide)]⟩
        · rw [sr_eq, up_eq]
        · rw [sr_eq, up_ne (by decide), sr_ne (by decide)]; exact t2
        · rw [sr_ne (by decide), sr_eq]
          show up (I 181) (v - 10) (nI S.1) g = enc (up S.2.1 (v - 10) S.1 g)
          by_cases hgv : g = v - 10
          · rw [hgv, up_eq, up_eq, enc_lt (by omega)]
          · rw [up_ne hgv, up_ne hgv]; exact t3 g hg
        · rw [sr_ne (by decide), sr_ne (by decide), sr_ne (by decide), sr_ne (by decide), sr_ne (by decide), sr_ne (by decide), sr_ne (by decide), sr_ne (by decide)]
          exact t4 k hk
      · rw [if_neg hn] at hQ
        have hlt := (o2 (v - 10)).resolve_left hn
        refine X_if_ge (tgt := 48) dX12_sortOf_22 (by decide) (fun b22 => ?_) (fun b22 => ?_)
        · refine X_aload_n dX12_sortOf_48 rfl ?_
          refine X_getR dX12_sortOf_49 gf_X12_40 (by first | assumption | rfl) (by first | assumption | exact Nat.le_of_ble_eq_true rfl | omega) rfl (by first | assumption | rfl) ?_
          refine X_iload_n dX12_sortOf_52 rfl ?_
          refine X_bipush (v := nI 10) dX12_sortOf_53 (by decide) ?_
          first | refine X_isubN dX12_sortOf_55 (by omega) ?_ | refine X_isub dX12_sortOf_55 ?_
          first | refine X_iald dX12_sortOf_56 (by first | assumption | rfl) (by first | assumption | exact Nat.le_of_ble_eq_true rfl | omega) rfl (by first | decide | omega) (by decide) ?_ | refine X_ildA dX12_sortOf_56 rfl (by omega) ?_ | refine X_ildM dX12_sortOf_56 rfl (by omega) ?_ | refine X_sld dX12_sortOf_56 rfl (by omega) (by omega) ?_
          rw [t3 (v - 10) (by omega), enc_lt (by omega)]
          exact X_iret dX12_sortOf_57 rfl ⟨_, rfl, hQ I FrM.rf hS⟩
        · rw [enc_lt (by omega)] at b22
          exact absurd (nge0 (by omega)) b22
    · exact absurd ((nle (by omega) (by omega)).mpr (by omega)) b
set_option maxRecDepth 20000 in
theorem m_madeOf {Q : Int32 → Mm → Prop} {a x y B mm : Nat} {S : SO} {L : Nat → Nat × Nat × Nat × Nat} (ha : iact a) (hS : RS I S mm L) (hmm : mm < 12) (hB : SOk S B) (hB2 : B < 40) (hx : x < 40) (hy : y < 40)
    (hQ : ∀ I' mm' L', mm' ≤ mm + 1 → FrM [182, 183, 184, 185] [23, 24] I I' → RS I' (sAc S a (nxx a x y) (nyy a x y)).2 mm' L' → Q (nI (sAc S a (nxx a x y) (nyy a x y)).1) (NC, I', J, layR sw)) : Y G d zX12_madeOf [vr 170, vi (enc a), vi (nI x), vi (nI y)] (NC, I, J, layR sw) 0 0 (qi Q) := by
  have hSS := hS
  obtain ⟨t1, t2, t3, t4, t5⟩ := hSS
  obtain ⟨o1, o2, o3⟩ := hB
  obtain ⟨n1, n2⟩ := enc_act ha
  have einj : ∀ k, k < mm → (enc (L k).2.1 = enc a ↔ (L k).2.1 = a) := fun k hk => by
    have hi := (t5.1 k hk).2.1
    refine ⟨fun e => ?_, fun e => by rw [e]⟩
    rw [enc_n (enc_act hi).1, enc_n n1] at e
    unfold iact at hi ha
    exact (neq (by omega) (by omega)).mp e
  have a45 : enc a = nI 45 ↔ a = 45 := by
    rw [enc_n n1]
    unfold iact at ha
    exact neq (by omega) (by decide)
  have mat : ∀ k, k < mm → (S.2.2 (L k).1 = (a, nxx a x y, nyy a x y) ↔ (L k).2.1 = a ∧ (((L k).2.2.1 = x ∧ (L k).2.2.2 = y) ∨ (a ≠ 45 ∧ (L k).2.2.1 = y ∧ (L k).2.2.2 = x))) := fun k hk => by
    rw [(t5.1 k hk).2.2.1]
    refine ⟨fun e => ?_, fun e => ?_⟩
    · have e1 : (L k).2.1 = a := congrArg Prod.fst e
      have e2 := congrArg (fun p => p.2.1) e
      have e3 := congrArg (fun p => p.2.2) e
      rw [e1] at e2 e3
      exact ⟨e1, nrm.mp ⟨e2, e3⟩⟩
    · obtain ⟨e1, e2⟩ := e
      obtain ⟨e3, e4⟩ := nrm.mpr e2
      rw [e1, e3, e4]
  refine Y_of rfl rfl (Nat.le_of_ble_eq_true rfl) rfl ?_
  refine X_iconst (v := nI 0) dX12_madeOf_0 (by decide) ?_
  refine X_istore dX12_madeOf_1 rfl rfl ?_
  have loop : ∀ (m k : Nat), m = mm - k → k ≤ mm → (∀ j, j < k → S.2.2 (L j).1 ≠ (a, nxx a x y, nyy a x y)) → X G d zX12_madeOf 3 [(0, vr 170), (1, vi (enc a)), (2, vi (nI x)), (3, vi (nI y)), (4, vi (nI k))] [] (NC, I, J, layR sw) 0 0 (qi Q) := by
    intro m
    induction m with
    | zero =>
      intro k hm hk hno
      obtain rfl : k = mm := by omega
      have hs := sFn_no t5 o1.1 n1 hno
      have e : sAc S a (nxx a x y) (nyy a x y) = (S.1, (S.1 + 1, S.2.1, up S.2.2 S.1 (a, nxx a x y, nyy a x y))) := by
        unfold sAc
        rw [hs]
        exact if_neg (Nat.lt_irrefl _)
      rw [e] at hQ
      refine X_iload dX12_madeOf_3 rfl ?_
      refine X_aload_n dX12_madeOf_5 rfl ?_
      refine X_getI dX12_madeOf_6 gf_X12_236 (by first | assumption | rfl) (by first | assumption | exact Nat.le_of_ble_eq_true rfl | omega) rfl ?_
      rw [t2]
      refine X_icmp_ge (tgt := 111) dX12_madeOf_9 (by decide) (fun b => ?_) (fun b => ?_)
      · refine X_aload_n dX12_madeOf_111 rfl ?_
        refine X_getR dX12_madeOf_112 gf_X12_43 (by first | assumption | rfl) (by first | assumption | exact Nat.le_of_ble_eq_true rfl | omega) rfl (by first | assumption | rfl) ?_
        refine X_aload_n dX12_madeOf_115 rfl ?_
        refine X_getI dX12_madeOf_116 gf_X12_236 (by first | assumption | rfl) (by first | assumption | exact Nat.le_of_ble_eq_true rfl | omega) rfl ?_
        rw [t2]
        refine X_iload_n dX12_madeOf_119 rfl ?_
        refine X_iast dX12_madeOf_120 (by first | assumption | rfl) (by first | assumption | exact Nat.le_of_ble_eq_true rfl | omega) rfl (by first | decide | omega) (by decide) ?_
        refine X_aload_n dX12_madeOf_121 rfl ?_
        refine X_getR dX12_madeOf_122 gf_X12_46 (by first | assumption | rfl) (by first | assumption | exact Nat.le_of_ble_eq_true rfl | omega) rfl (by first | assumption | rfl) ?_
        refine X_aload_n dX12_madeOf_125 rfl ?_
        refine X_getI dX12_madeOf_126 gf_X12_236 (by first | assumption | rfl) (by first | assumption | exact Nat.le_of_ble_eq_true rfl | omega) rfl ?_
        rw [sr_ne (show 170 ≠ 182 by decide), t2]
        refine X_iload_n dX12_madeOf_129 rfl ?_
        refine X_iast dX12_madeOf_130 (by first | assumption | rfl) (by first | assumption | exact Nat.le_of_ble_eq_true rfl | omega) rfl (by first | decide | omega) (by decide) ?_
        refine X_aload_n dX12_madeOf_131 rfl ?_
        refine X_getR dX12_madeOf_132 gf_X12_49 (by first | assumption | rfl) (by first | assumption | exact Nat.le_of_ble_eq_true rfl | omega) rfl (by first | assumption | rfl) ?_
        refine X_aload_n dX12_madeOf_135 rfl ?_
        refine X_getI dX12_madeOf_136 gf_X12_236 (by first | assumption | rfl) (by first | assumption | exact Nat.le_of_ble_eq_true rfl | omega) rfl ?_
        rw [sr_ne (show 170 ≠ 183 by decide), sr_ne (show 170 ≠ 182 by decide), t2]
        refine X_iload_n dX12_madeOf_139 rfl ?_
        refine X_iast dX12_madeOf_140 (by first | assumption | rfl) (by first | assumption | exact Nat.le_of_ble_eq_true rfl | omega) rfl (by first | decide | omega) (by decide) ?_
        refine X_aload_n dX12_madeOf_141 rfl ?_
        refine X_getR dX12_madeOf_142 gf_X12_52 (by first | assumption | rfl) (by first | assumption | exact Nat.le_of_ble_eq_true rfl | omega) rfl (by first | assumption | rfl) ?_
        refine X_aload_n dX12_madeOf_145 rfl ?_
        refine X_getI dX12_madeOf_146 gf_X12_236 (by first | assumption | rfl) (by first | assumption | exact Nat.le_of_ble_eq_true rfl | omega) rfl ?_
        refine X_aload_n dX12_madeOf_149 rfl ?_
        refine X_getI dX12_madeOf_150 gf_X12_233 (by first | assumption | rfl) (by first | assumption | exact Nat.le_of_ble_eq_true rfl | omega) rfl ?_
        rw [sr_ne (show 170 ≠ 184 by decide), sr_ne (show 170 ≠ 183 by decide), sr_ne (show 170 ≠ 182 by decide), t2, t1]
        refine X_iast dX12_madeOf_153 (by first | assumption | rfl) (by first | assumption | exact Nat.le_of_ble_eq_true rfl | omega) rfl (by first | decide | omega) (by decide) ?_
        refine X_aload_n dX12_madeOf_154 rfl ?_
        refine X_dup dX12_madeOf_155 rfl ?_
        refine X_getI dX12_madeOf_156 gf_X12_236 (by first | assumption | rfl) (by first | assumption | exact Nat.le_of_ble_eq_true rfl | omega) rfl ?_
        rw [sr_ne (show 170 ≠ 185 by decide), sr_ne (show 170 ≠ 184 by decide), sr_ne (show 170 ≠ 183 by decide), sr_ne (show 170 ≠ 182 by decide), t2]
        refine X_iconst (v := nI 1) dX12_madeOf_159 (by decide) ?_
        first | refine X_iaddN dX12_madeOf_160 ?_ | refine X_iadd dX12_madeOf_160 ?_
        refine X_putI dX12_madeOf_161 gf_X12_236 (Or.inl rfl) (by first | assumption | rfl) (by first | assumption | exact Nat.le_of_ble_eq_true rfl | omega) rfl ?_
        refine X_aload_n dX12_madeOf_164 rfl ?_
        refine X_dup dX12_madeOf_165 rfl ?_
        refine X_getI dX12_madeOf_166 gf_X12_233 (by first | assumption | rfl) (by first | assumption | exact Nat.le_of_ble_eq_true rfl | omega) rfl ?_
        rw [sr_eq, up_ne (show 24 ≠ 23 by decide), sr_ne (show 170 ≠ 185 by decide), sr_ne (show 170 ≠ 184 by decide), sr_ne (show 170 ≠ 183 by decide), sr_ne (show 170 ≠ 182 by decide), t1]
        refine X_iconst (v := nI 1) dX12_madeOf_169 (by decide) ?_
        first | refine X_iaddN dX12_madeOf_170 ?_ | refine X_iadd dX12_madeOf_170 ?_
        refine X_putI dX12_madeOf_171 gf_X12_233 (Or.inl rfl) (by first | assumption | rfl) (by first | assumption | exact Nat.le_of_ble_eq_true rfl | omega) rfl ?_
        refine X_aload_n dX12_madeOf_174 rfl ?_
        refine X_getI dX12_madeOf_175 gf_X12_233 (by first | assumption | rfl) (by first | assumption | exact Nat.le_of_ble_eq_true rfl | omega) rfl ?_
        rw [sr_eq, up_eq]
        refine X_iconst (v := nI 1) dX12_madeOf_178 (by decide) ?_
        first | refine X_isubN dX12_madeOf_179 (by omega) ?_ | refine X_isub dX12_madeOf_179 ?_
        rw [Nat.add_sub_cancel, sr_sr]
        refine X_iret dX12_madeOf_180 rfl ⟨_, rfl, hQ _ (k + 1) (up L k (S.1, a, x, y)) (Nat.le_refl _) ?_ ⟨?_, ?_, fun g hg => ?_, fun j hj => ?_, ?_⟩⟩
        · refine ⟨fun j h1 h2 => ?_, fun f h => ?_⟩
          · simp at h2
            rw [sr_ne h1, sr_ne (by omega), sr_ne (by omega), sr_ne (by omega), sr_ne (by omega)]
          · simp at h
            rw [sr_eq, up_ne (by omega), sr_eq, up_ne (by omega)]
        · rw [sr_eq, up_eq]
        · rw [sr_eq, up_ne (by decide), sr_eq, up_eq]
        · rw [sr_ne (by decide), sr_ne (by decide), sr_ne (by decide), sr_ne (by decide), sr_ne (by decide)]; exact t3 g hg
        · rw [sr_ne (show 182 ≠ 170 by decide), sr_ne (show 182 ≠ 185 by decide), sr_ne (show 182 ≠ 184 by decide), sr_ne (show 182 ≠ 183 by decide), sr_eq, sr_ne (show 183 ≠ 170 by decide), sr_ne (show 183 ≠ 185 by decide), sr_ne (show 183 ≠ 184 by decide), sr_eq, sr_ne (show 184 ≠ 170 by decide), sr_ne (show 184 ≠ 185 by decide), sr_eq, sr_ne (show 185 ≠ 170 by decide), sr_eq, sr_ne (show 183 ≠ 182 by decide), sr_ne (show 184 ≠ 183 by decide), sr_ne (show 184 ≠ 182 by decide), sr_ne (show 185 ≠ 184 by decide), sr_ne (show 185 ≠ 183 by decide), sr_ne (show 185 ≠ 182 by decide)]
          by_cases hjk : j = k
          · rw [hjk, up_eq, up_eq, up_eq, up_eq, up_eq]
            exact ⟨rfl, rfl, rfl, rfl⟩
          · rw [up_ne hjk, up_ne hjk, up_ne hjk, up_ne hjk, up_ne hjk]
            exact t4 j (by omega)
        · refine ⟨fun j hj => ?_, fun q hq => ?_, fun j j' h1 h2 => ?_⟩
          · by_cases hjk : j = k
            · rw [hjk, up_eq]
              exact ⟨⟨o1.1, Nat.lt_succ_self _⟩, ha, up_eq, hx, hy⟩
            · rw [up_ne hjk]
              obtain ⟨p1, p2, p3, p4⟩ := t5.1 j (by omega)
              refine ⟨⟨p1.1, Nat.lt_succ_of_lt p1.2⟩, p2, ?_, p4⟩
              show up S.2.2 S.1 (a, nxx a x y, nyy a x y) (L j).1 = _
              rw [up_ne (by omega)]; exact p3
          · by_cases hqs : q = S.1
            · exact ⟨k, Nat.lt_succ_self k, by rw [up_eq, hqs]⟩
            · have hq : up S.2.2 S.1 (a, nxx a x y, nyy a x y) q ≠ (99, 0, 0) := hq
              rw [up_ne hqs] at hq
              obtain ⟨j, hj, e⟩ := t5.2.1 q hq
              exact ⟨j, by omega, by rw [up_ne (by omega)]; exact e⟩
          · by_cases hjk : j' = k
            · rw [hjk, up_eq, up_ne (by omega)]
              exact (t5.1 j (by omega)).1.2
            · rw [up_ne hjk, up_ne (by omega)]
              exact t5.2.2 j j' h1 (by omega)
      · exact absurd (Int32.le_refl _) b
    | succ m ih =>
      intro k hm hk hno
      have hkm : k < mm := by omega
      obtain ⟨u1, u2, u3, u4⟩ := t4 k hkm
      obtain ⟨p1, p2, p3, p4, p5⟩ := t5.1 k hkm
      have mk := mat k hkm
      have next : S.2.2 (L k).1 ≠ (a, nxx a x y, nyy a x y) → ∀ e5 e6, X G d zX12_madeOf 105 [(0, vr 170), (1, vi (enc a)), (2, vi (nI x)), (3, vi (nI y)), (4, vi (nI k)), (5, vi e5), (6, vi e6)] [] (NC, I, J, layR sw) 0 0 (qi Q) := by
        intro hne e5 e6
        first | refine X_iinc1 dX12_madeOf_105 rfl rfl rfl ?_ | refine X_iinc dX12_madeOf_105 rfl rfl rfl rfl ?_
        refine X_goto (tgt := 3) dX12_madeOf_108 (by decide) ?_
        refine weak (lv' := [(0, vr 170), (1, vi (enc a)), (2, vi (nI x)), (3, vi (nI y)), (4, vi (nI (k + 1)))]) (fun q hq => List.mem_append_left _ hq) ?_
        exact ih (k + 1) (by omega) (by omega) (fun j hj => by
          by_cases hjk : j = k
          · rw [hjk]; exact hne
          · exact hno j (by omega))
      have hit : S.2.2 (L k).1 = (a, nxx a x y, nyy a x y) → ∀ e5 e6, X G d zX12_madeOf 97 [(0, vr 170), (1, vi (enc a)), (2, vi (nI x)), (3, vi (nI y)), (4, vi (nI k)), (5, vi e5), (6, vi e6)] [] (NC, I, J, layR sw) 0 0 (qi Q) := by
        intro he e5 e6
        have hs := sFn_hit t5 hkm n1 he hno
        have e : sAc S a (nxx a x y) (nyy a x y) = ((L k).1, S) := by
          unfold sAc
          rw [hs]
          exact if_pos p1.2
        refine X_aload_n dX12_madeOf_97 rfl ?_
        refine X_getR dX12_madeOf_98 gf_X12_52 (by first | assumption | rfl) (by first | assumption | exact Nat.le_of_ble_eq_true rfl | omega) rfl (by first | assumption | rfl) ?_
        refine X_iload dX12_madeOf_101 rfl ?_
        first | refine X_iald dX12_madeOf_103 (by first | assumption | rfl) (by first | assumption | exact Nat.le_of_ble_eq_true rfl | omega) rfl (by first | decide | omega) (by decide) ?_ | refine X_ildA dX12_madeOf_103 rfl (by omega) ?_ | refine X_ildM dX12_madeOf_103 rfl (by omega) ?_ | refine X_sld dX12_madeOf_103 rfl (by omega) (by omega) ?_
        rw [u4]
        rw [e] at hQ
        exact X_iret dX12_madeOf_104 rfl ⟨_, rfl, hQ I mm L (Nat.le_succ mm) FrM.rf hS⟩
      have last : ∀ (e5 e6 : Nat), e5 < 2 → e6 < 2 → (e5 = 1 ↔ ((L k).2.2.1 = x ∧ (L k).2.2.2 = y)) → (e6 = 1 ↔ (a ≠ 45 ∧ (L k).2.2.1 = y ∧ (L k).2.2.2 = x)) → X G d zX12_madeOf 76 [(0, vr 170), (1, vi (enc a)), (2, vi (nI x)), (3, vi (nI y)), (4, vi (nI k)), (5, vi (nI e5)), (6, vi (nI e6))] [] (NC, I, J, layR sw) 0 0 (qi Q) := by
        intro e5 e6 l5 l6 q5 q6
        rw [← q5, ← q6] at mk
        refine X_aload_n dX12_madeOf_76 rfl ?_
        refine X_getR dX12_madeOf_77 gf_X12_43 (by first | assumption | rfl) (by first | assumption | exact Nat.le_of_ble_eq_true rfl | omega) rfl (by first | assumption | rfl) ?_
        refine X_iload dX12_madeOf_80 rfl ?_
        first | refine X_iald dX12_madeOf_82 (by first | assumption | rfl) (by first | assumption | exact Nat.le_of_ble_eq_true rfl | omega) rfl (by first | decide | omega) (by decide) ?_ | refine X_ildA dX12_madeOf_82 rfl (by omega) ?_ | refine X_ildM dX12_madeOf_82 rfl (by omega) ?_ | refine X_sld dX12_madeOf_82 rfl (by omega) (by omega) ?_
        rw [u1]
        refine X_iload_n dX12_madeOf_83 rfl ?_
        refine X_icmp_ne (tgt := 105) dX12_madeOf_84 (by decide) (fun b84 => ?_) (fun b84 => ?_)
        · exact next (fun q => b84 ((einj k hkm).mpr (mk.mp q).1)) _ _
        have ea := (einj k hkm).mp b84
        refine X_iload dX12_madeOf_87 rfl ?_
        refine X_if_ne (tgt := 97) dX12_madeOf_89 (by decide) (fun b89 => ?_) (fun b89 => ?_)
        · have : e5 ≠ 0 := fun q => b89 (by rw [q]; rfl)
          exact hit (mk.mpr ⟨ea, Or.inl (by omega)⟩) _ _
        have h5 : e5 = 0 := (neq (b := 0) (by omega) (by decide)).mp b89
        refine X_iload dX12_madeOf_92 rfl ?_
        refine X_if_eq (tgt := 105) dX12_madeOf_94 (by decide) (fun b94 => ?_) (fun b94 => ?_)
        · have h6 : e6 = 0 := (neq (b := 0) (by omega) (by decide)).mp b94
          exact next (fun q => by have := (mk.mp q).2; omega) _ _
        · have : e6 ≠ 0 := fun q => b94 (by rw [q]; rfl)
          exact hit (mk.mpr ⟨ea, Or.inr (by omega)⟩) _ _
      have mid : ∀ (e5 : Nat), e5 < 2 → (e5 = 1 ↔ ((L k).2.2.1 = x ∧ (L k).2.2.2 = y)) → X G d zX12_madeOf 41 [(0, vr 170), (1, vi (enc a)), (2, vi (nI x)), (3, vi (nI y)), (4, vi (nI k)), (5, vi (nI e5))] [] (NC, I, J, layR sw) 0 0 (qi Q) := by
        intro e5 l5 q5
        refine X_iload_n dX12_madeOf_41 rfl ?_
        refine X_bipush (v := nI 45) dX12_madeOf_42 (by decide) ?_
        refine X_icmp_eq (tgt := 73) dX12_madeOf_44 (by decide) (fun b44 => ?_) (fun b44 => ?_)
        · refine X_iconst (v := nI 0) dX12_madeOf_73 (by decide) ?_
          refine X_istore dX12_madeOf_74 rfl rfl ?_
          exact last e5 0 l5 (by decide) q5 ⟨fun q => by omega, fun q => absurd (a45.mp b44) q.1⟩
        have h45 : a ≠ 45 := fun q => b44 (a45.mpr q)
        refine X_aload_n dX12_madeOf_47 rfl ?_
        refine X_getR dX12_madeOf_48 gf_X12_46 (by first | assumption | rfl) (by first | assumption | exact Nat.le_of_ble_eq_true rfl | omega) rfl (by first | assumption | rfl) ?_
        refine X_iload dX12_madeOf_51 rfl ?_
        first | refine X_iald dX12_madeOf_53 (by first | assumption | rfl) (by first | assumption | exact Nat.le_of_ble_eq_true rfl | omega) rfl (by first | decide | omega) (by decide) ?_ | refine X_ildA dX12_madeOf_53 rfl (by omega) ?_ | refine X_ildM dX12_madeOf_53 rfl (by omega) ?_ | refine X_sld dX12_madeOf_53 rfl (by omega) (by omega) ?_
        rw [u2]
        refine X_iload_n dX12_madeOf_54 rfl ?_
        refine X_icmp_ne (tgt := 73) dX12_madeOf_55 (by decide) (fun b55 => ?_) (fun b55 => ?_)
        · refine X_iconst (v := nI 0) dX12_madeOf_73 (by decide) ?_
          refine X_istore dX12_madeOf_74 rfl rfl ?_
          exact last e5 0 l5 (by decide) q5 ⟨fun q => by omega, fun q => absurd (by rw [q.2.1]) b55⟩
        have h55 := (neq (by omega) (by omega)).mp b55
        refine X_aload_n dX12_madeOf_58 rfl ?_
        refine X_getR dX12_madeOf_59 gf_X12_49 (by first | assumption | rfl) (by first | assumption | exact Nat.le_of_ble_eq_true rfl | omega) rfl (by first | assumption | rfl) ?_
        refine X_iload dX12_madeOf_62 rfl ?_
        first | refine X_iald dX12_madeOf_64 (by first | assumption | rfl) (by first | assumption | exact Nat.le_of_ble_eq_true rfl | omega) rfl (by first | decide | omega) (by decide) ?_ | refine X_ildA dX12_madeOf_64 rfl (by omega) ?_ | refine X_ildM dX12_madeOf_64 rfl (by omega) ?_ | refine X_sld dX12_madeOf_64 rfl (by omega) (by omega) ?_
        rw [u3]
        refine X_iload_n dX12_madeOf_65 rfl ?_
        refine X_icmp_ne (tgt := 73) dX12_madeOf_66 (by decide) (fun b66 => ?_) (fun b66 => ?_)
        · refine X_iconst (v := nI 0) dX12_madeOf_73 (by decide) ?_
          refine X_istore dX12_madeOf_74 rfl rfl ?_
          exact last e5 0 l5 (by decide) q5 ⟨fun q => by omega, fun q => absurd (by rw [q.2.2]) b66⟩
        have h66 := (neq (by omega) (by omega)).mp b66
        refine X_iconst (v := nI 1) dX12_madeOf_69 (by decide) ?_
        refine X_goto (tgt := 74) dX12_madeOf_70 (by decide) ?_
        refine X_istore dX12_madeOf_74 rfl rfl ?_
        exact last e5 1 l5 (by decide) q5 ⟨fun q => ⟨h45, h55, h66⟩, fun _ => rfl⟩
      refine X_iload dX12_madeOf_3 rfl ?_
      refine X_aload_n dX12_madeOf_5 rfl ?_
      refine X_getI dX12_madeOf_6 gf_X12_236 (by first | assumption | rfl) (by first | assumption | exact Nat.le_of_ble_eq_true rfl | omega) rfl ?_
      rw [t2]
      refine X_icmp_ge (tgt := 111) dX12_madeOf_9 (by decide) (fun b => ?_) (fun b => ?_)
      · exact absurd ((nle (by omega) (by omega)).mp b) (by omega)
      refine X_aload_n dX12_madeOf_12 rfl ?_
      refine X_getR dX12_madeOf_13 gf_X12_46 (by first | assumption | rfl) (by first | assumption | exact Nat.le_of_ble_eq_true rfl | omega) rfl (by first | assumption | rfl) ?_
      refine X_iload dX12_madeOf_16 rfl ?_
      first | refine X_iald dX12_madeOf_18 (by first | assumption | rfl) (by first | assumption | exact Nat.le_of_ble_eq_true rfl | omega) rfl (by first | decide | omega) (by decide) ?_ | refine X_ildA dX12_madeOf_18 rfl (by omega) ?_ | refine X_ildM dX12_madeOf_18 rfl (by omega) ?_ | refine X_sld dX12_madeOf_18 rfl (by omega) (by omega) ?_
      rw [u2]
      refine X_iload_n dX12_madeOf_19 rfl ?_
      refine X_icmp_ne (tgt := 38) dX12_madeOf_20 (by decide) (fun b20 => ?_) (fun b20 => ?_)
      · refine X_iconst (v := nI 0) dX12_madeOf_38 (by decide) ?_
        refine X_istore dX12_madeOf_39 rfl rfl ?_
        exact mid 0 (by decide) ⟨fun q => by omega, fun q => absurd (by rw [q.1]) b20⟩
      have h20 := (neq (by omega) (by omega)).mp b20
      refine X_aload_n dX12_madeOf_23 rfl ?_
      refine X_getR dX12_madeOf_24 gf_X12_49 (by first | assumption | rfl) (by first | assumption | exact Nat.le_of_ble_eq_true rfl | omega) rfl (by first | assumption | rfl) ?_
      refine X_iload dX12_madeOf_27 rfl ?_
      first | refine X_iald dX12_madeOf_29 (by first | assumption | rfl) (by first | assumption | exact Nat.le_of_ble_eq_true rfl | omega) rfl (by first | decide | omega) (by decide) ?_ | refine X_ildA dX12_madeOf_29 rfl (by omega) ?_ | refine X_ildM dX12_madeOf_29 rfl (by omega) ?_ | refine X_sld dX12_madeOf_29 rfl (by omega) (by omega) ?_
      rw [u3]
      refine X_iload_n dX12_madeOf_30 rfl ?_
      refine X_icmp_ne (tgt := 38) dX12_madeOf_31 (by decide) (fun b31 => ?_) (fun b31 => ?_)
      · refine X_iconst (v := nI 0) dX12_madeOf_38 (by decide) ?_
        refine X_istore dX12_madeOf_39 rfl rfl ?_
        exact mid 0 (by decide) ⟨fun q => by omega, fun q => absurd (by rw [q.2]) b31⟩
      have h31 := (neq (by omega) (by omega)).mp b31
      refine X_iconst (v := nI 1) dX12_madeOf_34 (by decide) ?_
      refine X_goto (tgt := 39) dX12_madeOf_35 (by decide) ?_
      refine X_istore dX12_madeOf_39 rfl rfl ?_
      exact mid 1 (by decide) ⟨fun _ => ⟨h20, h31⟩, fun _ => rfl⟩
  exact loop mm 0 rfl (Nat.zero_le mm) (fun j hj => absurd hj (Nat.not_lt_zero j))
end RS
